import java.util.Map;

/** Boundaries of THE TAPE, its TOKENS and the grammar: the first half of ==== 2, promises 9 to 12. */
public final class TextEdgesTest extends Edges {
    private static final Map<String, Integer> BYTES_OF = Map.of("new", 0, "full", 400, "failed", 8, "cleared", 400);
    private static final Map<String, Integer> QUERIES_OF = Map.of("new", 0, "full", 12, "failed", 2, "cleared", 0);

    public static void main(String[] args) {
        new TextEdgesTest().close();
    }

    @Override
    void sentences() {
        test("THE TAPE has up to 400 bytes", this::upTo400);
        test("places from 0", this::placesFrom0);
        test("TOKENS, each as long as may be", this::longestTokens);
        test("with blanks (32, 10) between", this::blanks);
        test("WORDS (rows of a .. z)", this::words);
        test("NUMBERS (figures, 2147483647 at most)", this::numbers);
        test("REALS (figures . figures, 9 figures in all at most", this::reals);
        test("the double that is all figures as a whole number, divided once by 10 to as many as stand behind the point",
            this::realsAreDivided);
        test("COLUMNS ($ and a figure)", this::columns);
        test("SIGNS + - * / % & | ^ ~ ( ) [ ] , = != < > <= >= << >> >>> ? : :=", this::signs);

        test("find or [ order sum [ down ] ] [ first NUMBER ]", this::find);
        test("fold how [ where or ] [ by sum ]", this::fold);
        test("set COLUMN := sum [ where or ]", this::set);
        test("how: count | ( sum | min | max | mean ) sum", this::how);
        test("sum: or [ ? sum : sum ]", this::sums);
        test("or: and { or and }", this::or);
        test("and: not { and not }", this::and);
        test("not: not not | test", this::not);
        test("test: mix [ ( = | != | < | > | <= | >= ) mix ]", this::tests);
        test("mix: shift { ( & | | | ^ ) shift }", () -> joints("&", "|", "^"));
        test("shift: plus { ( << | >> | >>> ) plus }", () -> joints("<<", ">>", ">>>"));
        test("plus: times { ( + | - ) times }", () -> joints("+", "-"));
        test("times: sign { ( * | / | % ) sign }", () -> joints("*", "/", "%"));
        test("sign: ( - | ~ ) sign | part", this::sign);
        test("part: NUMBER | REAL | row | yes | no", this::leaves);
        test("COLUMN [ \"[\" sum \"]\" ]", this::cells);
        test("fn ( sum { , sum } ) | ( sum )", this::parentheses);
        test("fn: abs floor ceil rint sign (one), min max (two), byte short char int long float double (one)", this::functions);
        test("(\"|\" within mix is a SIGN; or, and, not, find .. are the WORDS.)", this::barsAndWords);

        test("`int feed(int a, int b, int c, int d, int e)`: Twenty bytes, of each number the highest first, come behind THE TAPE:"
            + " how many it has.", this::promise9);
        test("how many it has. FULL: more than 400.", this::feedFull);
        test("`int end(int n)`: THE TAPE keeps its first n bytes: 1. BAD.", this::promise10);
        test("`int query()`: THE TAPE (which is empty then) is a query: its number", this::promise11);
        test("or -10 less the place of its FAULT.", this::placesOfFaults);
        test("FULL: 12 are there (THE TAPE stays).", this::twelveQueries);
        test("`int fault()`: The FAULT of the latest text (0: none).", this::promise12);
    }

    private void upTo400() {
        Probe x = new Probe();
        for (int n = 20; n <= 400; n += 20) {
            due("feed to " + n, x.feed(0x66696E64, 0x20796573, 0x20202020, 0x20202020, 0x0A202020), n);
        }
        for (int n : new int[] {400, 399, 381}) {
            due("end", x.end(n), 1);
            due("feed with " + n + " there", x.feed(0, 0, 0, 0, 0), FULL);
            due("still there", x.count(3), n);
        }
        due("end", x.end(380), 1);
        due("feed with 380 there", x.feed(0, 0, 0, 0, 0), 400);
        due("a text of 400 bytes", new Probe().query("find yes" + " ".repeat(391) + "\n"), 0);
        due("its last byte is read", new Probe().query("find yes" + " ".repeat(391) + "@"), -10 - 399);
    }

    private void placesFrom0() {
        faulty("@", 1, 0);
        faulty("yes", 2, 0);
        faulty(" @", 1, 1);
        faulty("\nyes", 2, 1);
        faulty("find" + " ".repeat(395) + ")", 2, 399);
        faulty("find" + " ".repeat(396), 2, 400);
    }

    private void longestTokens() {
        faulty("findyes", 2, 0);
        faulty("find notyes", 2, 5);
        good("find(yes)and(no)");
        good("find 1=1order 1first1");
        faulty("find 1=1 1", 2, 9);
        faulty("find 1=1.5 .5", 1, 11);
        faulty("find 1< =1", 2, 8);
        good("find 1<=1");
        faulty("find 1<==1", 2, 8);
        faulty("find 1>=>1", 2, 8);
        faulty("find 1<<=1", 2, 8);
        faulty("find 1>>=1", 2, 8);
        faulty("find 1> >1=1", 2, 8);
        good("find 1>>1=1");
        code("find 1>>>1=1", "1:1 1:1 1101 1:1 1401 1500");
        faulty("find 1>>>>1=1", 2, 9);
        faulty("find 1>> >1=1", 2, 9);
        faulty("find yes! =no", 1, 8);
        good("find yes!=no");
        faulty("find yes!==no", 2, 10);
        faulty("fold sum yes?1:=1", 2, 14);
        faulty("set $4 : = 1", 2, 7);
        good("set$4:=1");
        code("fold max 1--1", "", "1:1 1:1 1201 201");
        faulty("find 1=$12", 2, 9);
    }

    /** Every byte where a SIGN could stand: blanks, SIGNS, others. */
    private void blanks() {
        for (int b = 0; b < 256; b++) {
            String text = "find yes " + (char) b + " yes";
            if (b == 32 || b == 10) {
                faulty(text, 2, 11);
                good("find" + (char) b + "yes" + (char) b);
                good((char) b + "find yes" + (char) b + (char) b + "or" + (char) b + "no");
            } else if ("&|^=".indexOf(b) >= 0) {
                good(text);
            } else if ("+-*/%<>".indexOf(b) >= 0) {
                faulty(text, 4, 9);
            } else if ("~()[],?:".indexOf(b) >= 0 || b >= 'a' && b <= 'z' || b >= '0' && b <= '9') {
                faulty(text, 2, 9);
            } else {
                faulty(text, 1, 9);
            }
        }
    }

    private void words() {
        faulty("a", 2, 0);
        faulty("z", 2, 0);
        faulty("`", 1, 0);
        faulty("{", 1, 0);
        faulty("find a", 2, 5);
        faulty("find z", 2, 5);
        faulty("find y", 2, 5);
        faulty("find yess", 2, 5);
        faulty("find ye", 2, 5);
        faulty("find A", 1, 5);
        faulty("find Z", 1, 5);
        faulty("Find yes", 1, 0);
        faulty("find yesS", 1, 8);
        faulty("find yes`", 1, 8);
        faulty("find yes{", 1, 8);
        faulty("find yes_", 1, 8);
        faulty("find " + "x".repeat(395), 2, 5);
    }

    private void numbers() {
        String[] fine = {"0", "00", "1", "2147483647", "0000000000002147483647", "0".repeat(300)};
        int[] are = {0, 0, 1, MAX, MAX, 0};
        for (int i = 0; i < fine.length; i++) {
            code("fold max " + fine[i], "", "1:" + are[i]);
        }
        String[] great = {"2147483648", "02147483648", "4294967296", "4294967297", "9223372036854775808",
            "18446744073709551616", "18446744073709551617", "99999999999", "9".repeat(300)};
        for (String number : great) {
            faulty("fold max " + number, 1, 9);
            faulty("find yes first " + number, 1, 15);
        }
        good("find yes first 2147483647");
        // What it is less than 0 is two TOKENS, the second of which is too great.
        faulty("fold max -2147483648", 1, 10);
    }

    private void reals() {
        String[] fine = {"0.0", "1.5", "12345678.9", "1.23456789", "1234.56789", "00000000.0", "99999999.9", "0.00000001"};
        for (String real : fine) {
            code("fold max " + real, "", "2:0");
        }
        String[] odd = {"123456789.0", "12345678.90", "1.234567890", "0.000000001", "0000000000.0", "2147483648.0",
            "1." + "0".repeat(300), "1".repeat(300) + ".0"};
        for (String real : odd) {
            faulty("fold max " + real, 1, 9);
        }
        faulty("fold max .5", 1, 9);
        faulty("fold max 5.", 1, 10);
        faulty("fold max 5. 5", 1, 10);
        faulty("fold max 5 .5", 1, 11);
        faulty("fold max 5.a", 1, 10);
        faulty("fold max 1.5.5", 1, 12);
        faulty("fold max 1.5.", 1, 12);
        faulty("fold max 1..5", 1, 10);
        faulty("fold max 1.5 1.5", 2, 13);
    }

    private void realsAreDivided() {
        String[] texts = {"0.0", "0.1", "0.3", "1.10", "0.00000001", "1.23456789", "12345678.9", "99999999.9", "00.50", "3.1415927",
            "0.7", "4.35", "123456.789"};
        double[] are = {0.0, 1 / 10.0, 3 / 10.0, 110 / 100.0, 1 / 100000000.0, 123456789 / 100000000.0, 123456789 / 10.0,
            999999999 / 10.0, 50 / 100.0, 31415927 / 10000000.0, 7 / 10.0, 435 / 100.0, 123456789 / 1000.0};
        Probe x = new Probe();
        x.objects(1);
        for (int i = 0; i < texts.length; i++) {
            x.ran("fold max " + texts[i]);
            due("the double of " + texts[i], x.value(0), bits(are[i]));
        }
    }

    private void columns() {
        for (int c = 0; c <= 9; c++) {
            Probe x = new Probe();
            x.column(c, 0, 1);
            due("query of $" + c, x.query("find $" + c), 0);
            due("its number", x.act(0, 0, 1, 1), c);
        }
        for (String odd : new String[] {"$", "$ ", "$ 0", "$$", "$/", "$:", "$a", "$-1", "$(", "$\n1"}) {
            faulty("find " + odd, 1, 5);
        }
        faulty("set $", 1, 4);
        faulty("find $00", 2, 7);
        faulty("find $0 0", 2, 8);
        faulty("find $0$0", 2, 7);
        faulty("find $0.5", 1, 7);
        good("find$0or$0");
    }

    /** How long each is shows where the byte behind it, which is no TOKEN, is told. */
    private void signs() {
        for (String sign : "+ - * / % & | ^ = != < > <= >= << >> >>>".split(" ")) {
            faulty("find 1" + sign + "@", 1, 6 + sign.length());
        }
        for (String sign : "~ ( -".split(" ")) {
            faulty("find " + sign + "@", 1, 6);
        }
        faulty("find (yes)@", 1, 10);
        faulty("find $4[@", 1, 8);
        faulty("find $4[1]@", 1, 10);
        faulty("find min(1,@", 1, 11);
        faulty("fold sum yes?@", 1, 13);
        faulty("fold sum yes?1:@", 1, 15);
        faulty("set $4:=@", 1, 8);
        for (String none : "! . ; # \" ' \\ @ _ ` { } !! && || == <> ==".split(" ")) {
            boolean two = none.length() == 2 && none.charAt(0) != '!';
            faulty("find yes" + none + "no", two ? 2 : 1, two ? 9 : 8);
        }
    }

    private void find() {
        String[] fine = {"", " order 1", " order 1 down", " first 0", " order 1 first 1", " order 1 down first 1"};
        for (String behind : fine) {
            good("find yes" + behind);
        }
        faulty("", 2, 0);
        faulty("yes", 2, 0);
        faulty("order 1", 2, 0);
        faulty("find", 2, 4);
        faulty("find order 1", 2, 5);
        faulty("find yes order", 2, 14);
        faulty("find yes order down", 2, 15);
        faulty("find yes down", 2, 9);
        faulty("find yes order 1 down down", 2, 22);
        faulty("find yes order 1 order 1", 2, 17);
        faulty("find yes first", 2, 14);
        faulty("find yes first yes", 2, 15);
        faulty("find yes first 1.0", 2, 15);
        faulty("find yes first -1", 2, 15);
        faulty("find yes first $4", 2, 15);
        faulty("find yes first 1 first 1", 2, 17);
        faulty("find yes first 1 order 1", 2, 17);
        faulty("find yes first 1 down", 2, 17);
        faulty("find yes where yes", 2, 9);
        faulty("find yes by 1", 2, 9);
        faulty("find yes find yes", 2, 9);
        faulty("find yes yes", 2, 9);
    }

    private void fold() {
        for (String behind : new String[] {"", " where yes", " by 1", " where yes by 1"}) {
            good("fold count" + behind);
            good("fold sum 1" + behind);
        }
        faulty("fold", 2, 4);
        faulty("fold where yes", 2, 5);
        faulty("fold count where", 2, 16);
        faulty("fold count by", 2, 13);
        faulty("fold count where by 1", 2, 17);
        faulty("fold count by 1 where yes", 2, 16);
        faulty("fold count by 1 by 1", 2, 16);
        faulty("fold count where yes where yes", 2, 21);
        faulty("fold count order 1", 2, 11);
        faulty("fold count down", 2, 11);
        faulty("fold count first 1", 2, 11);
        faulty("fold sum 1 down", 2, 11);
    }

    private void set() {
        good("set $4 := 1");
        good("set $4 := 1 where yes");
        faulty("set", 2, 3);
        faulty("set 4 := 1", 2, 4);
        faulty("set row := 1", 2, 4);
        faulty("set $4", 2, 6);
        faulty("set $4 = 1", 2, 7);
        faulty("set $4[0] := 1", 2, 6);
        faulty("set $4 := := 1", 2, 10);
        faulty("set $4 :=", 2, 9);
        faulty("set $4 := where yes", 2, 10);
        faulty("set $4 := 1 where", 2, 17);
        faulty("set $4 := 1 by 1", 2, 12);
        faulty("set $4 := 1 order 1", 2, 12);
        faulty("set $4 := 1 where yes where yes", 2, 22);
        faulty("set $4 := 1 := 1", 2, 12);
    }

    private void how() {
        for (String how : new String[] {"count", "sum 1", "min 1", "max 1", "mean 1", "min min(1,2)", "max (1)"}) {
            good("fold " + how);
        }
        for (String none : new String[] {"abs 1", "1", "row", "first", "counts", "find"}) {
            faulty("fold " + none, 2, 5);
        }
        faulty("fold count 1", 2, 11);
        faulty("fold count count", 2, 11);
        faulty("fold sum", 2, 8);
        faulty("fold mean", 2, 9);
        faulty("fold sum sum 1", 2, 9);
        faulty("fold min(1,2)", 2, 10);
        faulty("fold max(1,2)", 2, 10);
    }

    private void sums() {
        good("fold sum yes?1:2");
        good("fold sum yes?yes?1:2:3");
        good("fold sum yes?1:no?2:3");
        good("find yes order yes?1:2 down");
        good("fold count by yes?1:2");
        good("set $4 := yes?1:2 where (yes?yes:no)");
        faulty("fold sum yes?", 2, 13);
        faulty("fold sum yes?1", 2, 14);
        faulty("fold sum yes?:1", 2, 13);
        faulty("fold sum yes?1:", 2, 15);
        faulty("fold sum yes?1:2:3", 2, 16);
        faulty("fold sum 1:2", 2, 10);
        faulty("fold sum ?1:2", 2, 9);
        faulty("find yes?yes:no", 2, 8);
        faulty("fold count where yes?yes:no", 2, 20);
        faulty("set $4 := 1 where yes?yes:no", 2, 21);
    }

    private void or() {
        good("find yes");
        good("find yes or no");
        good("find yes or no or yes or no");
        faulty("find or yes", 2, 5);
        faulty("find yes or", 2, 11);
        faulty("find yes or or no", 2, 12);
        truth("yes or no and yes", "1:1 1801:8 1:0 1800:6 1:1 1802:7 1:0 1802:9 1:1");
        truth("yes or no or yes", "1:1 1801:4 1:0 1802:5 1:1 1801:8 1:1 1802:9 1:1");
    }

    private void and() {
        good("find yes and no");
        good("find yes and no and yes and no");
        good("find yes and not no and not yes");
        faulty("find and yes", 2, 5);
        faulty("find yes and", 2, 12);
        faulty("find yes and and no", 2, 13);
        faulty("find yes and or no", 2, 13);
        truth("yes and no or yes", "1:1 1800:4 1:0 1802:5 1:0 1801:8 1:1 1802:9 1:1");
        truth("no or yes and yes", "1:0 1801:8 1:1 1800:6 1:1 1802:7 1:0 1802:9 1:1");
    }

    private void not() {
        good("find not yes");
        good("find not not yes");
        good("find not 1=1");
        faulty("find not", 2, 8);
        faulty("find yes not no", 2, 9);
        faulty("find yes not", 2, 9);
        faulty("find not and yes", 2, 9);
        faulty("find 1=not 1", 2, 7);
        faulty("find yes=not no", 2, 9);
        faulty("find yes&not no", 2, 9);
        faulty("find -not yes", 2, 6);
        truth("not yes=no", "1:1 1:0 1401 1500 1810");
        truth("not yes and no", "1:1 1810 1800:5 1:0 1802:6 1:0");
        truth("not not yes", "1:1 1810 1810");
    }

    private void tests() {
        String[] signs = {"=", "!=", "<", ">", "<=", ">="};
        for (String sign : signs) {
            good("find 1" + sign + "1");
            faulty("find 1" + sign, 2, 6 + sign.length());
            faulty("find " + sign + "1", 2, 5);
            for (String second : signs) {
                faulty("find 1" + sign + "1" + second + "1", 2, 7 + sign.length());
                faulty("find 1" + sign + " " + second + "1", 2, 7 + sign.length());
                faulty("find not 1" + sign + "1" + second + "1", 2, 11 + sign.length());
            }
        }
        good("find (1=1)=yes");
        good("find (1<2)!=(2<1)");
        good("find yes");
        truth("1|2=3|4", "1:1 1:2 701 1:3 1:4 701 1401 1500");
    }

    /** SIGNS of one level: each joins from the left, needs both sides, and is closer than the levels above. */
    private void joints(String... signs) {
        for (String sign : signs) {
            good("fold max 1" + sign + "2" + sign + "3");
            good("fold max 1" + (sign + "2").repeat(60));
            faulty("fold max 1" + sign, 2, 10 + sign.length());
            faulty("fold max 1" + sign + "*2", 2, 10 + sign.length());
            faulty("fold max 1" + sign + ")", 2, 10 + sign.length());
            faulty("fold max 1" + sign + " not yes", 2, 11 + sign.length());
            if (!sign.equals("-")) {
                faulty("fold max " + sign + "1", 2, 9);
            }
            for (String second : signs) {
                sum("1" + sign + "2" + second + "3", "1:1 1:2 " + op(sign) + " 1:3 " + op(second));
            }
        }
        String[] levels = {"|", "<<", "+", "*"};
        for (String sign : signs) {
            boolean above = true;
            for (String other : levels) {
                if (op(other) / 100 == level(op(sign)) / 100) {
                    above = false;
                } else if (above) {
                    sum("1" + other + "2" + sign + "3", "1:1 1:2 1:3 " + op(sign) + " " + op(other));
                    sum("1" + sign + "2" + other + "3", "1:1 1:2 " + op(sign) + " 1:3 " + op(other));
                } else {
                    sum("1" + other + "2" + sign + "3", "1:1 1:2 " + op(other) + " 1:3 " + op(sign));
                    sum("1" + sign + "2" + other + "3", "1:1 1:2 1:3 " + op(other) + " " + op(sign));
                }
            }
        }
    }

    private static int op(String sign) {
        String[] signs = {"+", "-", "*", "/", "%", "&", "|", "^", "<<", ">>", ">>>"};
        for (int i = 0; i < signs.length; i++) {
            if (signs[i].equals(sign)) {
                return 100 * (i + 1) + 1;
            }
        }
        throw new IllegalArgumentException(sign);
    }

    /** The op of that SIGN of the same level that stands in the row of levels. */
    private static int level(int op) {
        int[] levels = {100, 100, 300, 300, 300, 700, 700, 700, 900, 900, 900};
        return levels[op / 100 - 1];
    }

    private void sign() {
        sum("-1", "1:1 1201");
        sum("~1", "1:1 1301");
        sum("-~-1", "1:1 1201 1301 1201");
        sum("-1*2", "1:1 1201 1:2 301");
        sum("1*-2", "1:1 1:2 1201 301");
        sum("1-~2", "1:1 1:2 1301 201");
        sum("-$4[1]", "1:1 14:4 1201");
        faulty("fold max -", 2, 10);
        faulty("fold max ~", 2, 10);
        faulty("fold max 1~", 2, 10);
        faulty("fold max 1~1", 2, 10);
        faulty("fold max +1", 2, 9);
        faulty("fold max -)", 2, 10);
    }

    private void leaves() {
        sum("7", "1:7");
        sum("7.5", "2:0");
        sum("row", "3");
        truth("yes", "1:1");
        truth("no", "1:0");
        for (String word : "find order down first fold count sum mean where by set or and".split(" ")) {
            faulty("find 1=" + word, 2, 7);
            faulty("find 1=(" + word + ")", 2, 8);
        }
        for (String pair : new String[] {"1 1", "1 1.5", "row row", "1 row", "1 $4", "1 (1)", "1 abs(1)", "1 ~1"}) {
            faulty("fold max " + pair, 2, 9 + pair.indexOf(' ') + 1);
        }
        faulty("find 1=,", 2, 7);
        faulty("find 1=?", 2, 7);
        faulty("find 1=]", 2, 7);
    }

    private void cells() {
        sum("$4", "3 14:4");
        sum("$4[1]", "1:1 14:4");
        sum("$4[$4[1]]", "1:1 14:4 14:4");
        sum("$4 [ yes?1:2 ]", "1:1 1800:4 1:1 1802:5 1:2 14:4");
        faulty("find $0[", 2, 8);
        faulty("find $0[]", 2, 8);
        faulty("find $0[1", 2, 9);
        faulty("find $0[1)", 2, 9);
        faulty("find $0[1,2]", 2, 9);
        faulty("find $0[1][1]", 2, 10);
        faulty("find $0]", 2, 7);
        faulty("find $0(1)", 2, 7);
        faulty("find 1=1[1]", 2, 8);
        faulty("find 1=row[1]", 2, 10);
        faulty("find ($0)[1]", 2, 9);
    }

    private void parentheses() {
        sum("(1)", "1:1");
        sum("((yes?1:2))", "1:1 1800:4 1:1 1802:5 1:2");
        sum("abs((1))", "1:1 1701");
        sum("abs(yes?1:2)", "1:1 1800:4 1:1 1802:5 1:2 1701");
        sum("min(1+2,3+4)", "1:1 1:2 101 1:3 1:4 101 1751");
        sum("max(yes?1:2,yes?3:4)", "1:1 1800:4 1:1 1802:5 1:2 1:1 1800:9 1:3 1802:10 1:4 1761");
        truth("(yes or no)", "1:1 1801:4 1:0 1802:5 1:1");
        faulty("find ()", 2, 6);
        faulty("find (yes", 2, 9);
        faulty("find (yes]", 2, 9);
        faulty("find yes)", 2, 8);
        faulty("find (yes))", 2, 10);
        faulty("find (1,2)", 2, 7);
        faulty("find abs", 2, 8);
        faulty("find abs 1", 2, 9);
        faulty("find abs[1]", 2, 8);
        faulty("find abs(1", 2, 10);
        faulty("find abs(1]", 2, 10);
        faulty("find abs(,1)", 2, 9);
        faulty("find min(1,)", 2, 11);
        faulty("find min(1 2)", 2, 11);
        faulty("find sum(1)", 2, 5);
        faulty("find count(1)", 2, 5);
        faulty("find mean(1)", 2, 5);
        faulty("find yes(1)", 2, 8);
    }

    private void functions() {
        for (String one : "abs floor ceil rint sign byte short char int long float double".split(" ")) {
            int open = 9 + one.length();
            good("fold max " + one + "(1)");
            good("fold max " + one + " ( 1 )");
            faulty("fold max " + one + "()", 2, open + 1);
            faulty("fold max " + one + "(1,1)", 2, open + 2);
            faulty("fold max " + one + "(1,1,1)", 2, open + 2);
            faulty("fold max " + one, 2, open);
        }
        for (String two : "min max".split(" ")) {
            good("fold sum " + two + "(1,2)");
            faulty("fold sum " + two + "()", 2, 13);
            faulty("fold sum " + two + "(1)", 2, 14);
            faulty("fold sum " + two + "(1,2,3)", 2, 16);
            faulty("fold sum " + two, 2, 12);
        }
        for (String none : "ab abss round boolean bytes sqrt".split(" ")) {
            faulty("fold max " + none + "(1)", 2, 9);
        }
    }

    private void barsAndWords() {
        truth("yes|no", "1:1 1:0 701");
        truth("yes | no or no", "1:1 1:0 701 1801:6 1:0 1802:7 1:1");
        faulty("find yes||no", 2, 9);
        faulty("find yes&&no", 2, 9);
        faulty("find yes | or no", 2, 11);
        faulty("find yes=no|", 2, 12);
        truth("yes=no|yes", "1:1 1:0 1:1 701 1401 1500");
        faulty("find \"yes\"", 1, 5);
    }

    private void promise9() {
        states().forEach((name, state) -> {
            Probe x = state.get();
            int bytes = BYTES_OF.get(name);
            if (bytes < 400) {
                due(name + ": feed", x.feed(MIN, MAX, -1, 0, 1), bytes + 20);
            }
            due(name + ": end", x.end(0), 1);
            due(name + ": feed on an empty tape", x.feed(MIN, MAX, -1, 0, 1), 20);
            due(name + ": feed again", x.feed(0, 0, 0, 0, 0), 40);
        });
        // The bytes of one number, of five, and behind what is there.
        Probe x = new Probe();
        x.feed(0x66696E64, 0x20796573, 0x206F7220, 0x6E6F206F, 0x7220796F);
        due("find yes or no or yo", x.query(), -10 - 18);
        x.feed(0x646E6966, 0, 0, 0, 0);
        x.end(4);
        due("dnif", x.query(), -10);
        due("is a WORD", x.fault(), 2);
        x.feed(0x66696E64, 0x20202020, 0x20202020, 0x20202020, 0x20202020);
        x.feed(0x20202020, 0x20202020, 0x20202020, 0x20202020, 0x20796573);
        due("a text of two calls", x.query(), 0);
        x.feed(0x66696E64, 0x20FF0000, 0, 0, 0);
        due("byte 255", x.query(), -15);
        due("is no TOKEN", x.fault(), 1);
        x.feed(0x66696E64, MIN, 0, 0, 0);
        due("byte 128", x.query(), -14);
        due("is no TOKEN", x.fault(), 1);
    }

    private void feedFull() {
        Probe x = full();
        for (int n : new int[] {0, MIN, MAX}) {
            due("feed with 400 there", x.feed(n, n, n, n, n), FULL);
        }
        due("they stay", x.count(3), 400);
        for (int n : new int[] {399, 390, 381}) {
            x.end(n);
            due("feed with " + n + " there", x.feed(0, 0, 0, 0, 0), FULL);
        }
        x.end(380);
        due("feed with 380 there", x.feed(0, 0, 0, 0, 0), 400);
        due("feed with 400 there again", x.feed(0, 0, 0, 0, 0), FULL);
        due("feed on a new one", new Probe().feed(0, 0, 0, 0, 0), 20);
        due("feed behind clear", cleared().feed(0, 0, 0, 0, 0), FULL);
        due("feed behind a failed RUN", failed().feed(0, 0, 0, 0, 0), 28);
    }

    private void promise10() {
        states().forEach((name, state) -> {
            Probe x = state.get();
            int bytes = BYTES_OF.get(name);
            for (int n : outside(0, bytes)) {
                due(name + ": end(" + n + ")", x.end(n), BAD);
            }
            due(name + ": end(" + bytes + ")", x.end(bytes), 1);
            due(name + ": all are there", x.count(3), bytes);
            if (bytes > 0) {
                due(name + ": the last one goes", x.end(bytes - 1), 1);
                due(name + ": it is gone", x.end(bytes), BAD);
            }
            due(name + ": end(0)", x.end(0), 1);
            due(name + ": none is there", x.count(3), 0);
            due(name + ": end(0) of none", x.end(0), 1);
            due(name + ": end(1) of none", x.end(1), BAD);
        });
        // The first ones are kept, and what was cut off is not read.
        String[] texts = {"find yes or no", "find 1=12345", "find 1=1>>>1", "find 1=1.5"};
        int[] ends = {8, 8, 8, 8};
        for (int i = 0; i < texts.length; i++) {
            Probe x = new Probe().text(texts[i]);
            x.end(ends[i]);
            due("'" + texts[i] + "' cut to 8", x.query(), 0);
        }
        Probe x = new Probe().text("find yes or no");
        x.end(10);
        due("cut within a WORD", x.query(), -19);
        x.text("find 1>>>1=1");
        x.end(8);
        due("cut within a SIGN", x.query(), -18);
        x.text("find yes!=no");
        x.end(9);
        due("cut within != ", x.query(), -18);
        due("is no TOKEN", x.fault(), 1);
        x.text("find $0");
        x.end(6);
        due("cut within a COLUMN", x.query(), -15);
        due("is no TOKEN", x.fault(), 1);
        x.text("find 1=1.5");
        x.end(9);
        due("cut within a REAL", x.query(), -18);
    }

    private void promise11() {
        states().forEach((name, state) -> {
            Probe x = state.get();
            int there = QUERIES_OF.get(name);
            x.end(0);
            for (int q = there; q < 12; q++) {
                due(name + ": query " + q, x.query("find row=" + q), q);
                due(name + ": the tape is empty", x.count(3), 0);
                due(name + ": how many there are", x.count(2), q + 1);
            }
            due(name + ": one more", x.query("find yes"), FULL);
            for (int q = there; q < 12; q++) {
                due(name + ": it is itself", x.act(q, 0, 1, 1), q);
            }
        });
        due("of a new object", new Probe().query(), -10);
        due("the tape behind clear", cleared().query(), 0);
        due("the tape behind a failed RUN", failed().query(), 2);
    }

    private void placesOfFaults() {
        Probe x = lanes();
        String[] texts = {"", "@", "find", "find @", "find $9", "find yes or 1", "find 1+yes", "find " + "(".repeat(13),
            "find" + " ".repeat(396), "find" + " ".repeat(395) + "@", "fold max --1" + "+1".repeat(99)};
        int[] places = {0, 0, 4, 5, 5, 9, 6, 17, 400, 399, 210};
        for (int i = 0; i < texts.length; i++) {
            due("query of '" + texts[i] + "'", x.query(texts[i]), -10 - places[i]);
            due("the tape is empty then", x.count(3), 0);
            due("no query is there", x.count(2), 0);
        }
        due("a query behind them", x.query("find yes"), 0);
    }

    private void twelveQueries() {
        Probe x = new Probe();
        for (int q = 0; q < 11; q++) {
            x.query("find yes");
        }
        due("the twelfth", x.query("find yes"), 11);
        for (String text : new String[] {"find yes", "find @", ""}) {
            x.end(0);
            due("the 13th, '" + text + "'", x.query(text), FULL);
            due("the tape stays", x.count(3), text.length());
            due("twelve are there", x.count(2), 12);
            due("the FAULT stays", x.fault(), 0);
        }
        x.text("find no");
        due("the 13th again", x.query(), FULL);
        x.clear();
        due("the tape that stayed", x.query(), 0);
        due("is that text", x.act(0, 0, 0, 1), 0);
        due("when all is full", full().query(), FULL);
    }

    private void promise12() {
        due("of a new object", new Probe().fault(), 0);
        due("when all is full", full().fault(), 0);
        Probe x = lanes();
        x.objects(1);
        String[] texts = {"@", "", "find " + "(".repeat(13), "find 1", "find $8", "fold max --1" + "+1".repeat(99)};
        for (int i = 0; i < texts.length; i++) {
            x.query(texts[i]);
            due("FAULT " + (i + 1), x.fault(), i + 1);
            due("it stays", x.fault(), i + 1);
            x.clear();
            due("behind clear", x.fault(), i + 1);
            x.text("find yes");
            due("until the next text", x.fault(), i + 1);
            x.query();
            due("none", x.fault(), 0);
        }
        x.clear();
        x.query("find 1/0=1");
        x.run(0);
        due("a failed RUN has no FAULT of a text", x.fault(), 0);
        x.query("@");
        x.run(0);
        due("a RUN leaves it", x.fault(), 1);
        x.run(9);
        due("a refused call leaves it", x.fault(), 1);
    }
}
