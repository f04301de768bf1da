/** Boundaries of what a text may not be: the FAULTS and KINDS of ==== 2. */
public final class FaultEdgesTest extends Edges {
    /** A sum of each KIND, T I J F D. */
    private static final String[] OF_KIND = {"yes", "1", "$5", "$6", "1.5"};
    private static final int T = 0, I = 1, J = 2, F = 3, D = 4;
    /** What can be open, and what ends it: ( [ ? - ~ not, and the ( of one and of two sums. */
    private static final String[] OPENERS = {"(", "$4[", "yes?1:", "yes?", "-", "~", "abs(", "max("};
    private static final String[] ENDS = {")", "]", "", ":1", "", "", ")", ",1)"};

    public static void main(String[] args) {
        new FaultEdgesTest().close();
    }

    @Override
    void sentences() {
        test("FAULTS of a text, the first met as it is read", this::firstMet);
        test("1 no TOKEN", this::noToken);
        test("also a NUMBER, REAL that is too great, too long", this::tooGreatTooLong);
        test("$ without a figure): its first byte", this::noFigure);
        test("2 a TOKEN that cannot stand there", this::cannotStand);
        test("(or the end: the length)", this::endTooEarly);
        test("3 the 13th of ( [ ? - ~ not", this::thirteenth);
        test("(- ~ not ahead of what they are of)", this::signsAhead);
        test("that would be open, to their ends", this::ended);
        test("(of ? that of the sum behind its : )", this::choiceEnds);
        test("behind its : ): that TOKEN", this::thirteenthToken);
        test("4 a KIND that does not fit: the TOKEN told below", this::unfit);
        test("5 a COLUMN that is MISSING: it.", this::missing);
        test("Then 6:", this::thenSix);
        test("its code would have more than 200 ACTS in one PART", this::twoHundredActs);
        test("or a PILE of more than 24", this::pileOf24);
        test("a PILE of more than 24: the length.", this::lengthOfLongCode);
        test("A TOKEN is read, and may be 1, when the one before has been taken.", this::readAhead);
        test("4 is looked at when all of what is joined has been taken", this::lookedAtBehind);
        test("but T ahead of ? when ? is met, behind its 3", this::truthAhead);
        test("5 when the COLUMN is met.", this::missingWhenMet);

        test("KINDS of sums: T (truths), I, J, F, D (ints, longs, floats, doubles)", this::kinds);
        test("NUMBERS, row: I; REALS: D; yes, no: T", this::kindsOfLeaves);
        test("a COLUMN by its LANE now (1 to 4: I)", this::kindsOfColumns);
        test("Of two numbers both become the later one in I J F D.", this::laterKind);
        test("What FITS (else 4, at the SIGN, or WORD, that joins; of fn at its ( , of [ ] at the [ )", this::whereUnfit);
        test("+ - * / % < > <= >=: numbers.", () -> fitting("+ - * / % < > <= >=", FaultEdgesTest::areNumbers));
        test("= !=: numbers, or both T.", () -> fitting("= !=", (a, b) -> areNumbers(a, b) || a == T && b == T));
        test("& | ^: both T, or both I, J.", () -> fitting("& | ^", (a, b) -> areWholes(a, b) || a == T && b == T));
        test("<< >> >>>: I, J each", () -> fitting("<< >> >>>", FaultEdgesTest::areWholes));
        test("(the answer is of the left one's KIND; the right one becomes I)", this::kindsOfShifts);
        test("or and not: T.", this::truthsOfWords);
        test("? : T ahead of ? (at it); both behind numbers, or both T (at the : ).", this::kindsOfChoices);
        test("-: a number; ~: I, J (at the SIGN).", this::kindsOfSigns);
        test("[ ]: I (at the [ ).", this::kindsOfIndices);
        test("abs min max: numbers", this::kindsOfThree);
        test("floor ceil rint: numbers, which become D", this::kindsOfRounders);
        test("sign: numbers, of which I, J become D", this::kindsOfSign);
        test("the casts: numbers (byte short char int: I; long J; float F; double D)", this::kindsOfCasts);
        test("of which byte, short, char go by way of I.", this::narrowByWayOfInt);
        test("The or of find, where: T", this::kindsOfConditions);
        test("the sum of order, how: numbers, of by: I, J (else 4 at the TOKEN behind it).", this::kindsOfSums);
        test("set: T for LANE 0, else numbers (else 4 at the := ).", this::kindsOfSets);
    }

    private static boolean areNumbers(int a, int b) {
        return a != T && b != T;
    }

    private static boolean areWholes(int a, int b) {
        return (a == I || a == J) && (b == I || b == J);
    }

    /** Of two that a text has, the one that reading comes to. */
    private void firstMet() {
        faulty("find ) @", 2, 5);
        faulty("find @ )", 1, 5);
        faulty("find $8 )", 5, 5);
        faulty("find ) $8", 2, 5);
        faulty("find 1+yes+$8", 4, 6);
        faulty("find $8+yes", 5, 5);
        faulty("find " + "(".repeat(13) + "$8", 3, 17);
        faulty("find " + "(".repeat(12) + "$8", 5, 17);
        faulty("find yes and 1 and (yes", 4, 9);
        faulty("find 1 and (yes", 2, 15);
        faulty("find 2147483648 @", 1, 5);
        faulty("set $8 := yes+1", 5, 4);
        faulty("set $4 := yes where 1", 4, 7);
        faulty("fold count where 1 by yes", 4, 19);
    }

    private void noToken() {
        faulty("@", 1, 0);
        faulty("find yes ;", 1, 9);
        faulty("find yes;", 1, 8);
        faulty("find !yes", 1, 5);
        faulty("find yes ! = no", 1, 9);
        faulty("find . 5", 1, 5);
        faulty("find 1=1 or\tno", 1, 11);
        faulty("find\ryes", 1, 4);
        faulty("find yes\u0000", 1, 8);
        faulty("find yes\u00FF", 1, 8);
        faulty("FIND yes", 1, 0);
    }

    private void tooGreatTooLong() {
        good("find 1=2147483647");
        faulty("find 1=2147483648", 1, 7);
        faulty("find 1=" + "9".repeat(393), 1, 7);
        good("find 1=12345678.9");
        faulty("find 1=12345678.90", 1, 7);
        faulty("find 1=" + "0".repeat(9) + ".0", 1, 7);
        faulty("find 1=0." + "0".repeat(391), 1, 7);
        faulty("find yes first 2147483648", 1, 15);
        faulty("find $4[2147483648]=1", 1, 8);
    }

    private void noFigure() {
        faulty("find $", 1, 5);
        faulty("find $ 0", 1, 5);
        faulty("find yes or $", 1, 12);
        faulty("find yes $", 1, 9);
        faulty("set $", 1, 4);
        faulty("set $a := 1", 1, 4);
        faulty("$", 1, 0);
        faulty("find" + " ".repeat(395) + "$", 1, 399);
    }

    private void cannotStand() {
        faulty("yes", 2, 0);
        faulty("find )", 2, 5);
        faulty("find yes yes", 2, 9);
        faulty("find yes)", 2, 8);
        faulty("find 1==1", 2, 7);
        faulty("find 1<2<3", 2, 8);
        faulty("find yes first yes", 2, 15);
        faulty("find abs 1", 2, 9);
        faulty("find abs(1,2)", 2, 10);
        faulty("find max(1)", 2, 10);
        faulty("find unknown", 2, 5);
        faulty("set 1 := 1", 2, 4);
    }

    private void endTooEarly() {
        faulty("", 2, 0);
        faulty(" ", 2, 1);
        faulty("\n\n\n", 2, 3);
        faulty(" ".repeat(400), 2, 400);
        faulty("find", 2, 4);
        faulty("find   ", 2, 7);
        faulty("find yes or\n", 2, 12);
        faulty("find (yes ", 2, 10);
        faulty("find" + " ".repeat(396), 2, 400);
        faulty("fold sum yes?1 ", 2, 15);
        faulty("set $4 ", 2, 7);
        faulty("find yes first ", 2, 15);
    }

    private void thirteenth() {
        for (int i = 0; i < OPENERS.length; i++) {
            good("fold max " + OPENERS[i].repeat(12) + "1" + ENDS[i].repeat(12));
            String text = "fold max " + OPENERS[i].repeat(13) + "1" + ENDS[i].repeat(13);
            Probe x = lanes();
            due("query of '" + text + "'", x.query(text) < -9 ? 1 : 0, 1);
            due("fault of '" + text + "'", x.fault(), 3);
        }
        good("find " + "not ".repeat(12) + "yes");
        faulty("find " + "not ".repeat(13) + "yes", 3, 53);
        // None is open behind a text that had a FAULT, whatever was open in that.
        for (String odd : new String[] {"find abs 1", "find ((((yes", "find ))", "find $4[1", "find not not", "fold sum yes?1"}) {
            Probe x = lanes();
            x.query(odd);
            due("twelve behind '" + odd + "'", x.query("find " + "(".repeat(12) + "yes" + ")".repeat(12)), 0);
            x.query(odd);
            due("thirteen behind '" + odd + "'", x.query("find " + "(".repeat(13) + "yes" + ")".repeat(13)), -27);
        }
        // All kinds of them are counted as one.
        String mixed = "not not ($4[-(~abs(yes?1:max($4[-(";
        good("find " + mixed.substring(0, mixed.length() - 1) + "1],1)))]=1)");
        faulty("find " + mixed + "1)],1)))]=1)", 3, 5 + mixed.length() - 1);
    }

    /** Between two sums they open nothing. */
    private void signsAhead() {
        String deep = "(".repeat(12);
        String ends = ")".repeat(12);
        good("fold max " + deep + "1" + "-1".repeat(20) + ends);
        faulty("fold max " + deep + "-1" + ends, 3, 21);
        faulty("fold max " + deep + "~1" + ends, 3, 21);
        faulty("fold max " + deep + "1--1" + ends, 3, 23);
        faulty("find " + deep + "not yes" + ends, 3, 17);
        good("find " + deep.substring(1) + "not 1-1-1=0 or not 1-1=0" + ends.substring(1));
    }

    /** With eleven open, one more may be, again and again. */
    private void ended() {
        String deep = "(".repeat(11);
        String ends = ")".repeat(11);
        good("fold max " + deep + "(1)" + "+(1)".repeat(15) + ends);
        good("fold max " + deep + "$4[1]" + "+$4[1]".repeat(15) + ends);
        good("fold max " + deep + "-1" + "+-1".repeat(15) + ends);
        good("fold max " + deep + "~1" + "+~1".repeat(15) + ends);
        good("fold max " + deep + "abs(1)" + "+abs(1)".repeat(15) + ends);
        good("fold max " + deep + "min(1,2)" + "+min(1,2)".repeat(15) + ends);
        good("find " + deep + "not yes" + " or not yes".repeat(15) + ends);
        good("find (yes)" + " or (yes)".repeat(20));
        // What - and ~ are of is over at the next SIGN, what not is of only at or, and.
        good("fold max " + deep + "-1*(1)" + ends);
        good("fold max " + deep + "~1*(1)" + ends);
        good("find " + deep + "not yes and (yes)" + ends);
        faulty("find " + deep + "not 1=(1)" + ends, 3, 22);
        faulty("fold max " + deep + "-(1)" + ends, 3, 21);
        faulty("fold max " + deep + "-$4[1]" + ends, 3, 23);
        faulty("fold max " + deep + "~abs(1)" + ends, 3, 24);
        faulty("fold max " + deep + "(1+(1))" + ends, 3, 23);
        faulty("fold max " + deep + "$4[(1)]" + ends, 3, 23);
        faulty("fold max " + deep + "min(1,(1))" + ends, 3, 26);
        // A new part of the query has none open.
        good("fold max " + deep + "(1)" + ends + " where " + deep + "(yes)" + ends + " by " + deep + "(1)" + ends);
    }

    private void choiceEnds() {
        String deep = "(".repeat(11);
        String ends = ")".repeat(11);
        good("fold max " + deep + "yes?1:2" + ends);
        good("fold max " + deep + "(yes)?1:2" + ends);
        faulty("fold max " + deep + "yes?(1):2" + ends, 3, 24);
        faulty("fold max " + deep + "yes?1:(2)" + ends, 3, 26);
        faulty("fold max " + deep + "yes?1:2+(2)" + ends, 3, 28);
        faulty("fold max " + deep + "yes?1:no?2:3" + ends, 3, 28);
        good("fold max " + deep.substring(2) + "(yes?1:2)+(yes?1:(2))" + ends.substring(2));
        good("fold max " + "(yes?1:2)+".repeat(15) + "1");
        good("fold max " + "yes?1:".repeat(12) + "1");
        faulty("fold max " + "yes?1:".repeat(13) + "1", 3, 84);
        good("fold max " + "yes?".repeat(12) + "1" + ":1".repeat(12));
        faulty("fold max " + "yes?".repeat(13) + "1" + ":1".repeat(13), 3, 60);
        good("fold max " + deep + "yes?1:2" + ends + " by (1)");
    }

    private void thirteenthToken() {
        faulty("find " + "(".repeat(13) + "yes", 3, 17);
        faulty("find " + "( ".repeat(13) + "yes", 3, 29);
        faulty("find 1=" + "$4 [ ".repeat(13) + "1", 3, 70);
        faulty("find 1=" + "-".repeat(13) + "1", 3, 19);
        faulty("find 1=" + "~".repeat(13) + "1", 3, 19);
        faulty("find " + "not ".repeat(13) + "yes", 3, 53);
        faulty("find 1=" + "abs (".repeat(13) + "1", 3, 71);
        faulty("fold sum " + "yes ? 1 : ".repeat(13) + "1", 3, 133);
        faulty("find " + "(".repeat(300), 3, 17);
    }

    private void unfit() {
        faulty("find 1=1+yes", 4, 8);
        faulty("find 1 or yes", 4, 7);
        faulty("find 1=abs (yes)", 4, 11);
        faulty("find $4 [yes]=1", 4, 8);
        faulty("find 1=-yes", 4, 7);
        faulty("find not 1", 4, 5);
        faulty("fold sum 1 ? 2 : 3", 4, 11);
        faulty("fold sum yes ? 2 : no", 4, 17);
        faulty("find 1 order 1", 4, 7);
        faulty("find 1", 4, 6);
        faulty("set $4 := yes", 4, 7);
    }

    private void missing() {
        faulty("find $8", 5, 5);
        faulty("find $9", 5, 5);
        faulty("set $8 := 1", 5, 4);
        faulty("find $8[0]", 5, 5);
        faulty("find 1=$4[$8]", 5, 10);
        faulty("fold count by $9", 5, 14);
        Probe x = lanes();
        x.drop(0);
        due("one that was dropped", x.query("find $0"), -15);
        due("its FAULT", x.fault(), 5);
        x.column(0, 0, 0);
        due("one without CELLS", x.query("find $0"), 0);
        x.share(1, 9);
        due("one that is shared with a MISSING one", x.query("find 1=$1"), -17);
        due("its FAULT", x.fault(), 5);
        x.share(8, 0);
        due("one that is there by share", x.query("find $8"), 1);
        due("a new object", new Probe().query("find $0"), -15);
    }

    /** A sum of so many ACTS, at least two. */
    private static String acts(int n) {
        return (n % 2 == 0 ? "-" : "") + "1" + "+1".repeat((n - 1) / 2);
    }

    private void thenSix() {
        faulty("fold max " + acts(201) + " )", 2, 10 + acts(201).length());
        faulty("fold max " + acts(201) + " @", 1, 10 + acts(201).length());
        faulty("fold max " + acts(201) + " by $8", 5, 13 + acts(201).length());
        faulty("fold max " + acts(201) + " by yes", 4, 16 + acts(201).length());
        faulty("fold max " + acts(201) + " by " + "(".repeat(13), 3, 25 + acts(201).length());
        faulty("fold max " + acts(201) + " by 1", 6, 14 + acts(201).length());
    }

    private void twoHundredActs() {
        // Of PART 0: 1, 1401, 1502 more; of order: 1614 more; of set: 3 and 24 more.
        String[] ahead = {"find 1<", "find yes order ", "fold max ", "fold sum $5+", "fold count by ", "set $4 := "};
        int[] parts = {0, 1, 1, 1, 2, 1};
        int[] more = {3, 1, 0, 0, 0, 2};
        for (int i = 0; i < ahead.length; i++) {
            if (i != 3) {
                Probe x = lanes();
                due("200 of '" + ahead[i] + "..'", x.query(ahead[i] + acts(200 - more[i])), 0);
                due("ACTS", x.acts(0, parts[i]), 200);
                due("the last one", x.act(0, parts[i], 199, 0) > 0 ? 1 : 0, 1);
                due("behind it", x.act(0, parts[i], 200, 0), BAD2);
                String text = ahead[i] + acts(201 - more[i]);
                faulty(text, 6, text.length());
            }
        }
        // Each PART may have as many.
        String with = "1.5" + "+1".repeat(66);
        Probe x = lanes();
        due("200 in PARTS 0 and 1", x.query("fold max -" + with + " where 1.5" + "+1".repeat(65) + "<1"), 0);
        due("PART 0", x.acts(0, 0), 200);
        due("PART 1", x.acts(0, 1), 200);
        due("200 in PARTS 1 and 2", x.query("fold max -" + with + " by int(" + with + ")"), 1);
        due("PART 1", x.acts(1, 1), 200);
        due("PART 2", x.acts(1, 2), 200);
        // Jumps and what makes a left side of another KIND are counted, too.
        x = lanes();
        due("200 with jumps", x.query("fold max yes?(" + "1+".repeat(97) + "1):1.5"), 0);
        due("ACTS", x.acts(0, 1), 200);
        int[][] last = {{196, 101, 0}, {197, 1614, 0}, {198, 1802, 200}, {199, 2, 0}, {1, 1800, 199}};
        for (int[] act : last) {
            due("op of ACT " + act[0], x.act(0, 1, act[0], 0), act[1]);
            due("a of ACT " + act[0], x.act(0, 1, act[0], 1), act[2]);
        }
        String text = "fold max yes?(-" + "1+".repeat(97) + "1):1.5";
        faulty(text, 6, text.length());
        faulty("fold max 1" + "+1".repeat(195), 6, 400);
    }

    private static final String PENDING = "1|1<<1+1*(".repeat(5), CLOSED = ")".repeat(5);

    /** A sum that needs a PILE of so many, 21 to 25. */
    private static String pile(int n) {
        String[] rest = {"1", "1|1", "1|1<<1", "1|1<<1+1", "1|1<<1+1*1"};
        return PENDING + rest[n - 21] + CLOSED;
    }

    private void tooMuch(String text) {
        faulty(text, 6, text.length());
    }

    private void pileOf24() {
        for (String words : new String[] {"find yes order ", "fold max ", "fold count by "}) {
            good(words + pile(24));
            tooMuch(words + pile(25));
        }
        good("find 1=1 or " + pile(24) + "=1");
        tooMuch("find 1=1 or " + pile(25) + "=1");
        good("find 1=" + pile(23));
        tooMuch("find 1=" + pile(24));
        good("set $4 := " + pile(23));
        tooMuch("set $4 := " + pile(24));
        pileOfLeaves();
        // Where two ways meet there is as much as each leaves, and a truth that is taken is gone.
        good("fold max " + PENDING + "1|1<<1+(yes and no or yes?1:2)" + CLOSED);
        tooMuch("fold max " + PENDING + "1|1<<1+1*(yes?1:2)" + CLOSED);
        tooMuch("fold max " + PENDING + "1|1<<1+(yes?1+1:2)" + CLOSED);
        tooMuch("fold max " + PENDING + "1|1<<1+(yes?1:2+2)" + CLOSED);
    }

    /** Whatever is laid on 23 is the 24th; on 24 it is too much. What lies below all else counts as well. */
    private void pileOfLeaves() {
        String[] ones = {"1", "row", "$4", "$4[1]", "-1", "~1", "byte(1)", "abs(1)", "int(floor(1))", "int(1.5)", "(yes?1:2)",
            "(yes and no or not no?1:2)", "(yes?int(1.5):2)", "($0?1:2)", "(not $0[1]?1:2)"};
        for (String one : ones) {
            good("fold max " + PENDING + "1|1<<1+" + one + CLOSED);
            tooMuch("fold max " + PENDING + "1|1<<1+1*" + one + CLOSED);
            good("fold max " + one + PENDING.substring(1) + "1|1<<1+1" + CLOSED);
            tooMuch("fold max " + one + PENDING.substring(1) + "1|1<<1+1*1" + CLOSED);
        }
        for (String two : new String[] {"1+1", "min(1,1)", "(1<1?1:2)", "(1=1 or 1=1?1:2)", "$4[1+1]", "int(1.5+1.5)"}) {
            good("fold max " + PENDING + "1|1<<(" + two + ")" + CLOSED);
            tooMuch("fold max " + PENDING + "1|1<<1+(" + two + ")" + CLOSED);
        }
    }

    private void lengthOfLongCode() {
        faulty("fold max " + acts(201), 6, 9 + acts(201).length());
        faulty("fold max " + acts(201) + "  \n", 6, 12 + acts(201).length());
        faulty("fold max " + acts(201) + " where yes", 6, 19 + acts(201).length());
        faulty("fold max " + pile(25) + " ", 6, 10 + pile(25).length());
        String text = "fold max " + acts(201);
        faulty(text + " ".repeat(400 - text.length()), 6, 400);
        // A text that is too much leaves nothing behind.
        for (String words : new String[] {"find yes order ", "fold count by ", "fold max "}) {
            Probe x = lanes();
            due("a PILE of 25", x.query(words + pile(25)), -10 - words.length() - pile(25).length());
            due("a text behind it", x.query("fold max 1 where yes by 1"), 0);
            due("201 ACTS", x.query(words + acts(201)), -10 - words.length() - acts(201).length());
            due("a text behind them", x.query("fold max 1 where yes by 1"), 1);
        }
    }

    private void readAhead() {
        faulty("find yes@", 1, 8);
        faulty("find yes @", 1, 9);
        faulty("find@", 1, 4);
        faulty("yes @", 2, 0);
        faulty("find ) @", 2, 5);
        faulty("find yes ) @", 2, 9);
        faulty("find (yes @", 1, 10);
        faulty("find abs @", 1, 9);
        faulty("set $4 @", 1, 7);
        faulty("find yes first @", 1, 15);
        faulty("find yes first 1 @", 1, 17);
        faulty("find yes first yes @", 2, 15);
        faulty("fold sum yes ? 1 : 2 @", 1, 21);
        // A TOKEN that has a FAULT of its own is not taken: what is behind it is not read.
        faulty("find $8 @", 5, 5);
        faulty("set $8 @", 5, 4);
        faulty("find " + "(".repeat(13) + " @", 3, 17);
        faulty("find 1=" + "-".repeat(13) + " @", 3, 19);
        faulty("find " + "not ".repeat(13) + "@", 3, 53);
        faulty("find 1=" + "$4[".repeat(13) + "@", 3, 45);
        faulty("fold sum " + "yes?".repeat(13) + "@", 3, 60);
    }

    private void lookedAtBehind() {
        faulty("find 1=1+yes @", 1, 13);
        faulty("find 1=1+yes )", 4, 8);
        faulty("find 1=1+yes", 4, 8);
        faulty("find yes+(1 ]", 2, 12);
        faulty("find yes+(1 )", 4, 8);
        faulty("find yes or 1 @", 1, 14);
        faulty("find yes or 1 )", 4, 9);
        faulty("find not 1 @", 1, 11);
        faulty("find not 1 )", 4, 5);
        faulty("find 1=-yes @", 1, 12);
        faulty("find 1=-yes )", 4, 7);
        faulty("find $0[1.5 ) ", 2, 12);
        faulty("find $0[1.5] @", 1, 13);
        faulty("find $0[1.5] )", 4, 7);
        faulty("find 1=abs(yes ]", 2, 15);
        faulty("find 1=abs(yes) @", 1, 16);
        faulty("find 1=abs(yes) )", 4, 10);
        faulty("find 1=min(yes,)", 2, 15);
        faulty("find 1=min(yes,1) )", 4, 10);
        faulty("fold sum yes ? 1 : no @", 1, 22);
        faulty("fold sum yes ? 1 : no )", 4, 17);
        faulty("fold sum yes ? yes : 1+no", 4, 22);
        faulty("find 1 @", 1, 7);
        faulty("find 1 )", 4, 7);
        faulty("find yes order yes @", 1, 19);
        faulty("find yes order yes )", 4, 19);
        faulty("fold count by 1.5 @", 1, 18);
        faulty("fold count by 1.5 )", 4, 18);
        faulty("set $4 := yes @", 1, 14);
        faulty("set $4 := yes )", 4, 7);
        faulty("set $4 := yes where )", 4, 7);
        // Of two joints the one that is taken first.
        faulty("find 1+yes*1", 4, 10);
        faulty("find yes*1+yes", 4, 8);
    }

    private void truthAhead() {
        faulty("fold sum 1 ? @", 4, 11);
        faulty("fold sum 1 ?", 4, 11);
        faulty("fold sum 1 @", 1, 11);
        faulty("fold sum 1 ? $8 : 1", 4, 11);
        String deep = "(".repeat(12);
        faulty("fold sum " + deep + "1?1:2", 3, 22);
        faulty("fold sum " + deep + "yes?1:2", 3, 24);
        faulty("fold sum " + deep.substring(1) + "1?1:2", 4, 21);
    }

    private void missingWhenMet() {
        faulty("find 1 and $8", 5, 11);
        faulty("find 1+yes*$8", 5, 11);
        faulty("find yes+$8", 5, 9);
        faulty("find $8[yes]", 5, 5);
        faulty("find $8 @", 5, 5);
        faulty("find $8[@", 5, 5);
        faulty("find $8$8", 5, 5);
        faulty("set $8", 5, 4);
        faulty("find ($8", 5, 6);
        faulty("find yes $8", 2, 9);
        faulty("find yes first $8", 2, 15);
    }

    private interface Fitting {
        boolean fits(int left, int right);
    }

    private void fitting(String signs, Fitting fitting) {
        for (String sign : signs.split(" ")) {
            for (int a = T; a <= D; a++) {
                for (int b = T; b <= D; b++) {
                    String text = OF_KIND[a] + sign + OF_KIND[b];
                    boolean ofTruths = a == T && b == T;
                    boolean isTruth = ofTruths || "< > <= >= = !=".contains(sign) && !sign.equals("<<") && !sign.equals(">>");
                    if (fitting.fits(a, b)) {
                        good(isTruth ? "find (" + text + ")" : "find 1=(" + text + ")");
                    } else {
                        faulty("find (" + text + ")", 4, 6 + OF_KIND[a].length());
                    }
                }
            }
        }
    }

    /** The KIND of a sum, shown by what a test with a double makes of it; T: that it makes nothing of it. */
    private void kind(String sum, int kind) {
        Probe x = lanes();
        if (kind == T) {
            due("query of a truth " + sum, x.query("find (" + sum + ")"), 0);
            return;
        }
        due("query of " + sum, x.query("find $6<(" + sum + ")"), 0);
        due("a double of the float ahead of " + sum, x.act(0, 0, 2, 0) == 1634 ? 1 : 0, kind == D ? 1 : 0);
        if (kind != D) {
            due("query of " + sum, x.query("find 1.5<(" + sum + ")"), 1);
            due("what makes a double of " + sum, x.act(1, 0, x.acts(1, 0) - 3, 0), 1604 + 10 * kind);
        }
    }

    private void kinds() {
        for (int k = T; k <= D; k++) {
            kind(OF_KIND[k], k);
            kind("(" + OF_KIND[k] + ")", k);
            kind("yes ? " + OF_KIND[k] + " : " + OF_KIND[k], k);
        }
        kind("1=1", T);
        kind("1.5<$6", T);
        kind("yes=no", T);
        kind("yes&no", T);
        kind("not yes", T);
        kind("yes or no", T);
        kind("$0[1]", T);
    }

    private void kindsOfLeaves() {
        kind("1", I);
        kind("2147483647", I);
        kind("0", I);
        kind("row", I);
        kind("1.0", D);
        kind("0.0", D);
        kind("yes", T);
        kind("no", T);
    }

    private void kindsOfColumns() {
        int[] kinds = {T, I, I, I, I, J, F, D};
        for (int lane = 0; lane < 8; lane++) {
            kind("$" + lane, kinds[lane]);
            kind("$" + lane + "[1]", kinds[lane]);
        }
        Probe x = new Probe();
        x.column(0, 7, 1);
        due("by a double", x.query("fold count by $0"), -26);
        due("does not fit", x.fault(), 4);
        x.column(0, 5, 1);
        due("by a long, now", x.query("fold count by $0"), 0);
        x.column(0, 7, 1);
        due("by a double, now", x.query("fold count by $0"), -26);
        due("what was read stays as it was", x.act(0, 2, 1, 0), 15);
        x.column(1, 4, 1);
        x.share(0, 1);
        due("by an int, by share", x.query("fold count by $0"), 1);
        due("of LANE 4", x.act(1, 2, 1, 0), 14);
    }

    private void laterKind() {
        for (int a = I; a <= D; a++) {
            for (int b = I; b <= D; b++) {
                int later = Math.max(a, b);
                kind(OF_KIND[a] + "+" + OF_KIND[b], later);
                kind("min(" + OF_KIND[a] + "," + OF_KIND[b] + ")", later);
                kind("yes?" + OF_KIND[a] + ":" + OF_KIND[b], later);
            }
        }
        sum("1+$5+$6+1.5", "1:1 1612 3 15:5 102 1623 3 16:6 103 1634 2:0 104");
        sum("1.5+$6+$5+1", "2:0 3 16:6 1634 104 3 15:5 1624 104 1:1 1614 104");
        truth("1<$5", "1:1 1612 3 15:5 1402 1502");
        truth("$5<1", "3 15:5 1:1 1612 1402 1502");
        sum("1&$5", "1:1 1612 3 15:5 602");
    }

    private void whereUnfit() {
        faulty("find 1=1 + yes", 4, 9);
        faulty("find 1=1 >>> yes", 4, 9);
        faulty("find 1 and yes", 4, 7);
        faulty("find 1 or yes", 4, 7);
        faulty("find yes = 1", 4, 9);
        faulty("find not 1", 4, 5);
        faulty("find 1=abs ( yes )", 4, 11);
        faulty("find 1=max ( 1 , yes )", 4, 11);
        faulty("find 1=max ( yes , 1 )", 4, 11);
        faulty("find 1=double ( yes )", 4, 14);
        faulty("find $0 [ yes ]", 4, 8);
        faulty("find $0 [ 1.5 ]", 4, 8);
    }

    private void kindsOfShifts() {
        for (String sign : new String[] {"<<", ">>", ">>>"}) {
            kind("1" + sign + "1", I);
            kind("1" + sign + "$5", I);
            kind("$5" + sign + "1", J);
            kind("$5" + sign + "$5", J);
        }
        sum("1<<$5", "1:1 3 15:5 1621 901");
        sum("$5<<$5", "3 15:5 3 15:5 1621 902");
        sum("$5>>1", "3 15:5 1:1 1002");
        sum("1>>>1", "1:1 1:1 1101");
    }

    private void truthsOfWords() {
        for (int a = T; a <= D; a++) {
            for (int b = T; b <= D; b++) {
                for (String word : new String[] {" or ", " and "}) {
                    String text = "find " + OF_KIND[a] + word + OF_KIND[b];
                    if (a == T && b == T) {
                        good(text);
                    } else {
                        faulty(text, 4, 6 + OF_KIND[a].length());
                    }
                }
            }
            if (a == T) {
                good("find not " + OF_KIND[a]);
            } else {
                faulty("find not " + OF_KIND[a], 4, 5);
                faulty("find yes and not " + OF_KIND[a], 4, 13);
            }
        }
        faulty("find not not not 1", 4, 13);
        faulty("find yes and no and 1", 4, 16);
    }

    private void kindsOfChoices() {
        for (int a = T; a <= D; a++) {
            if (a != T) {
                faulty("find (" + OF_KIND[a] + " ? 1 : 2)", 4, 7 + OF_KIND[a].length());
            }
            for (int b = T; b <= D; b++) {
                String choice = "yes ? " + OF_KIND[a] + " : " + OF_KIND[b];
                if ((a == T) == (b == T)) {
                    kind(choice, Math.max(a, b));
                } else {
                    faulty("find (" + choice + ")", 4, 13 + OF_KIND[a].length());
                }
            }
        }
    }

    private void kindsOfSigns() {
        for (int a = T; a <= D; a++) {
            if (a == T) {
                faulty("find 1=-yes", 4, 7);
                faulty("find 1=--yes", 4, 8);
            } else {
                kind("-" + OF_KIND[a], a);
            }
            if (a == I || a == J) {
                kind("~" + OF_KIND[a], a);
            } else {
                faulty("find 1=~" + OF_KIND[a], 4, 7);
                faulty("find 1= - ~ " + OF_KIND[a], a == T ? 4 : 4, 10);
            }
        }
    }

    private void kindsOfIndices() {
        for (int a = T; a <= D; a++) {
            if (a == I) {
                good("find $0[" + OF_KIND[a] + "]");
            } else {
                faulty("find $0[" + OF_KIND[a] + "]", 4, 7);
                faulty("find $0 [ " + OF_KIND[a] + " ]", 4, 8);
            }
        }
        for (int c = 1; c <= 4; c++) {
            good("find $0[$" + c + "]");
        }
    }

    /** Of one sum of each KIND; answers as told, or -1 where it does not fit. */
    private void ofOne(String fn, int... kinds) {
        faulty("find 1=" + fn + "(yes)", 4, 7 + fn.length());
        for (int a = I; a <= D; a++) {
            kind(fn + "(" + OF_KIND[a] + ")", kinds[a - I]);
        }
    }

    private void kindsOfThree() {
        ofOne("abs", I, J, F, D);
        for (String fn : new String[] {"min", "max"}) {
            for (int a = T; a <= D; a++) {
                for (int b = T; b <= D; b++) {
                    String call = fn + "(" + OF_KIND[a] + "," + OF_KIND[b] + ")";
                    if (a == T || b == T) {
                        faulty("find 1=" + call, 4, 10);
                    } else {
                        kind(call, Math.max(a, b));
                    }
                }
            }
        }
    }

    private void kindsOfRounders() {
        for (String fn : new String[] {"floor", "ceil", "rint"}) {
            ofOne(fn, D, D, D, D);
        }
        sum("floor(1)", "1:1 1614 1714");
        sum("ceil($6)", "3 16:6 1634 1724");
        sum("rint(1.5)", "2:0 1734");
    }

    private void kindsOfSign() {
        ofOne("sign", D, D, F, D);
        sum("sign(1)", "1:1 1614 1744");
        sum("sign($5)", "3 15:5 1624 1744");
        sum("sign($6)", "3 16:6 1743");
        sum("sign(1.5)", "2:0 1744");
    }

    private void kindsOfCasts() {
        String[] casts = {"byte", "short", "char", "int", "long", "float", "double"};
        int[] kinds = {I, I, I, I, J, F, D};
        for (int i = 0; i < casts.length; i++) {
            ofOne(casts[i], kinds[i], kinds[i], kinds[i], kinds[i]);
        }
    }

    private void narrowByWayOfInt() {
        String[] casts = {"byte", "short", "char"};
        for (int i = 0; i < casts.length; i++) {
            sum(casts[i] + "(1)", "1:1 165" + (i + 1));
            sum(casts[i] + "($5)", "3 15:5 1621 165" + (i + 1));
            sum(casts[i] + "($6)", "3 16:6 1631 165" + (i + 1));
            sum(casts[i] + "(1.5)", "2:0 1641 165" + (i + 1));
        }
    }

    private void kindsOfConditions() {
        String[] ahead = {"find ", "fold count where ", "set $4 := 1 where "};
        String[] behind = {"", " order 1", " first 1"};
        for (String words : ahead) {
            for (int a = T; a <= D; a++) {
                if (a == T) {
                    good(words + OF_KIND[a]);
                } else {
                    int length = words.length() + OF_KIND[a].length();
                    faulty(words + OF_KIND[a], 4, length);
                    faulty(words + OF_KIND[a] + "  ", 4, length + 2);
                    faulty(words + OF_KIND[a] + " )", 4, length + 1);
                }
            }
        }
        for (String words : behind) {
            faulty("find 1.5" + words, 4, words.isEmpty() ? 8 : 9);
        }
        faulty("fold count where 1 by 1", 4, 19);
    }

    private void kindsOfSums() {
        String[] ahead = {"find yes order ", "fold sum ", "fold min ", "fold max ", "fold mean ", "fold count by "};
        String[] behind = {" down", " where yes", " where yes", " by 1", " by 1", " )"};
        for (int i = 0; i < ahead.length; i++) {
            for (int a = T; a <= D; a++) {
                boolean fits = i < 5 ? a != T : a == I || a == J;
                String text = ahead[i] + OF_KIND[a];
                if (fits) {
                    good(text);
                } else {
                    faulty(text, 4, text.length());
                    faulty(text + "\n\n", 4, text.length() + 2);
                    faulty(text + behind[i], 4, text.length() + 1);
                }
            }
        }
    }

    private void kindsOfSets() {
        for (int lane = 0; lane < 8; lane++) {
            for (int a = T; a <= D; a++) {
                String text = "set $" + lane + " := " + OF_KIND[a];
                if ((lane == 0) == (a == T)) {
                    good(text);
                    good(text + " where yes");
                } else {
                    faulty(text, 4, 7);
                    faulty(text + " where yes", 4, 7);
                    faulty(text + " )", 4, 7);
                }
            }
        }
    }
}
