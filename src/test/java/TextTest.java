/** Promises 11 and 12: TOKENS, grammar, KINDS, each FAULT of a text and its place. */
public final class TextTest {
    private static final Check CHECK = new Check("TextTest");

    public static void main(String[] args) {
        noTokens();
        outOfPlace();
        tooDeep();
        unfit();
        missing();
        tooLong();
        piles();
        whichIsFirst();
        fine();
        CHECK.close();
    }

    /** COLUMNS 0 to 7 are of those LANES, 8 and 9 are MISSING. */
    private static QueryClasses made() {
        QueryClasses x = new QueryClasses();
        for (int lane = 0; lane < 8; lane++) {
            x.column(lane, lane, 4);
        }
        return x;
    }

    private static void faulty(String text, int fault, int place) {
        QueryClasses x = made();
        CHECK.due("query of '" + text + "'", Check.query(x, text), -10 - place);
        CHECK.due("fault of '" + text + "'", x.fault(), fault);
    }

    private static void good(String text) {
        QueryClasses x = made();
        CHECK.due("query of '" + text + "'", Check.query(x, text), 0);
        CHECK.due("fault of '" + text + "'", x.fault(), 0);
    }

    private static void noTokens() {
        faulty("@", 1, 0);
        faulty("Find yes", 1, 0);
        faulty("find yes;", 1, 8);
        faulty("find\tyes", 1, 4);
        faulty("find $", 1, 5);
        faulty("find $x", 1, 5);
        faulty("find $ 1", 1, 5);
        faulty("find 1!1", 1, 6);
        faulty("find 1! =1", 1, 6);
        faulty("find 1=2147483648", 1, 7);
        faulty("find 1=99999999999999999999999999999", 1, 7);
        faulty("find 1=1234567.890", 1, 7);
        faulty("find 1=0000000000.5", 1, 7);
        faulty("find 1=1.", 1, 8);
        faulty("find 1=1.x", 1, 8);
        faulty("find 1=.5", 1, 7);
        faulty("find 1=1.5.5", 1, 10);
        faulty("find 1=1.5.", 1, 10);
        faulty("find `", 1, 5);
        faulty("find {", 1, 5);
        faulty("find $:", 1, 5);
        faulty("find $/", 1, 5);
        good("find 1=2147483647");
        good("find 1=00000000000000000001");
        good("find 1=1234567.89");
        good("find 1=0.12345678");
        good("find 1=12345678.0");
    }

    private static void outOfPlace() {
        faulty("", 2, 0);
        faulty("   \n ", 2, 5);
        faulty("yes", 2, 0);
        faulty("findyes", 2, 0);
        faulty("findz yes", 2, 0);
        faulty("zfind yes", 2, 0);
        faulty("fin yes", 2, 0);
        faulty("find", 2, 4);
        faulty("find ", 2, 5);
        faulty("find find", 2, 5);
        faulty("find yes no", 2, 9);
        faulty("find yes ? yes : no", 2, 9);
        faulty("find 1=", 2, 7);
        faulty("find 1==1", 2, 7);
        faulty("find 1<2<3", 2, 8);
        faulty("find 1<2=yes", 2, 8);
        faulty("find not 1<2<3", 2, 12);
        faulty("find yes = not no", 2, 11);
        faulty("find 1=not 1", 2, 7);
        faulty("find (yes", 2, 9);
        faulty("find (yes]", 2, 9);
        faulty("find ()", 2, 6);
        faulty("find yes)", 2, 8);
        faulty("find $0[1", 2, 9);
        faulty("find $0[1)", 2, 9);
        faulty("find $0[]", 2, 8);
        faulty("find $0[1][1]", 2, 10);
        faulty("find yes order", 2, 14);
        faulty("find yes order row down down", 2, 24);
        faulty("find yes down", 2, 9);
        faulty("find yes first", 2, 14);
        faulty("find yes first row", 2, 15);
        faulty("find yes first 1.5", 2, 15);
        faulty("find yes first -1", 2, 15);
        faulty("find yes first 1 order row", 2, 17);
        faulty("find yes where no", 2, 9);
        faulty("find yes by row", 2, 9);
        faulty("fold", 2, 4);
        faulty("fold row", 2, 5);
        faulty("fold count row", 2, 11);
        faulty("fold sum", 2, 8);
        faulty("fold sum where yes", 2, 9);
        faulty("fold count by row where yes", 2, 18);
        faulty("fold min(1,2)", 2, 10);
        faulty("fold abs 1", 2, 5);
        faulty("set", 2, 3);
        faulty("set row := 1", 2, 4);
        faulty("set $4", 2, 6);
        faulty("set $4 = 1", 2, 7);
        faulty("set $4 : = 1", 2, 7);
        faulty("set $4[1] := 1", 2, 6);
        faulty("set $4 := 1 by row", 2, 12);
        faulty("find abs 1", 2, 9);
        faulty("find abs(1,2)", 2, 10);
        faulty("find abs()", 2, 9);
        faulty("find min(1)", 2, 10);
        faulty("find min(1,2,3)", 2, 12);
        faulty("find max(1 2)", 2, 11);
        faulty("find sum(1)", 2, 5);
        faulty("find +1=1", 2, 5);
        faulty("find 1+*1", 2, 7);
        faulty("find $02=1", 2, 7);
        faulty("find $12=1", 4, 7);
        faulty("find (yes?1) = 1", 2, 11);
        faulty("find (yes?1:=1)=1", 2, 11);
        faulty("find yes ?", 2, 9);
        faulty("find 1 <> 2", 2, 8);
    }

    private static String times(String s, int n) {
        return s.repeat(n);
    }

    private static void tooDeep() {
        good("find " + times("(", 12) + "yes" + times(")", 12));
        faulty("find " + times("(", 13) + "yes" + times(")", 13), 3, 5 + 12);
        good("find 1=" + times("-", 12) + "1");
        faulty("find 1=" + times("-", 13) + "1", 3, 7 + 12);
        good("find 1=" + times("~-", 6) + "1");
        faulty("find 1=" + times("~-", 7) + "1", 3, 7 + 12);
        good("find " + times("not ", 12) + "yes");
        faulty("find " + times("not ", 13) + "yes", 3, 5 + 4 * 12);
        good("find 1=" + times("$4[", 12) + "1" + times("]", 12));
        faulty("find 1=" + times("$4[", 13) + "1" + times("]", 13), 3, 7 + 3 * 12 + 2);
        good("find 1=" + times("abs(", 12) + "1" + times(")", 12));
        faulty("find 1=" + times("abs(", 13) + "1" + times(")", 13), 3, 7 + 4 * 12 + 3);
        good("fold sum " + times("yes?1:", 12) + "1");
        faulty("fold sum " + times("yes?1:", 13) + "1", 3, 9 + 6 * 12 + 3);
        good("fold sum " + times("yes?", 12) + "1" + times(":1", 12));
        faulty("fold sum " + times("yes?", 13) + "1" + times(":1", 13), 3, 9 + 4 * 12 + 3);
        good("fold sum " + times("(", 11) + "yes?1:2" + times(")", 11));
        good("fold sum " + times("(", 11) + "yes" + times(")", 11) + "?" + times("(", 11) + "1" + times(")", 11) + ":"
            + times("(", 11) + "2" + times(")", 11) + "+" + times("(", 11) + "2" + times(")", 11));
        faulty("fold sum " + times("(", 12) + "yes?1:2" + times(")", 12), 3, 9 + 12 + 3);
        faulty("fold sum " + times("(", 12) + "1?1:2" + times(")", 12), 3, 9 + 12 + 1);
        good("find " + times("1=1 and not ", 20) + "no");
        good("fold sum -1" + times("+-1", 60));
        good("find not not(yes and not(-(-(-(-1)))=1))");
        faulty("find not not(yes and not(-(-(-(--1)))=1))", 3, 32);
        good("find not not(yes and not(-(-(-(-1)))=1)) or not((((((((((-1))))))))))=1");
        faulty("find not not(yes and not(-(-(-(-1)))=1)) or not(((((((((((-1)))))))))))=1", 3, 58);
        good("find 1=" + times("1-", 40) + "1");
    }

    private static void unfit() {
        for (String sign : new String[] {"+", "-", "*", "/", "%"}) {
            faulty("find 1=1" + sign + "yes", 4, 8);
            faulty("find 1=yes" + sign + "1", 4, 10);
            good("find 1=$5" + sign + "$6");
        }
        for (String sign : new String[] {"<", ">", "<=", ">="}) {
            faulty("find yes" + sign + "no", 4, 8);
            faulty("find yes" + sign + "1", 4, 8);
            good("find 1" + sign + "1.5");
        }
        for (String sign : new String[] {"=", "!="}) {
            faulty("find yes" + sign + "1", 4, 8);
            faulty("find 1" + sign + "yes", 4, 6);
            good("find yes" + sign + "no");
            good("find $6" + sign + "$5");
        }
        for (String sign : new String[] {"&", "|", "^"}) {
            faulty("find yes" + sign + "1", 4, 8);
            faulty("find 1=1" + sign + "1.5", 4, 8);
            faulty("find 1=$6" + sign + "1", 4, 9);
            good("find yes" + sign + "no");
            good("find 1=1" + sign + "$5");
        }
        for (String sign : new String[] {"<<", ">>", ">>>"}) {
            faulty("find 1=1" + sign + "1.5", 4, 8);
            faulty("find 1=1.5" + sign + "1", 4, 10);
            faulty("find 1=yes" + sign + "1", 4, 10);
            faulty("find 1=1" + sign + "$7", 4, 8);
            good("find 1=1" + sign + "$5");
        }
        faulty("find 1 or yes", 4, 7);
        faulty("find yes or 1", 4, 9);
        faulty("find yes and 1 and no", 4, 9);
        faulty("find yes and no and 1", 4, 16);
        faulty("find not 1", 4, 5);
        faulty("find yes and not 1", 4, 13);
        faulty("find not not not 1+1", 4, 13);
        faulty("fold sum 1 ? 2 : 3", 4, 11);
        faulty("fold sum yes ? 2 : no", 4, 17);
        faulty("fold sum yes ? no : 2", 4, 18);
        faulty("find 1=-yes", 4, 7);
        faulty("find 1=~yes", 4, 7);
        faulty("find 1=~1.5", 4, 7);
        faulty("find 1=~$6", 4, 7);
        good("find 1=-$6 or 1=~$5");
        faulty("find $0[yes]", 4, 7);
        faulty("find $0[1.5]", 4, 7);
        faulty("find $0[$5]", 4, 7);
        good("find $0[$3]");
        for (String fn : new String[] {"abs", "floor", "ceil", "rint", "sign", "byte", "short", "char", "int", "long",
            "float", "double"}) {
            faulty("find 1=" + fn + "(yes)", 4, 7 + fn.length());
            good("find 1=" + fn + "(1) or 1=" + fn + "($5) or 1=" + fn + "($6) or 1=" + fn + "($7)");
        }
        faulty("find 1=min(yes,1)", 4, 10);
        faulty("find 1=max (1,yes)", 4, 11);
        faulty("find 1", 4, 6);
        faulty("find 1  ", 4, 8);
        faulty("find 1 order row", 4, 7);
        faulty("find 1 )", 4, 7);
        faulty("find 1 ? 2 : 3", 4, 7);
        faulty("find yes order yes", 4, 18);
        faulty("find yes order yes down", 4, 19);
        faulty("fold sum yes", 4, 12);
        faulty("fold max yes where no", 4, 13);
        faulty("fold mean $0 by row", 4, 13);
        faulty("fold count where 1 by row", 4, 19);
        faulty("fold count by 1.5", 4, 17);
        faulty("fold count by yes ", 4, 18);
        faulty("fold count by $6 )", 4, 17);
        good("fold count by $5");
        faulty("set $0 := 1", 4, 7);
        faulty("set $4 := yes where no", 4, 7);
        faulty("set $4 := 1 where 1", 4, 19);
        good("set $0 := yes where no");
        for (int c = 1; c < 8; c++) {
            good("set $" + c + " := $1 where yes");
            good("set $" + c + " := $5");
            good("set $" + c + " := $6");
            good("set $" + c + " := $7");
        }
    }

    private static void missing() {
        faulty("find $8", 5, 5);
        faulty("find yes or $9[1]=2", 5, 12);
        faulty("set $8 := 1", 5, 4);
        faulty("find $0[$9]", 5, 8);
        faulty("find $8 @", 5, 5);
        faulty("set $8 @", 5, 4);
        faulty("find $8[yes]", 5, 5);
    }

    private static void tooLong() {
        String two = "1" + times("+1", 99);
        good("find " + "1=1");
        QueryClasses x = made();
        CHECK.due("just 199", Check.query(x, "fold max " + two), 0);
        CHECK.due("acts", x.acts(0, 1), 199);
        CHECK.due("just 200", Check.query(x, "fold max -" + two), 1);
        CHECK.due("acts", x.acts(1, 1), 200);
        faulty("fold max --" + two, 6, 11 + two.length());
        faulty("fold max (-" + two + ")+1.5", 6, 16 + two.length());
        good("fold max yes?(" + times("1+", 97) + "1):1.5");
        faulty("fold max yes?(-" + times("1+", 97) + "1):1.5", 6, 15 + 195 + 5);
        faulty("fold max --" + two + "  ", 6, 13 + two.length());
        faulty("fold max " + times("1+", 195) + "1", 6, 400);
        faulty("find 1=" + two, 6, 7 + two.length());
        faulty("fold count by --" + two, 6, 16 + two.length());
        good("fold max -" + two + " where 2<" + times("1+", 90) + "1");
        faulty("fold max --" + two + ")", 2, 11 + two.length());
        // Each ( here has four more on the PILE.
        String four = times("1|1<<1+1*(", 5);
        good("fold max " + four + "1|1<<1+1" + times(")", 5));
        x = made();
        CHECK.due("a pile of 24", Check.query(x, "fold max " + four + "1|1<<1+1" + times(")", 5)), 0);
        faulty("fold max " + four + "1|1<<1+1*1*(1-1)" + times(")", 5), 6, 9 + 50 + 16 + 5);
        faulty("set $4 := " + four + "1|1<<1+1*1" + times(")", 5), 6, 10 + 50 + 10 + 5);
        good("set $4 := " + four + "1|1<<1" + times(")", 5));
        good("set $4 := " + four + "1|1<<(yes?1:2)" + times(")", 5) + " where yes");
        good("fold max " + four + "1|1<<1+(yes and no or yes?1:2)" + times(")", 5));
    }

    /** With 23 below them these need no more than one place on the PILE; with 24 they do. */
    private static void piles() {
        String pending = "";
        for (int i = 0; i < 5; i++) {
            pending += "1|1<<1+1*(";
        }
        String[] leaves = {"1", "row", "$4", "$4[1]", "-1", "~1", "byte(1)", "(yes?1:2)", "(yes and no or not no?1:2)",
            "abs(1)", "int(floor(1))", "int(1.5)", "(yes?int(1.5):2)", "($0?1:2)", "(not $0[1]?1:2)"};
        String behind = pending.substring(1);
        for (String leaf : leaves) {
            good("fold max " + pending + "1|1<<1+" + leaf + ")))))");
            String more = pending + "1|1<<1+1*" + leaf + ")))))";
            faulty("fold max " + more, 6, 9 + more.length());
            // What lies below all else counts for one as well.
            good("fold max " + leaf + behind + "1|1<<1+1)))))");
            more = leaf + behind + "1|1<<1+1*1)))))";
            faulty("fold max " + more, 6, 9 + more.length());
        }
        String[] twos = {"1+1", "min(1,1)", "(1<1?1:2)", "(1=1 or 1=1?1:2)", "$4[1+1]"};
        for (String two : twos) {
            good("fold max " + pending + "1|1<<(" + two + "))))))");
            String more = pending + "1|1<<1+(" + two + "))))))";
            faulty("fold max " + more, 6, 9 + more.length());
            more = "(" + two + ")" + behind + "1|1<<1+1*1)))))";
            faulty("fold max " + more, 6, 9 + more.length());
        }
        good("set $4 := 1");
        good("fold max " + pending + "1|1<<1+1))))) by " + pending + "1|1<<1+1)))))");
    }

    /** The FAULT that is met first as the text is read is told. */
    private static void whichIsFirst() {
        faulty("find 1+yes@", 1, 10);
        faulty("find 1+yes @", 1, 11);
        faulty("find 1+yes )", 4, 6);
        faulty("find 1+yes", 4, 6);
        faulty("find yes or 1 @", 1, 14);
        faulty("find $0[1.5 @", 1, 12);
        faulty("find $0[1.5 )", 2, 12);
        faulty("find $0[1.5] @", 1, 13);
        faulty("find $0[1.5] )", 4, 7);
        faulty("find 1=abs(yes ]", 2, 15);
        faulty("find 1=abs(yes) @", 1, 16);
        faulty("find 1=abs(yes) )", 4, 10);
        faulty("find 1=min(yes, )", 2, 16);
        faulty("fold sum 1 ? @", 4, 11);
        faulty("fold sum 1 ?", 4, 11);
        faulty("fold sum yes ? @", 1, 15);
        faulty("fold sum yes ? 1 : no @", 1, 22);
        faulty("fold sum yes ? 1 : no )", 4, 17);
        faulty("find 1 @", 1, 7);
        faulty("find ) @", 2, 5);
        faulty("find " + times("(", 13) + "@", 3, 17);
        faulty("find " + times("(", 12) + "@", 1, 17);
        faulty("find " + times("(", 12) + "- @", 3, 17);
        faulty("find not 1 @", 1, 11);
        faulty("find yes and 1 or $8", 4, 9);
        faulty("find 1 and $8", 5, 11);
        faulty("find 1 < 2 and yes + $9", 5, 21);
        faulty("set $4 := yes where @", 4, 7);
        faulty("set $4 := yes @", 1, 14);
        faulty("set $4 @", 1, 7);
        faulty("fold sum yes by @", 4, 13);
        faulty("find 2147483648 or )", 1, 5);
    }

    private static void fine() {
        good("find yes");
        good("find\nyes\n");
        good("find$0or$0and not$0order$4first3");
        good("  find   yes  order  1.5  down  first  0  ");
        good("find yes order yes?1:2 down first 2147483647");
        good("find (yes?no:yes)");
        good("find yes and no or yes and not no or not not yes");
        good("find 1<2 and 3>2 and 1<=2 and 2>=1 and 1!=2");
        good("find yes=no");
        good("fold count");
        good("fold count where yes by row");
        good("fold min min(1,2)");
        good("fold sum sign(-1)+abs(-1)");
        good("fold mean $1 by $1>>1");
        good("set $0 := $0 or row=1");
        good("set $7 := - -1");
        good("find 1>>>1>>1<<1=1");
        good("find $4[$4[$4[row]]]=1");
    }
}
