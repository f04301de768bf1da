/** Promises 13 and 14: the ACTS that a text becomes. */
public final class CodeTest {
    private static final Check CHECK = new Check("CodeTest");

    public static void main(String[] args) {
        leaves();
        joints();
        conversions();
        functions();
        jumps();
        conversionsAndJumps();
        forms();
        reals();
        wrongAsked();
        CHECK.close();
    }

    private static QueryClasses made() {
        QueryClasses x = new QueryClasses();
        for (int lane = 0; lane < 8; lane++) {
            x.column(lane, lane, 4);
        }
        return x;
    }

    /** The ACTS of a PART, those that have a number with it. */
    private static String listing(QueryClasses x, int q, int part) {
        StringBuilder s = new StringBuilder();
        for (int i = 0; i < x.acts(q, part); i++) {
            int op = x.act(q, part, i, 0);
            boolean has = op == 1 || op == 2 || op >= 10 && op < 30 || op >= 1800 && op <= 1802;
            s.append(i == 0 ? "" : " ").append(op);
            if (has || x.act(q, part, i, 1) != 0) {
                s.append(':').append(x.act(q, part, i, 1));
            }
        }
        return s.toString();
    }

    private static void code(String text, String part0, String part1, String part2) {
        QueryClasses x = made();
        int q = Check.query(x, text);
        CHECK.due("query of '" + text + "'", q, 0);
        String[] wanted = {part0, part1, part2};
        for (int part = 0; part < 3; part++) {
            String got = listing(x, 0, part);
            if (!got.equals(wanted[part])) {
                System.out.println("part " + part + " of '" + text + "': " + got + ", due is " + wanted[part]);
            }
            CHECK.due("part " + part + " of '" + text + "'", got.equals(wanted[part]) ? 1 : 0, 1);
        }
    }

    /** The code of a sum, by way of a fold that leaves its KIND. */
    private static void sum(String text, String wanted) {
        code("fold max " + text, "", wanted, "");
    }

    private static void truth(String text, String wanted) {
        code("find " + text, wanted, "", "");
    }

    private static void leaves() {
        sum("7", "1:7");
        sum("2147483647", "1:2147483647");
        sum("row", "3");
        sum("1.5", "2:0");
        truth("yes", "1:1");
        truth("no", "1:0");
        truth("$0", "3 10:0");
        for (int c = 1; c < 8; c++) {
            sum("$" + c, "3 1" + c + ":" + c);
        }
        sum("$4[2]", "1:2 14:4");
        sum("$7[$1[row+1]]", "3 1:1 101 11:1 17:7");
        sum("((5))", "1:5");
        sum("-5", "1:5 1201");
        sum("--$5", "3 15:5 1202 1202");
        sum("-$6", "3 16:6 1203");
        sum("-1.5", "2:0 1204");
        sum("~1", "1:1 1301");
        sum("~$5", "3 15:5 1302");
        truth("not yes", "1:1 1810");
    }

    private static void joints() {
        String[] signs = {"+", "-", "*", "/", "%"};
        for (int i = 0; i < signs.length; i++) {
            int base = 100 * (i + 1);
            sum("1" + signs[i] + "2", "1:1 1:2 " + (base + 1));
            sum("$5" + signs[i] + "$5", "3 15:5 3 15:5 " + (base + 2));
            sum("$6" + signs[i] + "$6", "3 16:6 3 16:6 " + (base + 3));
            sum("$7" + signs[i] + "$7", "3 17:7 3 17:7 " + (base + 4));
        }
        String[] mixes = {"&", "|", "^"};
        for (int i = 0; i < mixes.length; i++) {
            int base = 600 + 100 * i;
            sum("1" + mixes[i] + "2", "1:1 1:2 " + (base + 1));
            sum("1" + mixes[i] + "$5", "1:1 1612 3 15:5 " + (base + 2));
            truth("yes" + mixes[i] + "no", "1:1 1:0 " + (base + 1));
        }
        String[] shifts = {"<<", ">>", ">>>"};
        for (int i = 0; i < shifts.length; i++) {
            int base = 900 + 100 * i;
            sum("1" + shifts[i] + "2", "1:1 1:2 " + (base + 1));
            sum("1" + shifts[i] + "$5", "1:1 3 15:5 1621 " + (base + 1));
            sum("$5" + shifts[i] + "1", "3 15:5 1:1 " + (base + 2));
            sum("$5" + shifts[i] + "$5", "3 15:5 3 15:5 1621 " + (base + 2));
        }
        String[] tests = {"=", "!=", "<", ">", "<=", ">="};
        for (int r = 0; r < tests.length; r++) {
            truth("1" + tests[r] + "2", "1:1 1:2 1401 150" + r);
            truth("1" + tests[r] + "$5", "1:1 1612 3 15:5 1402 150" + r);
            truth("$6" + tests[r] + "1", "3 16:6 1:1 1613 1403 150" + r);
            truth("1.5" + tests[r] + "$6", "2:0 3 16:6 1634 1404 150" + r);
        }
        truth("yes=no", "1:1 1:0 1401 1500");
        truth("$0!=no", "3 10:0 1:0 1401 1501");
        sum("1-2-3", "1:1 1:2 201 1:3 201");
        sum("1-(2-3)", "1:1 1:2 1:3 201 201");
        sum("1+2*3", "1:1 1:2 1:3 301 101");
        sum("1*2+3", "1:1 1:2 301 1:3 101");
        sum("-1*2", "1:1 1201 1:2 301");
        sum("1*-2", "1:1 1:2 1201 301");
        sum("1|2<<3+4*5", "1:1 1:2 1:3 1:4 1:5 301 101 901 701");
        sum("5*4+3<<2|1", "1:5 1:4 301 1:3 101 1:2 901 1:1 701");
        sum("1&2|3^4", "1:1 1:2 601 1:3 701 1:4 801");
        truth("1&2=3|4", "1:1 1:2 601 1:3 1:4 701 1401 1500");
    }

    private static void conversions() {
        sum("1+$5", "1:1 1612 3 15:5 102");
        sum("$5+1", "3 15:5 1:1 1612 102");
        sum("1+$6", "1:1 1613 3 16:6 103");
        sum("1+1.5", "1:1 1614 2:0 104");
        sum("$5+$6", "3 15:5 1623 3 16:6 103");
        sum("$5*1.5", "3 15:5 1624 2:0 304");
        sum("$6*1.5", "3 16:6 1634 2:0 304");
        sum("1.5*$6", "2:0 3 16:6 1634 304");
        sum("1+2+1.5", "1:1 1:2 101 1614 2:0 104");
        sum("1+2*1.5", "1:1 1614 1:2 1614 2:0 304 104");
        String[] casts = {"int", "long", "float", "double"};
        int[] lanes = {4, 5, 6, 7};
        for (int from = 0; from < 4; from++) {
            for (int to = 0; to < 4; to++) {
                String act = from == to ? "" : " 16" + (from + 1) + (to + 1);
                String cell = "$" + lanes[from];
                sum(casts[to] + "(" + cell + ")", "3 1" + lanes[from] + ":" + lanes[from] + act);
            }
        }
        String[] narrow = {"byte", "short", "char"};
        for (int i = 0; i < 3; i++) {
            sum(narrow[i] + "(1)", "1:1 165" + (i + 1));
            sum(narrow[i] + "($5)", "3 15:5 1621 165" + (i + 1));
            sum(narrow[i] + "($6)", "3 16:6 1631 165" + (i + 1));
            sum(narrow[i] + "($7)", "3 17:7 1641 165" + (i + 1));
            sum(narrow[i] + "($" + (i + 1) + ")", "3 1" + (i + 1) + ":" + (i + 1) + " 165" + (i + 1));
        }
    }

    private static void functions() {
        sum("abs(1)", "1:1 1701");
        sum("abs($5)", "3 15:5 1702");
        sum("abs($6)", "3 16:6 1703");
        sum("abs($7)", "3 17:7 1704");
        String[] rounders = {"floor", "ceil", "rint"};
        for (int i = 0; i < 3; i++) {
            sum(rounders[i] + "(1)", "1:1 1614 17" + (i + 1) + "4");
            sum(rounders[i] + "($5)", "3 15:5 1624 17" + (i + 1) + "4");
            sum(rounders[i] + "($6)", "3 16:6 1634 17" + (i + 1) + "4");
            sum(rounders[i] + "($7)", "3 17:7 17" + (i + 1) + "4");
        }
        sum("sign(1)", "1:1 1614 1744");
        sum("sign($5)", "3 15:5 1624 1744");
        sum("sign($6)", "3 16:6 1743");
        sum("sign($7)", "3 17:7 1744");
        sum("min(1,2)", "1:1 1:2 1751");
        sum("max(1,$5)", "1:1 1612 3 15:5 1762");
        sum("min($6,$5)", "3 16:6 3 15:5 1623 1753");
        sum("max(1,1.5)", "1:1 1614 2:0 1764");
    }

    private static void jumps() {
        truth("yes and no", "1:1 1800:4 1:0 1802:5 1:0");
        truth("yes or no", "1:1 1801:4 1:0 1802:5 1:1");
        truth("yes or no or yes", "1:1 1801:4 1:0 1802:5 1:1 1801:8 1:1 1802:9 1:1");
        truth("yes or no and yes", "1:1 1801:8 1:0 1800:6 1:1 1802:7 1:0 1802:9 1:1");
        truth("not yes and not no", "1:1 1810 1800:6 1:0 1810 1802:7 1:0");
        truth("(yes?no:yes)", "1:1 1800:4 1:0 1802:5 1:1");
        sum("yes?1:2", "1:1 1800:4 1:1 1802:5 1:2");
        sum("yes?1:no?2:3", "1:1 1800:4 1:1 1802:9 1:0 1800:8 1:2 1802:9 1:3");
        sum("yes?no?1:2:3", "1:1 1800:8 1:0 1800:6 1:1 1802:7 1:2 1802:9 1:3");
        sum("1+(yes?1:2)", "1:1 1:1 1800:5 1:1 1802:6 1:2 101");
    }

    private static void conversionsAndJumps() {
        sum("yes?1:1.5", "1:1 1800:5 1:1 1614 1802:6 2:0");
        sum("yes?1.5:1", "1:1 1800:4 2:0 1802:6 1:1 1614");
        sum("yes?$5:$6", "1:1 1800:6 3 15:5 1623 1802:8 3 16:6");
        // The way that jumps over y comes to the conversion of the whole, too.
        sum("(yes?1:2)+1.5", "1:1 1800:4 1:1 1802:5 1:2 1614 2:0 104");
        sum("1.5+(yes?1:2)", "2:0 1:1 1800:5 1:1 1802:6 1:2 1614 104");
        sum("1+(yes?1.5:2.5)", "1:1 1614 1:1 1800:6 2:0 1802:7 2:1 104");
        sum("yes?(no?1:2):1.5", "1:1 1800:9 1:0 1800:6 1:1 1802:7 1:2 1614 1802:10 2:0");
        sum("yes?1:(no?1:1.5)", "1:1 1800:5 1:1 1614 1802:11 1:0 1800:10 1:1 1614 1802:11 2:0");
        sum("min((yes?1:2),(no?1.5:3))", "1:1 1800:4 1:1 1802:5 1:2 1614 1:0 1800:10 2:0 1802:12 1:3 1614 1754");
    }

    private static void forms() {
        code("find $0 order 1", "3 10:0", "1:1 1614", "");
        code("find $0 order $5 down first 3", "3 10:0", "3 15:5 1624", "");
        code("find $0 order $6 first 3", "3 10:0", "3 16:6 1634", "");
        code("find $0 order $7", "3 10:0", "3 17:7", "");
        code("fold count", "", "", "");
        code("fold count where $0 by $5", "3 10:0", "", "3 15:5");
        code("fold count by row&1", "", "", "3 1:1 601");
        code("fold sum 1 by row", "", "1:1 1612", "3");
        code("fold sum $5", "", "3 15:5", "");
        code("fold sum $6", "", "3 16:6 1634", "");
        code("fold sum 1.5", "", "2:0", "");
        code("fold mean 1", "", "1:1 1614", "");
        code("fold mean $5", "", "3 15:5 1624", "");
        code("fold mean $6 where yes", "1:1", "3 16:6 1634", "");
        code("fold min $6", "", "3 16:6", "");
        code("fold max 1", "", "1:1", "");
        String[] fromI = {"", " 1651", " 1652", " 1653", "", " 1612", " 1613", " 1614"};
        String[] fromJ = {"", " 1621 1651", " 1621 1652", " 1621 1653", " 1621", "", " 1623", " 1624"};
        String[] fromF = {"", " 1631 1651", " 1631 1652", " 1631 1653", " 1631", " 1632", "", " 1634"};
        String[] fromD = {"", " 1641 1651", " 1641 1652", " 1641 1653", " 1641", " 1642", " 1643", ""};
        for (int c = 1; c < 8; c++) {
            String store = " 2" + c + ":" + c;
            code("set $" + c + " := 1", "", "3 1:1" + fromI[c] + store, "");
            code("set $" + c + " := $5", "", "3 3 15:5" + fromJ[c] + store, "");
            code("set $" + c + " := $6 where no", "1:0", "3 3 16:6" + fromF[c] + store, "");
            code("set $" + c + " := $7", "", "3 3 17:7" + fromD[c] + store, "");
        }
        code("set $0 := not $0", "", "3 3 10:0 1810 20:0", "");
    }

    private static void reals() {
        code("find 1.5<2.5 order 3.5", "2:0 2:1 1404 1502", "2:2", "");
        code("fold sum 1.5 where 2.5<3.5 by int(4.5)", "2:1 2:2 1404 1502", "2:0", "2:3 1641");
        code("fold sum 1.5+1.5", "", "2:0 2:1 104", "");
        QueryClasses x = new QueryClasses();
        x.objects(1);
        String[] texts = {"0.1", "123456.789", "0.00000001", "1.0", "00.50", "99999999.9", "3.14159265", "0.3"};
        for (int i = 0; i < texts.length; i++) {
            int q = Check.query(x, "fold max " + texts[i]);
            x.run(q);
            int after = texts[i].length() - 1 - texts[i].indexOf('.');
            double want = Long.parseLong(texts[i].replace(".", "")) / Math.pow(10, after);
            CHECK.due("REAL " + texts[i], x.value(0), Double.doubleToRawLongBits(want));
        }
        StringBuilder many = new StringBuilder("find no order 0.0");
        for (int i = 1; i < 90; i++) {
            many.append("+").append(i % 10).append(".5");
        }
        int q = Check.query(x, many.toString());
        CHECK.due("90 REALS", x.act(q, 1, 177, 1), 89);
    }

    private static void wrongAsked() {
        QueryClasses x = made();
        Check.query(x, "find $0 order 5");
        CHECK.due("acts of no query", x.acts(1, 0), QueryClasses.BAD);
        CHECK.due("acts of query -1", x.acts(-1, 0), QueryClasses.BAD);
        CHECK.due("acts of part 3", x.acts(0, 3), QueryClasses.BAD);
        CHECK.due("acts of part -1", x.acts(0, -1), QueryClasses.BAD);
        CHECK.due("acts of part 2", x.acts(0, 2), 0);
        int[][] wrong = {{1, 0, 0, 0}, {-1, 0, 0, 0}, {0, 3, 0, 0}, {0, -1, 0, 0}, {0, 0, 2, 0}, {0, 0, -1, 0}, {0, 2, 0, 0},
            {0, 0, 0, 2}, {0, 0, 0, -1}};
        for (int[] w : wrong) {
            CHECK.due("wrong act", x.act(w[0], w[1], w[2], w[3]), -2);
        }
        CHECK.due("an act", x.act(0, 1, 0, 0), 1);
        CHECK.due("its number", x.act(0, 1, 0, 1), 5);
        CHECK.due("none", x.act(0, 1, 1, 1), 0);
        x.clear();
        CHECK.due("acts after clear", x.acts(0, 0), QueryClasses.BAD);
        CHECK.due("act after clear", x.act(0, 0, 0, 0), -2);
    }
}
