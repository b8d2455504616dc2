/** What SUMS and TESTS come to, and what LAWS tell, at their edges: Term II, promises 3, 8, 14 and 18. */
public final class LawEdgesTest {
    private static final String BILLION = "1000*1000*1000";

    private LawEdgesTest() {
    }

    public static void main(String[] args) {
        beyond();
        divided();
        onlyIfItMatters();
        signsAndJoins();
        longRowsOfTests();
        allWaiting();
        brokenSpreads();
        ledNearest();
        takesNearest();
        lastThatHolds();
        bitesAndBars();
        places();
        offOfItsOwn();
        farWords();
        askedOfACell();
        inForce();
        Due.end("LawEdgesTest");
    }

    /** Whether the TEST is so; a BROKEN one is not, nor is "not" of it. */
    private static int so(String test) {
        return Due.under("bites if " + test).at(7, 3);
    }

    private static void broken(String test) {
        Due.is(test, so(test), 0);
        Due.is("not (" + test + ")", so("not (" + test + ")"), 0);
    }

    private static void comesTo(String sum, String due) {
        Due.is(sum + " = " + due, so(sum + " = " + due), 1);
    }

    private static void brokenSum(String sum) {
        broken(sum + " = 0");
        broken("0 = " + sum);
        LedgerHounds x = Due.under("takes 3; takes " + sum + "; leads 1; leads " + sum);
        x.clerk(1);
        Due.is("takes " + sum, x.asks(0, 0, 0), 3);
        Due.is("leads " + sum, x.at(0, 2), 1);
    }

    /** "Beyond 1,000,000,000 either way ... a SUM, a TEST is BROKEN". */
    private static void beyond() {
        comesTo(BILLION, "1000*1000*1000");
        comesTo("999999 * 1000 + 999 + 1".replace("999999", "[999*1000+999]"), BILLION);
        comesTo("0-" + BILLION, "0-" + BILLION);
        comesTo(BILLION + "/1000/1000", "1000");
        comesTo(BILLION + "-1-999", "[1000*1000-1]*1000");
        comesTo("[0-" + BILLION + "]/[0-1000]", "1000*1000");
        brokenSum(BILLION + "+1");
        brokenSum("1+" + BILLION);
        brokenSum("0-" + BILLION + "-1");
        brokenSum("0-1-" + BILLION);
        brokenSum("[0-" + BILLION + "]+[0-1]");
        brokenSum(BILLION + "-[0-1]");
        brokenSum("[" + BILLION + "/1000+1]*1000");
        brokenSum("[0-" + BILLION + "/1000-1]*1000");
        brokenSum(BILLION + "*1000");
        brokenSum(BILLION + "*[" + BILLION + "]");
        brokenSum("[" + BILLION + "]*[0-" + BILLION + "]");
        brokenSum(BILLION + "*5*0");
        brokenSum("1-1+" + BILLION + "+1-2");
        brokenSum("[" + BILLION + "+1]-2");
        brokenSum("[" + BILLION + "]*4-" + BILLION + "*4");
        Due.is("a TEST between them", so("0-" + BILLION + " < " + BILLION), 1);
        Due.is("a TEST between them", so(BILLION + " > 0-" + BILLION), 1);
    }

    /** "divided by 0 (/ cut towards 0, % what is left then)". */
    private static void divided() {
        brokenSum("1/0");
        brokenSum("0/0");
        brokenSum("1%0");
        brokenSum("0%0");
        brokenSum("5/[3-3]");
        brokenSum("5%[3-3]");
        brokenSum("5/cell*0+5/0");
        brokenSum("7/[1/2]");
        comesTo("7/2", "3");
        comesTo("[0-7]/2", "0-3");
        comesTo("7/[0-2]", "0-3");
        comesTo("[0-7]/[0-2]", "3");
        comesTo("7%2", "1");
        comesTo("[0-7]%2", "0-1");
        comesTo("7%[0-2]", "1");
        comesTo("[0-7]%[0-2]", "0-1");
        comesTo("1/2", "0");
        comesTo("[0-1]/2", "0");
        comesTo("6%3", "0");
        comesTo("0/5", "0");
        comesTo("0%5", "0");
        comesTo("5/1", "5");
        comesTo("5/[0-1]", "0-5");
        comesTo("5%1", "0");
    }

    /** ""or", "and" ask what stands behind only if it can still matter". */
    private static void onlyIfItMatters() {
        Due.is("so, or BROKEN", so("1=1 or 1/0=1"), 1);
        Due.is("not so, and BROKEN", so("not (1=2 and 1/0=1)"), 1);
        broken("1=2 or 1/0=1");
        broken("1=1 and 1/0=1");
        broken("1/0=1 or 1=1");
        broken("1/0=1 and 1=2");
        broken("not 1/0=1");
        broken("not not 1/0=1");
        Due.is("three, the first so", so("1=1 or 1/0=1 or 1/0=2"), 1);
        Due.is("three, the second so", so("1=2 or 1=1 or 1/0=2"), 1);
        broken("1=2 or 1=3 or 1/0=2");
        Due.is("three, the first not so", so("not (1=2 and 1/0=1 and 1/0=2)"), 1);
        Due.is("three, the second not so", so("not (1=1 and 1=2 and 1/0=2)"), 1);
        broken("1=1 and 2=2 and 1/0=2");
        Due.is("and within or", so("1=2 and 1/0=1 or 1=1"), 1);
        Due.is("or, all of the and behind it", so("1=1 or 1/0=1 and 1/0=2"), 1);
        Due.is("brackets", so("(1=1 or 1/0=1) and not (1=2 and 1/0=1)"), 1);
        broken("(1=1 or 1/0=1) and (1=1 and 1/0=1)");
    }

    /** "neither that nor its SUM is BROKEN": a CLAUSE that does not HOLD hinders no other one. */
    private static void brokenSpreads() {
        LedgerHounds x = Due.under("bites if 1/0=1; bites if cell=3; bars if 1/0=1; bars if cell=4; leads 4; leads 3 if 1/0=1; leads 1/0;"
                + "takes 77; takes 1 if 1/0=1; takes 1/0 if 1=1");
        x.clerk(0);
        Due.is("bites", x.at(3, 3) * 10 + x.at(4, 3), 10);
        Due.is("bars", x.asks(0, 4, 1) * 10 + x.asks(0, 3, 1), 10);
        Due.is("leads", x.at(0, 2), 4);
        Due.is("takes", x.asks(0, 0, 0), 77);
        x = Due.under("leads 1/0; takes 1/0; bites if 1/0=0; bars if 1/0=0");
        x.clerk(0);
        Due.is("2 without", x.at(0, 2), 2);
        Due.is("10 without", x.asks(0, 0, 0), 10);
        Due.is("does not bite", x.at(0, 3), 0);
        Due.is("is not barred", x.asks(0, 0, 1), 0);
    }

    /** "0 .. 4 (else the nearest), 2 without". */
    private static void ledNearest() {
        String[] sums = {"0-" + BILLION, "0-1", "0", "1", "2", "3", "4", "5", "1000", BILLION};
        int[] due = {0, 0, 0, 1, 2, 3, 4, 4, 4, 4};
        for (int i = 0; i < sums.length; i++) {
            Due.is("leads " + sums[i], Due.under("leads " + sums[i]).at(12, 2), due[i]);
        }
        Due.is("no LAW", new LedgerHounds().at(12, 2), 2);
        Due.is("no leads", Due.under("bites; bars; takes 1").at(12, 2), 2);
        Due.is("none that HOLDS", Due.under("leads 1 if 1=2; leads 3 if cell=11").at(12, 2), 2);
        int[] to = {12, 17, 13, 7, 11};
        for (int way = 0; way < 5; way++) {
            Due.is("way " + way, Due.under("leads " + way).hound(12, 1), to[way]);
        }
    }

    /** "a CLERK TAKES 0 .. 99 at most, 10 without". */
    private static void takesNearest() {
        String[] sums = {"0-" + BILLION, "0-1", "0", "1", "98", "99", "100", "1000", BILLION};
        int[] due = {0, 0, 0, 1, 98, 99, 99, 99, 99};
        for (int i = 0; i < sums.length; i++) {
            LedgerHounds x = Due.under("takes " + sums[i]);
            x.clerk(3);
            Due.is("takes " + sums[i], x.asks(0, 12, 0), due[i]);
        }
        String[] without = {"bites", "takes 5 if 1=2", "takes 5 if clerk=1", "leads 5; bars"};
        for (String law : without) {
            LedgerHounds x = Due.under(law);
            x.clerk(3);
            Due.is("10 without: " + law, x.asks(0, 12, 0), 10);
        }
    }

    /** "as the last "leads" that HOLDS tells". */
    private static void lastThatHolds() {
        LedgerHounds x = Due.under("leads 1; leads 3 if cell<20; leads 4 if cell<10; leads 0 if cell=0; takes 1; takes 2 if cell<20; takes 3 if cell=0");
        x.clerk(1);
        int[][] due = {{0, 0, 3}, {1, 4, 2}, {9, 4, 2}, {10, 3, 2}, {19, 3, 2}, {20, 1, 1}, {24, 1, 1}};
        for (int[] d : due) {
            Due.is("leads at " + d[0], x.at(d[0], 2), d[1]);
            Due.is("takes at " + d[0], x.asks(0, d[0], 0), d[2]);
        }
        Due.is("a later one that does not HOLD", Due.under("leads 3; leads 1 if 1=2").at(0, 2), 3);
        Due.is("the last of twelve", Due.under("leads 0" + ";leads 3".repeat(10) + ";leads 1").at(0, 2), 1);
        Due.is("the first of twelve", Due.under("leads 3" + ";leads 1 if 1=2".repeat(11)).at(0, 2), 3);
    }

    /** "it BITES there, if "bites" HOLDS"; "a CLERK is BARRED from a CELL, if "bars" HOLDS": any of them. */
    private static void bitesAndBars() {
        LedgerHounds x = Due.under("bites if cell=0; bites if cell=24; bars if clerk=0 and cell=0; bars if clerk=1 and cell=24; bites if 1=2; bars if 1=2");
        x.clerk(1);
        x.clerk(1);
        int[] cells = {0, 1, 23, 24};
        int[] bites = {1, 0, 0, 1};
        int[] bars = {10, 0, 0, 1};
        for (int i = 0; i < 4; i++) {
            Due.is("bites at " + cells[i], x.at(cells[i], 3), bites[i]);
            Due.is("bars at " + cells[i], x.asks(0, cells[i], 1) * 10 + x.asks(1, cells[i], 1), bars[i]);
        }
        x = Due.under("bites; bars");
        x.clerk(1);
        Due.is("without an if", x.at(0, 3) + x.at(24, 3) + x.asks(0, 0, 1) + x.asks(0, 24, 1), 4);
        x.force(-1);
        Due.is("without a LAW", x.at(0, 3) + x.at(24, 3) + x.asks(0, 0, 1) + x.asks(0, 24, 1), 0);
    }

    /** "5 times a ROW and a COLUMN, 0 .. 4 each". */
    private static void places() {
        LedgerHounds cell = Due.under("takes cell");
        LedgerHounds row = Due.under("takes row");
        LedgerHounds column = Due.under("takes column");
        cell.clerk(1);
        row.clerk(1);
        column.clerk(1);
        for (int c = 0; c < 25; c++) {
            Due.is("cell of " + c, cell.asks(0, c, 0), c);
            Due.is("row of " + c, row.asks(0, c, 0), c / 5);
            Due.is("column of " + c, column.asks(0, c, 0), c % 5);
        }
    }

    /** "off: by how much its ROW is OFF, across: its COLUMN": of each CELL its own. */
    private static void offOfItsOwn() {
        LedgerHounds x = Due.under("takes off; bars if across = 10 * column");
        x.clerk(1);
        for (int i = 0; i < 5; i++) {
            x.told(0, i, 10 + i);
            x.told(1, i, 10 * i);
        }
        for (int c = 0; c < 25; c++) {
            Due.is("off of " + c, x.asks(0, c, 0), 10 + c / 5);
            Due.is("across of " + c, x.asks(0, c, 1), 1);
        }
    }

    /** All ENTRIES, all sums told, DAY, MOOD and CLERK 4's KEEN as low or as high as can be. */
    private static LedgerHounds extremes(boolean high, int entry, int sum, String law) {
        LedgerHounds x = Due.under(law);
        for (int c = 0; c < 25; c++) {
            x.enter(c, entry);
        }
        for (int i = 0; i < 5; i++) {
            x.told(0, i, sum);
            x.told(1, i, sum);
            x.clerk(high ? 9 : 0);
        }
        x.terms(0, high ? 999 : 0);
        x.terms(2, high ? 9 : 0);
        return x;
    }

    /** The words at the ends of what they can come to. */
    private static void farWords() {
        String[] low = {"entry=999", "off=0-999*5", "across=0-999*5", "day=0", "mood=0", "keen=0"};
        String[] high = {"entry=0", "off=999*10+9", "across=999*10+9", "day=999", "mood=9", "keen=9"};
        for (int i = 0; i < low.length; i++) {
            for (int cell = 0; cell < 25; cell += 6) {
                Due.is(low[i] + " at " + cell, extremes(false, 999, 0, "bars if " + low[i]).asks(4, cell, 1), 1);
                Due.is(high[i] + " at " + cell, extremes(true, 0, 9999, "bars if " + high[i]).asks(0, cell, 1), 1);
            }
        }
        LedgerHounds x = extremes(true, 0, 0, "takes clerk*10+keen");
        for (int i = 0; i < 5; i++) {
            Due.is("clerk, keen of CLERK " + i, x.asks(i, 24, 0), 10 * i + 9);
        }
    }

    /** ""leads", "bites" are asked of a CELL (clerk, keen -1)". */
    private static void askedOfACell() {
        LedgerHounds x = Due.under("leads 3 if clerk=0-1 and keen=0-1; bites if clerk=0-1 and keen=0-1");
        Due.is("leads, no CLERKS", x.at(7, 2), 3);
        Due.is("bites, no CLERKS", x.at(7, 3), 1);
        for (int i = 0; i < 5; i++) {
            x.clerk(i);
        }
        Due.is("leads, five CLERKS", x.at(7, 2), 3);
        Due.is("bites, five CLERKS", x.at(7, 3), 1);
        x = Due.under("leads 3 if clerk>0-1 or keen>0-1; bites if clerk>0-1 or keen>0-1; takes clerk+50; bars if clerk<0 or keen<0");
        x.clerk(9);
        Due.is("leads", x.at(7, 2), 2);
        Due.is("bites", x.at(7, 3), 0);
        Due.is("takes is asked of a CLERK, too", x.asks(0, 7, 0), 50);
        Due.is("bars is asked of a CLERK, too", x.asks(0, 7, 1), 0);
    }

    /** "one is in FORCE (NONE at first: no CLAUSE)"; "which was". */
    private static void inForce() {
        LedgerHounds x = new LedgerHounds();
        Due.is("NONE at first", x.count(12), -1);
        Due.is("NONE may be, without any LAW", x.force(-1), -1);
        Due.is("no LAW 0", x.force(0), -2);
        Due.is("NONE still", x.count(12), -1);
        for (int i = 0; i < 6; i++) {
            Due.law(x, "leads " + (i < 5 ? i : 3) + "; bites if cell=" + i);
            Due.is("told, not in FORCE", x.at(0, 2), 2);
            Due.is("not told yet", x.force(i + 1), -2);
        }
        int was = -1;
        for (int i = 5; i >= 0; i--) {
            Due.is("which was", x.force(i), was);
            Due.is("count(12)", x.count(12), i);
            Due.is("leads", x.at(9, 2), i < 5 ? i : 3);
            Due.is("bites", x.at(i, 3), 1);
            was = i;
        }
        Due.is("the same again", x.force(0), 0);
        Due.is("LAW 6", x.force(6), -2);
        Due.is("the same still", x.count(12), 0);
        Due.is("NONE", x.force(-1), 0);
        Due.is("no CLAUSE", x.at(0, 2) * 10 + x.at(0, 3), 20);
        Due.is("NONE again", x.force(-1), -1);
        Due.is("that is not REFUSED", x.status(), 0);
    }

    private static void joined(String left, boolean a, String right, boolean b) {
        Due.is(left + " and " + right, so(left + " and " + right), a && b ? 1 : 0);
        Due.is(left + " or " + right, so(left + " or " + right), a || b ? 1 : 0);
        Due.is("not (" + left + " and " + right + ")", so("not (" + left + " and " + right + ")"), a && b ? 0 : 1);
        Due.is("not (" + left + " or " + right + ")", so("not (" + left + " or " + right + ")"), a || b ? 0 : 1);
    }

    /** "PLAIN: "not" PLAIN | ..."; each sign with the first number below, at and above the second. */
    private static void signsAndJoins() {
        String[] signs = {"<", ">", "="};
        for (int sign = 0; sign < 3; sign++) {
            for (int n = 1; n <= 3; n++) {
                boolean is = sign == 0 ? n < 2 : sign == 1 ? n > 2 : n == 2;
                String test = n + signs[sign] + 2;
                Due.is(test, so(test), is ? 1 : 0);
                Due.is("not " + test, so("not " + test), is ? 0 : 1);
                Due.is("not not " + test, so("not not " + test), is ? 1 : 0);
                Due.is("not not not " + test, so("not not not " + test), is ? 0 : 1);
                for (int m = 0; m < 2; m++) {
                    joined(test, is, "1=" + m, m == 1);
                    joined("1=" + m, m == 1, test, is);
                    joined("not " + test, !is, "1=" + m, m == 1);
                    joined("1=" + m, m == 1, "not " + test, !is);
                    joined("not " + test, !is, "not 1=" + m, m == 0);
                }
            }
        }
        Due.is("not of the first alone", so("not 1=1 or 1=1"), 1);
        Due.is("not of the first alone", so("not 1=2 and 1=2"), 0);
        Due.is("\"and\" is nearer", so("1=1 or 1=1 and 1=2"), 1);
        Due.is("\"and\" is nearer", so("1=2 and 1=2 or 1=1"), 1);
        Due.is("brackets are nearer still", so("(1=1 or 1=1) and 1=2"), 0);
    }

    /** 50 PARTS make 25 comparisons in a row. */
    private static void longRowsOfTests() {
        String noes = "0=1 or ".repeat(24);
        String yeses = "1=1 and ".repeat(24);
        Due.is("25 that are not so", so(noes + "0=1"), 0);
        Due.is("the 25th is so", so(noes + "1=1"), 1);
        Due.is("the first is so", so("1=1 or " + "0=1 or ".repeat(23) + "0=1"), 1);
        Due.is("25 that are so", so(yeses + "1=1"), 1);
        Due.is("the 25th is not so", so(yeses + "0=1"), 0);
        Due.is("the first is not so", so("0=1 and " + "1=1 and ".repeat(23) + "1=1"), 0);
        Due.is("one after the other", so("0=1 and 1=1 or ".repeat(12) + "1=1"), 1);
        Due.is("one after the other", so("1=1 and 0=1 or ".repeat(12) + "1=2"), 0);
    }

    /** As many numbers as can wait at once: a comparison's, and in each of 8 brackets a SUM's and a TERM's. */
    private static void allWaiting() {
        String open = "1+2*[".repeat(8);
        String shut = "]".repeat(8);
        Due.is("8 of them", so("1000+23 = " + open + "1+2*1" + shut), 1);
        Due.is("8 of them", so("1000+23 < " + open + "1+2*1" + shut), 0);
        Due.is("8 of them", so("1000+23 > " + open + "1+2*1" + shut), 0);
        Due.is("4 of each", so("(((( 60+3 = " + "1+2*[".repeat(4) + "1+2*1" + "]".repeat(4) + "))))"), 1);
        LedgerHounds x = Due.under("takes " + open + "1+2*1" + shut + "-1000; leads " + open + "1+2*1" + shut + "-1000-20");
        x.clerk(0);
        Due.is("in a SUM", x.asks(0, 0, 0), 23);
        Due.is("in a SUM", x.at(0, 2), 3);
    }
}
