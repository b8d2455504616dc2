/** Laws as texts, what sums and tests in them come to: promises 14, 16, 18. */
public final class TextTest {
    private TextTest() {
    }

    public static void main(String[] args) {
        tokens();
        grammar();
        limits();
        worths();
        broken();
        words();
        lawNumbers();
        force();
        Due.end("TextTest");
    }

    private static void tokens() {
        Due.lawGood("leads 1");
        Due.lawGood("  leads   1  ");
        Due.lawGood("leads1");
        Due.lawGood("leads1if1<2;bites");
        Due.lawGood("leads 0000000000000000000000000001000");
        Due.lawFault("", 0);
        Due.lawFault("   ", 3);
        Due.lawFault("leadsx 1", 0);
        Due.lawFault("lead s 1", 0);
        Due.lawFault(" Leads 1", 1);
        Due.lawFault("leads\t1", 5);
        Due.lawFault("leads\n1", 5);
        Due.lawFault("leads 1" + (char) 0, 7);
        Due.lawFault("leads 1 " + (char) 233, 8);
        Due.lawFault("leads 1" + (char) 160 + "if 1<2", 7);
        Due.lawFault("leads dayday", 6);
        Due.lawFault("leads 1 2", 8);
        Due.lawFault("leads 12a", 8);
        Due.lawFault("leads 4294967297", 6);
        Due.lawFault("leads 18446744073709551617", 6);
    }

    private static void grammar() {
        String[] good = {"bites", "bars", "bites if 1 < 2", "takes [1]", "takes [[1+2]*3]-4/5%6", "bars if not not 1=1",
            "bars if (1=1)", "bars if ((1=1) or 2>3) and not (3<4)", "leads 1 if 1=1 or 2=2 and 3=3;bites;bars;takes 3",
            "bites if [1]=1", "bites if not (not (1=1))", "leads 1000"};
        for (String text : good) {
            Due.lawGood(text);
        }
        Object[][] bad = {{"leads", 5}, {"leads ", 6}, {"leads if 1=1", 6}, {"leads (1)", 6}, {"leads -1", 6}, {"leads 1001", 6},
            {"bites 1", 6}, {"bites;", 6}, {"bites; ", 7}, {";bites", 0}, {"bites;;bites", 6}, {"bites if", 8}, {"bites if 1", 10},
            {"bites if 1 <", 12}, {"bites if 1 < 2 < 3", 15}, {"bites if 1 < 2 + ", 17}, {"bites if (1 < 2", 15},
            {"bites if (1 + 2) < 3", 15}, {"bites if [1 < 2]", 12}, {"bites if 1 < 2)", 14}, {"leads [1", 8}, {"leads [1)", 8},
            {"leads []", 7}, {"leads 1]", 7}, {"bites if 1 == 2", 12}, {"bites if 1 <> 2", 12}, {"bites if and 1=1", 9},
            {"bites if 1=1 or", 15}, {"bites if 1=1 or and", 16}, {"bites if 1=1 if 1=1", 13}, {"bites if not", 12},
            {"bites if not if", 13}, {"leads done", 6}, {"leads latest", 6}, {"leads hand 0", 6}, {"leads entry 1", 12},
            {"take 1 by 1", 0}, {"pass", 0}, {"leads 1 times 2", 8}, {"leads + 1", 6}, {"leads 1 +", 9}, {"leads 1 * * 2", 10},
            {"leads 1 leads 2", 8}, {"leads 1,bites", 7}, {"bites if (1=1", 13}, {"bites if (1=1]", 13}, {"leads if", 6}};
        for (Object[] b : bad) {
            Due.lawFault((String) b[0], (Integer) b[1]);
        }
    }

    private static void limits() {
        String twelve = "bites" + ";bites".repeat(11);
        Due.lawGood(twelve);
        Due.lawFault(twelve + ";bites", twelve.length() + 1);
        Due.lawFault(twelve + ";", twelve.length() + 1);
        Due.lawFault(twelve + " ; !", twelve.length() + 3);
        Due.lawFault(twelve + " bars", twelve.length() + 1);
        String fifty = "leads 1" + "+1".repeat(49);
        Due.lawGood(fifty);
        Due.lawFault(fifty + "+1", fifty.length() + 1);
        Due.lawFault(fifty + "+day", fifty.length() + 1);
        Due.lawFault(fifty + "+", fifty.length() + 1);
        Due.lawGood(fifty + ";bites");
        Due.lawFault(fifty + ";bites if day=1", fifty.length() + 10);
        Due.lawFault(fifty + ";leads[1]", fifty.length() + 7);
        Due.lawGood("leads " + "[".repeat(8) + "1" + "]".repeat(8));
        Due.lawFault("leads " + "[".repeat(9) + "1" + "]".repeat(9), 14);
        Due.lawGood("bars if " + "(".repeat(8) + "1=1" + ")".repeat(8));
        Due.lawFault("bars if " + "(".repeat(9) + "1=1" + ")".repeat(9), 16);
        Due.lawGood("bars if " + "(".repeat(4) + "[[[[1]]]]=1" + ")".repeat(4));
        Due.lawFault("bars if " + "(".repeat(4) + "[[[[[1]]]]]=1" + ")".repeat(4), 16);
        Due.lawFault("bars if " + "(".repeat(4) + "[[[[1]]]]=1 and (2=2)" + ")".repeat(4) + "or ((((([[[[1]]]]=1)))))", 48);
        Due.lawGood("bars if ((((((((1=1)))))))) and ((((((((1=1))))))))");
        String nots = "bars if " + "not ".repeat(97) + "1=1";
        Due.lawGood(nots);
        Due.lawFault("bars if" + "not".repeat(130), 5);
        Due.lawFault("bars if " + "not ".repeat(98), 400);
        Due.lawGood("leads 1" + " ".repeat(393));
        Due.lawFault("leads" + " ".repeat(395), 400);
        Due.lawFault("[".repeat(400), 0);
        Due.lawFault("leads " + "[".repeat(394), 14);
        Due.lawFault("bars if " + "(".repeat(392), 16);
    }

    /** What "takes" comes to tells what a SUM comes to (0 .. 99). */
    private static void sum(String sum, int due) {
        LedgerHounds x = Due.under("takes " + sum);
        x.clerk(4);
        Due.is("takes " + sum, x.asks(0, 7, 0), due);
    }

    private static void test(String test, int due) {
        LedgerHounds x = Due.under("bars if " + test);
        x.clerk(4);
        Due.is("bars if " + test, x.asks(0, 7, 1), due);
    }

    private static void worths() {
        Object[][] sums = {{"1 + 2 * 3", 7}, {"[1 + 2] * 3", 9}, {"20 - 5 - 3", 12}, {"100 / 7 / 2", 7}, {"100 / [7 / 2]", 33},
            {"17 % 5", 2}, {"50 + [3 - 10] / 2", 47}, {"50 + [3 - 10] % 4", 47}, {"50 + 7 % [0 - 4]", 53}, {"50 + 7 / [0 - 2]", 47},
            {"2 * 3 % 4", 2}, {"7 / 2 * 2", 6}, {"1000", 99}, {"0 - 1", 0}, {"99", 99}, {"100", 99}, {"0", 0},
            {"1000 * 1000 * 1000 / 1000 / 1000 / 20", 50}, {"[0 - 1000 * 1000 * 1000] / 1000 / 1000 / [0 - 50]", 20}};
        for (Object[] s : sums) {
            sum((String) s[0], (Integer) s[1]);
        }
        Object[][] tests = {{"1 < 2", 1}, {"2 < 2", 0}, {"3 > 2", 1}, {"2 > 2", 0}, {"2 = 2", 1}, {"2 = 3", 0}, {"not 1 = 2", 1},
            {"not not 1 = 2", 0}, {"not not not 1 = 2", 1}, {"1=2 or 1=1 and 2=2", 1}, {"1=1 or 1=1 and 1=2", 1},
            {"(1=1 or 1=1) and 1=2", 0}, {"1=2 and 1=1 or 2=2", 1}, {"not 1=2 and 1=2", 0}, {"not (1=2 and 1=2)", 1},
            {"1=1 and 2=2 and 3=4", 0}, {"1=2 or 2=3 or 3=3", 1}, {"not 1=1 or 1=1", 1}, {"not (1=1 or 1=1)", 0}};
        for (Object[] t : tests) {
            test((String) t[0], (Integer) t[1]);
        }
    }

    /** A "takes" that is BROKEN leaves the 10 that is without. */
    private static void broken() {
        String[] sums = {"1 / 0", "1 % 0", "1000 * 1000 * 1000 + 1", "0 - 1000 * 1000 * 1000 - 1", "1000 * 1000 * 1000 * 2 / 1000",
            "[1000 * 1000 * 1000 + 1] * 0", "1000 * 1000 * 1000 * 1000 * 1000 * 1000 * 1000 * 1000", "0 * [1 / 0]", "5 + 1 / [1 - 1]"};
        for (String s : sums) {
            sum(s, 10);
            test(s + " = 0 or 1=1", 0);
            test("not " + s + " = 0", 0);
        }
        test("1=1 or 1/0 = 1", 1);
        test("1=2 and 1/0 = 1", 0);
        test("not (1=2 and 1/0 = 1)", 1);
        test("1=2 or 1/0 = 1", 0);
        test("not (1=2 or 1/0 = 1)", 0);
        test("1=1 and 1/0 = 1", 0);
        test("not (1=1 and 1/0 = 1)", 0);
        test("1=2 and 1/0=1 or 1=1", 1);
        test("1=1 or 1=1 and 1/0=1 or 1/0=1", 1);
        test("(1=1 or 1/0=1) and 2=2", 1);
        LedgerHounds x = Due.under("takes 5; takes 7 if 1/0 = 1; takes 1/0; takes 6 if 1=2; leads 1; leads 3 if 1/0=1; bites if 1/0=1");
        x.clerk(1);
        Due.is("the last that HOLDS", x.asks(0, 0, 0), 5);
        Due.is("the last that HOLDS", x.at(0, 2), 1);
        Due.is("bites", x.at(0, 3), 0);
    }

    private static void words() {
        String[] names = {"cell", "row", "column", "entry", "off", "across", "clerk", "keen", "day", "mood"};
        int[] ofClerk = {13, 2, 3, 11, 7, 39, 1, 6, 77, 8};
        for (int i = 0; i < names.length; i++) {
            LedgerHounds x = Due.under("takes " + names[i] + "; bars if " + names[i] + " = " + ofClerk[i]
                    + "; bites if " + names[i] + " = " + (i == 6 || i == 7 ? "0 - 1" : "" + ofClerk[i]) + "; leads 3 if " + names[i] + " < 0");
            x.clerk(5);
            x.clerk(6);
            x.enter(13, 11);
            x.told(0, 2, 18);
            x.told(1, 3, 50);
            x.terms(0, 77);
            x.terms(2, 8);
            Due.is("takes " + names[i], x.asks(1, 13, 0), ofClerk[i]);
            Due.is("bars by " + names[i], x.asks(1, 13, 1), 1);
            Due.is("bites by " + names[i], x.at(13, 3), 1);
            Due.is("leads by " + names[i], x.at(13, 2), i == 6 || i == 7 ? 3 : 2);
        }
    }

    /** Promises 14 and 16. */
    private static void lawNumbers() {
        LedgerHounds x = new LedgerHounds();
        Due.is("an empty tape", x.law(), -6);
        Due.is("fault", x.fault(), 0);
        for (int i = 0; i < 6; i++) {
            Due.is("law", Due.law(x, "leads " + i), i);
            Due.is("fault", x.fault(), -1);
            Due.is("status", x.status(), 0);
            Due.is("the tape is empty", x.count(6), 0);
        }
        Due.orders(x, "pass !");
        Due.is("fault", x.fault(), 5);
        Due.is("a seventh", Due.law(x, "leads 1"), -5);
        Due.is("the tape is empty", x.count(6), 0);
        Due.is("fault of the latest that read", x.fault(), 5);
        Due.is("a bad seventh", Due.law(x, "leads"), -5);
        Due.is("an empty seventh", x.law(), -5);
        Due.is("count(4)", x.count(4), 6);
        Due.is("count(10)", x.count(10), 3);
        Due.orders(x, "take 1 by 1");
        Due.is("fault behind orders that can't be", x.fault(), -1);
    }

    /** Promise 18. */
    private static void force() {
        LedgerHounds x = new LedgerHounds();
        Due.is("force(0)", x.force(0), -2);
        Due.is("force(-1)", x.force(-1), -1);
        Due.is("status", x.status(), 0);
        Due.law(x, "leads 1");
        Due.law(x, "leads 3");
        Due.is("told, not in FORCE", x.at(0, 2), 2);
        Due.is("force(1)", x.force(1), -1);
        Due.is("at", x.at(0, 2), 3);
        Due.is("force(0)", x.force(0), 1);
        Due.is("at", x.at(0, 2), 1);
        Due.is("force(2)", x.force(2), -2);
        Due.is("force(-2)", x.force(-2), -2);
        Due.is("status", x.status(), -2);
        Due.is("count(12)", x.count(12), 0);
        Due.is("force(-1)", x.force(-1), 0);
        Due.is("at", x.at(0, 2), 2);
        Due.is("count(12)", x.count(12), -1);
        Due.is("count(8)", x.count(8), 3);
    }
}
