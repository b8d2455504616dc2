/** Orders as texts and as they are run: promises 15 and 17. */
public final class OrdersTest {
    private OrdersTest() {
    }

    public static void main(String[] args) {
        faults();
        limits();
        deeds();
        words();
        ifAndTimes();
        allOrNothing();
        keptDeeds();
        answers();
        Due.end("OrdersTest");
    }

    private static LedgerHounds ledger() {
        LedgerHounds x = new LedgerHounds();
        for (int c = 0; c < 25; c++) {
            x.enter(c, 10 * c + 5);
        }
        x.clerk(3);
        x.clerk(7);
        return x;
    }

    private static void faults() {
        Object[][] bad = {{"", 0}, {"  ", 2}, {"take", 4}, {"take 1", 6}, {"take 1 by", 9}, {"take 1 to 2", 7}, {"take by 1", 5},
            {"shift 1 by 2", 8}, {"shift 1 to 2", 12}, {"shift 1 to 2 of", 15}, {"shift 1 of 2 to 3", 8}, {"fence", 5}, {"fence 1 by 1", 8},
            {"pass 1", 5}, {"pass times", 10}, {"pass times 0", 11}, {"pass times 21", 11}, {"pass times day", 11}, {"pass times 1 + 1", 13},
            {"pass if 1=1 times 2", 12}, {"pass times 2 times 2", 13}, {"pass;", 5}, {"leads 1", 0}, {"bites", 0}, {"fence cell", 6},
            {"fence row", 6}, {"fence keen", 6}, {"fence mood", 6}, {"fence clerk", 6}, {"fence entry", 11}, {"fence entry 25", 12},
            {"fence entry day", 12}, {"fence off 5", 10}, {"fence across 5", 13}, {"fence hand 5", 11}, {"fence hand [1]", 11},
            {"fence entry -1", 12}, {"fence day 1", 10}, {"fence done 1", 11}, {"fence 1001", 6}, {"pass if entry < 3", 14},
            {"pass if off 1", 13}, {"pass, pass", 4}, {"fence 1 if 1=1 pass", 15}, {"take 1 by 1 of 1", 12}, {"passtimes 2", 0}};
        for (Object[] b : bad) {
            Due.ordersFault((String) b[0], (Integer) b[1]);
        }
        String[] good = {"pass times 20", "pass times 1", "pass times 007 if 1=1", " pass ", "pass;pass", "passtimes2".replace("ss", "ss "),
            "fence entry 24", "fence off 4", "fence across 0 if hand 4 = 0-1", "pass if (latest = 0-1) and not done>0"};
        for (String text : good) {
            LedgerHounds x = new LedgerHounds();
            Due.holds("orders '" + text + "' are run", Due.orders(x, text) >= 0);
            Due.is("fault of orders '" + text + "'", x.fault(), -1);
        }
    }

    private static void limits() {
        String twelve = "pass" + ";pass".repeat(11);
        Due.is("twelve", Due.orders(new LedgerHounds(), twelve), 12);
        Due.ordersFault(twelve + ";pass", twelve.length() + 1);
        Due.ordersFault(twelve + ";", twelve.length() + 1);
        String fifty = "pass times 2 if entry 3" + "+entry 4".repeat(24) + "=day" + "+1".repeat(24);
        LedgerHounds x = new LedgerHounds();
        Due.is("fifty parts", Due.orders(x, fifty), 0);
        Due.ordersFault(fifty + "+1", fifty.length() + 1);
        Due.ordersFault(fifty + ";fence 3", fifty.length() + 7);
        Due.is("TIMES and C are no parts", Due.orders(x, fifty + ";pass times 20"), 20);
        Due.ordersFault("fence " + "[".repeat(9) + "1" + "]".repeat(9), 14);
        Due.is("eight brackets", Due.orders(x, "fence " + "[".repeat(8) + "1" + "]".repeat(8)), 1);
        Due.is("240 at most", Due.orders(new LedgerHounds(), "pass times 20" + ";pass times 20".repeat(11)), 240);
    }

    private static void deeds() {
        LedgerHounds x = ledger();
        Due.is("orders", Due.orders(x, "take 3 by 1; shift 24 to 0 of 100; fence 7; pass"), 4);
        Due.is("at(3, 0)", x.at(3, 0), 25);
        Due.is("hand", x.of(1, 1), 10);
        Due.is("at(24, 0)", x.at(24, 0), 145);
        Due.is("at(0, 0)", x.at(0, 0), 105);
        Due.is("fence", x.at(7, 1), 1);
        Due.is("day", x.count(13), 1);
        Due.is("stopped", x.stopped(), -1);
        Due.is("status", x.status(), 0);
        Due.is("undo", x.undo(), 3);
        Due.is("undo", x.undo(), 2);
        Due.is("undo", x.undo(), 1);
        Due.is("undo", x.undo(), 0);
        Due.is("undo", x.undo(), -3);
        Due.is("at(3, 0)", x.at(3, 0), 35);
        Due.is("at(24, 0)", x.at(24, 0), 245);
        Due.is("hand", x.of(1, 1), 0);
        Due.is("fence", x.at(7, 1), 0);
        Due.is("day", x.count(13), 0);
    }

    private static void words() {
        LedgerHounds x = ledger();
        x.terms(0, 17);
        x.told(0, 2, 700);
        x.told(1, 3, 9);
        x.take(4, 1);
        Object[][] so = {{"day = 17", 1}, {"done = 0", 1}, {"latest = 0 - 1", 1}, {"entry 4 = 35", 1}, {"entry 24 = 245", 1}, {"off 2 = 75", 1},
            {"across 3 = 0 - 666", 1}, {"hand 0 = 0", 1}, {"hand 1 = 10", 1}, {"hand 2 = 0 - 1", 1}, {"hand 4 = 0 - 1", 1}, {"off 0 = 0", 0}};
        for (Object[] s : so) {
            Due.is((String) s[0], Due.orders(x, "fence 0 if " + s[0]), (Integer) s[1]);
        }
        Due.is("done and latest", Due.orders(x, "pass if done = 0; pass if latest = 0-1 and done = 1; take 1 by 0; fence done if latest = 10;"
                + "take 0 by 0; fence latest + 10 if done = 5; pass if latest = 5"), 7);
        Due.is("fence done", x.at(3, 1), 1);
        Due.is("fence latest + 10", x.at(15, 1), 1);
        Due.is("done begins anew", Due.orders(x, "pass if done = 0 and latest = 0 - 1"), 1);
        x = ledger();
        Due.is("worths as they are by then", Due.orders(x, "shift 5 to 6 of 7; pass if entry 5 = 48 and entry 6 = 72; pass if day = 1"), 3);
        Due.is("off as it is by then", Due.orders(x, "pass times 3 if off 0 = 0 - 125; take 4 by 1; pass if off 0 = 0 - 115 and across 4 = 0 - 715 and hand 1 = 10"), 5);
    }

    private static void ifAndTimes() {
        LedgerHounds x = ledger();
        Due.is("the if is asked each time", Due.orders(x, "pass times 9 if day < 4"), 4);
        Due.is("day", x.count(13), 4);
        Due.is("a BROKEN if", Due.orders(x, "pass if 1/0 = 1; fence 3 if 1=2; fence 4"), 1);
        Due.is("fence", x.at(3, 1), 0);
        Due.is("SUMS are not asked then", Due.orders(x, "fence 1/0 if 1=2; fence 99 if 2=3"), 0);
        Due.is("times on and off", Due.orders(x, "fence 3 times 3"), 3);
        Due.is("fence", x.at(3, 1), 1);
        Due.is("a SUM is asked each time", Due.orders(x, "fence done + 10 times 4"), 4);
        Due.is("fences", x.at(10, 1) + x.at(11, 1) + x.at(12, 1) + x.at(13, 1), 4);
        Due.is("take until there is less", Due.orders(x, "take 2 by 0 times 20 if entry 2 > 9; take 2 by 0"), 3);
        Due.is("at(2, 0)", x.at(2, 0), 0);
    }

    private static void allOrNothing() {
        String[] cant = {"fence 25", "fence 0 - 1", "fence 1/0", "fence 1000 * 1000 * 1000", "take 25 by 0", "take 0 by 2", "take 0 by 0-1", "take 0 by 1/0",
            "take 1%0 by 0", "take 0 by 0 times 2", "shift 0 to 0 of 1", "shift 0 to 25 of 1", "shift 25 to 0 of 1", "shift 1 to 0 of 0",
            "shift 1 to 0 of 16", "shift 1 to 2 of 1000", "shift 1 to 2 of 1/0", "shift 1/0 to 2 of 1", "shift 1 to 1/0 of 2", "take 3 by 1000*1000*1000"};
        for (String c : cant) {
            LedgerHounds x = ledger();
            x.pass();
            x.fence(20);
            Due.is(c, Due.orders(x, "pass; take 4 by 0; shift 9 to 8 of 5; fence 17; fence 20;" + c + "; pass"), -3);
            Due.is("stopped", x.stopped(), 5);
            Due.is("status", x.status(), -3);
            Due.is("fault", x.fault(), -1);
            Due.is("count(9)", x.count(9), 1);
            Due.is("REFUSED once", x.count(7) + x.count(8), 0);
            Due.is("tape", x.count(6), 0);
            Due.is("day", x.count(13), 1);
            Due.is("hand", x.of(0, 1), 0);
            Due.is("entries", x.at(4, 0) * 1000000 + x.at(9, 0) * 1000 + x.at(8, 0), 45095085);
            Due.is("fences", x.at(17, 1) * 10 + x.at(20, 1), 1);
            Due.is("can be undone", x.count(5), 2);
            Due.is("undo", x.undo(), 2);
            Due.is("undo", x.undo(), 3);
        }
        LedgerHounds x = new LedgerHounds();
        x.terms(0, 998);
        Due.is("beyond the last DAY", Due.orders(x, "pass times 2"), -3);
        Due.is("stopped", x.stopped(), 0);
        Due.is("day", x.count(13), 998);
        Due.is("to the last DAY", Due.orders(x, "pass"), 1);
        Due.is("stopped", x.stopped(), -1);
        x = Due.under("bars if cell = 3; takes 0 if cell = 4");
        x.clerk(1);
        x.enter(3, 9);
        x.enter(4, 9);
        Due.is("barred", Due.orders(x, "take 3 by 0"), -3);
        Due.is("takes nothing", Due.orders(x, "take 4 by 0"), -3);
    }

    private static void keptDeeds() {
        LedgerHounds x = ledger();
        x.fence(1);
        Due.is("orders", Due.orders(x, "pass times 20"), 20);
        Due.is("16 are kept", x.count(5), 16);
        for (int i = 0; i < 16; i++) {
            Due.is("undo", x.undo(), 3);
        }
        Due.is("undo", x.undo(), -3);
        Due.is("day", x.count(13), 4);
        for (int i = 0; i < 16; i++) {
            x.fence(i);
        }
        Due.is("orders that can't be", Due.orders(x, "pass times 20; fence 25"), -3);
        Due.is("16 are kept", x.count(5), 16);
        for (int i = 15; i >= 0; i--) {
            Due.is("undo", x.undo(), 2);
            Due.is("at(i, 1)", x.at(i, 1), i == 1 ? 1 : 0);
        }
        Due.is("day", x.count(13), 4);
    }

    private static void answers() {
        LedgerHounds x = new LedgerHounds();
        Due.is("orders of an empty tape", x.orders(), -6);
        Due.is("fault", x.fault(), 0);
        Due.is("stopped", Due.orders(x, "pass; fence 30"), -3);
        Due.is("stopped", x.stopped(), 1);
        Due.law(x, "bites");
        Due.is("stopped behind a law", x.stopped(), 1);
        Due.is("unreadable", Due.orders(x, "pass; fence"), -6);
        Due.is("stopped", x.stopped(), -1);
        Due.is("day", x.count(13), 0);
        Due.is("counted", x.count(9) * 10 + x.count(11), 12);
    }
}
