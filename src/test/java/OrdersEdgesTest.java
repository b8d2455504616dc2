/** ORDERS at their edges: Term II, promises 15 and 17. */
public final class OrdersEdgesTest {
    private OrdersEdgesTest() {
    }

    public static void main(String[] args) {
        times();
        numbersOfWords();
        worthsOfWords();
        wordsOfNothing();
        done();
        latest();
        ifEachTime();
        cantAtTheEdges();
        brokenSums();
        allAsItWas();
        whichClause();
        stoppedOfTheLatest();
        howMany();
        undoneThen();
        Due.end("OrdersEdgesTest");
    }

    /** Two CLERKS; ENTRY 40 in CELL 0, 999 in CELL 24, nothing else. */
    private static LedgerHounds ledger() {
        LedgerHounds x = new LedgerHounds();
        x.clerk(2);
        x.clerk(3);
        x.enter(0, 40);
        x.enter(24, 999);
        return x;
    }

    private static void runs(String text, int due) {
        LedgerHounds x = ledger();
        Due.is("orders '" + text + "'", Due.orders(x, text), due);
        Due.is("status of '" + text + "'", x.status(), 0);
        Due.is("the TAPE behind '" + text + "'", x.count(6), 0);
    }

    private static void cant(String text, int clause) {
        LedgerHounds x = ledger();
        Due.is("orders '" + text + "'", Due.orders(x, text), -3);
        Due.is("status of '" + text + "'", x.status(), -3);
        Due.is("stopped of '" + text + "'", x.stopped(), clause);
        Due.is("fault of '" + text + "'", x.fault(), -1);
        Due.is("the TAPE behind '" + text + "'", x.count(6), 0);
        Due.is("what can be undone behind '" + text + "'", x.count(5), 0);
    }

    /** "TIMES: a NUMBER 1 .. 20"; "once without". */
    private static void times() {
        runs("pass", 1);
        runs("pass times 1", 1);
        runs("pass times 2", 2);
        runs("pass times 19", 19);
        runs("pass times 20", 20);
        runs("pass times 020", 20);
        Due.ordersFault("pass times 0", 11);
        Due.ordersFault("pass times 21", 11);
        Due.ordersFault("pass times 00", 11);
        Due.ordersFault("pass times 1000", 11);
        Due.ordersFault("pass times 4294967297", 11);
        Due.ordersFault("pass times [1]", 11);
        Due.ordersFault("pass times done", 11);
        Due.ordersFault("pass times", 10);
        Due.ordersFault("fence 1 times 0", 14);
        Due.ordersFault("take 1 by 0 times 21", 18);
        Due.ordersFault("shift 1 to 0 of 1 times 21", 24);
        Due.ordersFault("pass times 2 + 1", 13);
        Due.ordersFault("pass if 1=1 times 2", 12);
    }

    /** "C: a NUMBER 0 .. 24, R, P: 0 .. 4". */
    private static void numbersOfWords() {
        String[] words = {"entry", "off", "across", "hand"};
        int[] most = {24, 4, 4, 4};
        for (int i = 0; i < words.length; i++) {
            String text = "pass if 0*" + words[i] + " ";
            runs(text + "0=0", 1);
            runs(text + most[i] + "=0", 1);
            runs(text + "0" + most[i] + "=0", 1);
            Due.ordersFault(text + (most[i] + 1) + "=0", text.length());
            Due.ordersFault(text + "1000=0", text.length());
            Due.ordersFault(text + "1001=0", text.length());
            Due.ordersFault(text + "[0]=0", text.length());
            Due.ordersFault(text + "day=0", text.length());
            Due.ordersFault(text + "-1=0", text.length());
            Due.ordersFault(text + "=0", text.length());
            Due.ordersFault(text, text.length());
        }
        Due.ordersFault("pass if day 0=0", 12);
        Due.ordersFault("pass if done 0=0", 13);
        Due.ordersFault("pass if latest 0=0", 15);
    }

    private static void so(LedgerHounds x, String test) {
        Due.is(test, Due.orders(x, "fence 9 if " + test), 1);
    }

    /** Each word of each CELL, ROW, COLUMN, CLERK; the ends of what they come to. */
    private static void worthsOfWords() {
        LedgerHounds x = new LedgerHounds();
        for (int i = 0; i < 5; i++) {
            x.clerk(i);
            x.told(0, i, 10 * i + 1);
            x.told(1, i, 10 * i + 2);
        }
        for (int i = 0; i < 5; i++) {
            so(x, "off " + i + " = " + (10 * i + 1) + " and across " + i + " = " + (10 * i + 2));
        }
        for (int i = 0; i < 5; i++) {
            x.enter(12, 7 + i);
            x.take(12, i);
        }
        so(x, "hand 0=7 and hand 1=8 and hand 2=9 and hand 3=10 and hand 4=10");
        for (int c = 0; c < 25; c++) {
            x.enter(c, 900 + c);
        }
        for (int c = 0; c < 25; c++) {
            so(x, "entry " + c + " = " + (900 + c));
        }
        LedgerHounds y = new LedgerHounds();
        for (int i = 0; i < 5; i++) {
            y.told(0, i, 9999);
            y.told(1, i, 9999);
        }
        so(y, "off 0=10*1000-1 and off 4=10*1000-1 and across 0=10*1000-1 and across 4=10*1000-1");
        for (int c = 0; c < 25; c++) {
            y.enter(c, 999);
        }
        for (int i = 0; i < 5; i++) {
            y.told(0, i, 0);
            y.told(1, i, 0);
        }
        y.terms(0, 999);
        so(y, "off 0=0-999*5 and off 4=0-999*5 and across 0=0-999*5 and across 4=0-999*5");
        so(y, "entry 0=999 and entry 24=999 and day=999");
    }

    /** "hand: -1 without such a CLERK"; "latest ... (-1: none)"; done at first. */
    private static void wordsOfNothing() {
        LedgerHounds x = new LedgerHounds();
        so(x, "hand 0=0-1 and hand 1=0-1 and hand 4=0-1");
        x.clerk(0);
        so(x, "hand 0=0 and hand 1=0-1 and hand 4=0-1");
        for (int i = 0; i < 4; i++) {
            x.clerk(0);
        }
        so(x, "hand 0=0 and hand 1=0 and hand 4=0");
        so(x, "latest=0-1 and done=0 and day=0");
        so(x, "entry 0=0 and entry 24=0 and off 0=0 and off 4=0 and across 0=0 and across 4=0");
    }

    /** "done: how many were run in this TEXT". */
    private static void done() {
        runs("pass if done=0; pass if done=1; pass if done=2", 3);
        runs("pass if done=1; pass if done=0; pass if done=1", 2);
        runs("pass times 20 if done<20; pass times 20; pass times 3 if done=40; pass if done=41", 42);
        LedgerHounds x = ledger();
        Due.orders(x, "pass times 5");
        Due.is("of this TEXT alone", Due.orders(x, "pass if done=0"), 1);
        x.pass();
        Due.is("of this TEXT alone", Due.orders(x, "pass if done=0"), 1);
        Due.is("what is not run is not counted", Due.orders(x, "pass times 9 if 1=2; pass if 1/0=1; fence 3 if done=0"), 1);
    }

    /** "latest: what the latest take in it told (-1: none)". */
    private static void latest() {
        runs("pass if latest=0-1; take 0 by 0; pass if latest=10", 3);
        runs("take 0 by 0; pass; fence 3; shift 24 to 1 of 7; pass if latest=10; take 1 by 1; pass if latest=7", 7);
        runs("take 0 by 0 times 4; pass if latest=10 and entry 0=0 and hand 0=40", 5);
        LedgerHounds x = ledger();
        x.take(0, 0);
        Due.is("not what take() told", Due.orders(x, "pass if latest=0-1"), 1);
        Due.orders(x, "take 0 by 0");
        Due.is("not what another TEXT's told", Due.orders(x, "pass if latest=0-1"), 1);
        x = ledger();
        x.enter(5, 1);
        Due.is("1 at least", Due.orders(x, "take 5 by 1; fence latest+1 if latest=1"), 2);
        Due.is("1 at least", x.at(2, 1), 1);
        x = Due.under("takes 1000");
        x.clerk(1);
        x.enter(0, 999);
        Due.is("99 at most", Due.orders(x, "take 0 by 0; pass if latest=99"), 2);
    }

    /** "each time its "if" is asked (not run, if it is not so or BROKEN), then its SUMS from the left". */
    private static void ifEachTime() {
        runs("pass times 20 if day<7", 7);
        runs("pass times 20 if 1=2", 0);
        runs("pass times 20 if 1/0=1", 0);
        runs("pass times 20 if not 1/0=1", 0);
        runs("take 24 by 0 times 20 if hand 0<55", 6);
        runs("fence 25 if 1=2; fence 1/0 if 1=2; take 3 by 9 if 1/0=0", 0);
        runs("pass times 6 if 6/[3-day]>1", 3);
        LedgerHounds x = ledger();
        Due.is("SUMS each time", Due.orders(x, "shift 24 to done+1 of 10*[done+1] times 3"), 3);
        Due.is("SUMS each time", x.at(1, 0) * 10000 + x.at(2, 0) * 100 + x.at(3, 0), 102030);
    }

    /** "as take(), shift(), fence(), pass() are REFUSED": the last that can be, and the first that can't. */
    private static void cantAtTheEdges() {
        runs("fence 0; fence 24", 2);
        cant("fence 25", 0);
        cant("fence 0-1", 0);
        runs("take 0 by 0; take 24 by 1", 2);
        cant("take 25 by 0", 0);
        cant("take 0-1 by 0", 0);
        cant("take 0 by 2", 0);
        cant("take 0 by 0-1", 0);
        cant("take 1 by 0", 0);
        runs("take 0 by 0 times 4", 4);
        cant("take 0 by 0 times 5", 0);
        runs("shift 24 to 0 of 1", 1);
        runs("shift 24 to 1 of 999", 1);
        runs("shift 0 to 1 of 40", 1);
        runs("shift 24 to 0 of 959", 1);
        cant("shift 24 to 0 of 960", 0);
        cant("shift 0 to 1 of 41", 0);
        cant("shift 0 to 24 of 1", 0);
        cant("shift 0 to 1 of 0", 0);
        cant("shift 0 to 1 of 0-1", 0);
        cant("shift 24 to 1 of 1000", 0);
        cant("shift 0 to 0 of 1", 0);
        cant("shift 0 to 25 of 1", 0);
        cant("shift 25 to 0 of 1", 0);
        LedgerHounds x = ledger();
        x.terms(0, 979);
        Due.is("20 DAYS are left", Due.orders(x, "pass times 20"), 20);
        Due.is("DAY", x.count(13), 999);
        Due.is("none is left", Due.orders(x, "pass"), -3);
        x.terms(0, 980);
        Due.is("19 DAYS are left", Due.orders(x, "pass times 20"), -3);
        Due.is("DAY", x.count(13), 980);
        x = Due.under("bars if cell=0; takes 0 if cell=1");
        x.clerk(1);
        x.enter(0, 5);
        x.enter(1, 5);
        x.enter(2, 5);
        Due.is("BARRED", Due.orders(x, "take 2 by 0; take 0 by 0"), -3);
        Due.is("TAKES nothing", Due.orders(x, "take 2 by 0; take 1 by 0"), -3);
        Due.is("as it was", x.at(2, 0), 5);
    }

    /** "One that can't be (a BROKEN SUM, ...) ends it": each SUM of each CLAUSE. */
    private static void brokenSums() {
        String[] broken = {"1/0", "1%0", "1000*1000*1000+1", "0-1000*1000*1000-1", "0*[1/0]"};
        for (String b : broken) {
            cant("fence " + b, 0);
            cant("take " + b + " by 0", 0);
            cant("take 0 by " + b, 0);
            cant("shift " + b + " to 1 of 1", 0);
            cant("shift 0 to " + b + " of 1", 0);
            cant("shift 0 to 1 of " + b, 0);
        }
        cant("fence 1000*1000*1000", 0);
        cant("shift 0 to 1 of 1000*1000*1000", 0);
    }

    /** "all is as it was ahead of it". */
    private static void allAsItWas() {
        String[] last = {"fence 25", "pass times 20 if 1=1; pass times 20; fence 1/0", "take 3 by 0", "shift 3 to 4 of 1", "take 0 by 0 times 4"};
        for (String l : last) {
            LedgerHounds x = rich();
            LedgerHounds twin = rich();
            Due.tape(twin, "");
            Due.is(l, Due.orders(x, "pass times 9; take 0 by 1; shift 24 to 0 of 5; fence 2; fence 7;" + l), -3);
            Looks.alike(l, Looks.at(x), Looks.at(twin), "stopped");
            Looks.alike(l, Looks.behind(x), Looks.behind(twin), "");
        }
        LedgerHounds x = rich();
        LedgerHounds twin = rich();
        Due.is("unread ORDERS run nothing", Due.orders(x, "pass; take 0 by 1; fence 7; fence"), -6);
        twin.end(0);
        Looks.alike("unread", Looks.at(x), Looks.at(twin), "fault");
    }

    private static LedgerHounds rich() {
        LedgerHounds x = ledger();
        x.told(0, 0, 55);
        x.told(1, 4, 66);
        Due.law(x, "leads 1; leads 0 if entry>500; takes 12");
        x.force(0);
        x.seen(0, 1, 5);
        x.booked(0, 4, 999);
        x.weeks(3, 20);
        x.image(0);
        x.fence(2);
        x.fence(24);
        x.take(24, 0);
        x.shift(24, 23, 1);
        x.pass();
        return x;
    }

    /** "Which CLAUSE ... could not be": the first, the last, one run some TIMES ahead of that. */
    private static void whichClause() {
        for (int n = 0; n < 12; n++) {
            cant("pass;".repeat(n) + "fence 25" + ";pass".repeat(11 - n), n);
        }
        cant("pass times 20; take 0 by 0 times 5; fence 25", 1);
        cant("pass; fence 25 if 1=2; fence 26", 2);
        cant("fence 25; fence 26", 0);
    }

    private static void stoppedOfTheLatest() {
        LedgerHounds x = ledger();
        Due.is("ahead of any", x.stopped(), -1);
        Due.orders(x, "pass; fence 25");
        Due.is("the second", x.stopped(), 1);
        Due.law(x, "bites !");
        x.pass();
        x.fence(25);
        x.undo();
        x.row();
        Due.is("of the latest orders() still", x.stopped(), 1);
        Due.orders(x, "pass");
        Due.is("all could be", x.stopped(), -1);
        Due.orders(x, "fence 25");
        Due.is("the first", x.stopped(), 0);
        Due.orders(x, "fence");
        Due.is("unread", x.stopped(), -1);
        Due.orders(x, "fence 25");
        x.orders();
        Due.is("an empty TAPE", x.stopped(), -1);
    }

    /** "how many were run": none, one, as many as can be. */
    private static void howMany() {
        runs("pass if 1=2", 0);
        runs("pass", 1);
        runs("pass times 20" + ";pass times 20".repeat(11), 240);
        LedgerHounds x = new LedgerHounds();
        Due.is("of an empty TAPE", x.orders(), -6);
        Due.is("FAULT", x.fault(), 0);
        Due.is("of blanks", Due.orders(x, "    "), -6);
        Due.is("FAULT", x.fault(), 4);
        Due.is("none run leaves what can be undone", x.pass() + Due.orders(x, "pass if 1=2") + x.count(5), 2);
    }

    /** "(by ORDERS, too; 16 are kept)". */
    private static void undoneThen() {
        LedgerHounds x = ledger();
        x.fence(3);
        Due.orders(x, "pass times 15");
        Due.is("16 can be undone", x.count(5), 16);
        Due.orders(x, "fence 4");
        Due.is("16 still", x.count(5), 16);
        Due.is("the fence", x.undo(), 2);
        for (int i = 0; i < 15; i++) {
            Due.is("a DAY", x.undo(), 3);
        }
        Due.is("the first is not kept", x.undo(), -3);
        Due.is("the first is not undone", x.at(3, 1), 1);
        Due.is("DAY", x.count(13), 0);
        x.pass();
        Due.is("ORDERS that can't be", Due.orders(x, "fence 1 times 20; fence 25"), -3);
        Due.is("one can be undone", x.count(5), 1);
        Due.is("the DAY ahead of them", x.undo(), 3);
        Due.is("as it was", x.at(1, 1) + x.count(13), 0);
    }
}
