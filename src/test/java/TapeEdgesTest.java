/** The TAPE, ROWS on it, TOKENS and the grammar of TEXTS at their edges: Term II, promises 10 to 14 and 16. */
public final class TapeEdgesTest {
    private TapeEdgesTest() {
    }

    public static void main(String[] args) {
        tape();
        feedOfBytes();
        rowBytes();
        rowEnds();
        rowFull();
        tokenBytes();
        tokenEnds();
        clauses();
        parts();
        brackets();
        numbers();
        faultAtTheEnd();
        faultIsTheFirst();
        textOf400();
        lawsNoRoom();
        faultOfTheLatest();
        Due.end("TapeEdgesTest");
    }

    private static LedgerHounds fed(int times) {
        LedgerHounds x = new LedgerHounds();
        for (int i = 0; i < times; i++) {
            x.feed(0x20202020, 0x20202020, 0x20202020, 0x20202020, 0x20202020);
        }
        return x;
    }

    /** "a TAPE of at most 400 bytes"; "NONE, if there would be more than 400". */
    private static void tape() {
        Due.is("the first twenty", new LedgerHounds().feed(1, 2, 3, 4, 5), 20);
        LedgerHounds x = fed(19);
        Due.is("380 and 20", x.feed(0, 0, 0, 0, 0), 400);
        Due.is("400 and 20", x.feed(0, 0, 0, 0, 0), -1);
        Due.is("nothing came", x.count(6), 400);
        for (int left = 381; left <= 399; left += 9) {
            x = fed(20);
            x.end(left);
            Due.is(left + " and 20", x.feed(0, 0, 0, 0, 0), -1);
            Due.is("nothing came", x.count(6), left);
        }
        x = fed(20);
        x.end(1);
        Due.is("1 and 20", x.feed(0, 0, 0, 0, 0), 21);
        Due.is("NONE is not REFUSED", fedTooMuch().status(), 0);
        Due.is("NONE is not REFUSED", fedTooMuch().count(7) + fedTooMuch().count(10), 0);
        x = fed(20);
        Due.is("end(0)", x.end(0), 0);
        Due.is("twenty anew", x.feed(0, 0, 0, 0, 0), 20);
    }

    private static LedgerHounds fedTooMuch() {
        LedgerHounds x = fed(20);
        Due.is("421 bytes", x.feed(0, 0, 0, 0, 0), -1);
        Due.is("end(401)", x.end(401), -1);
        return x;
    }

    /** "four of each number, the highest first"; "Twenty bytes come behind the TAPE". */
    private static void feedOfBytes() {
        LedgerHounds x = new LedgerHounds();
        x.feed(0x6c656164, 0x73203320, 0x20202020, 0x20202020, 0x20202020);
        Due.is("leads 3", x.law(), 0);
        x.force(0);
        Due.is("leads 3", x.at(0, 2), 3);
        x.feed(0x20202020, 0x20202020, 0x20202020, 0x20202020, 0x20206c65);
        x.feed(0x61647320, 0x31202020, 0x20202020, 0x20202020, 0x20202020);
        Due.is("a TOKEN over two", x.law(), 1);
        x.force(1);
        Due.is("leads 1", x.at(0, 2), 1);
        x.feed(0x6c656164, 0x73203420, 0x21212121, 0x21212121, 0x21212121);
        Due.is("end(8)", x.end(8), 8);
        Due.is("the first n bytes alone", x.law(), 2);
        x.feed(0x80ffff7f, 0xff000000, 0, 0, 0);
        x.end(5);
        Due.is("bytes above 127 are bytes", x.law(), -6);
        Due.is("bytes above 127 are bytes", x.fault(), 0);
        x.feed(0x6c656164, 0x732031ff, 0, 0, 0);
        x.end(8);
        Due.is("255", x.law(), -6);
        Due.is("255", x.fault(), 7);
        x.feed(0x62697465, 0x73000000, 0, 0, 0);
        x.end(3);
        x.feed(0x65732020, 0x20202020, 0x20202020, 0x20202020, 0x20202020);
        Due.is("a word that comes to be behind end()", x.law(), 3);
        x.force(3);
        Due.is("bites", x.at(0, 3), 1);
    }

    private static int[] row(int... bytes) {
        LedgerHounds x = new LedgerHounds();
        Due.tape(x, Due.bytes(bytes));
        int[] told = {x.row(), x.smudges(), x.at(0, 0), x.at(24, 0), x.status()};
        return told;
    }

    private static void rowIs(String which, int[] told, int... due) {
        for (int i = 0; i < due.length; i++) {
            Due.is("row of " + which + ", answer " + i, told[i], due[i]);
        }
    }

    /** "CELL, ENTRY as 100 times the second (0 .. 9) and the third (0 .. 99)". */
    private static void rowBytes() {
        rowIs("CELL 0", row(0, 0, 1), 1, 0, 1, 0, 0);
        rowIs("CELL 24", row(24, 0, 1), 1, 0, 0, 1, 0);
        rowIs("CELL 25", row(25, 0, 1), 0, 1, 0, 0, 0);
        rowIs("CELL 255", row(255, 0, 1), 0, 1, 0, 0, 0);
        rowIs("CELL 128", row(128, 0, 1), 0, 1, 0, 0, 0);
        rowIs("second 0, third 0", row(0, 0, 0), 1, 0, 0, 0, 0);
        rowIs("second 9", row(0, 9, 0), 1, 0, 900, 0, 0);
        rowIs("second 10", row(0, 10, 0), 0, 1, 0, 0, 0);
        rowIs("second 255", row(0, 255, 0), 0, 1, 0, 0, 0);
        rowIs("third 99", row(0, 0, 99), 1, 0, 99, 0, 0);
        rowIs("third 100", row(0, 0, 100), 0, 1, 0, 0, 0);
        rowIs("third 255", row(0, 0, 255), 0, 1, 0, 0, 0);
        rowIs("999", row(0, 9, 99), 1, 0, 999, 0, 0);
        rowIs("one CELL twice", row(24, 0, 5, 24, 0, 7), 2, 0, 0, 7, 0);
        LedgerHounds x = new LedgerHounds();
        x.enter(0, 77);
        x.enter(24, 88);
        Due.tape(x, Due.bytes(0, 10, 5, 24, 0, 100));
        Due.is("a SMUDGE is nothing", x.row() * 1000000 + x.at(0, 0) * 1000 + x.at(24, 0), 77088);
        Due.is("two SMUDGES", x.smudges(), 2);
    }

    /** "one within which the TAPE ends is a SMUDGE"; "-6 the TAPE is empty". */
    private static void rowEnds() {
        int[] bytes = {24, 1, 2, 0, 3, 4, 24, 9, 9};
        int[][] due = {{-6, 0, 0, 0, -6}, {0, 1, 0, 0, 0}, {0, 1, 0, 0, 0}, {1, 0, 0, 102, 0}, {1, 1, 0, 102, 0}, {1, 1, 0, 102, 0},
            {2, 0, 304, 102, 0}, {2, 1, 304, 102, 0}, {2, 1, 304, 102, 0}, {3, 0, 304, 909, 0}};
        for (int n = 0; n <= bytes.length; n++) {
            rowIs(n + " bytes", row(java.util.Arrays.copyOf(bytes, n)), due[n]);
        }
        LedgerHounds x = new LedgerHounds();
        Due.is("smudges() ahead of any", x.smudges(), 0);
        Due.is("REFUSED", x.row(), -6);
        Due.is("smudges() ahead of any that was not REFUSED", x.smudges(), 0);
        Due.tape(x, Due.bytes(1, 2));
        Due.is("a SMUDGE", x.row(), 0);
        Due.is("smudges()", x.smudges(), 1);
        Due.is("REFUSED", x.row(), -6);
        Due.is("smudges() of the latest that was not REFUSED", x.smudges(), 1);
        Due.tape(x, Due.bytes(1, 2, 3));
        Due.is("a ROW", x.row(), 1);
        Due.is("smudges()", x.smudges(), 0);
        Due.is("the TAPE is empty then", x.count(6), 0);
    }

    /** 400 bytes are 133 threes and one byte more. */
    private static void rowFull() {
        LedgerHounds x = new LedgerHounds();
        for (int i = 0; i < 20; i++) {
            x.feed(0, 0, 0, 0, 0);
        }
        Due.is("row of 400", x.row(), 133);
        Due.is("the last byte", x.smudges(), 1);
        Due.is("the TAPE is empty then", x.count(6), 0);
        for (int i = 0; i < 20; i++) {
            x.feed(-1, -1, -1, -1, -1);
        }
        Due.is("row of 400 that can't be", x.row(), 0);
        Due.is("all of them", x.smudges(), 134);
    }

    /** "longest rows of letters a .. z, of digits, single other bytes, any blanks (32) between". */
    private static void tokenBytes() {
        Due.lawFault("leadsz 1", 0);
        Due.lawFault("aleads 1", 0);
        Due.lawFault("leads dayz", 6);
        Due.lawFault("leads aday", 6);
        Due.lawFault("leads" + (char) ('a' - 1) + "1", 5);
        Due.lawFault("leads" + (char) ('z' + 1) + "1", 5);
        Due.lawFault("leadsA", 5);
        Due.lawFault("leadsZ", 5);
        Due.lawFault("leads 1" + (char) ('9' + 1), 7);
        Due.lawFault("leads 1" + (char) ('0' - 1), 8);
        Due.lawFault("leads 1.5", 7);
        Due.lawGood("leads 9");
        Due.lawGood("leads 0");
        Due.lawFault("leads 1 9", 8);
        Due.lawFault("leads 1 0", 8);
        Due.lawFault("leads 90 0", 9);
        Due.lawFault("leads" + (char) 31 + "1", 5);
        Due.lawFault("leads" + (char) 33 + "1", 5);
        Due.lawFault("leads" + (char) 9 + "1", 5);
        Due.lawFault("leads" + (char) 160 + "1", 5);
        Due.lawFault((char) 0 + "leads 1", 0);
        Due.lawFault("leads 1" + (char) 255, 7);
        Due.lawFault("lea ds 1", 0);
        Due.lawFault("leads da y", 6);
        Due.lawFault("bites i f 1=1", 6);
        Due.lawFault("bites if 1 = 1 o r 1=1", 15);
        Due.lawGood("   bites   if   1   =   1   ;   bars   ");
        Due.lawGood("bites if[1]=1or(2=2)and not 3=3;bars");
        Due.lawFault("bitesif 1=1", 0);
        Due.lawFault("bites if 1=1 and(not2=2)and notday=1", 28);
        Due.lawGood("leads1if1=1or2=2");
        Due.lawGood("leads2*day");
        Due.lawFault("leads 2day", 7);
        Due.lawFault("bites if 1<=2", 11);
        Due.lawFault("bites if 1>=2", 11);
        Due.lawFault("bites if 1=>2", 11);
        Due.lawFault("bites if [(1=1)]", 10);
    }

    /** The TAPE ends within a TOKEN, or between two: each first part of one TEXT. */
    private static void tokenEnds() {
        String text = "bites if day=10";
        int[] fault = {0, 0, 0, 0, 0, -1, -1, 6, 8, 9, 9, 9, 12, 13, -1, -1};
        for (int n = 0; n < fault.length; n++) {
            LedgerHounds x = new LedgerHounds();
            Due.tape(x, text);
            x.end(n);
            Due.is("law of the first " + n, x.law(), fault[n] == -1 ? 0 : -6);
            Due.is("FAULT of the first " + n, x.fault(), fault[n]);
        }
        text = "take 1 by 0 times 12";
        int[] ofOrders = {0, 0, 0, 0, 4, 5, 6, 7, 7, 9, 10, -1, -1, 12, 12, 12, 12, 17, 18, -1, -1};
        for (int n = 0; n < ofOrders.length; n++) {
            LedgerHounds x = new LedgerHounds();
            Due.tape(x, text);
            x.end(n);
            Due.is("orders of the first " + n, x.orders(), ofOrders[n] == -1 ? -3 : -6);
            Due.is("FAULT of the first " + n, x.fault(), ofOrders[n]);
        }
    }

    /** "CLAUSE {";" CLAUSE}, 12 at most (FAULT at the 13th's first TOKEN)". */
    private static void clauses() {
        for (int n = 1; n <= 12; n++) {
            Due.lawGood("bites" + ";bites".repeat(n - 1));
            LedgerHounds x = new LedgerHounds();
            Due.is(n + " CLAUSES", Due.orders(x, "pass" + ";pass".repeat(n - 1)), n);
        }
        String law = "bars" + ";bars".repeat(11);
        String orders = "pass" + ";pass".repeat(11);
        Due.lawFault(law + ";bars", law.length() + 1);
        Due.lawFault(law + ";   bars", law.length() + 4);
        Due.lawFault(law + ";bars;bars", law.length() + 1);
        Due.lawFault(law + "; 7", law.length() + 2);
        Due.lawFault(law + ";", law.length() + 1);
        Due.lawFault(law + ";  ", law.length() + 3);
        Due.lawFault(law + ";;", law.length() + 1);
        Due.ordersFault(orders + ";pass", orders.length() + 1);
        Due.ordersFault(orders + "  ;  pass", orders.length() + 5);
        Due.ordersFault(orders + ";  ", orders.length() + 3);
        LedgerHounds x = Due.under("leads 0" + "; leads 1 if 1=2".repeat(10) + "; leads 4");
        Due.is("the 12th counts", x.at(0, 2), 4);
    }

    /** "50 PARTS that are NUMBERS and words (FAULT at the 51st)". */
    private static void parts() {
        String fifty = "leads " + "1+day+".repeat(24) + "1+day";
        Due.lawGood(fifty);
        Due.lawFault(fifty + "+1", fifty.length() + 1);
        Due.lawFault(fifty + "+ day", fifty.length() + 2);
        Due.lawFault(fifty + "+[1]", fifty.length() + 2);
        Due.lawFault(fifty + " if 1=1", fifty.length() + 4);
        Due.lawFault(fifty + "; takes 1", fifty.length() + 8);
        Due.lawGood(fifty + "; bites; bars");
        Due.lawFault(fifty + "; bites if cell < 3", fifty.length() + 11);
        String twenties = "bars if 1=1" + " or 1=1".repeat(24);
        Due.lawGood(twenties);
        Due.lawFault(twenties + " or 1=1", twenties.length() + 4);
        Due.lawGood("leads " + "[[1+1]]+".repeat(24) + "[1+1]");
        Due.lawFault("leads " + "[[1+1]]+".repeat(24) + "[1+1]+1", 6 + 24 * 8 + 6);
        String orders = "take 1 by 1 if entry 2" + "+1".repeat(44) + "=off 3" + "+hand 4" + "+across 0";
        LedgerHounds x = new LedgerHounds();
        Due.is("50 PARTS of ORDERS", Due.orders(x, orders), 0);
        Due.is("no FAULT", x.fault(), -1);
        Due.is("C, R, P, TIMES aside", Due.orders(x, orders.replace("1 if", "1 times 20 if")), 0);
        Due.ordersFault(orders + "+day", orders.length() + 1);
        Due.ordersFault(orders + "+entry 3", orders.length() + 1);
        Due.ordersFault(orders + "; fence done", orders.length() + 8);
        Due.is("pass has none", Due.orders(x, orders + "; pass times 3"), 3);
    }

    /** "8 brackets of both kinds within one another (FAULT at the 9th) at most". */
    private static void brackets() {
        for (int round = 0; round <= 8; round++) {
            String open = "(".repeat(round) + "[".repeat(8 - round);
            String shut = "]".repeat(8 - round) + "=1" + ")".repeat(round);
            Due.lawGood("bites if " + open + "1" + shut);
            Due.lawFault("bites if " + open + "[1]" + shut, 17);
            if (round == 8) {
                Due.lawFault("bites if " + open + "(1=1)" + ")".repeat(8), 17);
            }
        }
        Due.lawGood("leads " + "[[[[[[[[1]]]]]]]]" + "+[[[[[[[[1]]]]]]]]");
        Due.lawGood("bites if ((((((((1=1)))))))) and ((((((([1]=1)))))))");
        Due.lawGood("bites if [[[[[[[[1]]]]]]]]=[[[[[[[[1]]]]]]]]");
        Due.lawFault("leads 1+[[[[[[[[1]]]]]]]]*[[[[[[[[[1", 34);
        LedgerHounds x = new LedgerHounds();
        Due.is("8 in ORDERS", Due.orders(x, "fence [[[[[[[[3]]]]]]]] if (((((((([1]-1=0"), -6);
        Due.is("the 9th in ORDERS", x.fault(), 35);
        Due.is("8 in ORDERS", Due.orders(x, "fence [[[[[[[[3]]]]]]]] if ((((((([1]-1=0)))))))"), 1);
        Due.is("they are as they are", x.at(3, 1), 1);
    }

    /** "NUMBER (to 1,000)". */
    private static void numbers() {
        Due.lawGood("leads 1000");
        Due.lawGood("leads 0");
        Due.lawGood("leads 0001000");
        Due.lawFault("leads 1001", 6);
        Due.lawFault("leads 9999", 6);
        Due.lawFault("leads 10000", 6);
        Due.lawFault("leads 0001001", 6);
        Due.lawFault("leads 2147483648", 6);
        Due.lawFault("leads 4294967296", 6);
        Due.lawFault("leads 4294968296", 6);
        Due.lawFault("leads 18446744073709551616", 6);
        Due.lawFault("leads " + "9".repeat(394), 6);
        Due.lawGood("leads " + "0".repeat(394));
        Due.ordersFault("fence 1001", 6);
        Due.ordersFault("pass if 1=1001", 10);
    }

    /** "the end's: the TEXT's length"; "blanks alone: FAULT at the end". */
    private static void faultAtTheEnd() {
        for (int n = 0; n <= 400; n += 100) {
            Due.lawFault(" ".repeat(n), n);
            Due.ordersFault(" ".repeat(n), n);
        }
        Due.lawFault(" ", 1);
        Due.lawFault("leads", 5);
        Due.lawFault("leads   ", 8);
        Due.lawFault("leads 1 +  ", 11);
        Due.lawFault("bites if ((1=1)  ", 17);
        Due.lawFault("bites;  ", 8);
        Due.ordersFault("shift 1 to 2  ", 14);
        Due.ordersFault("fence entry  ", 13);
        Due.ordersFault("pass times  ", 12);
    }

    /** "the first TOKEN that can't go on there": of two, the first. */
    private static void faultIsTheFirst() {
        Due.lawFault("leads 1001; bites if", 6);
        Due.lawFault("leads ! 1001", 6);
        Due.lawFault("bites bites bites", 6);
        Due.lawFault("leads [1 + 2; leads", 12);
        Due.lawFault("leads [[[[[[[[[1001", 14);
        Due.ordersFault("pass times 21 if 1001=1", 11);
        Due.ordersFault("take 1 by 2 if entry 25 = 1001", 21);
        Due.ordersFault("fence hand 5 times 0", 11);
    }

    /** A TOKEN, a FAULT at the last byte of all. */
    private static void textOf400() {
        LedgerHounds x = new LedgerHounds();
        Due.is("a NUMBER to the last byte", Due.law(x, "leads " + "0".repeat(393) + "4"), 0);
        x.force(0);
        Due.is("all of it", x.at(0, 2), 4);
        Due.is("a word to the last byte", Due.law(x, "leads " + " ".repeat(391) + "day"), 1);
        Due.lawFault("leads 1" + " ".repeat(392) + "!", 399);
        Due.lawFault("leads 1" + " ".repeat(392) + "+", 400);
        Due.lawFault("leads " + " ".repeat(392) + "da", 398);
        Due.lawFault("bites" + " ".repeat(394) + ";", 400);
        x = new LedgerHounds();
        Due.is("ORDERS to the last byte", Due.orders(x, "pass" + " ".repeat(391) + ";pass"), 2);
        Due.ordersFault("pass" + " ".repeat(391) + ";pas" + (char) 200, 396);
    }

    /** "LAWS, 6 at most"; "-5 (ahead of reading it; the TAPE is empty then, too)". */
    private static void lawsNoRoom() {
        LedgerHounds x = new LedgerHounds();
        for (int i = 0; i < 6; i++) {
            Due.is("LAW " + i, Due.law(x, "leads " + i), i);
            Due.is("the TAPE is empty then", x.count(6), 0);
            Due.is("so many LAWS", x.count(4), i + 1);
        }
        Due.is("no room", Due.law(x, "leads 1"), -5);
        Due.is("the TAPE is empty then, too", x.count(6), 0);
        Due.is("no room, unread", Due.law(x, "leads !"), -5);
        Due.is("no FAULT, since it was not read", x.fault(), -1);
        Due.is("the TAPE is empty then, too", x.count(6), 0);
        Due.is("no room, an empty TAPE", x.law(), -5);
        Due.is("six as they were", x.count(4), 6);
        Due.is("the last is the sixth", x.force(5), -1);
        Due.is("the last is the sixth", x.at(0, 2), 4);
        Due.is("no seventh", x.force(6), -2);
        LedgerHounds y = new LedgerHounds();
        Due.is("-6", Due.law(y, "leads !"), -6);
        Due.is("the TAPE is empty then", y.count(6), 0);
        Due.is("no LAW", y.count(4), 0);
        Due.is("the next is LAW 0", Due.law(y, "leads 3"), 0);
    }

    /** "FAULT of the latest law(), orders() that read a TEXT: its place; NONE without." */
    private static void faultOfTheLatest() {
        LedgerHounds x = new LedgerHounds();
        Due.is("ahead of any", x.fault(), -1);
        Due.law(x, "bites 1");
        Due.is("of a law()", x.fault(), 6);
        x.law();
        Due.is("of an empty TAPE", x.fault(), 0);
        Due.orders(x, "pass pass");
        Due.is("of orders()", x.fault(), 5);
        Due.tape(x, Due.bytes(1, 2, 3));
        x.row();
        Due.is("row() reads no TEXT", x.fault(), 5);
        Due.orders(x, "fence 25");
        Due.is("orders() that can't be was read", x.fault(), -1);
        Due.orders(x, "pass,");
        Due.is("of orders()", x.fault(), 4);
        Due.law(x, "bites");
        Due.is("none", x.fault(), -1);
        Due.law(x, " ");
        Due.is("blanks alone", x.fault(), 1);
        Due.orders(x, "pass");
        Due.is("none", x.fault(), -1);
    }
}
