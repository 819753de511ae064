/** One test a promise, or more: its ordinary answers, its edges, and wrong inputs; all worked out by hand. */
final class PromiseTest {
    private static final int NONE = TurnQueues.NONE;
    private static final int[] STRANGE = {
        -1, -2, 61, 62, 63, 64, 1000, Integer.MAX_VALUE, Integer.MIN_VALUE,
    };

    /** LAW 0: VERSION 3 has FRONT 5, BACK 7 6; VERSION 4 FRONT 6 7; VERSION 5 is made of VERSION 1. */
    private static final String PLAIN = "house law 0 balance 2;put 0 5;put 1 6;put 2 7;take 3;put 1 9;";
    /** LAW 1: VERSION 7 is TURNING, VERSION 8 JOINING, VERSION 9 IDLE again. */
    private static final String TURNS =
            "house law 1 balance 3;put 0 1;put 1 2;put 2 3;put 3 4;put 4 5;put 5 6;put 6 7;take 7;take 8;";
    /** LAW 1: VERSION 9 is JOINING with GOOD 0, so that taking of it (VERSION 10) ends the joining. */
    private static final String JOINS =
            "house law 1 balance 3;put 0 1;put 1 2;put 2 3;put 3 4;put 4 5;put 5 6;put 6 7;put 7 8;take 8;take 9;";
    /** LAW 2: VERSIONS 2, 5 and 8 are EVENED; the number that leaves by DEED 9 is in the other ROW. */
    private static final String EVENS = "house law 2 balance 2;put 0 1;put 1 2;put 2 3;put 3 4;put 4 5;"
            + "take 5;last 6;last 7;take 8;take 9;";
    /** A bush: VERSIONS 1, 4 of 0; 2, 3 of 1; 5 of 3. */
    private static final String BUSH = "house law 0 balance 4;put 0 1;put 1 2;put 1 2;put 0 1;take 3;";

    private final Check check = new Check();

    private void test(String name, Check.Body body) {
        check.test(name, body);
    }

    private static String told(TurnQueues x, int version) {
        x.tell(version);
        return Feeder.out(x);
    }

    private static void tells(Check c, TurnQueues x, int version, String due) {
        int bytes = x.tell(version);
        String got = Feeder.out(x);
        c.truth("VERSION " + version + " is told '" + got + "', due is '" + due + "'", got.equals(due));
        c.same("tell(" + version + ")", bytes, due.length());
    }

    private static void faulty(Check c, String text, int fault, int place) {
        TurnQueues x = new TurnQueues();
        c.same("house of '" + text + "'", Feeder.house(x, text), -4);
        c.same("fault of '" + text + "'", x.fault(0), fault);
        c.same("place of '" + text + "'", x.fault(1), place);
        c.same("VERSIONS of '" + text + "'", x.count(2), 0);
    }

    private static String forty(String deed) {
        StringBuilder s = new StringBuilder("house law 2 balance 2;");
        for (int i = 0; i < 40; i++) {
            s.append(deed);
        }
        return s.toString();
    }

    private void tape() {
        test("1 a new object", c -> {
            TurnQueues x = new TurnQueues();
            c.same("NONE", TurnQueues.NONE, -1);
            for (int what = 0; what <= 7; what++) {
                c.same("count(" + what + ")", x.count(what), 0);
            }
            c.same("fault(0)", x.fault(0), 0);
            c.same("fault(1)", x.fault(1), NONE);
            c.same("octet(0)", x.octet(0), NONE);
            c.same("made()", x.made(), -2);
            c.same("size(0)", x.size(0), -2);
            c.same("back(0)", x.back(0), -6);
        });
        test("2 feed", c -> {
            TurnQueues x = Feeder.housed("house law 0 balance 2;");
            int text = 't' << 24 | 'p' << 16 | 'p' << 8 | 'p';
            c.same("feed", x.feed(text, text, text, text, text), 20);
            c.same("walk, a take first", x.walk(0), NONE);
            text = 'p' << 24 | 'p' << 16 | 'p' << 8 | 't';
            c.same("feed", x.feed(text, text, text, text, text), 20);
            c.same("walk, the highest byte first", x.walk(0) > 0 ? 1 : 0, 1);
            for (int i = 1; i <= 30; i++) {
                c.same("feed " + i, x.feed(-1, 0, i, -i, Integer.MIN_VALUE), 20 * i);
            }
            c.same("feed past 600", x.feed(0, 0, 0, 0, 0), NONE);
            c.same("bytes", x.count(6), 600);
            x.end(581);
            c.same("feed past 600 by one", x.feed(0, 0, 0, 0, 0), NONE);
            c.same("bytes", x.count(6), 581);
            x.end(580);
            c.same("feed to 600", x.feed(0, 0, 0, 0, 0), 600);
        });
        test("3 end", c -> {
            TurnQueues x = new TurnQueues();
            c.same("end(0)", x.end(0), 0);
            c.same("end(1)", x.end(1), NONE);
            x.feed(0, 0, 0, 0, 0);
            c.same("end(21)", x.end(21), NONE);
            c.same("end(-1)", x.end(-1), NONE);
            c.same("end(min)", x.end(Integer.MIN_VALUE), NONE);
            c.same("bytes", x.count(6), 20);
            c.same("end(20)", x.end(20), 20);
            c.same("end(7)", x.end(7), 7);
            c.same("end(8)", x.end(8), NONE);
            c.same("bytes", x.count(6), 7);
        });
    }

    private void texts() {
        test("4 house", c -> {
            TurnQueues x = new TurnQueues();
            c.same("no text", x.house(), 0);
            c.same("blanks alone", Feeder.house(x, " \n "), 0);
            c.same("a HOUSE alone", Feeder.house(x, "house law 0 balance 2;"), 1);
            c.same("VERSIONS", x.count(2), 1);
            c.same("TURNS", Feeder.house(x, TURNS), 10);
            c.same("TAPE", x.count(6), 0);
            x.put(0, 1);
            c.same("a fault", Feeder.house(x, "house law 0 balance 2;put 1 0;"), -4);
            c.same("all else stays: VERSIONS", x.count(2), 11);
            c.same("all else stays: acts", x.count(4), 1);
            c.same("TAPE", x.count(6), 0);
            c.same("in place of others", Feeder.house(x, "house law 2 balance 4;put 0 7;"), 2);
            c.same("VERSIONS", x.count(2), 2);
            c.same("acts", x.count(4), 0);
            c.same("LAW", x.count(0), 2);
            c.same("none then", Feeder.house(x, ""), 0);
            for (int what = 0; what < 6; what++) {
                c.same("count(" + what + ")", x.count(what), 0);
            }
            c.same("ledger", x.ledger(), -2);
        });
        test("4 house: the tokens", c -> {
            TurnQueues x = new TurnQueues();
            c.same("no blanks", Feeder.house(x, "house law1balance02;put0 99;take1;"), 3);
            c.same("line feeds", Feeder.house(x, "\nhouse\nlaw\n\n0 balance 4\n;\nput 000 0000099 ; "), 2);
            c.same("tail", x.tail(1), 99);
            c.same("fore, last by LAW 2", Feeder.house(x, "house law 2balance 3;fore 0 0;last 1;"), 3);
            c.same("forty DEEDS", Feeder.house(x, forty("put 0 1;")), 41);
        });
        test("5 fault", c -> {
            TurnQueues x = new TurnQueues();
            Feeder.house(x, "house law 3 balance 2;");
            c.same("fault(0)", x.fault(0), 2);
            c.same("fault(1)", x.fault(1), 10);
            c.same("fault(2)", x.fault(2), NONE);
            c.same("fault(-1)", x.fault(-1), NONE);
            c.same("fault(min)", x.fault(Integer.MIN_VALUE), NONE);
            Feeder.house(x, "house law 1 balance 2;");
            c.same("without", x.fault(0), 0);
            c.same("place without", x.fault(1), NONE);
        });
        test("5 fault: 1, a TOKEN", c -> {
            faulty(c, "put 0 1;", 1, 0);
            faulty(c, " housee law 0 balance 2;", 1, 1);
            faulty(c, "hous law 0 balance 2;", 1, 0);
            faulty(c, "House law 0 balance 2;", 1, 0);
            faulty(c, "house", 1, 5);
            faulty(c, "house  ", 1, 7);
            faulty(c, "house law 0 balance 2", 1, 21);
            faulty(c, "house law ; balance 2;", 1, 10);
            faulty(c, "house 0", 1, 6);
            faulty(c, "house law 0 law 2;", 1, 12);
            faulty(c, "house law 0 balance 2;;", 1, 22);
            faulty(c, "house law 0 balance 2;house law 0 balance 2;", 1, 22);
            faulty(c, "house law 0 balance 2;puts 0 1;", 1, 22);
            faulty(c, "house law 0 balance 2;putz 0 1;", 1, 22);
            faulty(c, "house law 0 balance 2;puta 0 1;", 1, 22);
            faulty(c, "house law 0 balance 2;put{0 1;", 1, 25);
            faulty(c, "house law 0 balance 2;put`0 1;", 1, 25);
            faulty(c, "house law 0 balance 2;put 0 1:", 1, 29);
            faulty(c, "house law 0 balance 2;put 0 1/", 1, 29);
            faulty(c, "house law 0 balance 2;put 9", 2, 26);
            faulty(c, "house law 0 balance 2;put 0 1 1;", 1, 30);
            faulty(c, "house law 0 balance 2;put 0;", 1, 27);
            faulty(c, "house law 0 balance 2;take put;", 1, 27);
            faulty(c, "house law 0 balance 2;put 0 1;fore 0 1;", 1, 30);
            faulty(c, "house law 1 balance 2;put 0 1;last 1;", 1, 30);
            faulty(c, "house law 0 balance 2;\tput 0 1;", 1, 22);
            faulty(c, "house law 0 balance 2;put 0 -1;", 1, 28);
            faulty(c, "house law 0 balance 2;put 0 1;\u00e9", 1, 30);
            faulty(c, "house law 0 balance 2;put 0 1;\u0000", 1, 30);
        });
        test("5 fault: 2, a number", c -> {
            faulty(c, "house law 3 balance 2;", 2, 10);
            faulty(c, "house law 0 balance 1;", 2, 20);
            faulty(c, "house law 0 balance 5;", 2, 20);
            faulty(c, "house law 4294967296 balance 2;", 2, 10);
            faulty(c, "house law 18446744073709551616 balance 2;", 2, 10);
            faulty(c, "house law 0 balance 2;put 0 100;", 2, 28);
            faulty(c, "house law 0 balance 2;put 1 5;", 2, 26);
            faulty(c, "house law 0 balance 2;put 1 100;", 2, 26);
            faulty(c, "house law 0 balance 2;take 0;", 2, 27);
            faulty(c, "house law 0 balance 2;put 0 1;take 1;take 2;", 2, 42);
            faulty(c, "house law 2 balance 2;put 0 1;last 2;", 2, 35);
            faulty(c, "house law 2 balance 2;last 0", 2, 27);
            faulty(c, "house law 2 balance 2;take 4294967296;", 2, 27);
        });
        test("5 fault: 3, a 41st DEED", c -> {
            faulty(c, forty("put 0 1;") + "put 0 1;", 3, 342);
            faulty(c, forty("put 0 1;") + "take 99", 3, 342);
            faulty(c, forty("put 0 1;") + "house", 1, 342);
            faulty(c, forty("put 0 1;").replace("law 2", "law 1") + "fore 0 1;", 1, 342);
            faulty(c, forty("put 0 1;") + "fore 0 1;", 3, 342);
        });
        test("6 count", c -> {
            TurnQueues x = Feeder.housed(EVENS);
            x.put(0, 3);
            x.tell(5);
            x.feed(0, 0, 0, 0, 0);
            int[] due = {2, 2, 12, 11, 1, 11, 20, 22};
            for (int what = 0; what < due.length; what++) {
                c.same("count(" + what + ")", x.count(what), due[what]);
            }
            c.same("count(8)", x.count(8), NONE);
            c.same("count(-1)", x.count(-1), NONE);
            c.same("count(max)", x.count(Integer.MAX_VALUE), NONE);
        });
    }

    private void queues() {
        test("7 version", c -> {
            TurnQueues x = Feeder.housed(EVENS);
            int[][] due = {{NONE, NONE, NONE}, {0, 0, 1}, {1, 0, 2}};
            for (int what = 0; what < 3; what++) {
                c.same("of VERSION 0", x.version(0, what), due[0][what]);
                c.same("of VERSION 1", x.version(1, what), due[1][what]);
                c.same("of VERSION 2", x.version(2, what), due[2][what]);
            }
            c.same("a take", x.version(6, 1), 1);
            c.same("the number taken", x.version(6, 2), 1);
            c.same("a last", x.version(7, 1), 3);
            c.same("the number taken", x.version(7, 2), 5);
            c.same("a fore", x.version(x.fore(4, 8), 1), 2);
            c.same("its number", x.version(11, 2), 8);
            c.same("what 3", x.version(1, 3), -2);
            c.same("what -1", x.version(1, -1), -2);
            c.same("what 3 of VERSION 0", x.version(0, 3), -2);
            c.same("VERSION 12", x.version(12, 0), -2);
            c.same("VERSION -1", x.version(-1, 0), -2);
        });
        test("8 size", c -> {
            TurnQueues x = Feeder.housed(TURNS);
            int[] due = {0, 1, 2, 3, 4, 5, 6, 7, 6, 5, -2};
            for (int v = 0; v < due.length; v++) {
                c.same("size(" + v + ")", x.size(v), due[v]);
            }
            c.same("size(-1)", x.size(-1), -2);
        });
        test("9 at", c -> {
            TurnQueues x = Feeder.housed(TURNS);
            for (int i = 0; i < 6; i++) {
                c.same("at(8, " + i + ")", x.at(8, i), i + 2);
            }
            c.same("at(8, 6)", x.at(8, 6), NONE);
            c.same("at(8, max)", x.at(8, Integer.MAX_VALUE), NONE);
            c.same("at(8, -1)", x.at(8, -1), -2);
            c.same("at(10, 0)", x.at(10, 0), -2);
            c.same("at(0, 0)", x.at(0, 0), NONE);
            x = Feeder.housed(EVENS);
            c.same("behind a take and a last", x.at(7, 0) * 100 + x.at(7, 1) * 10 + x.at(7, 2), 234);
            x.fore(7, 9);
            c.same("behind a fore", x.at(11, 0) * 10 + x.at(11, 3), 94);
        });
        test("10 first", c -> {
            TurnQueues x = Feeder.housed(TURNS);
            c.same("first(0)", x.first(0), NONE);
            c.same("first(7)", x.first(7), 1);
            c.same("first(9)", x.first(9), 3);
            c.same("first(10)", x.first(10), -2);
            c.same("first(-1)", x.first(-1), -2);
        });
        test("11 tail", c -> {
            TurnQueues x = Feeder.housed(TURNS);
            c.same("tail(0)", x.tail(0), NONE);
            c.same("tail(1)", x.tail(1), 1);
            c.same("tail(6)", x.tail(6), 6);
            c.same("tail(9)", x.tail(9), 7);
            c.same("tail(10)", x.tail(10), -2);
            c.same("tail(-1)", x.tail(-1), -2);
        });
        test("12 like", c -> {
            TurnQueues x = Feeder.housed(BUSH);
            int[] due = {0, 1, 2, 2, 1, 5, -2};
            for (int v = 0; v < due.length; v++) {
                c.same("like(" + v + ")", x.like(v), due[v]);
            }
            x.take(1);
            c.same("empty again", x.like(6), 0);
            x.put(4, 3);
            c.same("other numbers, as many", x.like(7), 7);
            x.put(2, 2);
            c.same("more numbers", x.like(8), 8);
            c.same("like(-1)", x.like(-1), -2);
        });
    }

    private void trees() {
        test("13 forks", c -> {
            TurnQueues x = Feeder.housed(BUSH);
            int[] due = {2, 2, 0, 1, 0, 0, -2};
            for (int v = 0; v < due.length; v++) {
                c.same("forks(" + v + ")", x.forks(v), due[v]);
            }
            c.same("forks(-1)", x.forks(-1), -2);
        });
        test("14 meet", c -> {
            TurnQueues x = Feeder.housed(BUSH);
            c.same("meet(2, 5)", x.meet(2, 5), 1);
            c.same("meet(5, 2)", x.meet(5, 2), 1);
            c.same("meet(4, 5)", x.meet(4, 5), 0);
            c.same("meet(3, 5)", x.meet(3, 5), 3);
            c.same("meet(5, 5)", x.meet(5, 5), 5);
            c.same("meet(0, 5)", x.meet(0, 5), 0);
            c.same("meet(0, 6)", x.meet(0, 6), -2);
            c.same("meet(-1, 0)", x.meet(-1, 0), -2);
        });
        test("15 apart", c -> {
            TurnQueues x = Feeder.housed(BUSH);
            c.same("apart(2, 5)", x.apart(2, 5), 3);
            c.same("apart(5, 4)", x.apart(5, 4), 4);
            c.same("apart(3, 5)", x.apart(3, 5), 1);
            c.same("apart(5, 5)", x.apart(5, 5), 0);
            c.same("apart(0, 5)", x.apart(0, 5), 3);
            c.same("apart(0, 6)", x.apart(0, 6), -2);
            c.same("apart(-1, 0)", x.apart(-1, 0), -2);
        });
        test("20 path", c -> {
            TurnQueues x = Feeder.housed(BUSH);
            int[] due = {0, 1, 3, 5, NONE};
            for (int i = 0; i < due.length; i++) {
                c.same("path(5, " + i + ")", x.path(5, i), due[i]);
            }
            c.same("path(0, 0)", x.path(0, 0), 0);
            c.same("path(0, 1)", x.path(0, 1), NONE);
            c.same("path(5, max)", x.path(5, Integer.MAX_VALUE), NONE);
            c.same("path(5, -1)", x.path(5, -1), -2);
            c.same("path(6, 0)", x.path(6, 0), -2);
        });
        test("21 along", c -> {
            TurnQueues x = Feeder.housed(PLAIN);
            int[][] due = {{0, 0, 0}, {1, 2, 2}, {2, 3, 2}, {3, 4, 2}, {4, 7, 3}, {2, 3, 2}};
            for (int v = 0; v < due.length; v++) {
                for (int what = 0; what < 3; what++) {
                    c.same("along(" + v + ", " + what + ")", x.along(v, what), due[v][what]);
                }
            }
            c.same("along(1, 3)", x.along(1, 3), -2);
            c.same("along(1, -1)", x.along(1, -1), -2);
            c.same("along(6, 0)", x.along(6, 0), -2);
        });
    }

    private void rows() {
        test("16 state", c -> {
            TurnQueues x = Feeder.housed(TURNS);
            int[][] due = {{0, 0, 0, 0, 0}, {1, 2, 7, 0, 0}, {2, 2, 6, 0, 0}, {0, 0, 5, 0, 0}};
            int[] versions = {0, 7, 8, 9};
            for (int k = 0; k < versions.length; k++) {
                for (int what = 0; what < 5; what++) {
                    c.same("state(" + versions[k] + ", " + what + ")", x.state(versions[k], what), due[k][what]);
                }
            }
            c.same("state(7, 5)", x.state(7, 5), -2);
            c.same("state(7, -1)", x.state(7, -1), -2);
            c.same("state(10, 0)", x.state(10, 0), -2);
            x = Feeder.housed(EVENS);
            int[] owing = {0, 0, 3, 3, 2};
            for (int what = 0; what < 5; what++) {
                c.same("LAW 2: state(5, " + what + ")", x.state(5, what), owing[what]);
            }
            c.same("behind paying", x.state(6, 3) * 10 + x.state(6, 4), 10);
            x = Feeder.housed(PLAIN);
            c.same("LAW 0: how many FRONT has", x.state(4, 2), 2);
            c.same("LAW 0: no GOOD", x.state(4, 1), 0);
        });
        test("17 row", c -> {
            TurnQueues x = Feeder.housed(TURNS);
            int[] turning = {3, 0, 1, 2, 2, 2};
            int[] joining = {2, 0, 0, 3, 0, 4};
            int[] idle = {5, 0, 0, 0, 0, 0};
            for (int row = 0; row < 6; row++) {
                c.same("row(7, " + row + ")", x.row(7, row), turning[row]);
                c.same("row(8, " + row + ")", x.row(8, row), joining[row]);
                c.same("row(9, " + row + ")", x.row(9, row), idle[row]);
            }
            c.same("BACK", x.row(6, 1), 3);
            c.same("row(7, 6)", x.row(7, 6), -2);
            c.same("row(7, -1)", x.row(7, -1), -2);
            c.same("row(10, 0)", x.row(10, 0), -2);
        });
        test("18 cell", c -> {
            TurnQueues x = Feeder.housed(TURNS);
            int[][] due = {{1, 2, 3, NONE}, {NONE}, {3, NONE}, {2, 1, NONE}, {5, 4, NONE}, {6, 7, NONE}};
            for (int row = 0; row < 6; row++) {
                for (int i = 0; i < due[row].length; i++) {
                    c.same("cell(7, " + row + ", " + i + ")", x.cell(7, row, i), due[row][i]);
                }
            }
            c.same("far behind", x.cell(7, 0, Integer.MAX_VALUE), NONE);
            c.same("cell(7, 0, -1)", x.cell(7, 0, -1), -2);
            c.same("cell(7, 6, 0)", x.cell(7, 6, 0), -2);
            c.same("cell(7, -1, 0)", x.cell(7, -1, 0), -2);
            c.same("cell(10, 0, 0)", x.cell(10, 0, 0), -2);
        });
        test("19 twin", c -> {
            TurnQueues x = Feeder.housed(BUSH);
            int[] due = {0, 1, 2, 2, 1, 5, -2};
            for (int v = 0; v < due.length; v++) {
                c.same("twin(" + v + ")", x.twin(v), due[v]);
            }
            c.same("twin(-1)", x.twin(-1), -2);
            x = Feeder.housed("house law 0 balance 2;put 0 6;put 1 7;put 0 5;put 3 6;put 4 7;take 5;");
            c.same("like, by other ROWS", x.like(6), 2);
            c.same("no twin: FRONT 6 7, not FRONT 6, BACK 7", x.twin(6), 6);
            x = Feeder.housed("house law 2 balance 2;put 0 1;put 1 2;put 2 3;last 3;put 0 1;put 5 2;");
            c.same("like, owing less", x.like(4), 2);
            c.same("no twin: it owes nothing", x.twin(4), 4);
            c.same("a twin that owes as much", x.twin(6), 2);
        });
        test("22 origin", c -> {
            TurnQueues x = Feeder.housed(TURNS);
            c.same("FRONT, joined by DEED 3", x.origin(6, 0, 0), 3);
            c.same("FRONT, turned by DEED 2", x.origin(6, 0, 1), 2);
            c.same("BACK, put by DEED 4", x.origin(6, 1, 1), 4);
            c.same("C, by DEED 6", x.origin(8, 3, 1), 6);
            c.same("C, by DEED 7", x.origin(8, 3, 0), 7);
            c.same("E, by DEED 7", x.origin(8, 5, 1), 7);
            c.same("E, by DEED 6", x.origin(8, 5, 2), 6);
            c.same("too far", x.origin(8, 5, 4), NONE);
            c.same("no ROW now", x.origin(9, 5, 0), NONE);
            c.same("i below 0", x.origin(8, 5, -1), -2);
            c.same("no such ROW", x.origin(8, 6, 0), -2);
            c.same("no such VERSION", x.origin(10, 0, 0), -2);
            c.same("the first CELL of all", Feeder.housed(EVENS).origin(1, 1, 0), 0);
        });
        test("the ROWS by LAW 1", c -> {
            TurnQueues x = Feeder.housed(JOINS);
            String[] due = {
                "f|b|idle", "f 1|b|idle", "f 1|b 2|idle", "f 1|b|joining 1|c 1|e 2 3", "f 1 2 3|b 4|idle",
                "f 1 2 3|b 5 4|idle", "f 1 2 3|b 6 5 4|idle", "f 1 2 3|b|turning 2|a 3|c 2 1|d 5 4|e 6 7",
                "f 1 2 3|b 8|joining 3|c 3 2 1|e 4 5 6 7", "f 2 3|b 8|joining 0|c 1|e 2 3 4 5 6 7",
                "f 3 4 5 6 7|b 8|idle",
            };
            int[] spent = {3, 1, 3, 3, 1, 1, 3, 3, 3, 1};
            for (int v = 0; v < due.length; v++) {
                tells(c, x, v, due[v]);
                c.same("spent(" + (v - 1) + ")", x.spent(v - 1), v == 0 ? -2 : spent[v - 1]);
            }
        });
        test("the ROWS by LAW 2", c -> {
            TurnQueues x = Feeder.housed(EVENS);
            String[] due = {
                "f|b|owes 0 0", "f|b 1|owes 0 0", "f 1|b 2|owes 1 1", "f 1|b 3 2|owes 0 0", "f 1|b 4 3 2|owes 0 0",
                "f 1 2 3|b 5 4|owes 3 2", "f 2 3|b 5 4|owes 1 0", "f 2 3|b 4|owes 0 0", "f 2|b 3|owes 1 1",
                "f|b 3|owes 0 0", "f|b|owes 0 0",
            };
            for (int v = 0; v < due.length; v++) {
                tells(c, x, v, due[v]);
            }
            x.fore(0, 5);
            x.fore(11, 6);
            tells(c, x, 12, "f 6|b 5|owes 1 1");
            x.last(11);
            tells(c, x, 13, "f|b|owes 0 0");
        });
        test("the ROWS by LAW 0", c -> {
            TurnQueues x = Feeder.housed(PLAIN);
            String[] due = {"f|b", "f 5|b", "f 5|b 6", "f 5|b 7 6", "f 6 7|b", "f 5|b 9"};
            for (int v = 0; v < due.length; v++) {
                tells(c, x, v, due[v]);
            }
        });
    }

    private void cells() {
        test("23 from", c -> {
            TurnQueues x = Feeder.housed(TURNS);
            // VERSION 8: FRONT 2 3 (both by DEED 2); C 3 (DEED 7) 2 1 (6); E 4 5 (7) 6 7 (6).
            int[] due = {0, 0, 2, 0, 0, 0, 4, 3, 0};
            for (int deed = 0; deed < due.length; deed++) {
                c.same("from(8, " + deed + ")", x.from(8, deed), due[deed]);
            }
            c.same("from(8, 9)", x.from(8, 9), -2);
            c.same("from(8, -1)", x.from(8, -1), -2);
            c.same("from(10, 0)", x.from(10, 0), -2);
        });
        test("24 lost", c -> {
            TurnQueues x = Feeder.housed(PLAIN);
            // DEEDS 0 and 3 turn their CELLS: the one that DEED 0 put is in no VERSION.
            c.same("lost()", x.lost(), 1);
            c.same("none yet", Feeder.housed("house law 0 balance 2;").lost(), 0);
            c.same("no HOUSE", new TurnQueues().lost(), -2);
            x = Feeder.housed(EVENS);
            // DEED 1's and DEED 4's own CELLS, evened at once.
            c.same("by LAW 2", x.lost(), 2);
        });
        test("25 holds", c -> {
            TurnQueues x = Feeder.housed(TURNS);
            // VERSION 7: FRONT 1 2 3, of which A's 3 is the last one and counts once; C, D, E two each.
            int[] due = {0, 1, 2, 4, 4, 5, 6, 9, 9, 5};
            for (int v = 0; v < due.length; v++) {
                c.same("holds(" + v + ")", x.holds(v), due[v]);
            }
            c.same("holds(10)", x.holds(10), -2);
            c.same("holds(-1)", x.holds(-1), -2);
        });
        test("26 shares", c -> {
            TurnQueues x = Feeder.housed(TURNS);
            c.same("shares(5, 6)", x.shares(5, 6), 5);
            c.same("shares(6, 5)", x.shares(6, 5), 5);
            // FRONT 1 2 3, and 5 4, which were in BACK and are in D.
            c.same("shares(6, 7)", x.shares(6, 7), 5);
            c.same("shares(7, 8)", x.shares(7, 8), 6);
            c.same("shares(8, 9)", x.shares(8, 9), 4);
            c.same("shares(9, 9)", x.shares(9, 9), 5);
            c.same("shares(0, 9)", x.shares(0, 9), 0);
            c.same("shares(0, 10)", x.shares(0, 10), -2);
            c.same("shares(-1, 0)", x.shares(-1, 0), -2);
        });
        test("27 held", c -> {
            TurnQueues x = Feeder.housed(PLAIN);
            c.same("none", x.held(0L), 0);
            c.same("VERSIONS 1, 2", x.held(6L), 2);
            c.same("VERSIONS 2, 5", x.held(36L), 3);
            c.same("all", x.held(63L), 6);
            c.same("a VERSION that is not there", x.held(64L), -2);
            c.same("all bits", x.held(-1L), -2);
            c.same("the highest bit", x.held(Long.MIN_VALUE), -2);
            c.same("no HOUSE", new TurnQueues().held(0L), -2);
            for (int v = 6; v < 61; v++) {
                x.put(0, v);
            }
            c.same("61 VERSIONS", x.held((1L << 61) - 1), 6 + 55);
            c.same("the last one", x.held(1L << 60), 1);
            c.same("one more", x.held(1L << 61), -2);
        });
        test("28 made", c -> {
            c.same("LAW 0", Feeder.housed(PLAIN).made(), 7);
            c.same("LAW 1", Feeder.housed(TURNS).made(), 20);
            c.same("LAW 2", Feeder.housed(EVENS).made(), 1 + 3 + 1 + 1 + 6 + 2);
            c.same("none", Feeder.housed("house law 0 balance 2;").made(), 0);
            c.same("no HOUSE", new TurnQueues().made(), -2);
        });
    }

    private void steps() {
        test("29 spent", c -> {
            TurnQueues x = Feeder.housed(EVENS);
            int[] due = {1, 1, 3, 1, 1, 5, 2, 1, 3, 1};
            for (int deed = 0; deed < due.length; deed++) {
                c.same("spent(" + deed + ")", x.spent(deed), due[deed]);
            }
            c.same("spent(10)", x.spent(10), -2);
            c.same("spent(-1)", x.spent(-1), -2);
            x.take(5);
            c.same("an act", x.spent(10), 5);
            x = Feeder.housed(PLAIN);
            c.same("LAW 0, first", x.spent(0), 2);
            c.same("LAW 0, take", x.spent(3), 3);
            c.same("no HOUSE", new TurnQueues().spent(0), -2);
        });
        test("30 ledger", c -> {
            c.same("LAW 0", Feeder.housed(PLAIN).ledger(), 8);
            c.same("LAW 1", Feeder.housed(TURNS).ledger(), 21);
            c.same("LAW 2", Feeder.housed(EVENS).ledger(), 19);
            c.same("none", Feeder.housed("house law 0 balance 2;").ledger(), 0);
            c.same("no HOUSE", new TurnQueues().ledger(), -2);
        });
        test("31 dearest", c -> {
            c.same("LAW 0", Feeder.housed(PLAIN).dearest(), 3);
            c.same("LAW 1, the first of several", Feeder.housed(TURNS).dearest(), 0);
            c.same("LAW 2", Feeder.housed(EVENS).dearest(), 5);
            c.same("none", Feeder.housed("house law 0 balance 2;").dearest(), NONE);
            c.same("no HOUSE", new TurnQueues().dearest(), -2);
        });
        test("32 overdue", c -> {
            c.same("LAW 0", Feeder.housed(PLAIN).overdue(), 0);
            c.same("LAW 1", Feeder.housed(TURNS).overdue(), 0);
            // DEEDS 4 and 7 even what owed until just before.
            c.same("LAW 2", Feeder.housed(EVENS).overdue(), 0);
            TurnQueues x = Feeder.housed("house law 2 balance 2;put 0 1;put 1 2;last 2;put 3 3;");
            c.same("evened again, all paid in that DEED", x.overdue(), 0);
            c.same("no HOUSE", new TurnQueues().overdue(), -2);
        });
        test("33 by", c -> {
            TurnQueues x = Feeder.housed(PLAIN);
            c.same("by(0)", x.by(0), 8);
            // LAW 1: 3, 1, 3, then a take that joins and is ready at once; DEED 4 puts on VERSION 1.
            c.same("by(1)", x.by(1), 3 + 1 + 3 + 2 + 1);
            // LAW 2, C 2: 1, 1 (evened), 3, 1 (evened), 1 (evened).
            c.same("by(2)", x.by(2), 1 + 1 + 3 + 1 + 1);
            c.same("by(3)", x.by(3), -2);
            c.same("by(-1)", x.by(-1), -2);
            x = Feeder.housed(EVENS);
            c.same("with last, by(0)", x.by(0), NONE);
            c.same("with last, by(1)", x.by(1), NONE);
            c.same("with last, by(2)", x.by(2), 19);
            c.same("with last, by(3)", x.by(3), -2);
            x = Feeder.housed("house law 2 balance 3;fore 0 1;");
            c.same("with fore", x.by(0), NONE);
            c.same("no HOUSE", new TurnQueues().by(0), -2);
            c.same("none", Feeder.housed("house law 0 balance 2;").by(1), 0);
        });
        test("34 peak", c -> {
            TurnQueues x = Feeder.housed(PLAIN);
            c.same("peak(0)", x.peak(0), 3);
            c.same("peak(1)", x.peak(1), 3);
            c.same("peak(2)", x.peak(2), 3);
            c.same("peak(3)", x.peak(3), -2);
            c.same("peak(-1)", x.peak(-1), -2);
            x = Feeder.housed(EVENS);
            c.same("with last, peak(1)", x.peak(1), NONE);
            c.same("with last, peak(2)", x.peak(2), 5);
            c.same("without any", Feeder.housed("house law 0 balance 2;").peak(0), 0);
            c.same("no HOUSE", new TurnQueues().peak(0), -2);
        });
        test("35 balanced", c -> {
            TurnQueues x = Feeder.housed(EVENS);
            c.same("balanced(1)", x.balanced(1), -2);
            c.same("balanced(2)", x.balanced(2), 19);
            c.same("balanced(3)", x.balanced(3), 18);
            c.same("balanced(4)", x.balanced(4), 18);
            c.same("balanced(5)", x.balanced(5), -2);
            c.same("by LAW 2 from another", Feeder.housed(PLAIN).balanced(2), 7);
            c.same("no HOUSE", new TurnQueues().balanced(2), -2);
        });
        test("36 balance", c -> {
            c.same("3 and 4 are as few: the least", Feeder.housed(EVENS).balance(), 3);
            TurnQueues x = Feeder.housed("house law 2 balance 2;"
                    + "fore 0 1;fore 1 1;fore 2 1;fore 3 1;fore 4 1;fore 5 1;fore 6 1;");
            c.same("balanced(2)", x.balanced(2), 1 + 1 + 3 + 1 + 1 + 3 + 3);
            c.same("balanced(3)", x.balanced(3), 1 + 1 + 3 + 1 + 1 + 1 + 3);
            c.same("balanced(4)", x.balanced(4), 1 + 1 + 3 + 1 + 1 + 1 + 1);
            c.same("the last one is the least", x.balance(), 4);
            c.same("none", Feeder.housed("house law 1 balance 4;").balance(), 2);
            c.same("no HOUSE", new TurnQueues().balance(), -2);
        });
    }

    private void forecasts() {
        test("37 until", c -> {
            TurnQueues x = Feeder.housed(TURNS);
            int[] due = {1, 2, 1, 4, 3, 2, 1, 8, 7, 6};
            for (int v = 0; v < due.length; v++) {
                c.same("until(" + v + ")", x.until(v), due[v]);
            }
            c.same("until(10)", x.until(10), -2);
            c.same("until(-1)", x.until(-1), -2);
            x = Feeder.housed(EVENS);
            c.same("LAW 2, empty", x.until(0), 2);
            c.same("LAW 2, one each", x.until(2), 3);
            c.same("LAW 2, three and two", x.until(5), 6);
            x = Feeder.housed(PLAIN);
            c.same("LAW 0, empty", x.until(0), 1);
            c.same("LAW 0, FRONT has some", x.until(1), NONE);
        });
        test("37 until, 40 at most", c -> {
            TurnQueues x = Feeder.housed("house law 1 balance 2;");
            for (int v = 0; v < 59; v++) {
                x.put(v, 1);
            }
            c.same("COUNT", x.state(59, 2), 31);
            c.same("BACK", x.row(59, 1), 28);
            c.same("BACK needs 32", x.until(59), 4);
            c.same("COUNT 31, BACK 0", x.until(31), 32);
            x = Feeder.housed("house law 2 balance 4;");
            for (int v = 0; v < 23; v++) {
                x.fore(v, 1);
            }
            // Evened are 1 and 1, then 3 and 4 of 7, then 11 and 11 of 22.
            c.same("FRONT", x.row(22, 0), 11);
            c.same("BACK", x.row(22, 1), 11);
            c.same("4 times 11 and 2 in BACK", x.until(22), 35);
            c.same("4 times 12 and 2 in BACK", x.until(23), 39);
            x.last(23);
            c.same("one less in BACK", x.until(24), 40);
            x.last(24);
            c.same("not by 40", x.until(25), NONE);
        });
        test("38 rest", c -> {
            TurnQueues x = Feeder.housed(TURNS);
            int[] due = {0, 0, 0, 1, 0, 0, 0, 3, 2, 0};
            // VERSION 8: joining 2: two joins by one put, ready by the next.
            for (int v = 0; v < due.length; v++) {
                c.same("rest(" + v + ")", x.rest(v), due[v]);
            }
            c.same("rest(10)", x.rest(10), -2);
            c.same("rest(-1)", x.rest(-1), -2);
            x = Feeder.housed(EVENS);
            c.same("LAW 2, nothing owed", x.rest(0), 0);
            c.same("LAW 2, 3 and 2", x.rest(5), 3);
            c.same("LAW 2, 1 and 1", x.rest(8), 1);
            c.same("LAW 0", Feeder.housed(PLAIN).rest(3), 0);
            c.same("no HOUSE", new TurnQueues().rest(0), -2);
        });
        test("38 rest, 40 at most", c -> {
            TurnQueues x = Feeder.housed("house law 2 balance 2;");
            for (int v = 0; v < 8; v++) {
                x.put(v, 1);
            }
            for (int v = 8; v < 46; v++) {
                x.fore(v, 1);
            }
            c.same("FRONT", x.row(46, 0), 31);
            c.same("BACK", x.row(46, 1), 15);
            x.last(46);
            c.same("evened, FRONT", x.state(47, 3), 22);
            c.same("evened, BACK", x.state(47, 4), 23);
            for (int v = 47; v < 52; v++) {
                x.take(v);
            }
            // 13 puts, the last of which pays all and evens 53 numbers; 27 more pay these.
            c.same("rest(52)", x.rest(52), 40);
            c.same("until(52)", x.until(52), 13);
            c.same("15 and 28", x.rest(51), NONE);
        });
        test("39 worst", c -> {
            TurnQueues x = Feeder.housed(PLAIN);
            int[][] due = {{3, 3, 2}, {4, 5, 4}, {5, 7, 8}};
            for (int n = 1; n <= 3; n++) {
                for (int what = 0; what < 3; what++) {
                    c.same("worst(3, " + n + ", " + what + ")", x.worst(3, n, what), due[n - 1][what]);
                }
            }
            c.same("rows of six from an empty one", x.worst(0, 6, 2), 20);
            c.same("rows of three from an empty one", x.worst(0, 3, 2), 3);
            c.same("six from many", x.worst(3, 6, 2), 64 - 8);
            c.same("worst(0, 0, 2)", x.worst(0, 0, 2), -2);
            c.same("worst(0, 7, 2)", x.worst(0, 7, 2), -2);
            c.same("worst(0, 1, 3)", x.worst(0, 1, 3), -2);
            c.same("worst(0, 1, -1)", x.worst(0, 1, -1), -2);
            c.same("worst(6, 1, 0)", x.worst(6, 1, 0), -2);
            c.same("no HOUSE", new TurnQueues().worst(0, 1, 0), -2);
        });
        test("40 worstAt", c -> {
            TurnQueues x = Feeder.housed(PLAIN);
            c.same("worstAt(3, 1, 0)", x.worstAt(3, 1, 0), 1);
            c.same("worstAt(3, 2, 0)", x.worstAt(3, 2, 0), 0);
            c.same("worstAt(3, 2, 1)", x.worstAt(3, 2, 1), 1);
            c.same("worstAt(3, 2, 2)", x.worstAt(3, 2, 2), NONE);
            c.same("worstAt(3, 2, max)", x.worstAt(3, 2, Integer.MAX_VALUE), NONE);
            c.same("worstAt(3, 2, -1)", x.worstAt(3, 2, -1), -2);
            c.same("worstAt(3, 7, 0)", x.worstAt(3, 7, 0), -2);
            c.same("worstAt(3, 0, 0)", x.worstAt(3, 0, 0), -2);
            c.same("worstAt(6, 1, 0)", x.worstAt(6, 1, 0), -2);
            c.same("worstAt(3, 6, 5), behind five puts", x.worstAt(3, 6, 5), 1);
            c.same("worstAt(3, 6, 4), a put", x.worstAt(3, 6, 4), 0);
            // From VERSION 4 (FRONT 6 7) put and take cost 1 alike: the first row is of puts.
            c.same("the first of several", x.worstAt(4, 1, 0), 0);
            // put put take take turns two: 1, 1, 1, 3; put take take put less.
            int[] four = {0, 0, 1, 1};
            for (int i = 0; i < 4; i++) {
                c.same("worstAt(4, 4, " + i + ")", x.worstAt(4, 4, i), four[i]);
            }
        });
        test("41 spike", c -> {
            TurnQueues x = Feeder.housed(PLAIN);
            c.same("spike(3, 1)", x.spike(3, 1), 1);
            c.same("spike(3, 3)", x.spike(3, 3), 1);
            c.same("spike(3, 4)", x.spike(3, 4), 2);
            c.same("spike(3, 8)", x.spike(3, 8), 6);
            c.same("spike(3, 9)", x.spike(3, 9), NONE);
            c.same("spike(3, max)", x.spike(3, Integer.MAX_VALUE), NONE);
            c.same("spike(3, 0)", x.spike(3, 0), -2);
            c.same("spike(3, min)", x.spike(3, Integer.MIN_VALUE), -2);
            c.same("spike(6, 1)", x.spike(6, 1), -2);
            c.same("no HOUSE", new TurnQueues().spike(0, 1), -2);
        });
        test("42 drain", c -> {
            TurnQueues x = Feeder.housed(PLAIN);
            int[] due = {0, 1, 3, 5, 2, 3, -2};
            for (int v = 0; v < due.length; v++) {
                c.same("drain(" + v + ")", x.drain(v), due[v]);
            }
            c.same("drain(-1)", x.drain(-1), -2);
            x = Feeder.housed(EVENS);
            // 5 (pays 2, 2), then FRONT 3: 2 (pays 1), then FRONT none, BACK 5 4, evened: 1; 3 (pays 1, 1), 1.
            c.same("LAW 2", x.drain(5), 5 + 2 + 1 + 3 + 1);
            c.same("VERSIONS", x.count(2), 11);
            Feeder.house(x, "house law 0 balance 2;");
            for (int v = 0; v < 60; v++) {
                x.put(v, 1);
            }
            c.same("all sixty: one, which turns 59, and 59 more", x.drain(60), 1 + 59 + 59);
        });
    }

    private void tellings() {
        test("43 tell", c -> {
            TurnQueues x = Feeder.housed("house law 0 balance 2;put 0 10;put 1 0;put 2 99;");
            tells(c, x, 3, "f 10|b 99 0");
            c.same("no such VERSION", x.tell(4), -2);
            c.same("OUT stays", x.count(7), 11);
            c.same("tell(-1)", x.tell(-1), -2);
            tells(c, x, 0, "f|b");
            x = Feeder.housed("house law 2 balance 4;");
            for (int v = 0; v < 40; v++) {
                x.put(v, 50);
            }
            String long40 = told(x, 40);
            c.truth("owing two digits: " + long40, long40.endsWith("|owes " + x.state(40, 3) + " " + x.state(40, 4)));
        });
        test("43 tell, the longest", c -> {
            TurnQueues x = Feeder.housed("house law 1 balance 2;");
            for (int v = 0; v < 60; v++) {
                x.put(v, 99 - v % 10);
            }
            c.same("VERSION 33", x.tell(33), told(x, 33).length());
            c.same("its numbers", told(x, 33).split(" ").length, 2 + 15 + 2 + 11 + 4 + 12 + 4);
        });
        test("44 octet", c -> {
            TurnQueues x = Feeder.housed(PLAIN);
            c.same("empty ahead of any", x.octet(0), NONE);
            x.tell(1);
            c.same("octet(0)", x.octet(0), 'f');
            c.same("octet(2)", x.octet(2), '5');
            c.same("octet(4)", x.octet(4), 'b');
            c.same("octet(5)", x.octet(5), NONE);
            c.same("octet(-1)", x.octet(-1), NONE);
            c.same("octet(max)", x.octet(Integer.MAX_VALUE), NONE);
            x.tell(9);
            Feeder.house(x, "");
            x.tell(0);
            c.same("whatever came since", x.octet(2), '5');
            Feeder.house(x, TURNS);
            x.tell(0);
            c.same("in place of it", x.octet(2), 'b');
        });
        test("45 walk", c -> {
            TurnQueues x = Feeder.housed(PLAIN);
            c.same("no letters", Feeder.walk(x, 0, ""), 0);
            c.same("pppt", Feeder.walk(x, 0, "pppt"), 2 + 1 + 1 + 3);
            c.same("from VERSION 3", Feeder.walk(x, 3, "tttp"), 3 + 1 + 1 + 2);
            c.same("cannot be done", Feeder.walk(x, 1, "tt"), NONE);
            c.same("the TAPE is empty", x.count(6), 0);
            c.same("no letter", Feeder.walk(x, 1, "p p"), NONE);
            c.same("the TAPE is empty", x.count(6), 0);
            c.same("another letter", Feeder.walk(x, 1, "pP"), NONE);
            c.same("fore by LAW 0", Feeder.walk(x, 1, "f"), NONE);
            c.same("last by LAW 0", Feeder.walk(x, 1, "l"), NONE);
            c.same("no such VERSION", Feeder.walk(x, 6, "pp"), -2);
            c.same("the TAPE stays", x.count(6), 2);
            c.same("so it can be walked", x.walk(0), 3);
            c.same("nothing stays", x.count(2), 6);
            x = Feeder.housed(EVENS);
            c.same("LAW 2", Feeder.walk(x, 0, "ppflt"), 1 + 1 + 3 + 1 + 3);
            c.same("l of an empty one", Feeder.walk(x, 0, "l"), NONE);
            c.same("no HOUSE", new TurnQueues().walk(0), -2);
        });
        test("45 walk, the longest", c -> {
            TurnQueues x = Feeder.housed(PLAIN);
            c.same("600 puts", Feeder.walk(x, 0, "p".repeat(600)), 601);
            c.same("300 puts, 300 takes", Feeder.walk(x, 0, "p".repeat(300) + "t".repeat(300)), 301 + 300 + 299);
            Feeder.house(x, "house law 1 balance 2;");
            c.same("LAW 1, one take too many", Feeder.walk(x, 0, "p".repeat(299) + "t".repeat(300)), NONE);
            c.same("LAW 1, all taken", Feeder.walk(x, 0, "p".repeat(300) + "t".repeat(300)) > 600 ? 1 : 0, 1);
            Feeder.house(x, "house law 2 balance 2;");
            // Evened are 2, 5, 11 .. numbers; of the last, 208 in each ROW, 184 puts pay one each.
            int paid = 2 + 5 + 11 + 20 + 32 + 50 + 77 + 119 + 182 + 275 + 2 * 184;
            c.same("LAW 2", Feeder.walk(x, 0, "p".repeat(600)), 600 + paid);
        });
    }

    private void grafts() {
        String text = "house law 0 balance 2;put 0 5;put 1 6;take 2;put 3 7;take 1;";
        test("46 grafting", c -> {
            TurnQueues x = Feeder.housed(text);
            int[] due = {3, 5, NONE, 1};
            for (int what = 0; what < 4; what++) {
                // On the empty VERSION 5: put 6, 2; take, 1; put 7, 2.
                c.same("grafting(1, 4, 5, " + what + ")", x.grafting(1, 4, 5, what), due[what]);
            }
            int[] clash = {2, 0, 2, 0};
            for (int what = 0; what < 4; what++) {
                c.same("grafting(2, 4, 0, " + what + ")", x.grafting(2, 4, 0, what), clash[what]);
            }
            int[] none = {0, 0, NONE, 2};
            for (int what = 0; what < 4; what++) {
                c.same("grafting(5, 5, 2, " + what + ")", x.grafting(5, 5, 2, what), none[what]);
            }
            c.same("not made of it", x.grafting(2, 5, 0, 0), NONE);
            c.same("the other way round", x.grafting(4, 1, 0, 0), NONE);
            c.same("what 4", x.grafting(1, 4, 5, 4), -2);
            c.same("what -1", x.grafting(2, 5, 0, -1), -2);
            c.same("no first", x.grafting(6, 4, 5, 0), -2);
            c.same("no second", x.grafting(1, 6, 5, 0), -2);
            c.same("no third", x.grafting(1, 4, -1, 0), -2);
            c.same("nothing stays", x.count(2), 6);
            x = Feeder.housed("house law 2 balance 2;put 0 1;last 1;");
            c.same("a last clashes, too", x.grafting(1, 2, 0, 2), 1);
        });
        test("47 grafted", c -> {
            TurnQueues x = Feeder.housed(text);
            c.same("grafted(1, 4, 1, 0)", x.grafted(1, 4, 1, 0), 6);
            c.same("grafted(1, 4, 1, 1)", x.grafted(1, 4, 1, 1), 7);
            c.same("grafted(1, 4, 1, 2)", x.grafted(1, 4, 1, 2), NONE);
            c.same("behind a clash", x.grafted(2, 4, 0, 0), NONE);
            c.same("no DEEDS", x.grafted(0, 0, 2, 1), 6);
            c.same("not made of it", x.grafted(2, 5, 0, 0), NONE);
            c.same("i below 0", x.grafted(2, 5, 0, -1), -2);
            c.same("no such VERSION", x.grafted(0, 0, 6, 0), -2);
            x = Feeder.housed("house law 2 balance 2;");
            for (int v = 0; v < 60; v++) {
                x.put(v, v);
            }
            c.same("60 more", x.grafted(0, 60, 60, 119), 59);
            c.same("60 and 60", x.grafting(0, 60, 60, 3), 120);
        });
        test("48 graft", c -> {
            TurnQueues x = Feeder.housed(text);
            c.same("three DEEDS", x.graft(1, 4, 2), 8);
            c.same("each an act by itself", x.count(4), 3);
            c.same("of the third", x.version(6, 0), 2);
            c.same("behind it", x.version(7, 0), 6);
            c.same("with its number", x.version(6, 2), 6);
            c.same("what is taken here", x.version(7, 2), 5);
            c.same("tail", x.tail(8), 7);
            c.same("undo", x.undo(), 2);
            c.same("no DEEDS", x.graft(4, 4, 2), 2);
            c.same("not made of it", x.graft(5, 4, 0), -3);
            c.same("a clash", x.graft(2, 4, 5), -5);
            c.same("nothing is done", x.count(4), 2);
            c.same("no such VERSION", x.graft(0, 0, 8), -2);
            c.same("none ahead of unrelated", x.graft(5, 4, -1), -2);
            c.same("no HOUSE", new TurnQueues().graft(0, 0, 0), -2);
        });
        test("48 graft, 61 VERSIONS", c -> {
            TurnQueues x = Feeder.housed("house law 0 balance 2;");
            for (int v = 0; v < 31; v++) {
                x.put(v, v);
            }
            c.same("32 and 30 are too many", x.graft(0, 30, 0), -5);
            c.same("nothing is done", x.count(2), 32);
            c.same("32 and 29", x.graft(0, 29, 0), 60);
            c.same("61 and 1", x.graft(0, 1, 0), -5);
            c.same("61 and none", x.graft(1, 1, 7), 7);
        });
    }

    private void acts() {
        test("49 image", c -> {
            TurnQueues x = new TurnQueues();
            c.same("no HOUSE", x.image(0), -2);
            Feeder.house(x, PLAIN);
            c.same("image(0)", x.image(0), 0);
            c.same("image(2)", x.image(2), 0);
            c.same("image(3)", x.image(3), -2);
            c.same("image(-1)", x.image(-1), -2);
            c.same("one not kept", x.back(1), -6);
        });
        test("50 back", c -> {
            TurnQueues x = Feeder.housed(EVENS);
            x.fore(5, 9);
            x.image(1);
            x.put(11, 3);
            Feeder.house(x, PLAIN);
            x.image(0);
            Feeder.house(x, "");
            c.same("back(1)", x.back(1), 0);
            int[] due = {2, 2, 12, 11, 1, 11};
            for (int what = 0; what < due.length; what++) {
                c.same("count(" + what + ")", x.count(what), due[what]);
            }
            c.same("first", x.first(11), 9);
            c.same("the number taken", x.version(7, 2), 5);
            tells(c, x, 5, "f 1 2 3|b 5 4|owes 3 2");
            c.same("made", x.made(), 15);
            c.same("undo", x.undo(), 0);
            c.same("again", x.back(1), 0);
            c.same("acts", x.count(4), 1);
            c.same("the other", x.back(0), 0);
            c.same("LAW", x.count(0), 0);
            c.same("none", x.back(2), -6);
            c.same("no such", x.back(3), -2);
            c.same("no such", x.back(-1), -2);
            c.same("stays", x.count(2), 6);
        });
        test("51 put", c -> {
            TurnQueues x = Feeder.housed(PLAIN);
            c.same("put(0, 99)", x.put(0, 99), 6);
            c.same("put(6, 0)", x.put(6, 0), 7);
            c.same("tail", x.tail(7), 0);
            c.same("acts", x.count(4), 2);
            c.same("x 100", x.put(0, 100), -2);
            c.same("x -1", x.put(0, -1), -2);
            c.same("no such VERSION", x.put(8, 1), -2);
            for (int v = 8; v < 61; v++) {
                c.same("put", x.put(3, 1), v);
            }
            c.same("61 VERSIONS", x.put(0, 1), -5);
            c.same("-2 ahead of -5", x.put(0, 100), -2);
            c.same("-2 ahead of -5", x.put(61, 1), -2);
            c.same("no HOUSE", new TurnQueues().put(0, 0), -2);
        });
        test("52 take", c -> {
            TurnQueues x = Feeder.housed(PLAIN);
            c.same("take(3)", x.take(3), 5);
            c.same("its VERSION", x.first(6), 6);
            c.same("empty", x.take(0), -5);
            c.same("no such VERSION", x.take(7), -2);
            c.same("acts", x.count(4), 1);
            for (int v = 7; v < 61; v++) {
                x.take(2);
            }
            c.same("61 VERSIONS", x.take(2), -5);
            c.same("-2 ahead of -5", x.take(61), -2);
            c.same("acts", x.count(4), 55);
        });
        test("53 fore", c -> {
            TurnQueues x = Feeder.housed(EVENS);
            c.same("fore(5, 7)", x.fore(5, 7), 11);
            tells(c, x, 11, "f 7 1 2 3|b 5 4|owes 2 1");
            c.same("x 100", x.fore(5, 100), -2);
            c.same("no such VERSION", x.fore(12, 1), -2);
            for (int v = 12; v < 61; v++) {
                x.fore(0, 1);
            }
            c.same("61 VERSIONS", x.fore(0, 1), -5);
            c.same("-2 ahead of -5", x.fore(0, -1), -2);
            c.same("by LAW 0", Feeder.housed(PLAIN).fore(0, 1), -2);
            c.same("by LAW 1", Feeder.housed(TURNS).fore(0, 1), -2);
            c.same("no HOUSE", new TurnQueues().fore(0, 1), -2);
        });
        test("54 last", c -> {
            TurnQueues x = Feeder.housed(EVENS);
            c.same("last(5)", x.last(5), 5);
            tells(c, x, 11, "f 1 2 3|b 4|owes 1 0");
            c.same("empty", x.last(0), -5);
            c.same("no such VERSION", x.last(12), -2);
            for (int v = 12; v < 61; v++) {
                x.last(1);
            }
            c.same("61 VERSIONS", x.last(1), -5);
            c.same("-2 ahead of -5", x.last(61), -2);
            c.same("by LAW 0", Feeder.housed(PLAIN).last(1), -2);
            c.same("by LAW 1", Feeder.housed(TURNS).last(1), -2);
            c.same("no HOUSE", new TurnQueues().last(0), -2);
        });
        test("55 undo", c -> {
            TurnQueues x = Feeder.housed(TURNS);
            c.same("none", x.undo(), -5);
            int made = x.made();
            x.put(9, 1);
            x.take(7);
            c.same("one", x.undo(), 1);
            c.same("VERSIONS", x.count(2), 11);
            c.same("none left", x.undo(), 0);
            c.same("none", x.undo(), -5);
            c.same("CELLS", x.made(), made);
            c.same("STEPS", x.ledger(), 21);
            c.same("another in its place", x.put(9, 4), 10);
            c.same("tail", x.tail(10), 4);
            c.same("no HOUSE", new TurnQueues().undo(), -2);
        });
        test("56 anew", c -> {
            TurnQueues x = Feeder.housed(TURNS);
            c.same("none", x.anew(), 0);
            int made = x.made();
            x.put(9, 1);
            x.put(10, 1);
            x.take(9);
            c.same("three", x.anew(), 3);
            c.same("VERSIONS", x.count(2), 10);
            c.same("CELLS", x.made(), made);
            c.same("none", x.anew(), 0);
            c.same("no HOUSE", new TurnQueues().anew(), -2);
        });
    }

    private void strange() {
        test("strange numbers are -2 for every VERSION asked for", c -> {
            TurnQueues x = Feeder.housed(EVENS);
            for (int v : STRANGE) {
                long[] got = {
                    x.version(v, 0), x.size(v), x.at(v, 0), x.first(v), x.tail(v), x.like(v), x.forks(v),
                    x.meet(v, 0), x.meet(0, v), x.apart(v, 0), x.apart(0, v), x.state(v, 0), x.row(v, 0),
                    x.cell(v, 0, 0), x.twin(v), x.path(v, 0), x.along(v, 0), x.origin(v, 0, 0), x.from(v, 0),
                    x.from(0, v), x.holds(v), x.shares(v, 0), x.shares(0, v), x.spent(v), x.until(v), x.rest(v),
                    x.worst(v, 1, 0), x.worstAt(v, 1, 0), x.spike(v, 1), x.drain(v), x.tell(v), x.walk(v),
                    x.grafting(v, 0, 0, 0), x.grafting(0, v, 0, 0), x.grafting(0, 0, v, 0), x.grafted(v, 0, 0, 0),
                    x.graft(v, 0, 0), x.graft(0, v, 0), x.graft(0, 0, v), x.put(v, 0), x.take(v), x.fore(v, 0),
                    x.last(v), x.image(v), x.back(v), x.by(v), x.peak(v), x.balanced(v), x.row(0, v),
                    x.state(0, v), x.version(0, v), x.along(0, v), x.worst(0, v, 0), x.worst(0, 1, v),
                };
                for (int i = 0; i < got.length; i++) {
                    c.same("call " + i + " with " + v, got[i], -2);
                }
            }
        });
        test("no HOUSE: every question is refused", c -> {
            TurnQueues x = new TurnQueues();
            long[] got = {
                x.version(0, 0), x.size(0), x.at(0, 0), x.first(0), x.tail(0), x.like(0), x.forks(0), x.meet(0, 0),
                x.apart(0, 0), x.state(0, 0), x.row(0, 0), x.cell(0, 0, 0), x.twin(0), x.path(0, 0), x.along(0, 0),
                x.origin(0, 0, 0), x.from(0, 0), x.lost(), x.holds(0), x.shares(0, 0), x.held(0), x.made(),
                x.spent(0), x.ledger(), x.dearest(), x.overdue(), x.by(2), x.peak(2), x.balanced(2), x.balance(),
                x.until(0), x.rest(0), x.worst(0, 1, 0), x.worstAt(0, 1, 0), x.spike(0, 1), x.drain(0), x.tell(0),
                x.walk(0), x.grafting(0, 0, 0, 0), x.grafted(0, 0, 0, 0), x.graft(0, 0, 0), x.image(0), x.put(0, 0),
                x.take(0), x.fore(0, 0), x.last(0), x.undo(), x.anew(),
            };
            for (int i = 0; i < got.length; i++) {
                c.same("call " + i, got[i], -2);
            }
        });
    }

    public static void main(String[] args) {
        PromiseTest tests = new PromiseTest();
        tests.tape();
        tests.texts();
        tests.queues();
        tests.trees();
        tests.rows();
        tests.cells();
        tests.steps();
        tests.forecasts();
        tests.tellings();
        tests.grafts();
        tests.acts();
        tests.strange();
        tests.check.close();
    }
}
