/** The sentences of DOC.md's promises, 1 to 56. */
final class EdgeTest extends Edges {
    private EdgeTest(String[] args) throws java.io.IOException {
        super(args);
    }

    private void promise(int number, String sentence, String... scripts) {
        edge("Promise " + number, "Promise " + number, sentence, scripts);
    }

    private void tapePromises() {
        promise(1, "No HOUSE", """
                count(0..7) = 0 0 0 0 0 0 0 0
                size(0) = -2
                made() = -2
                fault(0..1) = 0 NONE
                octet(0) = NONE
                back(0..2) = -6 -6 -6
                """);
        promise(2, "Twenty bytes come behind the TAPE, four of each number, the highest first: how many it has", """
                // "house law 0 balance 2; pu", "t 0 7;" and blanks.
                feed(0x686f7573, 0x65206c61, 0x77203020, 0x62616c61, 0x6e636520) = 20
                feed(0x323b2070, 0x75742030, 0x20373b20, 0x20202020, 0x20202020) = 40
                house() = 2
                first(1) = 7
                // A sign that is none, as each of the four bytes of a number, and in each number.
                feed(0x41202020, 0x20202020, 0x20202020, 0x20202020, 0x20202020) = 20
                house() = -4
                fault(1) = 0
                feed(0x20412020, 0x20202020, 0x20202020, 0x20202020, 0x20202020) = 20
                house() = -4
                fault(1) = 1
                feed(0x20204120, 0x20202020, 0x20202020, 0x20202020, 0x20202020) = 20
                house() = -4
                fault(1) = 2
                feed(0x20202041, 0x20202020, 0x20202020, 0x20202020, 0x20202020) = 20
                house() = -4
                fault(1) = 3
                feed(0x20202020, 0x20202020, -1, 0x20202020, 0x20202020) = 20
                house() = -4
                fault(1) = 8
                feed(0x20202020, 0x20202020, 0x20202020, min, 0x20202020) = 20
                house() = -4
                fault(1) = 12
                feed(0x20202020, 0x20202020, 0x20202020, 0x20202020, max) = 20
                house() = -4
                fault(1) = 16
                """);
        promise(2, "NONE, and none come, if it would have more than 600", """
                feed(1..29, 0, 0, 0, 0)
                count(6) = 580
                feed(0, 0, 0, 0, 0) = 600
                feed(0, 0, 0, 0, 0) = NONE
                count(6) = 600
                end(581) = 581
                feed(0, 0, 0, 0, 0) = NONE
                count(6) = 581
                end(580) = 580
                feed(0, 0, 0, 0, 0) = 600
                """);
        promise(3, "The TAPE has its first n bytes alone: n", PLAIN, """
                tape "ppttp"
                end(5) = 5
                end(3) = 3
                count(6) = 3
                // ppt from VERSION 0 on: 2, 1 and 2, 1 for the take that turns one.
                walk(0) = 5
                tape "p"
                end(0) = 0
                count(6) = 0
                end(0) = 0
                walk(0) = 0
                """);
        promise(3, "NONE, and nothing happens, if it has not so many, or n is below 0", """
                end(1) = NONE
                tape "puts"
                end(5) = NONE
                end(max) = NONE
                end(-1) = NONE
                end(min) = NONE
                count(6) = 4
                end(3) = 3
                end(4) = NONE
                count(6) = 3
                """);
        promise(4, "The TAPE (empty then) tells the HOUSE and DEEDS, which are done (in place of others), no acts:"
                + " how many LINES", PLAIN, """
                count(5) = 6
                count(6) = 0
                put(0, 1) = 6
                house "house law 2 balance 4;put 0 7;" = 2
                count(0..6) = 2 4 2 1 0 2 0
                first(1) = 7
                undo() = -5
                house "house law 1 balance 3;" = 1
                count(0..6) = 1 3 1 0 0 1 0
                """);
        promise(4, "(0: there is none then)", PLAIN, """
                put(0, 1) = 6
                house() = 0
                count(2..5) = 0 0 0 0
                size(0) = -2
                ledger() = -2
                put(0, 1) = -2
                undo() = -2
                house " <10> " = 0
                fault(0..1) = 0 NONE
                """);
        promise(4, "-4: a FAULT (all else stays)", PLAIN, """
                put(0, 8) = 6
                told(3) = f 5|b 7 6
                image(1) = 0
                house "house law 2 balance 4;put 0 7;put 0 #" = fault 1 at 36
                // The TAPE is empty, as it is behind every house().
                count(0..7) = 0 2 7 6 1 6 0 9
                first(1) = 5
                tail(6) = 8
                ledger() = 10
                octet(0) = 102
                house "house law 2 balance 4;{put 0 1;*41}" = fault 3 at 342
                count(0..7) = 0 2 7 6 1 6 0 9
                back(1) = 0
                undo() = 0
                """);
        promise(5, "Of the latest house(), what 0: its FAULT, 0 without, 1: its place (NONE without)", """
                house "house law 3 balance 2;" = fault 2 at 10
                put(0, 1) = -2
                fault(0..1) = 2 10
                house "#" = fault 1 at 0
                house "house law 0 balance 2;" = 1
                fault(0..1) = 0 NONE
                house "" = 0
                fault(0..1) = 0 NONE
                """);
        promise(5, "NONE for another what", """
                house "house law 3 balance 2;" = fault 2 at 10
                fault(2..4) = NONE NONE NONE
                fault(-1) = NONE
                fault(max) = NONE
                fault(min) = NONE
                """);
        promise(5, "and ahead of any (what 1)", """
                fault(0..2) = 0 NONE NONE
                tape "#"
                fault(0..1) = 0 NONE
                house() = -4
                fault(0..1) = 1 0
                """);
        promise(6, "0 LAW, 1 C, 2 VERSIONS, 3 DEEDS (acts, too), 4 acts, 5 LINES, 6 bytes of the TAPE, 7 bytes of OUT",
                EVENS, """
                count(0..7) = 2 2 11 10 0 11 0 0
                put(0, 3) = 11
                put(11, 3) = 12
                tell(5) = 22
                tape "ppp"
                count(0..7) = 2 2 13 12 2 11 3 22
                image(0) = 0
                undo() = 1
                count(2..5) = 12 11 1 11
                back(0) = 0
                count(2..5) = 13 12 2 11
                """);
        promise(6, "NONE for others", EVENS, """
                count(8..10) = NONE NONE NONE
                count(-1) = NONE
                count(max) = NONE
                count(min) = NONE
                """);
    }

    private void queuePromises() {
        promise(7, "Of a VERSION, what 0: the one it was made of (NONE: the first)", BUSH, """
                version(0..5, 0) = NONE 0 1 1 0 3
                put(0, 1) = 6
                version(6, 0) = 0
                """);
        promise(7, "1: its DEED (0 put, 1 take, 2 fore, 3 last; NONE)", EVENS, """
                version(0..10, 1) = NONE 0 0 0 0 0 1 3 3 1 1
                fore(0, 1) = 11
                version(11, 1) = 2
                """);
        promise(7, "2: the number put or taken (NONE)", EVENS, """
                version(0..10, 2) = NONE 1 2 3 4 5 1 5 4 2 3
                fore(0, 0) = 11
                version(11, 2) = 0
                """);
        promise(7, "-2: there are none such", PLAIN, """
                version(0..6, 3) = -2 -2 -2 -2 -2 -2 -2
                version(0..1, -1) = -2 -2
                version(6, 0..2) = -2 -2 -2
                version(-1, 0..2) = -2 -2 -2
                version(max, 0) = -2
                version(min, 0) = -2
                version(1, max) = -2
                version(1, min) = -2
                """);
        promise(8, "How many numbers its QUEUE has", TURNS, """
                size(0..9) = 0 1 2 3 4 5 6 7 6 5
                """);
        promise(8, "-2: there is none such (so below)", TURNS, """
                size(9..11) = 5 -2 -2
                size(-1) = -2
                size(max) = -2
                size(min) = -2
                put(9, 1) = 10
                size(10..11) = 6 -2
                undo() = 0
                size(10) = -2
                new
                size(0) = -2
                """);
        promise(9, "Its i-th number (from 0)", TURNS, """
                at(8, 0..5) = 2 3 4 5 6 7
                """);
        promise(9, "NONE: it has not so many", TURNS, """
                at(8, 5..7) = 7 NONE NONE
                at(8, max) = NONE
                at(0, 0) = NONE
                at(1, 0..1) = 1 NONE
                """);
        promise(9, "-2 (i below 0, too)", TURNS, """
                at(8, -1) = -2
                at(8, min) = -2
                at(0, -1) = -2
                at(10, 0) = -2
                at(-1, 0) = -2
                at(10, -1) = -2
                """);
        promise(10, "The first number", TURNS, """
                first(1..9) = 1 1 1 1 1 1 1 2 3
                """);
        promise(10, "NONE: it is empty; -2", PLAIN, """
                first(0) = NONE
                take(1) = 5
                first(6) = NONE
                first(7) = -2
                first(-1) = -2
                first(max) = -2
                """);
        promise(11, "The last one", TURNS, """
                tail(1..9) = 1 2 3 4 5 6 7 7 7
                """);
        promise(11, "NONE, -2 likewise", PLAIN, """
                tail(0) = NONE
                take(1) = 5
                tail(6) = NONE
                tail(7) = -2
                tail(-1) = -2
                tail(min) = -2
                """);
        promise(12, "The least VERSION with the same numbers in the same order (itself, maybe)", BUSH, """
                like(0..5) = 0 1 2 2 1 5
                // Empty again; as many, but others; the same in another order; a row that another one begins with.
                take(1) = 1
                like(6) = 0
                put(4, 3) = 7
                like(7) = 7
                put(5, 1) = 8
                like(8) = 8
                put(2, 9) = 9
                like(9) = 9
                // The same numbers, in other ROWS.
                put(7, 4) = 10
                take(10) = 1
                put(0, 3) = 12
                put(12, 4) = 13
                like(13) = 11
                told(11) = f 3 4|b
                told(13) = f 3|b 4
                """);
        promise(12, "-2", BUSH, """
                like(6) = -2
                like(-1) = -2
                like(max) = -2
                """);
        promise(13, "How many VERSIONS were made of it", BUSH, """
                forks(0..5) = 2 2 0 1 0 0
                put(0, 1) = 6
                forks(0) = 3
                undo() = 0
                forks(0) = 2
                """);
        promise(13, "-2", BUSH, """
                forks(6) = -2
                forks(-1) = -2
                forks(min) = -2
                """);
        promise(14, "The latest VERSION of which two were made, over others (or one of them)", BUSH, """
                meet(2, 5) = 1
                meet(5, 2) = 1
                meet(4, 5) = 0
                // One of them; both the same.
                meet(3, 5) = 3
                meet(5, 1) = 1
                meet(0, 5) = 0
                meet(5, 5) = 5
                meet(0, 0) = 0
                """);
        promise(14, "-2: there are none such", BUSH, """
                meet(0, 6) = -2
                meet(6, 0) = -2
                meet(6, 6) = -2
                meet(-1, 5) = -2
                meet(5, -1) = -2
                """);
        promise(15, "How many DEEDS lie between two, by what they were made of", BUSH, """
                apart(2, 5) = 3
                apart(5, 2) = 3
                apart(5, 4) = 4
                apart(3, 5) = 1
                apart(0, 5) = 3
                apart(5, 5) = 0
                """);
        promise(15, "-2 likewise", BUSH, """
                apart(0, 6) = -2
                apart(6, 0) = -2
                apart(6, 6) = -2
                apart(-1, -1) = -2
                """);
    }

    private void statePromises() {
        promise(16, "Of a VERSION's STATE, what 0: which (0 IDLE, 1 TURNING, 2 JOINING; by other LAWS 0)", JOINS, """
                state(0..10, 0) = 0 0 0 2 0 0 0 1 2 2 0
                """, PLAIN, """
                state(0..5, 0) = 0 0 0 0 0 0
                """, EVENS, """
                state(0..5, 0) = 0 0 0 0 0 0
                """);
        promise(16, "1: GOOD (0 when IDLE)", JOINS, """
                state(0..10, 1) = 0 0 0 1 0 0 0 2 3 0 0
                """, EVENS, """
                state(0..5, 1) = 0 0 0 0 0 0
                """);
        promise(16, "2: COUNT (LAW 1; else how many FRONT has)", JOINS, """
                state(0..10, 2) = 0 1 1 3 3 3 3 7 7 6 5
                // COUNT is not what FRONT has.
                row(0..10, 0) = 0 1 1 1 3 3 3 3 3 2 5
                """, PLAIN, """
                state(0..5, 2) = 0 1 1 1 2 1
                """, EVENS, """
                state(0..5, 2) = 0 0 1 1 1 3
                """);
        promise(16, "3, 4: what FRONT, BACK owes (LAW 2; else 0)", EVENS, """
                state(5, 3..4) = 3 2
                state(6, 3..4) = 1 0
                state(8, 3..4) = 1 1
                """, PLAIN, """
                state(3, 3..4) = 0 0
                """, TURNS, """
                state(7, 3..4) = 0 0
                """);
        promise(16, "-2: there are none such", TURNS, """
                state(7, 5..6) = -2 -2
                state(7, -1) = -2
                state(7, max) = -2
                state(10, 0..4) = -2 -2 -2 -2 -2
                state(-1, 0) = -2
                """);
        promise(17, "How many a ROW has: 0 FRONT, 1 BACK, 2 A, 3 C, 4 D, 5 E (0: there is none now)", JOINS, """
                row(6, 0..5) = 3 3 0 0 0 0
                row(7, 0..5) = 3 0 1 2 2 2
                row(8, 0..5) = 3 1 0 3 0 4
                row(9, 0..5) = 2 1 0 1 0 6
                row(10, 0..5) = 5 1 0 0 0 0
                """, EVENS, """
                row(5, 0..5) = 3 2 0 0 0 0
                """);
        promise(17, "-2: there are none such", TURNS, """
                row(7, 6..7) = -2 -2
                row(7, -1) = -2
                row(7, min) = -2
                row(10, 0..5) = -2 -2 -2 -2 -2 -2
                row(-1, 0) = -2
                """);
        promise(18, "The i-th number (from 0) in a ROW", TURNS, """
                cell(7, 0, 0..2) = 1 2 3
                cell(7, 2, 0) = 3
                cell(7, 3, 0..1) = 2 1
                cell(7, 4, 0..1) = 5 4
                cell(7, 5, 0..1) = 6 7
                cell(6, 1, 0..2) = 6 5 4
                """);
        promise(18, "NONE: it has not so many", TURNS, """
                cell(7, 0..5, 3) = NONE NONE NONE NONE NONE NONE
                cell(7, 2, 1) = NONE
                cell(7, 1, 0) = NONE
                cell(9, 5, 0) = NONE
                cell(7, 0, max) = NONE
                cell(0, 0, 0) = NONE
                """);
        promise(18, "-2: there are none such, i is below 0", TURNS, """
                cell(7, 0, -1) = -2
                cell(7, 1, min) = -2
                cell(7, 6, 0) = -2
                cell(7, -1, 0) = -2
                cell(10, 0, 0) = -2
                cell(-1, 0, 0) = -2
                cell(10, 6, -1) = -2
                """);
        promise(19, "The least VERSION that is TOLD (IV) like it (itself, maybe)", BUSH, """
                twin(0..5) = 0 1 2 2 1 5
                """, """
                // Like by its numbers, but by other ROWS: f 6 7|b, f 6|b 7.
                house "house law 0 balance 2;put 0 6;put 1 7;put 0 5;put 3 6;put 4 7;take 5;" = 7
                like(6) = 2
                twin(6) = 6
                // The ROWS are the same, but it owes less.
                house "house law 2 balance 2;put 0 1;put 1 2;put 2 3;last 3;put 0 1;put 5 2;" = 7
                like(4) = 2
                twin(4) = 4
                twin(6) = 2
                // FRONT and BACK are the same, but one is JOINING.
                house "house law 1 balance 2;put 0 1;put 1 2;put 2 3;take 3;take 1;put 5 2;put 6 3;" = 8
                told(1) = f 1|b|idle
                told(3) = f 1|b|joining 1|c 1|e 2 3
                twin(0..7) = 0 1 2 3 4 0 6 7
                like(7) = 4
                """);
        promise(19, "-2", BUSH, """
                twin(6) = -2
                twin(-1) = -2
                twin(min) = -2
                """);
        promise(20, "The i-th (from 0: VERSION 0) VERSION on the way from VERSION 0 to it, by what was made of what",
                BUSH, """
                path(5, 0..3) = 0 1 3 5
                path(4, 0..1) = 0 4
                path(0, 0) = 0
                """);
        promise(20, "NONE: there are not so many", BUSH, """
                path(5, 4..5) = NONE NONE
                path(5, max) = NONE
                path(4, 2) = NONE
                path(0, 1) = NONE
                """);
        promise(20, "-2 (i below 0, too)", BUSH, """
                path(5, -1) = -2
                path(0, min) = -2
                path(6, 0) = -2
                path(-1, 0) = -2
                """);
        promise(21, "Of DEEDS on that way, what 0: how many, 1: STEPS together, 2: the most STEPS of one", PLAIN, """
                along(0..5, 0) = 0 1 2 3 4 2
                along(0..5, 1) = 0 2 3 4 7 3
                along(1..5, 2) = 2 2 2 3 2
                """);
        promise(21, "(0 without any)", PLAIN, """
                along(0, 0..2) = 0 0 0
                """);
        promise(21, "-2: there are none such", PLAIN, """
                along(1, 3..4) = -2 -2
                along(1, -1) = -2
                along(0, 3) = -2
                along(6, 0..2) = -2 -2 -2
                along(-1, 0) = -2
                """);
    }

    private void cellPromises() {
        promise(22, "The DEED that made the CELL of the i-th number (from 0) of a ROW", TURNS, """
                origin(1, 0, 0) = 0
                origin(2, 0, 0) = 0
                origin(2, 1, 0) = 1
                // FRONT 1 2 3: the 1 by DEED 3, which joined it; 2 and 3 by DEED 2, which turned them.
                origin(6, 0, 0..2) = 3 2 2
                origin(6, 1, 0..2) = 5 4 3
                origin(8, 3, 0..2) = 7 6 6
                origin(8, 5, 0..3) = 7 7 6 6
                put(9, 1) = 10
                origin(10, 1, 0) = 9
                """, EVENS, """
                // The first CELL of all.
                origin(1, 1, 0) = 0
                """);
        promise(22, "NONE, -2 as cell()", TURNS, """
                origin(8, 5, 4) = NONE
                origin(8, 5, max) = NONE
                origin(9, 5, 0) = NONE
                origin(0, 0, 0) = NONE
                origin(8, 5, -1) = -2
                origin(8, 6, 0) = -2
                origin(8, -1, 0) = -2
                origin(10, 0, 0) = -2
                origin(-1, 0, 0) = -2
                """);
        promise(23, "How many of the CELLS that a VERSION HOLDS a DEED made", TURNS, """
                // f 2 3 (DEED 2), c 3 (7) 2 1 (6), e 4 5 (7) 6 7 (6).
                from(8, 0..8) = 0 0 2 0 0 0 4 3 0
                // f 1 (3) 2 3 (2), which is A's, too, c 2 1 (6), d 5 (4) 4 (3), e 6 7 (6).
                from(7, 0..8) = 0 0 2 2 1 0 4 0 0
                from(0, 0) = 0
                """);
        promise(23, "-2: there are none such", TURNS, """
                from(8, 9) = -2
                from(8, -1) = -2
                from(8, max) = -2
                from(10, 0) = -2
                from(-1, 0) = -2
                house "house law 0 balance 2;" = 1
                from(0, 0) = -2
                """);
        promise(24, "How many CELLS were made that no VERSION HOLDS", PLAIN, """
                // The CELL of DEED 0's put, turned at once; DEED 3 turned two, which VERSION 3 holds yet.
                made() = 7
                lost() = 1
                """, """
                house "house law 0 balance 2;" = 1
                lost() = 0
                """);
        promise(24, "-2: there is no HOUSE", """
                lost() = -2
                house "" = 0
                lost() = -2
                house "house law 0 balance 2;" = 1
                lost() = 0
                """);
        promise(25, "How many CELLS it HOLDS", TURNS, """
                holds(0..9) = 0 1 2 4 4 5 6 9 9 5
                """);
        promise(25, "-2", TURNS, """
                holds(10) = -2
                holds(-1) = -2
                holds(max) = -2
                """);
        promise(26, "How many CELLS two VERSIONS HOLD both", TURNS, """
                shares(6, 7) = 5
                shares(7, 6) = 5
                shares(7, 8) = 6
                shares(8, 9) = 4
                // None; itself.
                shares(0, 9) = 0
                shares(1, 9) = 0
                shares(9, 9) = 5
                """);
        promise(26, "-2: there are none such", TURNS, """
                shares(0, 10) = -2
                shares(10, 0) = -2
                shares(-1, 0) = -2
                shares(0, -1) = -2
                """);
        promise(27, "How many CELLS VERSIONS of a set (bits) HOLD together, each once", PLAIN, """
                held(0) = 0
                held(1) = 0
                held(6) = 2
                held(36) = 3
                held(63) = 6
                put(0, 1..55)
                held(0x0800000000000000) = 1
                held(0x1000000000000000) = 1
                held(0x1fffffffffffffff) = 61
                """);
        promise(27, "-2: there are others in it", PLAIN, """
                held(63) = 6
                held(64) = -2
                held(65) = -2
                held(-1) = -2
                held(longmin) = -2
                held(longmax) = -2
                held(0x0000000100000000) = -2
                put(0, 1..55)
                held(0x1fffffffffffffff) = 61
                held(0x2000000000000000) = -2
                held(0x4000000000000000) = -2
                held(longmin) = -2
                held(-1) = -2
                """);
        promise(27, "there is no HOUSE", """
                held(0) = -2
                held(1) = -2
                house "house law 0 balance 2;" = 1
                held(0..2) = 0 0 -2
                """);
        promise(28, "How many CELLS were made in all", PLAIN, """
                made() = 7
                """, TURNS, """
                made() = 20
                """, EVENS, """
                made() = 14
                """, """
                house "house law 0 balance 2;" = 1
                made() = 0
                """);
        promise(28, "-2: there is no HOUSE", """
                made() = -2
                house "" = 0
                made() = -2
                """);
    }

    private void stepPromises() {
        promise(29, "STEPS of a DEED (from 0; acts behind those told)", PLAIN, """
                spent(0..4) = 2 1 1 3 1
                take(3) = 5
                put(3, 1) = 7
                spent(5..6) = 3 1
                """, TURNS, """
                spent(0..8) = 3 1 3 3 1 1 3 3 3
                """, EVENS, """
                spent(0..9) = 1 1 3 1 1 5 2 1 3 1
                """);
        promise(29, "-2: there is none such", PLAIN, """
                spent(5) = -2
                spent(-1) = -2
                spent(max) = -2
                spent(min) = -2
                put(0, 1) = 6
                spent(5..6) = 2 -2
                undo() = 0
                spent(5) = -2
                house "house law 0 balance 2;" = 1
                spent(0) = -2
                """);
        promise(30, "STEPS of all", PLAIN, """
                ledger() = 8
                take(3) = 5
                ledger() = 11
                undo() = 0
                ledger() = 8
                """, TURNS, """
                ledger() = 21
                """, EVENS, """
                ledger() = 19
                """, """
                house "house law 0 balance 2;" = 1
                ledger() = 0
                """);
        promise(30, "-2: there is no HOUSE", """
                ledger() = -2
                house "" = 0
                ledger() = -2
                """);
        promise(31, "The DEED that took most, the first of several", PLAIN, """
                dearest() = 3
                // As many by an act: the first one stays; more by another.
                take(3) = 5
                dearest() = 3
                put(3, 1) = 7
                take(7) = 5
                dearest() = 7
                """, TURNS, """
                dearest() = 0
                """, EVENS, """
                dearest() = 5
                """, """
                // One STEP each.
                house "house law 2 balance 2;put 0 1;put 0 2;" = 3
                dearest() = 0
                """);
        promise(31, "NONE: there are none; -2 likewise", """
                dearest() = -2
                house "house law 0 balance 2;" = 1
                dearest() = NONE
                put(0, 1) = 1
                dearest() = 0
                undo() = 0
                dearest() = NONE
                house "" = 0
                dearest() = -2
                """);
        promise(32, "How many DEEDS began TURNING while it was not IDLE, or EVENED what owed something (behind paying)",
                PLAIN, """
                overdue() = 0
                """, TURNS, """
                overdue() = 0
                take(7) = 1
                put(8, 1) = 11
                overdue() = 0
                """, """
                // DEED 5 evens what owed 1 and 2 ahead of it, and pays all of that.
                house "house law 2 balance 2;fore 0 1;fore 1 2;fore 2 3;fore 3 4;last 4;take 5;" = 7
                told(5) = f 4|b 2 3|owes 1 2
                told(6) = f 3|b 2|owes 1 1
                spent(5) = 4
                overdue() = 0
                // The same by last: VERSION 12 owes 2 1, pays all of it, and is evened.
                put(0, 1) = 7
                put(7..9, 2)
                take(10) = 1
                told(11) = f 2 2|b 2|owes 2 1
                last(11) = 2
                told(12) = f 2|b 2|owes 1 1
                spent(11) = 4
                overdue() = 0
                """);
        promise(32, "-2 likewise", """
                overdue() = -2
                house "house law 1 balance 2;" = 1
                overdue() = 0
                house "" = 0
                overdue() = -2
                """);
        promise(33, "STEPS of all DEEDS, were LAW another (or it)", PLAIN, """
                // LAW 1: 3, 1, 3, 2 (a take of joining 1, READY by the first TURN), 1; LAW 2: 1, 1, 3, 1, 1.
                by(0..2) = 8 10 7
                put(3, 1) = 6
                // By LAW 1 joining 1 is done by that put.
                by(0..2) = 9 13 8
                count(0) = 0
                """, TURNS, """
                // LAW 0: 2, six of 1, 7, 1; LAW 2 by C 3: 1, 1, 3, 1, 1, 1 (six are evened), 3, 5, 1.
                by(0..2) = 16 21 17
                """, EVENS, """
                by(2) = 19
                """, """
                house "house law 0 balance 2;" = 1
                by(0..2) = 0 0 0
                """);
        promise(33, "NONE: there are fore, last, LAW is below 2", """
                house "house law 2 balance 2;put 0 1;fore 0 1;" = 3
                by(0..3) = NONE NONE 2 -2
                house "house law 2 balance 2;put 0 1;last 1;" = 3
                by(0..3) = NONE NONE 2 -2
                house "house law 2 balance 2;fore 0 1;" = 2
                by(0..3) = NONE NONE 1 -2
                by(-1) = -2
                // Neither fore nor last: LAW 2 itself is no hindrance.
                house "house law 2 balance 2;put 0 1;take 1;" = 3
                by(0..2) = 3 4 2
                fore(0, 1) = 3
                by(0..2) = NONE NONE 3
                undo() = 0
                by(0) = 3
                """);
        promise(33, "-2: there is none such, no HOUSE", """
                by(0..2) = -2 -2 -2
                """, PLAIN, """
                by(3) = -2
                by(-1) = -2
                by(max) = -2
                by(min) = -2
                """);
        promise(34, "STEPS of the dearest one then", PLAIN, """
                peak(0..2) = 3 3 3
                """, TURNS, """
                peak(0..2) = 7 3 5
                """, EVENS, """
                peak(2) = 5
                """);
        promise(34, "(0 without any)", """
                house "house law 0 balance 2;" = 1
                peak(0..2) = 0 0 0
                """);
        promise(34, "NONE, -2 likewise", """
                peak(0..2) = -2 -2 -2
                """, EVENS, """
                peak(0..3) = NONE NONE 5 -2
                peak(-1) = -2
                """, PLAIN, """
                peak(3) = -2
                peak(-1) = -2
                """);
        promise(35, "STEPS of all DEEDS, were LAW 2, and C c (2 .. 4)", EVENS, """
                balanced(2..4) = 19 18 18
                """, PLAIN, """
                balanced(2..4) = 7 7 7
                count(0..1) = 0 2
                """, """
                house "house law 1 balance 4;" = 1
                balanced(2..4) = 0 0 0
                """);
        promise(35, "-2: there is none such, no HOUSE", """
                balanced(2..4) = -2 -2 -2
                """, EVENS, """
                balanced(1) = -2
                balanced(5) = -2
                balanced(0) = -2
                balanced(-1) = -2
                balanced(max) = -2
                balanced(min) = -2
                """);
        promise(36, "The C by which they are fewest, the least of several", EVENS, """
                balance() = 3
                """, PLAIN, """
                balance() = 2
                """, """
                // 13, 11 and 9.
                house "house law 2 balance 2;fore 0 1;fore 1 1;fore 2 1;fore 3 1;fore 4 1;fore 5 1;fore 6 1;" = 8
                balanced(2..4) = 13 11 9
                balance() = 4
                house "house law 1 balance 4;" = 1
                balance() = 2
                """);
        promise(36, "-2: there is no HOUSE", """
                balance() = -2
                house "" = 0
                balance() = -2
                """);
    }

    private void forecastPromises() {
        promise(37, "How many times one would have to put till BACK is turned, or it is EVENED, next"
                + " (that one counted; from a VERSION on; 40 at most)", TURNS, """
                until(0..9) = 1 2 1 4 3 2 1 8 7 6
                count(2) = 10
                """, PLAIN, """
                until(0) = 1
                """, EVENS, """
                until(0) = 2
                until(2) = 3
                until(5) = 6
                """, """
                // COUNT 40 and one in BACK at VERSION 51: it needs 40 more.
                house "house law 1 balance 2;" = 1
                put(0..6, 1)
                take(7..8)
                put(9..14, 1)
                take(15)
                put(16..26, 1)
                take(27)
                put(28..48, 1)
                take(49)
                put(50..51, 1)
                state(51, 2) = 40
                row(51, 1) = 1
                until(51) = 40
                until(52) = 39
                """);
        promise(37, "NONE: not by 40; -2", """
                house "house law 1 balance 2;" = 1
                put(0..6, 1)
                take(7..8)
                put(9..14, 1)
                take(15)
                put(16..26, 1)
                take(27)
                put(28..48, 1)
                take(49)
                state(50, 2) = 40
                row(50, 1) = 0
                until(50) = NONE
                """, PLAIN, """
                // LAW 0: FRONT is not empty, and stays so.
                until(1..5) = NONE NONE NONE NONE NONE
                until(6) = -2
                until(-1) = -2
                until(max) = -2
                """);
        promise(38, "How many times one would have to put till it is IDLE and owes nothing", TURNS, """
                rest(3) = 1
                rest(7..8) = 3 2
                count(2) = 10
                """, EVENS, """
                rest(5..6) = 3 1
                rest(8) = 1
                """, """
                // The next put evens it, but it owes nothing as it is.
                house "house law 2 balance 2;put 0 1;put 1 2;put 2 3;put 3 4;" = 5
                until(4) = 1
                rest(4) = 0
                """);
        promise(38, "(0: it is so; from a VERSION on; 40 at most)", TURNS, """
                rest(0..2) = 0 0 0
                rest(4..6) = 0 0 0
                rest(9) = 0
                """, PLAIN, """
                rest(0..5) = 0 0 0 0 0 0
                """, """
                house "house law 2 balance 2;" = 1
                put(0..7, 1)
                fore(8..45, 1)
                last(46)
                told(47) = f{ 1*22}|b{ 1*23}|owes 22 23
                take(47..51)
                state(52, 3..4) = 12 13
                // By 13 puts all is paid and 53 are evened, 27 and 26 of them: 27 more.
                until(52) = 13
                rest(52) = 40
                """);
        promise(38, "NONE, -2 likewise", """
                // By 16 puts all is paid and 50 are evened: 25 more, 41 in all.
                house "house law 2 balance 2;" = 1
                put(0..20, 1)
                fore(21..34, 1)
                told(35) = f{ 1*17}|b{ 1*18}|owes 17 18
                take(35) = 1
                until(36) = 16
                rest(36) = NONE
                rest(37) = -2
                rest(-1) = -2
                rest(max) = -2
                new
                rest(0) = -2
                """);
        promise(39, "Over all rows of n (1 .. 6) DEEDS from a VERSION on, each one put (of 0) or take (if it is not empty),"
                + " what 0: the most STEPS that one takes, 1: that all n take together, 2: how many rows there are",
                PLAIN, """
                // f 5|b 7 6: take turns two; put take three; put put take four.
                worst(3, 1, 0..2) = 3 3 2
                worst(3, 2, 0..2) = 4 5 4
                worst(3, 3, 0..2) = 5 7 8
                worst(3, 6, 0..2) = 8 13 56
                // Nothing can be taken at first.
                worst(0, 1, 0..2) = 2 2 1
                worst(0, 1..6, 2) = 1 2 3 6 10 20
                worst(1, 1..2, 2) = 2 3
                count(2) = 6
                """, TURNS, """
                // LAW 1: VERSION 5 has COUNT 3, two in BACK: any two DEEDS begin TURNING by the second one.
                worst(5, 1, 0..2) = 1 1 2
                worst(5, 2, 0..2) = 3 4 4
                worst(7, 1, 0..2) = 3 3 2
                """, EVENS, """
                // LAW 2, owing 3 and 2: put 3; take 5; put put 6, all others of two 7.
                worst(5, 1, 0..2) = 5 5 2
                worst(5, 2, 0..2) = 5 7 4
                worst(0, 1..6, 2) = 1 2 3 6 10 20
                """);
        promise(39, "-2: there are none such", PLAIN, """
                worst(3, 0, 0..2) = -2 -2 -2
                worst(3, 7, 0..2) = -2 -2 -2
                worst(3, -1, 0) = -2
                worst(3, max, 0) = -2
                worst(3, 1, 3..4) = -2 -2
                worst(3, 1, -1) = -2
                worst(6, 1, 0) = -2
                worst(-1, 1, 0) = -2
                """);
        promise(40, "The i-th (from 0) DEED (0 put, 1 take) of the first row of n DEEDS (put ahead of take, DEED by DEED)"
                + " by which most STEPS are taken together", PLAIN, """
                worstAt(3, 1, 0) = 1
                worstAt(3, 2, 0..1) = 0 1
                worstAt(3, 6, 0..5) = 0 0 0 0 0 1
                // All rows of one take as many: the first is the put; of two likewise.
                worstAt(4, 1, 0) = 0
                worstAt(4, 2, 0..1) = 0 0
                worstAt(4, 4, 0..3) = 0 0 1 1
                worstAt(0, 1, 0) = 0
                """, TURNS, """
                worstAt(5, 2, 0..1) = 0 0
                """, EVENS, """
                worstAt(5, 1, 0) = 1
                worstAt(5, 2, 0..1) = 0 1
                """);
        promise(40, "NONE: i is n or more; -2 likewise (i below 0, too)", PLAIN, """
                worstAt(3, 2, 1..3) = 1 NONE NONE
                worstAt(3, 6, 6) = NONE
                worstAt(3, 1, max) = NONE
                worstAt(3, 2, -1) = -2
                worstAt(3, 2, min) = -2
                worstAt(3, 0, 0) = -2
                worstAt(3, 7, 7) = -2
                worstAt(6, 1, 1) = -2
                worstAt(-1, 1, 0) = -2
                """);
        promise(41, "The fewest DEEDS (puts of 0, takes; 1 .. 6) from a VERSION on, the last of which takes so many STEPS"
                + " (1 ..), or more", PLAIN, """
                spike(3, 1..8) = 1 1 1 2 3 4 5 6
                spike(0, 1..2) = 1 1
                // put put take turns one; put put put take two.
                spike(0, 3..5) = 4 5 6
                count(2) = 6
                """, TURNS, """
                spike(5, 1..3) = 1 2 2
                // COUNT 5 and none in BACK: six DEEDS, whichever they are.
                spike(9, 1..3) = 1 6 6
                """, EVENS, """
                spike(5, 1..5) = 1 1 1 1 1
                """);
        promise(41, "NONE: not by 6; -2: there are none such", PLAIN, """
                spike(3, 9) = NONE
                spike(3, max) = NONE
                spike(0, 6) = NONE
                spike(0, 0) = -2
                spike(3, 0) = -2
                spike(3, -1) = -2
                spike(3, min) = -2
                spike(6, 1) = -2
                spike(-1, 1) = -2
                """);
        promise(42, "STEPS to take all numbers of a VERSION, one by one", PLAIN, """
                drain(0..5) = 0 1 3 5 2 3
                count(2) = 6
                """, TURNS, """
                drain(9) = 5
                // 3 (TURNING), 3 (JOINING), 1 (READY by the take itself), 1, 1, 1.
                drain(6) = 10
                """, EVENS, """
                // 5 (pays 2, 2), 2 (pays 1), 1 (evened: f 4|b 5), 3 (pays 1, 1), 1.
                drain(5) = 12
                """, """
                house "house law 0 balance 2;" = 1
                put(0..59, 1)
                drain(60) = 119
                """);
        promise(42, "-2", PLAIN, """
                drain(6) = -2
                drain(-1) = -2
                drain(max) = -2
                """);
    }

    private void outPromises() {
        promise(43, "A VERSION is TOLD (IV) in OUT: how many bytes", PLAIN, """
                tell(0) = 3
                tell(3) = 9
                told(3) = f 5|b 7 6
                count(7) = 9
                tell(0) = 3
                count(7) = 3
                """);
        promise(43, "-2 (OUT stays)", PLAIN, """
                tell(3) = 9
                tell(6) = -2
                tell(-1) = -2
                tell(max) = -2
                count(7) = 9
                octet(8..9) = 54 NONE
                house "" = 0
                tell(0) = -2
                count(7) = 9
                """);
        promise(44, "Byte i of OUT (what was told in it last by a call that was not refused, whatever came since,"
                + " a new text, too; empty ahead of any)", """
                octet(0) = NONE
                count(7) = 0
                """, PLAIN, """
                octet(0) = NONE
                tell(1) = 5
                octet(0..5) = 102 32 53 124 98 NONE
                tell(9) = -2
                octet(2) = 53
                // What asks for TOLD texts by itself tells nothing in OUT.
                twin(5) = 5
                octet(0..5) = 102 32 53 124 98 NONE
                image(0) = 0
                house "house law 1 balance 2;put 0 7;" = 2
                octet(2) = 53
                house "" = 0
                octet(2) = 53
                house "#" = fault 1 at 0
                octet(2) = 53
                back(0) = 0
                octet(0..5) = 102 32 53 124 98 NONE
                tell(0) = 3
                octet(0..3) = 102 124 98 NONE
                """);
        promise(44, "NONE: there is none such", PLAIN, """
                tell(1) = 5
                octet(4..6) = 98 NONE NONE
                octet(-1) = NONE
                octet(max) = NONE
                octet(min) = NONE
                // A shorter text leaves nothing of a longer one.
                tell(3) = 9
                tell(0) = 3
                octet(2..8) = 98 NONE NONE NONE NONE NONE NONE
                """);
        promise(45, "The TAPE (empty then): letters p (put of 1), t (take), by LAW 2 also f (fore of 1), l (last),"
                + " done from a VERSION on, nothing stays: STEPS together", PLAIN, """
                walk(0) "" = 0
                walk(0) "p" = 2
                walk(0) "pppt" = 7
                count(6) = 0
                walk(3) "tttp" = 7
                count(2..4) = 6 5 0
                spent(5) = -2
                """, TURNS, """
                // 3, 1, 3, and a take of joining 1, which is READY by the first TURN.
                walk(0) "pppt" = 9
                """, EVENS, """
                walk(0) "ppflt" = 9
                walk(5) "l" = 5
                walk(5) "f" = 3
                // Evened are 2, 5, 11 .. 275, 416 numbers; 184 puts pay one each of the last of them.
                walk(0) "{p*600}" = 1741
                """);
        promise(45, "NONE: a letter is none, or cannot be done", PLAIN, """
                walk(1) "p p" = -1
                count(6) = 0
                walk(1) "pP" = -1
                walk(1) "p;" = -1
                walk(1) "<10>" = -1
                walk(1) "<240>" = -1
                walk(1) "q" = -1
                // By LAW 0 neither fore nor last.
                walk(1) "f" = -1
                walk(1) "l" = -1
                // Of VERSION 1 one number can be taken.
                walk(1) "t" = 1
                walk(1) "tt" = -1
                count(6) = 0
                walk(0) "t" = -1
                count(2) = 6
                """, TURNS, """
                walk(1) "f" = -1
                walk(1) "l" = -1
                walk(1) "tt" = -1
                """, EVENS, """
                walk(0) "l" = -1
                walk(1) "l" = 1
                walk(1) "ll" = -1
                walk(1) "lt" = -1
                """);
        promise(45, "-2: there is no such VERSION (the TAPE stays)", PLAIN, """
                walk(6) "pp" = -2
                count(6) = 2
                walk(-1) = -2
                walk(max) = -2
                count(6) = 2
                walk(0) = 3
                count(6) = 0
                new
                walk(0) "house law 0 balance 2;" = -2
                house() = 1
                """);
    }

    private void graftPromises() {
        promise(46, "GRAFT (V; nothing stays), what 0: how many DEEDS the way has, 1: STEPS together,"
                + " 2: the DEED (its number) at which it CLASHES (NONE: at none),"
                + " 3: how many numbers the QUEUE has behind", WAYS, """
                // On the empty VERSION 5: put 6 (2 STEPS), take (1), put 7 (2).
                grafting(1, 4, 5, 0..3) = 3 5 NONE 1
                grafting(2, 4, 0, 0..3) = 2 0 2 0
                // The way has DEEDS, but the first one clashes; a way of none.
                grafting(2, 3, 5, 0..3) = 1 0 2 0
                grafting(5, 5, 2, 0..3) = 0 0 NONE 2
                count(2..4) = 6 5 0
                made() = 5
                """, TURNS, """
                // put (3), take (1), and a take of none.
                grafting(6, 9, 0, 0..3) = 3 4 8 0
                """, EVENS, """
                // take, last, last once more.
                grafting(5, 8, 5, 0..3) = 3 8 NONE 2
                """);
        promise(46, "NONE: the second was not made of the first", WAYS, """
                grafting(2, 5, 0, 0..3) = NONE NONE NONE NONE
                grafting(4, 1, 0, 0) = NONE
                grafting(5, 4, 0, 0) = NONE
                grafting(1, 0, 0, 0) = NONE
                """);
        promise(46, "-2: there are none such", WAYS, """
                grafting(1, 4, 5, 4..5) = -2 -2
                grafting(1, 4, 5, -1) = -2
                grafting(2, 5, 0, 4) = -2
                grafting(6, 4, 5, 0) = -2
                grafting(1, 6, 5, 0) = -2
                grafting(1, 4, 6, 0) = -2
                grafting(-1, 4, 5, 0) = -2
                grafting(1, -1, 5, 0) = -2
                grafting(1, 4, -1, 0) = -2
                // The second was not made of the first, and there is no third one.
                grafting(2, 5, 6, 0) = -2
                """);
        promise(47, "The i-th number (from 0) of the QUEUE behind it", WAYS, """
                grafted(1, 4, 1, 0..1) = 6 7
                grafted(0, 0, 2, 0..1) = 5 6
                """, """
                house "house law 2 balance 2;" = 1
                put(0..59, 7)
                // 60 numbers, and 60 behind them.
                grafted(0, 60, 60, 119..120) = 7 NONE
                grafting(0, 60, 60, 3) = 120
                """);
        promise(47, "NONE: it has not so many, the second was not made of the first", WAYS, """
                grafted(1, 4, 1, 2..3) = NONE NONE
                grafted(1, 4, 1, max) = NONE
                grafted(2, 4, 0, 0) = NONE
                grafted(0, 0, 0, 0) = NONE
                grafted(0, 0, 2, 0) = 5
                grafted(2, 5, 2, 0) = NONE
                grafted(4, 1, 2, 0) = NONE
                """);
        promise(47, "-2: there are none such, i is below 0", WAYS, """
                grafted(1, 4, 1, -1) = -2
                grafted(2, 5, 0, -1) = -2
                grafted(1, 4, 1, min) = -2
                grafted(6, 4, 1, 0) = -2
                grafted(1, 6, 1, 0) = -2
                grafted(1, 4, 6, 0) = -2
                grafted(-1, 4, 1, 0) = -2
                """);
        promise(48, "Acts: GRAFT, each DEED an act by itself: the last new VERSION", WAYS, """
                graft(1, 4, 2) = 8
                count(2..4) = 9 8 3
                version(6..8, 0) = 2 6 7
                version(6..8, 1) = 0 1 0
                // What is taken is what is first there.
                version(6..8, 2) = 6 5 7
                at(8, 0..3) = 6 6 7 NONE
                undo() = 2
                undo() = 1
                count(2) = 7
                """);
        promise(48, "(the third, if there are no DEEDS)", WAYS, """
                graft(4, 4, 2) = 2
                graft(0, 0, 0) = 0
                graft(2, 2, 5) = 5
                count(4) = 0
                put(0, 1..55)
                count(2) = 61
                graft(1, 1, 60) = 60
                """);
        promise(48, "-2: there are none such; -3: the second was not made of the first", WAYS, """
                graft(5, 4, 0) = -3
                graft(4, 1, 0) = -3
                graft(6, 4, 0) = -2
                graft(5, 6, 0) = -2
                graft(5, 4, 6) = -2
                graft(-1, 4, 0) = -2
                graft(5, -1, 0) = -2
                graft(5, 4, -1) = -2
                count(4) = 0
                // With 61 VERSIONS, too.
                put(0, 1..55)
                graft(5, 4, 0) = -3
                graft(5, 4, 61) = -2
                """);
        promise(48, "-5: it CLASHES, there would be more than 61 VERSIONS (nothing is done then)", WAYS, """
                graft(2, 4, 0) = -5
                count(2) = 6
                // 58 VERSIONS and 3 DEEDS are 61.
                put(0, 1..52)
                count(2) = 58
                graft(0, 4, 0) = -5
                count(2) = 58
                graft(1, 4, 2) = 60
                count(2) = 61
                graft(0, 1, 0) = -5
                count(2) = 61
                """, WAYS, """
                // 59 VERSIONS and 3 DEEDS are too many, though two of them would fit.
                put(0, 1..53)
                graft(1, 4, 2) = -5
                count(2..4) = 59 58 53
                """, """
                // A clash behind a DEED that can be done: neither of them is.
                house "house law 2 balance 2;put 0 1;put 1 5;take 2;take 3;" = 5
                graft(1, 4, 0) = -5
                count(2) = 5
                """);
    }

    private void actPromises() {
        promise(49, "IMAGE k (0 .. 2) keeps the HOUSE, DEEDS, acts: 0", PLAIN, """
                image(0..2) = 0 0 0
                put(0, 8) = 6
                image(2) = 0
                undo() = 0
                back(2) = 0
                count(2..4) = 7 6 1
                tail(6) = 8
                back(0) = 0
                count(2..4) = 6 5 0
                // In place of what it had.
                house "house law 2 balance 3;put 0 1;" = 2
                image(0) = 0
                back(2) = 0
                back(0) = 0
                count(0..5) = 2 3 2 1 0 2
                """);
        promise(49, "-2: no such k, no HOUSE", """
                image(0..2) = -2 -2 -2
                back(0) = -6
                """, PLAIN, """
                image(3) = -2
                image(-1) = -2
                image(max) = -2
                image(min) = -2
                image(0) = 0
                house "" = 0
                // What it kept stays.
                image(0) = -2
                back(0) = 0
                count(2) = 6
                """);
        promise(50, "They are as IMAGE k has them: 0", EVENS, """
                fore(5, 9) = 11
                image(1) = 0
                put(11, 3) = 12
                house "house law 0 balance 4;put 0 1;" = 2
                back(1) = 0
                count(0..5) = 2 2 12 11 1 11
                first(11) = 9
                told(5) = f 1 2 3|b 5 4|owes 3 2
                version(7, 2) = 5
                made() = 15
                ledger() = 22
                undo() = 0
                undo() = -5
                // As often as one likes.
                back(1) = 0
                count(4) = 1
                anew() = 1
                house "" = 0
                back(1) = 0
                count(4) = 1
                """);
        promise(50, "-2: no such k; -6: it has nothing", """
                back(0..2) = -6 -6 -6
                back(3) = -2
                back(-1) = -2
                back(max) = -2
                back(min) = -2
                """, PLAIN, """
                image(1) = 0
                back(0) = -6
                back(2) = -6
                back(3) = -2
                count(2) = 6
                """);
        promise(51, "An act: a DEED: the new VERSION", PLAIN, """
                put(0, 0) = 6
                put(6, 99) = 7
                at(7, 0..2) = 0 99 NONE
                version(7, 0..2) = 6 0 99
                count(2..5) = 8 7 2 6
                """);
        promise(51, "-2: there are none such; -5: there are 61 VERSIONS", PLAIN, """
                put(0, 100) = -2
                put(0, -1) = -2
                put(0, max) = -2
                put(6, 1) = -2
                put(-1, 1) = -2
                put(max, 1) = -2
                count(4) = 0
                put(0, 1..54)
                count(2) = 60
                put(0, 1) = 60
                count(2) = 61
                put(0, 1) = -5
                put(60, 1) = -5
                count(2) = 61
                new
                put(0, 1) = -2
                """);
        promise(52, "An act: likewise: the number taken", PLAIN, """
                take(3) = 5
                told(6) = f 6 7|b
                take(6) = 6
                take(7) = 7
                size(8) = 0
                version(8, 0..2) = 7 1 7
                count(4) = 3
                """);
        promise(52, "-2; -5 (it is empty, too) likewise", PLAIN, """
                take(0) = -5
                take(6) = -2
                take(-1) = -2
                take(min) = -2
                count(4) = 0
                put(0, 1..54)
                take(3) = 5
                count(2) = 61
                take(3) = -5
                take(0) = -5
                take(61) = -2
                new
                take(0) = -2
                """);
        promise(53, "An act: likewise: the new VERSION", EVENS, """
                fore(5, 7) = 11
                told(11) = f 7 1 2 3|b 5 4|owes 2 1
                fore(0, 0) = 12
                fore(0, 99) = 13
                version(13, 0..2) = 0 2 99
                count(4) = 3
                """);
        promise(53, "-2 (LAW is not 2, too), -5 likewise", PLAIN, """
                fore(0, 1) = -2
                """, TURNS, """
                fore(0, 1) = -2
                """, EVENS, """
                fore(0, 100) = -2
                fore(0, -1) = -2
                fore(11, 1) = -2
                fore(-1, 1) = -2
                count(4) = 0
                fore(0, 1..50)
                count(2) = 61
                fore(0, 1) = -5
                fore(0, 100) = -2
                fore(61, 1) = -2
                new
                fore(0, 1) = -2
                """);
        promise(54, "An act: likewise: the number taken", EVENS, """
                last(5) = 5
                told(11) = f 1 2 3|b 4|owes 1 0
                last(1) = 1
                version(12, 0..2) = 1 3 1
                count(4) = 2
                """);
        promise(54, "-2 (LAW is not 2, too), -5 likewise", PLAIN, """
                last(1) = -2
                last(0) = -2
                """, TURNS, """
                last(1) = -2
                last(0) = -2
                """, EVENS, """
                last(0) = -5
                last(10) = -5
                last(11) = -2
                last(-1) = -2
                count(4) = 0
                put(0, 1..49)
                last(5) = 5
                count(2) = 61
                last(5) = -5
                last(0) = -5
                last(61) = -2
                new
                last(0) = -2
                """);
        promise(55, "The latest act is taken back: how many there are", TURNS, """
                put(9, 1) = 10
                take(7) = 1
                undo() = 1
                count(2..4) = 11 10 1
                size(10..11) = 6 -2
                undo() = 0
                made() = 20
                ledger() = 21
                // Another one in its place.
                put(9, 4) = 10
                tail(10) = 4
                """);
        promise(55, "-2: there is no HOUSE; -5: there is none", """
                undo() = -2
                """, TURNS, """
                undo() = -5
                count(2) = 10
                put(9, 1) = 10
                undo() = 0
                undo() = -5
                count(2) = 10
                house "" = 0
                undo() = -2
                """);
        promise(56, "All are: how many there were", TURNS, """
                put(9, 1) = 10
                put(10, 1) = 11
                take(9) = 3
                anew() = 3
                count(2..4) = 10 9 0
                made() = 20
                undo() = -5
                // There are none.
                anew() = 0
                count(2) = 10
                new
                """, TURNS, """
                anew() = 0
                made() = 20
                """);
        promise(56, "-2 likewise", """
                anew() = -2
                house "" = 0
                anew() = -2
                house "house law 0 balance 2;" = 1
                anew() = 0
                """);
    }

    public static void main(String[] args) throws java.io.IOException {
        EdgeTest tests = new EdgeTest(args);
        tests.tapePromises();
        tests.queuePromises();
        tests.statePromises();
        tests.cellPromises();
        tests.stepPromises();
        tests.forecastPromises();
        tests.outPromises();
        tests.graftPromises();
        tests.actPromises();
        tests.everySentence("Promise ", 56);
        tests.check.close();
    }
}
