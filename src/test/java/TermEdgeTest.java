/** The sentences of DOC.md's terms, I to V. */
final class TermEdgeTest extends Edges {
    private TermEdgeTest(String[] args) throws java.io.IOException {
        super(args);
    }

    private void term(String term, String sentence, String... scripts) {
        edge("Terms " + term, "Terms", sentence, scripts);
    }

    private void textTerms() {
        term("I", "I. TEXT: {LINE ;}", """
                house "" = 0
                house " <10> " = 0
                house "house law 0 balance 2;" = 1
                house "house law 0 balance 2" = fault 1 at 21
                house "house law 0 balance 2;put 0 1" = fault 1 at 29
                house "house law 0 balance 2;put 0 1;" = 2
                house "house law 0 balance 2;put 0 1;;" = fault 1 at 30
                house ";house law 0 balance 2;" = fault 1 at 0
                """);
        term("I", "LINE: house law L balance C | put V X | take V | fore V X | last V", """
                house "house law 2 balance 2;put 0 1;fore 1 2;take 2;last 3;" = 5
                house "house" = fault 1 at 5
                house "house 2" = fault 1 at 6
                house "house balance 2" = fault 1 at 6
                house "house law" = fault 1 at 9
                house "house law balance 2;" = fault 1 at 10
                house "house law 2" = fault 1 at 11
                house "house law 2;" = fault 1 at 11
                house "house law 2 2;" = fault 1 at 12
                house "house law 2 law 2;" = fault 1 at 12
                house "house law 2 balance" = fault 1 at 19
                house "house law 2 balance;" = fault 1 at 19
                house "house law 2 balance 2 2;" = fault 1 at 22
                house "house law 2 balance 2;put" = fault 1 at 25
                house "house law 2 balance 2;put;" = fault 1 at 25
                house "house law 2 balance 2;put 0" = fault 1 at 27
                house "house law 2 balance 2;put 0;" = fault 1 at 27
                house "house law 2 balance 2;put put 0 1;" = fault 1 at 26
                house "house law 2 balance 2;put 0 1 1;" = fault 1 at 30
                house "house law 2 balance 2;fore 0;" = fault 1 at 28
                house "house law 2 balance 2;fore 0 1 1;" = fault 1 at 31
                house "house law 2 balance 2;put 0 1;take;" = fault 1 at 34
                house "house law 2 balance 2;put 0 1;take 1 1;" = fault 1 at 37
                house "house law 2 balance 2;put 0 1;last;" = fault 1 at 34
                house "house law 2 balance 2;put 0 1;last 1 1;" = fault 1 at 37
                house "house law 2 balance 2;0 1;" = fault 1 at 22
                """);
        term("I", "house is the first LINE and no other", """
                house "put 0 1;" = fault 1 at 0
                house "law 0 balance 2;" = fault 1 at 0
                house "house law 0 balance 2;house law 0 balance 2;" = fault 1 at 22
                house "house law 0 balance 2;put 0 1;house law 0 balance 2;" = fault 1 at 30
                """);
        term("I", "LAW L 0 .. 2", """
                house "house law 0 balance 2;" = 1
                count(0) = 0
                house "house law 1 balance 2;" = 1
                count(0) = 1
                house "house law 2 balance 2;" = 1
                count(0) = 2
                house "house law 3 balance 2;" = fault 2 at 10
                house "house law 10 balance 2;" = fault 2 at 10
                house "house law 4294967296 balance 2;" = fault 2 at 10
                house "house law 18446744073709551616 balance 2;" = fault 2 at 10
                count(0) = 2
                """);
        term("I", "C 2 .. 4", """
                house "house law 2 balance 2;" = 1
                count(1) = 2
                house "house law 2 balance 3;" = 1
                count(1) = 3
                house "house law 2 balance 4;" = 1
                count(1) = 4
                house "house law 2 balance 0;" = fault 2 at 20
                house "house law 2 balance 1;" = fault 2 at 20
                house "house law 2 balance 5;" = fault 2 at 20
                house "house law 2 balance 4294967298;" = fault 2 at 20
                house "house law 0 balance 5;" = fault 2 at 20
                count(1) = 4
                """);
        term("I", "DEEDS: all others, 40 at most", """
                house "house law 0 balance 2;{put 0 1;*39}" = 40
                house "house law 0 balance 2;{put 0 1;*40}" = 41
                count(2) = 41
                count(3) = 40
                house "house law 0 balance 2;{put 0 1;*40} <10> " = 41
                house "house law 0 balance 2;{put 0 1;*41}" = fault 3 at 342
                """);
        term("I", "each makes the next VERSION (VERSION 0 is there at first, empty)", """
                house "house law 0 balance 2;" = 1
                count(2) = 1
                size(0..1) = 0 -2
                house "house law 0 balance 2;put 0 5;put 0 6;take 2;" = 4
                count(2) = 4
                first(0..4) = NONE 5 6 NONE -2
                version(0..3, 0) = NONE 0 0 2
                """);
        term("I", "V: a VERSION that there is then", """
                house "house law 2 balance 2;put 0 1;put 1 1;" = 3
                house "house law 2 balance 2;put 1 1;" = fault 2 at 26
                house "house law 2 balance 2;put 0 1;put 2 1;" = fault 2 at 34
                house "house law 2 balance 2;put 0 1;fore 2 1;" = fault 2 at 35
                house "house law 2 balance 2;put 0 1;fore 1 1;" = 3
                house "house law 2 balance 2;put 0 1;take 2;" = fault 2 at 35
                house "house law 2 balance 2;put 0 1;last 2;" = fault 2 at 35
                house "house law 2 balance 2;put 41 1;" = fault 2 at 26
                house "house law 2 balance 2;put 4294967296 1;" = fault 2 at 26
                """);
        term("I", "of take, last one that is not empty", """
                house "house law 2 balance 2;take 0;" = fault 2 at 27
                house "house law 2 balance 2;last 0;" = fault 2 at 27
                house "house law 2 balance 2;put 0 1;take 1;take 1;" = 4
                house "house law 2 balance 2;put 0 1;last 1;last 1;" = 4
                house "house law 2 balance 2;put 0 1;take 1;take 2;" = fault 2 at 42
                house "house law 2 balance 2;put 0 1;last 1;last 2;" = fault 2 at 42
                house "house law 2 balance 2;put 0 1;last 1;take 2;" = fault 2 at 42
                house "house law 2 balance 2;put 0 1;take 1;put 2 3;take 3;" = 5
                """);
        term("I", "X 0 .. 99", """
                house "house law 2 balance 2;put 0 0;fore 0 0;" = 3
                first(1..2) = 0 0
                house "house law 2 balance 2;put 0 99;fore 0 99;" = 3
                first(1..2) = 99 99
                house "house law 2 balance 2;put 0 100;" = fault 2 at 28
                house "house law 2 balance 2;fore 0 100;" = fault 2 at 29
                house "house law 2 balance 2;put 0 4294967296;" = fault 2 at 28
                house "house law 2 balance 2;put 0 -1;" = fault 1 at 28
                """);
        term("I", "fore, last by LAW 2 alone", """
                house "house law 2 balance 2;fore 0 1;last 1;" = 3
                house "house law 0 balance 2;fore 0 1;" = fault 1 at 22
                house "house law 1 balance 2;fore 0 1;" = fault 1 at 22
                house "house law 0 balance 2;put 0 1;last 1;" = fault 1 at 30
                house "house law 1 balance 2;put 0 1;last 1;" = fault 1 at 30
                """);
    }

    private void tokenTerms() {
        term("I", "TOKENS, blanks (32, 10) aside", """
                house " house<10>law 0 <10><10> balance 2 ; <10>put 0 1 ;<10> " = 2
                house "house law 0 balance 2;<9>put 0 1;" = fault 1 at 22
                house "house law 0 balance 2;<13>put 0 1;" = fault 1 at 22
                house "house law 0 balance 2;<11>" = fault 1 at 22
                house "house law 0 balance 2;<12>" = fault 1 at 22
                house "house law 0 balance 2;<0>" = fault 1 at 22
                house "house law 0 balance 2;<31>" = fault 1 at 22
                house "house law 0 balance 2;<33>" = fault 1 at 22
                house "house law 0 balance 2;<160>" = fault 1 at 22
                """);
        term("I", "the longest", """
                house "house law0balance2;put0 12;" = 2
                first(1) = 12
                house "house law 0 balance 2;put 00;" = fault 1 at 28
                house "house law 0 balance 2;putput 0 1;" = fault 1 at 22
                house "house law 0 balance 2;pu t 0 1;" = fault 1 at 22
                house "houselaw 0 balance 2;" = fault 1 at 0
                """);
        term("I", "words (a .. z)", """
                house "aouse law 0 balance 2;" = fault 1 at 0
                house "hous" = fault 1 at 0
                house "housez" = fault 1 at 0
                house "house<96>law 0 balance 2;" = fault 1 at 5
                house "house<123>law 0 balance 2;" = fault 1 at 5
                house "housea law 0 balance 2;" = fault 1 at 0
                house "House law 0 balance 2;" = fault 1 at 0
                house "house laW 0 balance 2;" = fault 1 at 6
                house "house law<65> 0 balance 2;" = fault 1 at 9
                """);
        term("I", "numbers (digits)", """
                house "house law 0000 balance 002;put 0 000000000000000000000099;" = 2
                first(1) = 99
                house "house law 0 balance 2;put 0 09;put 0 90;" = 3
                first(1..2) = 9 90
                house "house law 0 balance 2;put 0 1<47>;" = fault 1 at 29
                house "house law 0 balance 2;put 0 1<58>;" = fault 1 at 29
                house "house law 0 balance 2;put 0 +1;" = fault 1 at 28
                house "house law 0 balance 2;put 0 1.0;" = fault 1 at 29
                """);
        term("I", "the sign ;", """
                house "house law 0 balance 2 <59> " = 1
                house "house law 0 balance 2<58>" = fault 1 at 21
                house "house law 0 balance 2<60>" = fault 1 at 21
                house "house law 0 balance 2," = fault 1 at 21
                """);
        term("I", "FAULTS, the first by its place", """
                house "house law 3 balance 5;" = fault 2 at 10
                house "house law 0 balance 5;put 7 100" = fault 2 at 20
                house "house law 0 balance 2;put 7 100" = fault 2 at 26
                house "house law 0 balance 2;put 0 100" = fault 2 at 28
                house "house law 0 balance 2;put 0 1;take 2 #" = fault 2 at 35
                house "house law 0 balance 2;put # 100;" = fault 1 at 26
                """);
        term("I", "(a TOKEN's first byte; the end's)", """
                house " housex" = fault 1 at 1
                house "<10><10>house law 12 balance 2;" = fault 2 at 12
                house "house law  123" = fault 2 at 11
                house "h" = fault 1 at 0
                house "house " = fault 1 at 6
                house "house <10> " = fault 1 at 8
                house "house law 0 balance 2;put 0 1 " = fault 1 at 30
                """);
        term("I", "of one place the least", """
                house "house law 1 balance 2;{put 0 1;*40}fore 0 1;" = fault 1 at 342
                house "house law 1 balance 2;{put 0 1;*40};" = fault 1 at 342
                house "house law 1 balance 2;{put 0 1;*40}put 99" = fault 3 at 342
                house "house 7" = fault 1 at 6
                house "house law 2 balance 2;put 0 1;100" = fault 1 at 30
                """);
        term("I", "1 a TOKEN that is none", """
                house "#" = fault 1 at 0
                house "<200>" = fault 1 at 0
                house "<255>" = fault 1 at 0
                house "house law #" = fault 1 at 10
                house "house law 0 balance 2;put 0 1;-" = fault 1 at 30
                """);
        term("I", "or can't stand there", """
                house "house house" = fault 1 at 6
                house "house law ; balance 2;" = fault 1 at 10
                house "house law law" = fault 1 at 10
                house "house law 0 balance 2 put 0 1;" = fault 1 at 22
                house "house law 0 balance 2;take put;" = fault 1 at 27
                house "house law 0 balance 2;put 0 1;take 1 put" = fault 1 at 37
                """);
        term("I", "(house behind the first LINE, another word ahead of it; fore, last by another LAW)", """
                house "house law 0 balance 2;house" = fault 1 at 22
                house "house law 0 balance 2;{put 0 1;*40}house" = fault 1 at 342
                house "take 0;" = fault 1 at 0
                house "fore 0 1;house law 2 balance 2;" = fault 1 at 0
                house "house law 0 balance 2;fore 0 1;" = fault 1 at 22
                house "house law 1 balance 2;last 0;" = fault 1 at 22
                house "house law 2 balance 2;last 0;" = fault 2 at 27
                """);
        term("I", "2 a number out of its bounds, a VERSION not as said", """
                house "house law 9 balance 2;" = fault 2 at 10
                house "house law 2 balance 9;" = fault 2 at 20
                house "house law 2 balance 2;fore 0 100;" = fault 2 at 29
                house "house law 2 balance 2;put 2 1;" = fault 2 at 26
                house "house law 2 balance 2;take 0;" = fault 2 at 27
                """);
        term("I", "3 a 41st DEED, at its word", """
                house "house law 2 balance 2;{put 0 1;*40}put 0 1;" = fault 3 at 342
                house "house law 2 balance 2;{put 0 1;*40} <10>take" = fault 3 at 344
                house "house law 2 balance 2;{put 0 1;*40}fore" = fault 3 at 342
                house "house law 2 balance 2;{put 0 1;*40}last #" = fault 3 at 342
                house "house law 2 balance 2;{put 0 1;*39}put 0 100;put 0 1;" = fault 2 at 340
                """);
    }

    private void rowTerms() {
        term("II", "II. The QUEUE of a VERSION is a row of numbers: that of V, by put X behind all, by fore X ahead of all,"
                + " by take without its first number, by last without its last one", """
                house "house law 2 balance 4;put 0 1;put 1 2;fore 2 3;take 3;last 4;last 5;" = 7
                at(3, 0..3) = 3 1 2 NONE
                at(4, 0..2) = 1 2 NONE
                at(5, 0..1) = 1 NONE
                at(6, 0) = NONE
                size(0..6) = 0 1 2 3 2 1 0
                """);
        term("II", "It lies in ROWS of CELLS, each with a number, the first one ahead", TURNS, """
                cell(6, 0, 0..3) = 1 2 3 NONE
                cell(6, 1, 0..3) = 6 5 4 NONE
                """);
        term("II", "Where something comes ahead of a ROW, it is a new CELL; all behind it is shared", TURNS, """
                origin(6, 1, 0..2) = 5 4 3
                shares(5, 6) = 5
                holds(6) = 6
                // The same number put twice on one VERSION: a CELL each time.
                house "house law 0 balance 2;put 0 1;put 1 2;put 1 2;" = 4
                shares(2, 3) = 1
                held(12) = 3
                made() = 4
                """);
        term("II", "A VERSION has a FRONT and a BACK (the last number of the QUEUE is its first)", TURNS, """
                tail(6) = 6
                cell(6, 1, 0) = 6
                // BACK is empty: the last number is elsewhere.
                tail(9) = 7
                row(9, 1) = 0
                """);
        term("II", "put: X ahead of BACK. take: FRONT without its first. fore: X ahead of FRONT."
                + " last: BACK without its first", PLAIN, """
                told(3) = f 5|b 7 6
                take(4) = 6
                told(6) = f 7|b
                """, EVENS, """
                fore(5, 7) = 11
                told(11) = f 7 1 2 3|b 5 4|owes 2 1
                last(5) = 5
                told(12) = f 1 2 3|b 4|owes 1 0
                """);
        term("II", "(LAW 2: if FRONT, BACK has none, the one that is in the other ROW goes.)", """
                house "house law 2 balance 2;put 0 1;take 1;fore 0 2;last 3;" = 5
                told(1) = f|b 1|owes 0 0
                told(2) = f|b|owes 0 0
                told(3) = f 2|b|owes 0 0
                told(4) = f|b|owes 0 0
                version(1..4, 2) = 1 1 2 2
                spent(0..3) = 1 1 1 1
                """);
        term("II", "Then the LAW does what is below. STEPS of a DEED: 1, and what is told there", PLAIN, """
                spent(0..4) = 2 1 1 3 1
                """, EVENS, """
                // Evening itself is no STEP: DEEDS 1 and 4.
                spent(0..9) = 1 1 3 1 1 5 2 1 3 1
                """);
        term("II", "LAW 0: if FRONT is empty, and BACK is not: BACK is turned round (one by one ahead of FRONT):"
                + " a STEP for each; it is empty then", """
                house "house law 0 balance 2;put 0 1;put 1 2;put 2 3;take 3;take 1;" = 6
                told(1) = f 1|b
                // FRONT is not empty: BACK stays.
                told(2) = f 1|b 2
                told(3) = f 1|b 3 2
                told(4) = f 2 3|b
                // Both are empty.
                told(5) = f|b
                spent(0..4) = 2 1 1 3 1
                made() = 6
                """);
    }

    private void turningTerms() {
        term("II", "LAW 1: a VERSION has a COUNT, too (at first 0; one less by take)", TURNS, """
                state(0..9, 2) = 0 1 1 3 3 3 3 7 6 5
                """);
        term("II", "and a STATE: IDLE; TURNING: GOOD (a number), ROWS A, C, D, E; JOINING: GOOD, C, E; READY: E", JOINS, """
                told(6) = f 1 2 3|b 6 5 4|idle
                told(7) = f 1 2 3|b|turning 2|a 3|c 2 1|d 5 4|e 6 7
                told(8) = f 1 2 3|b 8|joining 3|c 3 2 1|e 4 5 6 7
                // READY is never left so.
                told(10) = f 3 4 5 6 7|b 8|idle
                state(0..10, 0) = 0 0 0 2 0 0 0 1 2 2 0
                """);
        term("II", "By take, ahead of all else: TURNING, JOINING: GOOD is one less", TURNS, """
                // From turning 2: one less, one more by the first TURN; the second one is the end of D.
                told(8) = f 2 3|b|joining 2|c 3 2 1|e 4 5 6 7
                """, JOINS, """
                // From joining 3: one less, and one less by each TURN.
                told(9) = f 2 3|b 8|joining 0|c 1|e 2 3 4 5 6 7
                """);
        term("II", "but JOINING with GOOD 0 becomes READY, E without its first", JOINS, """
                told(10) = f 3 4 5 6 7|b 8|idle
                // No TURN has anything to do then.
                spent(9) = 1
                put(9, 4) = 11
                told(11) = f 2 3 4 5 6 7|b 4 8|idle
                """);
        term("II", "Then: if BACK has more than COUNT: TURNING with GOOD 0, A FRONT, D BACK, C, E empty;"
                + " COUNT is as many more as BACK has; BACK is empty", TURNS, """
                // As many as COUNT: not yet.
                told(2) = f 1|b 2|idle
                told(6) = f 1 2 3|b 6 5 4|idle
                state(6, 2) = 3
                told(7) = f 1 2 3|b|turning 2|a 3|c 2 1|d 5 4|e 6 7
                state(7, 2) = 7
                // By take COUNT gets less than BACK has.
                take(6) = 1
                told(10) = f 2 3|b|turning 2|a|c 3 2|d 4|e 5 6
                state(10, 2) = 5
                spent(9) = 3
                """);
        term("II", "Then twice a TURN (a STEP, if there is something to do)", TURNS, """
                spent(0..8) = 3 1 3 3 1 1 3 3 3
                """, JOINS, """
                // One TURN makes VERSION 9 READY, the other one has nothing to do.
                put(9, 4) = 11
                spent(10) = 2
                """);
        term("II", "TURNING with some in A: the first of A comes ahead of C, the first of D ahead of E (both leave),"
                + " GOOD is one more", TURNS, """
                told(7) = f 1 2 3|b|turning 2|a 3|c 2 1|d 5 4|e 6 7
                holds(7) = 9
                """);
        term("II", "with none in A: the first of D comes ahead of E, and it is JOINING", """
                house "house law 1 balance 2;put 0 1;put 1 2;put 2 3;" = 4
                // A has none from the first TURN on, by which VERSION 1 is JOINING; the other one makes it READY.
                told(1) = f 1|b|idle
                spent(0) = 3
                told(3) = f 1|b|joining 1|c 1|e 2 3
                """);
        term("II", "JOINING with GOOD 0: READY", """
                house "house law 1 balance 2;put 0 1;put 1 2;put 2 3;put 3 4;" = 5
                told(4) = f 1 2 3|b 4|idle
                spent(3) = 3
                """);
        term("II", "else the first of C comes ahead of E (and leaves), GOOD is one less", TURNS, """
                put(8, 9) = 10
                told(10) = f 2 3|b 9|joining 0|c 1|e 2 3 4 5 6 7
                origin(10, 5, 0..2) = 9 9 7
                """);
        term("II", "If it is READY behind both: FRONT is E, IDLE", TURNS, """
                told(4) = f 1 2 3|b 4|idle
                row(4, 2..5) = 0 0 0 0
                state(4, 0..2) = 0 0 3
                told(9) = f 3 4 5 6 7|b|idle
                """);
    }

    private void evenTerms() {
        term("II", "LAW 2: FRONT and BACK owe: at first 0", EVENS, """
                state(0, 3..4) = 0 0
                state(1, 3..4) = 0 0
                told(0) = f|b|owes 0 0
                """);
        term("II", "By put, fore each pays 1, by take, last 2 (of what it owes, no more; a STEP each)", EVENS, """
                put(5, 8) = 11
                told(11) = f 1 2 3|b 8 5 4|owes 2 1
                fore(5, 8) = 12
                told(12) = f 8 1 2 3|b 5 4|owes 2 1
                take(5) = 1
                told(13) = f 2 3|b 5 4|owes 1 0
                last(5) = 5
                told(14) = f 1 2 3|b 4|owes 1 0
                spent(10..13) = 3 3 5 5
                // No more than it owes.
                take(13) = 2
                told(15) = f 3|b 5 4|owes 0 0
                put(13, 9) = 16
                told(16) = f 2 3|b 9 5 4|owes 0 0
                put(16, 9) = 17
                spent(14..16) = 2 2 1
                """);
        term("II", "Then: if one has more than C times the other and 1, they are EVENED", """
                // C 2, by put, beside 0, 1: 1 and 3 are not more, 2 and 4 are.
                house "house law 2 balance 2;put 0 1;put 1 2;put 2 3;put 3 4;put 4 5;" = 6
                told(1) = f|b 1|owes 0 0
                told(2) = f 1|b 2|owes 1 1
                told(4) = f 1|b 4 3 2|owes 0 0
                told(5) = f 1 2 3|b 5 4|owes 3 2
                // By take, as the other ROW gets less.
                take(4) = 1
                told(6) = f 2 3|b 4|owes 2 1
                // The same by fore and last.
                house "house law 2 balance 2;fore 0 1;fore 1 2;fore 2 3;fore 3 4;fore 4 5;" = 6
                told(1) = f 1|b|owes 0 0
                told(2) = f 2|b 1|owes 1 1
                told(4) = f 4 3 2|b 1|owes 0 0
                told(5) = f 5 4|b 1 2 3|owes 2 3
                last(4) = 1
                told(6) = f 4|b 2 3|owes 1 2
                // C 3: 4 beside 1 are not more, 5 are.
                house "house law 2 balance 3;put 0 1;put 1 2;put 2 3;put 3 4;put 4 5;put 5 6;" = 7
                told(5) = f 1|b 5 4 3 2|owes 0 0
                told(6) = f 1 2 3|b 6 5 4|owes 3 3
                // C 4: 5 beside 1 are not more, 6 are.
                house "house law 2 balance 4;put 0 1;put 1 2;put 2 3;put 3 4;put 4 5;put 5 6;put 6 7;" = 8
                told(6) = f 1|b 6 5 4 3 2|owes 0 0
                told(7) = f 1 2 3 4|b 7 6 5|owes 4 3
                """);
        term("II", "of n numbers in all the one that had more keeps its first n / 2 (cut), the others go, turned round,"
                + " behind the last one of the other ROW", """
                // 5 are odd: BACK keeps 2 of its 4.
                house "house law 2 balance 2;put 0 1;put 1 2;put 2 3;put 3 4;put 4 5;" = 6
                cell(5, 0, 0..3) = 1 2 3 NONE
                cell(5, 1, 0..2) = 5 4 NONE
                // 5 are odd: FRONT keeps 2 of its 4.
                house "house law 2 balance 2;fore 0 1;fore 1 2;fore 2 3;fore 3 4;fore 4 5;" = 6
                cell(5, 0, 0..2) = 5 4 NONE
                cell(5, 1, 0..3) = 1 2 3 NONE
                // 6 are even: 3 and 3.
                house "house law 2 balance 3;put 0 1;put 1 2;put 2 3;put 3 4;put 4 5;put 5 6;" = 7
                cell(6, 0, 0..3) = 1 2 3 NONE
                cell(6, 1, 0..3) = 6 5 4 NONE
                """);
        term("II", "all are new CELLS", """
                house "house law 2 balance 2;put 0 1;put 1 2;put 2 3;put 3 4;put 4 5;" = 6
                shares(4, 5) = 0
                from(5, 4) = 5
                origin(5, 0, 0..2) = 4 4 4
                origin(5, 1, 0..1) = 4 4
                // The CELL that was put first, and was evened at once, counts, too.
                made() = 12
                lost() = 2
                """);
        term("II", "each owes as many as it has", EVENS, """
                state(5, 3..4) = 3 2
                row(5, 0..1) = 3 2
                state(2, 3..4) = 1 1
                """);
    }

    private void toldTerms() {
        term("III", "III. HOLDING: the CELLS that are in a VERSION's ROWS (A, C, D, E, too), each once", TURNS, """
                // TURNING: f 1 2 3, of which a 3 is the last one; c 2 1, d 5 4, e 6 7.
                holds(7) = 9
                // JOINING: f 2 3, c 3 2 1, e 4 5 6 7.
                holds(8) = 9
                held(128) = 9
                """);
        term("IV", "IV. TOLD: f, and each number of FRONT behind a blank; | and b, likewise BACK", """
                house "house law 0 balance 2;put 0 10;put 1 0;put 2 99;put 3 9;" = 5
                told(0) = f|b
                told(1) = f 10|b
                told(4) = f 10|b 9 99 0
                """);
        term("IV", "by LAW 1: | and idle, or turning, a blank, GOOD, | and a, c, d, e, each likewise,"
                + " or joining, a blank, GOOD, | and c, e", """
                house "house law 1 balance 2;" = 1
                put(0..37, 1)
                told(0) = f|b|idle
                told(31) = f{ 1*15}|b|turning 2|a{ 1*13}|c 1 1|d{ 1*14}|e 1 1
                told(35) = f{ 1*15}|b{ 1*4}|turning 10|a{ 1*5}|c{ 1*10}|d{ 1*6}|e{ 1*10}
                """, """
                new
                house "house law 1 balance 2;" = 1
                put(0..37, 1)
                told(3) = f 1|b|joining 1|c 1|e 1 1
                told(38) = f{ 1*15}|b{ 1*7}|joining 15|c{ 1*15}|e{ 1*16}
                // A has none any more.
                take(6) = 1
                told(39) = f 1 1|b|turning 2|a|c 1 1|d 1|e 1 1
                """);
        term("IV", "by LAW 2: | and owes, a blank, what FRONT owes, a blank, what BACK does", """
                house "house law 2 balance 2;" = 1
                put(0..19, 1)
                told(0) = f|b|owes 0 0
                told(5) = f 1 1 1|b 1 1|owes 3 2
                told(20) = f{ 1*10}|b{ 1*10}|owes 10 10
                """);
        term("V", "V. GRAFT: DEEDS on the way from a VERSION to one that was made of it (over others; itself: none)", WAYS, """
                grafting(0, 0..4, 1, 0) = 0 1 2 3 4
                grafting(5, 5, 0, 0..3) = 0 0 NONE 0
                // VERSION 5 was not made of VERSION 2, nor VERSION 1 of VERSION 2.
                grafting(2, 5, 0, 0) = NONE
                grafting(2, 1, 0, 0) = NONE
                """);
        term("V", "in order, each with the number it put, are done from a third VERSION on, one behind the other", WAYS, """
                grafted(1, 4, 2, 0..3) = 6 6 7 NONE
                grafted(0, 3, 4, 0..3) = 7 5 6 NONE
                // fore and last, too.
                house "house law 2 balance 2;put 0 1;fore 1 2;fore 2 3;last 3;" = 5
                grafted(1, 4, 1, 0..2) = 3 2 NONE
                grafted(1, 3, 1, 0..3) = 3 2 1 NONE
                """);
        term("V", "It CLASHES at the first one that takes of an empty QUEUE; nothing is done from that on", WAYS, """
                // A take of the empty VERSION 0, then a put of 7.
                grafting(2, 4, 0, 0..3) = 2 0 2 0
                grafted(2, 4, 0, 0) = NONE
                // By LAW 2: put 5, take, take, put 6, of which the second take clashes; last likewise.
                house "house law 2 balance 2;put 0 1;put 1 5;take 2;take 3;put 4 6;last 3;" = 7
                grafting(1, 5, 0, 0..3) = 4 2 3 0
                grafting(1, 6, 0, 0..3) = 3 2 5 0
                """);
        term("V", "-2 comes ahead of -5, where both fit and nothing else is told", PLAIN, """
                put(0..54, 1)
                count(2) = 61
                put(0, 100) = -2
                put(61, 0) = -2
                put(0, 0) = -5
                take(61) = -2
                take(0) = -5
                fore(0, 0) = -2
                last(0) = -2
                graft(0, 1, 61) = -2
                graft(0, 1, 0) = -5
                undo() = 54
                new
                undo() = -2
                """);
    }

    public static void main(String[] args) throws java.io.IOException {
        TermEdgeTest tests = new TermEdgeTest(args);
        tests.textTerms();
        tests.tokenTerms();
        tests.rowTerms();
        tests.turningTerms();
        tests.evenTerms();
        tests.toldTerms();
        tests.everySentence("Terms", 1);
        tests.check.close();
    }
}
