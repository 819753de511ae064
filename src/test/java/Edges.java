import java.util.function.Supplier;

/**
 * A test for each sentence of DOC.md, above all for those that name a boundary case: its name is the
 * promise (or term) and the sentence, which must stand there. How the calls are written stands in Script.
 */
abstract class Edges {
    /** LAW 0: VERSION 3 is f 5|b 7 6, VERSION 4 is f 6 7|b, VERSION 5 (of VERSION 1) is f 5|b 9. */
    static final String PLAIN = "house \"house law 0 balance 2;put 0 5;put 1 6;put 2 7;take 3;put 1 9;\"\n";
    /** LAW 1: IDLE until VERSION 7, which is TURNING; VERSION 8 is JOINING, VERSION 9 is IDLE again. */
    static final String TURNS = "house \"house law 1 balance 3;put 0 1;put 1 2;put 2 3;put 3 4;put 4 5;"
            + "put 5 6;put 6 7;take 7;take 8;\"\n";
    /** LAW 1: VERSION 8 is JOINING behind a put, VERSION 9 is JOINING with GOOD 0, VERSION 10 is IDLE. */
    static final String JOINS = "house \"house law 1 balance 3;put 0 1;put 1 2;put 2 3;put 3 4;put 4 5;"
            + "put 5 6;put 6 7;put 7 8;take 8;take 9;\"\n";
    /** LAW 2: VERSIONS 2, 5 and 8 are EVENED; VERSION 5 is f 1 2 3|b 5 4|owes 3 2. */
    static final String EVENS = "house \"house law 2 balance 2;put 0 1;put 1 2;put 2 3;put 3 4;put 4 5;"
            + "take 5;last 6;last 7;take 8;take 9;\"\n";
    /** A bush by LAW 0: VERSIONS 1, 4 are made of 0, VERSIONS 2, 3 of 1, VERSION 5 of 3. */
    static final String BUSH = "house \"house law 0 balance 4;put 0 1;put 1 2;put 1 2;put 0 1;take 3;\"\n";
    /** Ways by LAW 0: 1 2 3 4, a put, a take and a put behind VERSION 1; VERSION 5 is empty, made of 1. */
    static final String WAYS = "house \"house law 0 balance 2;put 0 5;put 1 6;take 2;put 3 7;take 1;\"\n";

    final Check check = new Check();
    private final Document document;
    private final Supplier<Object> maker;

    /** Argument "model": the scripts are run on Model instead, so that each answer is worked out twice. */
    Edges(String[] args) throws java.io.IOException {
        boolean onModel = args.length > 0 && args[0].equals("model");
        document = Document.read();
        maker = onModel ? Model::new : TurnQueues::new;
    }

    void edge(String name, String title, String sentence, String... scripts) {
        check.test(name + ": \"" + sentence + "\"", c -> {
            c.truth("DOC.md does not say so", document.cite(title, sentence));
            Script.run(c, maker, String.join("", scripts));
        });
    }

    /** What the tests have not cited may be what they have not looked at. */
    void everySentence(String start, int parts) {
        int found = 0;
        for (String title : document.titles()) {
            if (title.startsWith(start)) {
                found++;
                check.test("every sentence of " + title + " has a test", c -> {
                    String rest = document.uncited(title);
                    c.truth("no test cites: " + rest, rest.isEmpty());
                });
            }
        }
        int all = found;
        check.test("all of " + start + " is found", c -> c.same("parts", all, parts));
    }
}
