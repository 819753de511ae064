import java.lang.reflect.InvocationTargetException;
import java.lang.reflect.Method;
import java.util.ArrayList;
import java.util.Arrays;
import java.util.LinkedHashMap;
import java.util.List;
import java.util.Map;
import java.util.Random;

/**
 * Random runs of calls, each answer set against Model's. The seeds are fixed, so every run of the
 * tests makes the same calls. Arguments: how many seeds, and the first one.
 */
final class FuzzTest {
    /**
     * The arguments that each method asks for: v VERSION, i a place, r ROW, w what, d DEED, l LAW,
     * c C, n how many, s STEPS, k IMAGE, x a number, b a set, e a length of the TAPE, * anything.
     */
    private static final Map<String, String> CALLS = new LinkedHashMap<>();

    static {
        for (String call : ("feed:***** end:e house: fault:w count:w version:vw size:v at:vi first:v tail:v like:v "
                + "forks:v meet:vv apart:vv state:vw row:vr cell:vri twin:v path:vi along:vw origin:vri from:vd "
                + "lost: holds:v shares:vv held:b made: spent:d ledger: dearest: overdue: by:l peak:l balanced:c "
                + "balance: until:v rest:v worst:vnw worstAt:vni spike:vs drain:v tell:v octet:i walk:v "
                + "grafting:vvvw grafted:vvvi graft:vvv image:k back:k put:vx take:v fore:vx last:v undo: anew:")
                .split(" ")) {
            int colon = call.indexOf(':');
            CALLS.put(call.substring(0, colon), call.substring(colon + 1));
        }
    }

    private static final List<String> NAMES = new ArrayList<>(CALLS.keySet());
    private static final int[] STRANGE = {
        -1, -2, -3, 7, 40, 60, 61, 62, 63, 64, 100, 600, 601, 1000, Integer.MAX_VALUE, Integer.MIN_VALUE,
        Integer.MAX_VALUE - 1, Integer.MIN_VALUE + 1, 0x7fffffe0,
    };

    private final Random random;
    private final TurnQueues real = new TurnQueues();
    private final Model model = new Model();
    private final List<String> log = new ArrayList<>();
    /** An object is used for at most 512 calls. */
    private int left = 512;
    private String wrong;

    private FuzzTest(long seed) {
        random = new Random(seed);
    }

    private static Class<?>[] types(String name) {
        Class<?>[] types = new Class<?>[CALLS.get(name).length()];
        Arrays.fill(types, int.class);
        if (name.equals("held")) {
            types[0] = long.class;
        }
        return types;
    }

    private static final Map<String, Method> REAL = new LinkedHashMap<>();
    private static final Map<String, Method> MODEL = new LinkedHashMap<>();

    private static void findMethods() throws NoSuchMethodException {
        for (String name : NAMES) {
            REAL.put(name, TurnQueues.class.getMethod(name, types(name)));
            Method method = Model.class.getDeclaredMethod(name, types(name));
            method.setAccessible(true);
            MODEL.put(name, method);
        }
    }

    private int call(String name, Object... args) {
        if (left == 0 || wrong != null) {
            return 0;
        }
        left--;
        String told = name + Arrays.toString(args);
        log.add(told);
        try {
            int due = (Integer) MODEL.get(name).invoke(model, args);
            int got = (Integer) REAL.get(name).invoke(real, args);
            if (got != due) {
                wrong = told + " answered " + got + ", due is " + due;
            }
            return due;
        } catch (InvocationTargetException e) {
            StackTraceElement[] trace = e.getCause().getStackTrace();
            wrong = told + " threw " + e.getCause() + " at " + (trace.length > 0 ? trace[0] : "");
        } catch (IllegalAccessException e) {
            wrong = told + ": " + e;
        }
        return 0;
    }

    private int between(int least, int most) {
        return least + random.nextInt(most - least + 1);
    }

    private int argument(char kind) {
        if (random.nextInt(25) == 0) {
            return STRANGE[random.nextInt(STRANGE.length)];
        }
        int versions = Math.max(1, model.count(2));
        switch (kind) {
            case 'v':
                return random.nextInt(8) == 0 ? between(-1, versions) : between(0, versions - 1);
            case 'd':
                return between(-1, versions);
            case 'i':
                return between(-1, random.nextBoolean() ? 4 : 30);
            case 'r':
                return between(-1, 6);
            case 'w':
                return between(-1, 8);
            case 'l':
                return between(-1, 3);
            case 'c':
                return between(1, 5);
            case 'n':
                return between(0, 7);
            case 's':
                return between(0, random.nextBoolean() ? 5 : 20);
            case 'k':
                return between(-1, 3);
            case 'x':
                return between(-1, 100);
            case 'e':
                return between(-1, model.count(6) + 1);
            default:
                return random.nextInt();
        }
    }

    private Object[] arguments(String name) {
        String kinds = CALLS.get(name);
        Object[] args = new Object[kinds.length()];
        for (int i = 0; i < args.length; i++) {
            if (kinds.charAt(i) == 'b') {
                int versions = model.count(2);
                long all = versions == 0 ? 0 : -1L >>> 64 - versions;
                long set = random.nextLong() & random.nextLong();
                args[i] = random.nextInt(10) == 0 ? set : set & all;
            } else {
                args[i] = argument(kinds.charAt(i));
            }
        }
        return args;
    }

    // ---- texts ----

    private String gap(boolean needed) {
        if (random.nextInt(10) > 0) {
            return needed ? " " : "";
        }
        return (needed ? " " : "") + (random.nextBoolean() ? "\n" : "  ");
    }

    /** A text that is right, over a tree of VERSIONS that is now a chain, now a bush. */
    private String text() {
        int law = between(0, 2);
        StringBuilder s = new StringBuilder(gap(false) + "house" + gap(true) + "law" + gap(true) + law + gap(false)
                + "balance" + gap(true) + between(2, 4) + gap(false) + ";" + gap(false));
        int deeds = random.nextInt(4) == 0 ? between(36, 40) : between(0, 30);
        int chain = between(0, 10);
        int takes = between(1, 9);
        List<Integer> sizes = new ArrayList<>(List.of(0));
        for (int d = 0; d < deeds && s.length() < 585; d++) {
            int of = between(0, 9) < chain ? d : between(0, d);
            boolean take = sizes.get(of) > 0 && between(0, 9) < takes;
            boolean ahead = law == 2 && random.nextInt(3) == 0;
            s.append(take ? ahead ? "last" : "take" : ahead ? "fore" : "put").append(gap(true)).append(of);
            s.append(take ? "" : gap(true) + (random.nextInt(20) == 0 ? "0" : "") + between(0, 99));
            s.append(gap(false)).append(";").append(gap(false));
            sizes.add(sizes.get(of) + (take ? -1 : 1));
        }
        return s.toString();
    }

    private String spoilt(String text) {
        StringBuilder s = new StringBuilder(text);
        String[] pieces = {
            "house", "put", "take", "fore", "last", ";", "0", "1", "5", "99", "100", "41", "x", "#", "\t", "law",
            "balance", "99999999999999999999", "A", ";;", "\u00e9", "\n", " ", "4294967296", "00000000000001",
        };
        for (int k = between(1, 2); k > 0; k--) {
            int place = between(0, s.length());
            int cut = between(0, Math.min(random.nextBoolean() ? 0 : 6, s.length() - place));
            s.replace(place, place + cut, random.nextInt(4) == 0 ? "" : pieces[random.nextInt(pieces.length)]);
        }
        if (random.nextInt(6) == 0) {
            s.setLength(between(0, s.length()));
        }
        return s.length() > 600 ? s.substring(0, 600) : s.toString();
    }

    /** Forty DEEDS and more, as short as they can be. */
    private String overlong() {
        StringBuilder s = new StringBuilder("house law 1balance 2;");
        int deeds = between(39, 42);
        for (int d = 0; d < deeds; d++) {
            s.append("put 0 1;");
        }
        return s.toString() + (random.nextBoolean() ? "fore 0 1;" : "");
    }

    private void feedText(String text) {
        call("end", 0);
        for (int block = 0; block < Feeder.blocks(text); block++) {
            int[] w = Feeder.words(text, block);
            call("feed", w[0], w[1], w[2], w[3], w[4]);
        }
        call("end", text.length());
    }

    private void doHouse() {
        int kind = random.nextInt(10);
        String text = kind == 0 ? overlong() : kind < 4 ? spoilt(text()) : text();
        feedText(random.nextInt(40) == 0 ? " \n" : text);
        call("house");
        call("fault", 0);
        call("fault", 1);
    }

    private void doWalk() {
        StringBuilder s = new StringBuilder();
        int length = random.nextInt(4) == 0 ? between(100, 600) : between(0, 20);
        String letters = model.count(0) == 2 ? random.nextBoolean() ? "pfplft" : "pppptl" : "pppt";
        for (int i = 0; i < length; i++) {
            s.append(letters.charAt(random.nextInt(letters.length())));
        }
        if (random.nextInt(10) == 0) {
            s.append("ptflx ".charAt(random.nextInt(6)));
        }
        feedText(s.length() > 600 ? s.substring(0, 600) : s.toString());
        call("walk", argument('v'));
    }

    private void doActs() {
        int versions = model.count(2);
        int at = argument('v');
        boolean chain = random.nextBoolean();
        for (int n = between(1, random.nextInt(4) == 0 ? 60 : 8); n > 0; n--) {
            String name = new String[] {"put", "take", "fore", "last"}[between(0, model.count(0) == 2 ? 3 : 1)];
            call(name, arguments(name, at));
            at = chain && model.count(2) > 0 ? model.count(2) - 1 : argument('v');
        }
    }

    private Object[] arguments(String name, int version) {
        Object[] args = arguments(name);
        args[0] = version;
        return args;
    }

    /** Grafts along ways that are there: the first VERSION is one that the second was made of. */
    private void doGraft() {
        int to = argument('v');
        int depth = model.along(to, 0);
        int from = depth < 0 ? 0 : model.path(to, between(0, depth));
        int on = argument('v');
        for (int what = 0; what < 4; what++) {
            call("grafting", from, to, on, what);
        }
        call("grafted", from, to, on, argument('i'));
        if (random.nextInt(3) == 0) {
            call("graft", from, to, on);
        }
    }

    private void doTell() {
        call("tell", argument('v'));
        for (int n = between(0, 10); n > 0; n--) {
            call("octet", between(-1, model.count(7)));
        }
    }

    private void doAny() {
        for (int n = between(1, 20); n > 0; n--) {
            String name = NAMES.get(random.nextInt(NAMES.size()));
            boolean rare = name.equals("house") || name.equals("feed") || name.equals("back") || name.equals("anew");
            if (!rare || random.nextInt(5) == 0) {
                call(name, arguments(name));
            }
        }
    }

    String run() {
        if (random.nextInt(5) > 0) {
            doHouse();
        }
        while (left > 0 && wrong == null) {
            switch (random.nextInt(30)) {
                case 0 -> doHouse();
                case 1, 2 -> doWalk();
                case 3, 4, 5 -> doActs();
                case 6, 7 -> doGraft();
                case 8, 9 -> doTell();
                default -> doAny();
            }
        }
        return wrong;
    }

    public static void main(String[] args) throws Exception {
        int seeds = args.length > 0 ? Integer.parseInt(args[0]) : 400;
        int first = args.length > 1 ? Integer.parseInt(args[1]) : 1;
        findMethods();
        Check check = new Check();
        check.test("every method of the face is called", c -> c.same("methods", NAMES.size(),
                Arrays.stream(TurnQueues.class.getDeclaredMethods())
                        .filter(m -> java.lang.reflect.Modifier.isPublic(m.getModifiers())).count()));
        for (int seed = first; seed < first + seeds; seed++) {
            FuzzTest run = new FuzzTest(seed);
            check.test("random run " + seed, c -> {
                String wrong = run.run();
                c.truth(wrong + "\n      behind " + run.log, wrong == null);
            });
        }
        check.close();
    }
}
