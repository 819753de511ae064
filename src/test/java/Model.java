import java.util.ArrayList;
import java.util.Collections;
import java.util.IdentityHashMap;
import java.util.List;
import java.util.Map;
import java.util.Set;
import java.util.regex.Matcher;
import java.util.regex.Pattern;

/**
 * The document once more, in the slowest and plainest form: every answer is worked out anew from
 * the list of DEEDS. It shares no code with TurnQueues, so that FuzzTest can set one against the other.
 */
final class Model {
    /** A CELL; null is the empty ROW. */
    record Cell(int number, Cell next, int maker) { }

    record Deed(String word, int of, int number) {
        boolean puts() {
            return word.equals("put") || word.equals("fore");
        }
    }

    record Saved(int law, int c, int told, List<Deed> deeds) { }

    static final class Version {
        Cell front;
        Cell back;
        Cell a;
        Cell c;
        Cell d;
        Cell e;
        int count;
        String mode = "idle";
        int good;
        int frontOwes;
        int backOwes;
        List<Integer> queue = new ArrayList<>();
        int steps;
        int cells;
        int taken = -1;
        boolean turned;
        boolean overdue;

        Version copy() {
            Version v = new Version();
            v.front = front;
            v.back = back;
            v.a = a;
            v.c = c;
            v.d = d;
            v.e = e;
            v.count = count;
            v.mode = mode;
            v.good = good;
            v.frontOwes = frontOwes;
            v.backOwes = backOwes;
            v.queue = new ArrayList<>(queue);
            return v;
        }

        Cell[] rows() {
            return new Cell[] {front, back, a, c, d, e};
        }
    }

    private List<Integer> tape = new ArrayList<>();
    private String out = "";
    private int fault;
    private int faultPlace = -1;
    private boolean housed;
    private int law;
    private int c;
    private int told;
    private List<Deed> deeds = new ArrayList<>();
    private final Saved[] images = new Saved[3];

    // ---- ROWS ----

    static int length(Cell row) {
        int n = 0;
        for (Cell cell = row; cell != null; cell = cell.next()) {
            n++;
        }
        return n;
    }

    static List<Integer> numbers(Cell row) {
        List<Integer> list = new ArrayList<>();
        for (Cell cell = row; cell != null; cell = cell.next()) {
            list.add(cell.number());
        }
        return list;
    }

    static Cell make(List<Integer> numbers, int maker, Version counting) {
        Cell row = null;
        for (int i = numbers.size() - 1; i >= 0; i--) {
            row = ahead(numbers.get(i), row, maker, counting);
        }
        return row;
    }

    static Cell ahead(int x, Cell row, int maker, Version counting) {
        counting.cells++;
        return new Cell(x, row, maker);
    }

    // ---- a DEED ----

    static Version step(Version of, String word, int x, int law, int c, int maker) {
        Version v = of.copy();
        v.steps = 1;
        switch (word) {
            case "put" -> {
                v.queue.add(x);
                v.back = ahead(x, v.back, maker, v);
            }
            case "fore" -> {
                v.queue.add(0, x);
                v.front = ahead(x, v.front, maker, v);
            }
            case "take" -> {
                v.taken = v.queue.remove(0);
                if (law == 1) {
                    invalidate(v);
                }
                if (v.front != null) {
                    v.front = v.front.next();
                } else {
                    v.back = v.back.next();
                }
            }
            default -> {
                v.taken = v.queue.remove(v.queue.size() - 1);
                if (v.back != null) {
                    v.back = v.back.next();
                } else {
                    v.front = v.front.next();
                }
            }
        }
        if (law == 0) {
            while (v.front == null && v.back != null || v.turned && v.back != null) {
                v.turned = true;
                v.front = ahead(v.back.number(), v.front, maker, v);
                v.back = v.back.next();
                v.steps++;
            }
        } else if (law == 1) {
            hood(v, maker);
        } else {
            owe(v, word, c, maker);
        }
        return v;
    }

    private static void invalidate(Version v) {
        v.count--;
        if (v.mode.equals("joining") && v.good == 0) {
            v.mode = "ready";
            v.e = v.e.next();
            v.c = null;
        } else if (!v.mode.equals("idle")) {
            v.good--;
        }
    }

    private static void hood(Version v, int maker) {
        if (length(v.back) > v.count) {
            v.overdue = !v.mode.equals("idle");
            v.turned = true;
            v.mode = "turning";
            v.good = 0;
            v.a = v.front;
            v.d = v.back;
            v.c = null;
            v.e = null;
            v.count += length(v.back);
            v.back = null;
        }
        for (int i = 0; i < 2; i++) {
            if (v.mode.equals("turning") || v.mode.equals("joining")) {
                v.steps++;
                turn(v, maker);
            }
        }
        if (v.mode.equals("ready")) {
            v.front = v.e;
            v.mode = "idle";
            v.good = 0;
            v.a = null;
            v.c = null;
            v.d = null;
            v.e = null;
        }
    }

    private static void turn(Version v, int maker) {
        if (v.mode.equals("turning") && v.a != null) {
            v.c = ahead(v.a.number(), v.c, maker, v);
            v.a = v.a.next();
            v.e = ahead(v.d.number(), v.e, maker, v);
            v.d = v.d.next();
            v.good++;
        } else if (v.mode.equals("turning")) {
            v.e = ahead(v.d.number(), v.e, maker, v);
            v.d = v.d.next();
            if (v.d != null) {
                throw new IllegalStateException("D has more than one number more than A");
            }
            v.mode = "joining";
        } else if (v.good == 0) {
            v.mode = "ready";
        } else {
            v.e = ahead(v.c.number(), v.e, maker, v);
            v.c = v.c.next();
            v.good--;
        }
    }

    private static void owe(Version v, String word, int c, int maker) {
        int share = word.equals("put") || word.equals("fore") ? 1 : 2;
        for (int i = 0; i < share; i++) {
            if (v.frontOwes > 0) {
                v.frontOwes--;
                v.steps++;
            }
            if (v.backOwes > 0) {
                v.backOwes--;
                v.steps++;
            }
        }
        int f = length(v.front);
        int b = length(v.back);
        if (f <= c * b + 1 && b <= c * f + 1) {
            return;
        }
        v.turned = true;
        v.overdue = v.frontOwes + v.backOwes > 0;
        boolean frontMore = f > b;
        List<Integer> more = numbers(frontMore ? v.front : v.back);
        List<Integer> less = numbers(frontMore ? v.back : v.front);
        int keep = (f + b) / 2;
        List<Integer> moved = new ArrayList<>(more.subList(keep, more.size()));
        Collections.reverse(moved);
        less.addAll(moved);
        Cell kept = make(more.subList(0, keep), maker, v);
        Cell grown = make(less, maker, v);
        v.front = frontMore ? kept : grown;
        v.back = frontMore ? grown : kept;
        v.frontOwes = length(v.front);
        v.backOwes = length(v.back);
    }

    private static List<Version> versions(List<Deed> deeds, int law, int c) {
        List<Version> all = new ArrayList<>();
        all.add(new Version());
        for (Deed deed : deeds) {
            all.add(step(all.get(deed.of()), deed.word(), deed.number(), law, c, all.size() - 1));
        }
        return all;
    }

    private List<Version> versions() {
        return housed ? versions(deeds, law, c) : new ArrayList<>();
    }

    private boolean no(int version) {
        return !housed || version < 0 || version > deeds.size();
    }

    private String told(Version v) {
        StringBuilder s = new StringBuilder();
        tellRow(s, "f", v.front);
        tellRow(s, "|b", v.back);
        if (law == 1) {
            s.append("|").append(v.mode);
            if (v.mode.equals("turning")) {
                s.append(" ").append(v.good);
                tellRow(s, "|a", v.a);
                tellRow(s, "|c", v.c);
                tellRow(s, "|d", v.d);
                tellRow(s, "|e", v.e);
            } else if (v.mode.equals("joining")) {
                s.append(" ").append(v.good);
                tellRow(s, "|c", v.c);
                tellRow(s, "|e", v.e);
            }
        } else if (law == 2) {
            s.append("|owes ").append(v.frontOwes).append(" ").append(v.backOwes);
        }
        return s.toString();
    }

    private static void tellRow(StringBuilder s, String name, Cell row) {
        s.append(name);
        for (int x : numbers(row)) {
            s.append(" ").append(x);
        }
    }

    private static Set<Cell> held(Version v) {
        Set<Cell> set = Collections.newSetFromMap(new IdentityHashMap<>());
        for (Cell row : v.rows()) {
            for (Cell cell = row; cell != null; cell = cell.next()) {
                set.add(cell);
            }
        }
        return set;
    }

    /** The VERSIONS from VERSION 0 to one, both counted. */
    private List<Integer> pathTo(int version) {
        List<Integer> path = new ArrayList<>();
        for (int v = version; v > 0; v = deeds.get(v - 1).of()) {
            path.add(0, v);
        }
        path.add(0, 0);
        return path;
    }

    // ---- the face ----

    int feed(int a, int b, int c, int d, int e) {
        if (tape.size() + 20 > 600) {
            return -1;
        }
        for (int word : new int[] {a, b, c, d, e}) {
            for (int shift = 24; shift >= 0; shift -= 8) {
                tape.add(word >> shift & 255);
            }
        }
        return tape.size();
    }

    int end(int n) {
        if (n < 0 || n > tape.size()) {
            return -1;
        }
        tape = new ArrayList<>(tape.subList(0, n));
        return n;
    }

    private static final class Fault extends RuntimeException {
        private static final long serialVersionUID = 1L;
        final int what;
        final int place;

        Fault(int what, int place) {
            super(null, null, false, false);
            this.what = what;
            this.place = place;
        }
    }

    record Token(String text, int place) {
        boolean number() {
            return text.matches("[0-9]+");
        }
    }

    private static List<Token> tokens(String text) {
        List<Token> list = new ArrayList<>();
        Matcher m = Pattern.compile("[ \\n]+|[a-z]+|[0-9]+|[\\x00-\\xff]").matcher(text);
        while (m.find()) {
            if (!m.group().matches("[ \\n]+")) {
                list.add(new Token(m.group(), m.start()));
            }
        }
        list.add(new Token("", text.length()));
        return list;
    }

    private static int number(Token t, int least, int most) {
        if (!t.number()) {
            throw new Fault(1, t.place());
        }
        java.math.BigInteger n = new java.math.BigInteger(t.text());
        if (n.bitLength() > 30 || n.intValue() < least || n.intValue() > most) {
            throw new Fault(2, t.place());
        }
        return n.intValue();
    }

    private static void same(Token t, String word) {
        if (!t.text().equals(word)) {
            throw new Fault(1, t.place());
        }
    }

    private static Saved read(String text) {
        List<Token> t = tokens(text);
        if (t.size() == 1) {
            return null;
        }
        same(t.get(0), "house");
        same(t.get(1), "law");
        int law = number(t.get(2), 0, 2);
        same(t.get(3), "balance");
        int c = number(t.get(4), 2, 4);
        same(t.get(5), ";");
        List<Deed> deeds = new ArrayList<>();
        List<Integer> sizes = new ArrayList<>(List.of(0));
        int i = 6;
        while (i < t.size() - 1) {
            Token word = t.get(i++);
            List<String> allowed = law == 2 ? List.of("put", "take", "fore", "last") : List.of("put", "take");
            if (!allowed.contains(word.text())) {
                throw new Fault(1, word.place());
            }
            if (deeds.size() == 40) {
                throw new Fault(3, word.place());
            }
            boolean puts = word.text().equals("put") || word.text().equals("fore");
            Token v = t.get(i++);
            int of = number(v, 0, deeds.size());
            if (!puts && sizes.get(of) == 0) {
                throw new Fault(2, v.place());
            }
            int x = puts ? number(t.get(i++), 0, 99) : -1;
            same(t.get(i++), ";");
            sizes.add(sizes.get(of) + (puts ? 1 : -1));
            deeds.add(new Deed(word.text(), of, x));
        }
        return new Saved(law, c, deeds.size(), deeds);
    }

    int house() {
        StringBuilder s = new StringBuilder();
        for (int b : tape) {
            s.append((char) b);
        }
        tape = new ArrayList<>();
        fault = 0;
        faultPlace = -1;
        try {
            become(read(s.toString()));
        } catch (Fault f) {
            fault = f.what;
            faultPlace = f.place;
            return -4;
        }
        return housed ? told + 1 : 0;
    }

    private void become(Saved saved) {
        housed = saved != null;
        law = housed ? saved.law() : 0;
        c = housed ? saved.c() : 0;
        told = housed ? saved.told() : 0;
        deeds = housed ? new ArrayList<>(saved.deeds()) : new ArrayList<>();
    }

    int fault(int what) {
        return what == 0 ? fault : what == 1 ? faultPlace : -1;
    }

    int count(int what) {
        return switch (what) {
            case 0 -> law;
            case 1 -> c;
            case 2 -> housed ? deeds.size() + 1 : 0;
            case 3 -> deeds.size();
            case 4 -> deeds.size() - told;
            case 5 -> housed ? told + 1 : 0;
            case 6 -> tape.size();
            case 7 -> out.length();
            default -> -1;
        };
    }

    int version(int version, int what) {
        if (no(version) || what < 0 || what > 2) {
            return -2;
        }
        if (version == 0) {
            return -1;
        }
        Deed deed = deeds.get(version - 1);
        return switch (what) {
            case 0 -> deed.of();
            case 1 -> List.of("put", "take", "fore", "last").indexOf(deed.word());
            default -> deed.puts() ? deed.number() : versions().get(version).taken;
        };
    }

    int size(int version) {
        return no(version) ? -2 : versions().get(version).queue.size();
    }

    int at(int version, int i) {
        if (no(version) || i < 0) {
            return -2;
        }
        List<Integer> queue = versions().get(version).queue;
        return i < queue.size() ? queue.get(i) : -1;
    }

    int first(int version) {
        return at(version, 0);
    }

    int tail(int version) {
        return no(version) ? -2 : size(version) == 0 ? -1 : at(version, size(version) - 1);
    }

    int like(int version) {
        if (no(version)) {
            return -2;
        }
        List<Version> all = versions();
        int least = 0;
        while (!all.get(least).queue.equals(all.get(version).queue)) {
            least++;
        }
        return least;
    }

    int forks(int version) {
        return no(version) ? -2 : (int) deeds.stream().filter(d -> d.of() == version).count();
    }

    int meet(int version, int other) {
        if (no(version) || no(other)) {
            return -2;
        }
        List<Integer> path = pathTo(version);
        path.retainAll(pathTo(other));
        return Collections.max(path);
    }

    int apart(int version, int other) {
        if (no(version) || no(other)) {
            return -2;
        }
        List<Integer> one = pathTo(version);
        List<Integer> two = pathTo(other);
        one.removeAll(pathTo(other));
        two.removeAll(pathTo(version));
        return one.size() + two.size();
    }

    int state(int version, int what) {
        if (no(version) || what < 0 || what > 4) {
            return -2;
        }
        Version v = versions().get(version);
        return switch (what) {
            case 0 -> List.of("idle", "turning", "joining").indexOf(v.mode);
            case 1 -> v.good;
            case 2 -> law == 1 ? v.count : length(v.front);
            case 3 -> v.frontOwes;
            default -> v.backOwes;
        };
    }

    int row(int version, int row) {
        return no(version) || row < 0 || row > 5 ? -2 : length(versions().get(version).rows()[row]);
    }

    private Cell cellAt(int version, int row, int i) {
        Cell cell = versions().get(version).rows()[row];
        for (int k = 0; k < i && cell != null; k++) {
            cell = cell.next();
        }
        return cell;
    }

    int cell(int version, int row, int i) {
        if (no(version) || row < 0 || row > 5 || i < 0) {
            return -2;
        }
        Cell cell = cellAt(version, row, i);
        return cell == null ? -1 : cell.number();
    }

    int twin(int version) {
        if (no(version)) {
            return -2;
        }
        List<Version> all = versions();
        int least = 0;
        while (!told(all.get(least)).equals(told(all.get(version)))) {
            least++;
        }
        return least;
    }

    int path(int version, int i) {
        if (no(version) || i < 0) {
            return -2;
        }
        List<Integer> path = pathTo(version);
        return i < path.size() ? path.get(i) : -1;
    }

    int along(int version, int what) {
        if (no(version) || what < 0 || what > 2) {
            return -2;
        }
        List<Version> all = versions();
        int many = 0;
        int sum = 0;
        int most = 0;
        for (int v : pathTo(version)) {
            many += v > 0 ? 1 : 0;
            sum += all.get(v).steps;
            most = Math.max(most, all.get(v).steps);
        }
        return what == 0 ? many : what == 1 ? sum : most;
    }

    int origin(int version, int row, int i) {
        if (no(version) || row < 0 || row > 5 || i < 0) {
            return -2;
        }
        Cell cell = cellAt(version, row, i);
        return cell == null ? -1 : cell.maker();
    }

    int from(int version, int deed) {
        if (no(version) || deed < 0 || deed >= deeds.size()) {
            return -2;
        }
        return (int) held(versions().get(version)).stream().filter(x -> x.maker() == deed).count();
    }

    int lost() {
        if (!housed) {
            return -2;
        }
        return made() - heldBy(versions(), -1L);
    }

    private static int heldBy(List<Version> all, long set) {
        Set<Cell> cells = Collections.newSetFromMap(new IdentityHashMap<>());
        for (int v = 0; v < all.size(); v++) {
            if ((set >> v & 1) == 1) {
                cells.addAll(held(all.get(v)));
            }
        }
        return cells.size();
    }

    int holds(int version) {
        return no(version) ? -2 : held(versions().get(version)).size();
    }

    int shares(int version, int other) {
        if (no(version) || no(other)) {
            return -2;
        }
        List<Version> all = versions();
        int both = 0;
        Set<Cell> second = held(all.get(other));
        for (Cell cell : held(all.get(version))) {
            both += second.contains(cell) ? 1 : 0;
        }
        return both;
    }

    int held(long set) {
        if (!housed) {
            return -2;
        }
        for (int bit = 0; bit < 64; bit++) {
            if ((set >> bit & 1) == 1 && no(bit)) {
                return -2;
            }
        }
        return heldBy(versions(), set);
    }

    int made() {
        return housed ? versions().stream().mapToInt(v -> v.cells).sum() : -2;
    }

    int spent(int deed) {
        return deed < 0 || deed >= deeds.size() ? -2 : versions().get(deed + 1).steps;
    }

    int ledger() {
        return housed ? sum(law, c) : -2;
    }

    private int sum(int law, int c) {
        return versions(deeds, law, c).stream().mapToInt(v -> v.steps).sum();
    }

    private int max(int law, int c) {
        return versions(deeds, law, c).stream().mapToInt(v -> v.steps).max().getAsInt();
    }

    int dearest() {
        if (!housed) {
            return -2;
        }
        for (int deed = 0; deed < deeds.size(); deed++) {
            if (spent(deed) == max(law, c)) {
                return deed;
            }
        }
        return -1;
    }

    int overdue() {
        return housed ? (int) versions().stream().filter(v -> v.overdue).count() : -2;
    }

    private boolean bothEnds() {
        return deeds.stream().anyMatch(d -> d.word().equals("fore") || d.word().equals("last"));
    }

    int by(int law) {
        return !housed || law < 0 || law > 2 ? -2 : law < 2 && bothEnds() ? -1 : sum(law, c);
    }

    int peak(int law) {
        return !housed || law < 0 || law > 2 ? -2 : law < 2 && bothEnds() ? -1 : max(law, c);
    }

    int balanced(int c) {
        return !housed || c < 2 || c > 4 ? -2 : sum(2, c);
    }

    int balance() {
        if (!housed) {
            return -2;
        }
        int best = 4;
        for (int c = 3; c >= 2; c--) {
            best = sum(2, c) <= sum(2, best) ? c : best;
        }
        return best;
    }

    private Version deed(Version v, String word, int x) {
        return step(v, word, x, law, c, 1000);
    }

    int until(int version) {
        if (no(version)) {
            return -2;
        }
        Version v = versions().get(version);
        for (int puts = 1; puts <= 40; puts++) {
            v = deed(v, "put", 0);
            if (v.turned) {
                return puts;
            }
        }
        return -1;
    }

    int rest(int version) {
        if (no(version)) {
            return -2;
        }
        Version v = versions().get(version);
        for (int puts = 0; puts <= 40; puts++) {
            if (v.mode.equals("idle") && v.frontOwes == 0 && v.backOwes == 0) {
                return puts;
            }
            v = deed(v, "put", 0);
        }
        return -1;
    }

    /** Every row of n DEEDS that can be done, as its STEPS, in the order of the document. */
    private List<int[]> tries(int version, int n, List<int[]> kinds) {
        List<int[]> all = new ArrayList<>();
        for (int bits = 0; bits < 1 << n; bits++) {
            Version v = versions().get(version);
            int[] steps = new int[n];
            int[] row = new int[n];
            boolean fits = true;
            for (int i = 0; i < n && fits; i++) {
                row[i] = bits >> n - 1 - i & 1;
                fits = row[i] == 0 || !v.queue.isEmpty();
                if (fits) {
                    v = deed(v, row[i] == 0 ? "put" : "take", 0);
                    steps[i] = v.steps;
                }
            }
            if (fits) {
                all.add(steps);
                kinds.add(row);
            }
        }
        return all;
    }

    private static int sum(int[] steps) {
        int sum = 0;
        for (int s : steps) {
            sum += s;
        }
        return sum;
    }

    int worst(int version, int n, int what) {
        if (no(version) || n < 1 || n > 6 || what < 0 || what > 2) {
            return -2;
        }
        List<int[]> all = tries(version, n, new ArrayList<>());
        int one = 0;
        int together = 0;
        for (int[] steps : all) {
            together = Math.max(together, sum(steps));
            for (int s : steps) {
                one = Math.max(one, s);
            }
        }
        return what == 0 ? one : what == 1 ? together : all.size();
    }

    int worstAt(int version, int n, int i) {
        if (no(version) || n < 1 || n > 6 || i < 0) {
            return -2;
        }
        if (i >= n) {
            return -1;
        }
        List<int[]> kinds = new ArrayList<>();
        List<int[]> all = tries(version, n, kinds);
        int best = 0;
        for (int k = 1; k < all.size(); k++) {
            best = sum(all.get(k)) > sum(all.get(best)) ? k : best;
        }
        return kinds.get(best)[i];
    }

    int spike(int version, int steps) {
        if (no(version) || steps < 1) {
            return -2;
        }
        for (int n = 1; n <= 6; n++) {
            for (int[] row : tries(version, n, new ArrayList<>())) {
                if (row[n - 1] >= steps) {
                    return n;
                }
            }
        }
        return -1;
    }

    int drain(int version) {
        if (no(version)) {
            return -2;
        }
        int sum = 0;
        for (Version v = versions().get(version); !v.queue.isEmpty();) {
            v = deed(v, "take", 0);
            sum += v.steps;
        }
        return sum;
    }

    int tell(int version) {
        if (no(version)) {
            return -2;
        }
        out = told(versions().get(version));
        return out.length();
    }

    int octet(int i) {
        return i < 0 || i >= out.length() ? -1 : out.charAt(i);
    }

    int walk(int version) {
        if (no(version)) {
            return -2;
        }
        List<Integer> letters = tape;
        tape = new ArrayList<>();
        Version v = versions().get(version);
        int sum = 0;
        for (int letter : letters) {
            String word = letter == 'p' ? "put" : letter == 't' ? "take" : law != 2 ? null
                    : letter == 'f' ? "fore" : letter == 'l' ? "last" : null;
            if (word == null || v.queue.isEmpty() && (letter == 't' || letter == 'l')) {
                return -1;
            }
            v = deed(v, word, 1);
            sum += v.steps;
        }
        return sum;
    }

    private record Grafted(int ways, int steps, int clash, Version behind) { }

    private Grafted tryGraft(int from, int to, int on) {
        List<Integer> path = pathTo(to);
        int place = path.indexOf(from);
        if (place < 0) {
            return null;
        }
        List<Integer> way = path.subList(place + 1, path.size());
        Version v = versions().get(on);
        int sum = 0;
        for (int made : way) {
            Deed deed = deeds.get(made - 1);
            if (!deed.puts() && v.queue.isEmpty()) {
                return new Grafted(way.size(), sum, made - 1, v);
            }
            v = deed(v, deed.word(), deed.number());
            sum += v.steps;
        }
        return new Grafted(way.size(), sum, -1, v);
    }

    int grafting(int from, int to, int on, int what) {
        if (no(from) || no(to) || no(on) || what < 0 || what > 3) {
            return -2;
        }
        Grafted g = tryGraft(from, to, on);
        if (g == null) {
            return -1;
        }
        return switch (what) {
            case 0 -> g.ways();
            case 1 -> g.steps();
            case 2 -> g.clash();
            default -> g.behind().queue.size();
        };
    }

    int grafted(int from, int to, int on, int i) {
        if (no(from) || no(to) || no(on) || i < 0) {
            return -2;
        }
        Grafted g = tryGraft(from, to, on);
        return g == null || i >= g.behind().queue.size() ? -1 : g.behind().queue.get(i);
    }

    int graft(int from, int to, int on) {
        if (no(from) || no(to) || no(on)) {
            return -2;
        }
        Grafted g = tryGraft(from, to, on);
        if (g == null) {
            return -3;
        }
        if (g.clash() >= 0 || deeds.size() + 1 + g.ways() > 61) {
            return -5;
        }
        List<Integer> path = pathTo(to);
        int at = on;
        for (int made : path.subList(path.indexOf(from) + 1, path.size())) {
            Deed deed = deeds.get(made - 1);
            deeds.add(new Deed(deed.word(), at, deed.number()));
            at = deeds.size();
        }
        return at;
    }

    int image(int k) {
        if (k < 0 || k > 2 || !housed) {
            return -2;
        }
        images[k] = new Saved(law, c, told, List.copyOf(deeds));
        return 0;
    }

    int back(int k) {
        if (k < 0 || k > 2) {
            return -2;
        }
        if (images[k] == null) {
            return -6;
        }
        become(images[k]);
        return 0;
    }

    private int act(String word, int version, int x, boolean allowed) {
        boolean puts = word.equals("put") || word.equals("fore");
        if (no(version) || !allowed || puts && (x < 0 || x > 99)) {
            return -2;
        }
        if (deeds.size() + 1 == 61 || !puts && size(version) == 0) {
            return -5;
        }
        deeds.add(new Deed(word, version, puts ? x : -1));
        return puts ? deeds.size() : versions().get(deeds.size()).taken;
    }

    int put(int version, int x) {
        return act("put", version, x, true);
    }

    int take(int version) {
        return act("take", version, 0, true);
    }

    int fore(int version, int x) {
        return act("fore", version, x, law == 2);
    }

    int last(int version) {
        return act("last", version, 0, law == 2);
    }

    int undo() {
        if (!housed) {
            return -2;
        }
        if (deeds.size() == told) {
            return -5;
        }
        deeds.remove(deeds.size() - 1);
        return deeds.size() - told;
    }

    int anew() {
        if (!housed) {
            return -2;
        }
        int acts = deeds.size() - told;
        deeds = new ArrayList<>(deeds.subList(0, told));
        return acts;
    }
}
