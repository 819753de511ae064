/** Queues in versions that all stay. What each method answers stands in DOC.md, as numbered promises. */
public final class TurnQueues {
    public static final int NONE = -1;

    private static final int MISSING = -2;
    private static final int UNRELATED = -3;
    private static final int FAULTY = -4;
    private static final int REFUSED = -5;
    private static final int BARE = -6;

    private static final int PUT = 0;
    private static final int TAKE = 1;
    private static final int FORE = 2;
    private static final int LAST = 3;

    private static final int AT_ONCE = 0;
    private static final int BY_STEPS = 1;
    private static final int EVENING = 2;
    private static final int LEAST_RATIO = 2;
    private static final int MOST_RATIO = 4;

    private static final int IDLE = 0;
    private static final int TURNING = 1;
    private static final int JOINING = 2;
    private static final int READY = 3;

    private static final int FAULT_TOKEN = 1;
    private static final int FAULT_NUMBER = 2;
    private static final int FAULT_TOO_MANY = 3;

    private static final int TOKEN_BAD = 0;
    private static final int TOKEN_WORD = 1;
    private static final int TOKEN_NUMBER = 2;
    private static final int TOKEN_SIGN = 3;
    private static final int TOKEN_END = 4;

    private static final int IMAGES = 3;
    private static final int MOST_NUMBER = 99;
    private static final int MOST_TOLD = 40;
    private static final int MOST_VERSIONS = 61;
    private static final int MOST_DEEDS = MOST_VERSIONS - 1;
    private static final int MOST_TAPE = 600;
    private static final int MOST_PUTS = 40;
    private static final int LONGEST_TRY = 6;

    // The d-th DEED's QUEUE has at most d numbers, and the DEED makes at most one CELL
    // more than these: 2 + 3 + .. + 61 in all.
    private static final int MOST_CELLS = 1890;
    // Six ROWS of at most 60 numbers, each of two digits behind a blank, and the words between.
    private static final int MOST_OUT = 1200;
    // A GRAFT puts at most 60 numbers, on a QUEUE of at most 60.
    private static final int MOST_GRAFTED = 2 * MOST_DEEDS;

    private final Bytes tape = new Bytes(MOST_TAPE);
    private final Bytes out = new Bytes(MOST_OUT);
    private final Reader reader = new Reader();
    private final History history = new History();
    private final Trial trial = new Trial();
    private final Scout scout = new Scout();
    private final Deeds[] images = new Deeds[IMAGES];

    public TurnQueues() {
        for (int k = 0; k < IMAGES; k++) {
            images[k] = new Deeds();
        }
    }

    public int feed(int a, int b, int c, int d, int e) {
        if (tape.length > MOST_TAPE - 20) {
            return NONE;
        }
        tape.addFour(a);
        tape.addFour(b);
        tape.addFour(c);
        tape.addFour(d);
        tape.addFour(e);
        return tape.length;
    }

    public int end(int n) {
        if (n < 0 || n > tape.length) {
            return NONE;
        }
        tape.length = n;
        return n;
    }

    public int house() {
        boolean read = reader.readText(tape);
        tape.length = 0;
        if (!read) {
            return FAULTY;
        }
        history.become(reader.draft);
        return history.deeds.lines();
    }

    public int fault(int what) {
        switch (what) {
            case 0:
                return reader.fault;
            case 1:
                return reader.faultPlace;
            default:
                return NONE;
        }
    }

    public int count(int what) {
        Deeds deeds = history.deeds;
        switch (what) {
            case 0:
                return deeds.law;
            case 1:
                return deeds.ratio;
            case 2:
                return deeds.versions();
            case 3:
                return deeds.many;
            case 4:
                return deeds.acts();
            case 5:
                return deeds.lines();
            case 6:
                return tape.length;
            case 7:
                return out.length;
            default:
                return NONE;
        }
    }

    public int version(int version, int what) {
        Deeds deeds = history.deeds;
        if (!deeds.hasVersion(version) || what < 0 || what > 2) {
            return MISSING;
        }
        int deed = version - 1;
        if (!deeds.hasDeed(deed)) {
            return NONE;
        }
        if (what == 0) {
            return deeds.bases[deed];
        }
        return what == 1 ? deeds.kinds[deed] : deeds.numbers[deed];
    }

    public int size(int version) {
        Numbers queue = history.queueOf(version);
        return queue == null ? MISSING : queue.many;
    }

    public int at(int version, int i) {
        Numbers queue = history.queueOf(version);
        return queue == null || i < 0 ? MISSING : queue.numberAt(i);
    }

    public int first(int version) {
        Numbers queue = history.queueOf(version);
        return queue == null ? MISSING : queue.numberAt(0);
    }

    public int tail(int version) {
        Numbers queue = history.queueOf(version);
        return queue == null ? MISSING : queue.numberAt(queue.many - 1);
    }

    public int like(int version) {
        return history.deeds.hasVersion(version) ? history.leastEqual(version) : MISSING;
    }

    public int forks(int version) {
        return history.deeds.hasVersion(version) ? history.deeds.madeOf(version) : MISSING;
    }

    public int meet(int version, int other) {
        Deeds deeds = history.deeds;
        if (!deeds.hasVersion(version) || !deeds.hasVersion(other)) {
            return MISSING;
        }
        return deeds.meeting(version, other);
    }

    public int apart(int version, int other) {
        Deeds deeds = history.deeds;
        if (!deeds.hasVersion(version) || !deeds.hasVersion(other)) {
            return MISSING;
        }
        int meeting = deeds.meeting(version, other);
        return deeds.depth(version) + deeds.depth(other) - 2 * deeds.depth(meeting);
    }

    public int state(int version, int what) {
        State state = history.stateOf(version);
        if (state == null) {
            return MISSING;
        }
        switch (what) {
            case 0:
                return state.mode;
            case 1:
                return state.good;
            case 2:
                return history.deeds.law == BY_STEPS ? state.count : state.front.length;
            case 3:
                return state.frontOwes;
            case 4:
                return state.backOwes;
            default:
                return MISSING;
        }
    }

    public int row(int version, int row) {
        Row asked = history.rowOf(version, row);
        return asked == null ? MISSING : asked.length;
    }

    public int cell(int version, int row, int i) {
        Row asked = history.rowOf(version, row);
        if (asked == null || i < 0) {
            return MISSING;
        }
        return history.cells.numberOf(history.cells.cellIn(asked, i));
    }

    public int twin(int version) {
        return history.deeds.hasVersion(version) ? history.leastToldAlike(version) : MISSING;
    }

    public int path(int version, int i) {
        if (!history.deeds.hasVersion(version) || i < 0) {
            return MISSING;
        }
        int depth = history.findWay(0, version);
        if (i == 0) {
            return 0;
        }
        return i <= depth ? history.wayDeed(i - 1) + 1 : NONE;
    }

    public int along(int version, int what) {
        if (!history.deeds.hasVersion(version)) {
            return MISSING;
        }
        int depth = history.findWay(0, version);
        switch (what) {
            case 0:
                return depth;
            case 1:
                return history.stepsOnWay(depth);
            case 2:
                return history.mostOnWay(depth);
            default:
                return MISSING;
        }
    }

    public int origin(int version, int row, int i) {
        Row asked = history.rowOf(version, row);
        if (asked == null || i < 0) {
            return MISSING;
        }
        return history.cells.makerOf(history.cells.cellIn(asked, i));
    }

    public int from(int version, int deed) {
        State state = history.stateOf(version);
        if (state == null || !history.deeds.hasDeed(deed)) {
            return MISSING;
        }
        history.cells.unmarkAll();
        return history.cells.markState(state, deed);
    }

    public int lost() {
        if (!history.deeds.housed) {
            return MISSING;
        }
        return history.cells.made - history.heldByAll();
    }

    public int holds(int version) {
        State state = history.stateOf(version);
        if (state == null) {
            return MISSING;
        }
        history.cells.unmarkAll();
        return history.cells.markState(state, NONE);
    }

    public int shares(int version, int other) {
        State state = history.stateOf(version);
        State second = history.stateOf(other);
        if (state == null || second == null) {
            return MISSING;
        }
        history.cells.unmarkAll();
        int both = history.cells.markState(state, NONE) + history.cells.markState(second, NONE);
        return holds(version) + holds(other) - both;
    }

    public int held(long set) {
        if (!history.deeds.housed || set >>> history.deeds.versions() != 0L) {
            return MISSING;
        }
        return history.heldBySet(set);
    }

    public int made() {
        return history.deeds.housed ? history.cells.made : MISSING;
    }

    public int spent(int deed) {
        return history.deeds.hasDeed(deed) ? history.stepsOf(deed) : MISSING;
    }

    public int ledger() {
        return history.deeds.housed ? history.stepsOfAll() : MISSING;
    }

    public int dearest() {
        return history.deeds.housed ? history.dearestDeed() : MISSING;
    }

    public int overdue() {
        return history.deeds.housed ? history.overdueDeeds() : MISSING;
    }

    public int by(int law) {
        int refusal = history.deeds.lawRefusal(law);
        return refusal < 0 ? refusal : trial.stepsOfAll(history.deeds, law, history.deeds.ratio);
    }

    public int peak(int law) {
        int refusal = history.deeds.lawRefusal(law);
        if (refusal < 0) {
            return refusal;
        }
        trial.stepsOfAll(history.deeds, law, history.deeds.ratio);
        return trial.most;
    }

    public int balanced(int c) {
        if (!history.deeds.housed || c < LEAST_RATIO || c > MOST_RATIO) {
            return MISSING;
        }
        return trial.stepsOfAll(history.deeds, EVENING, c);
    }

    public int balance() {
        return history.deeds.housed ? trial.cheapestRatio(history.deeds) : MISSING;
    }

    public int until(int version) {
        State state = history.stateOf(version);
        return state == null ? MISSING : trial.putsTillTurned(history.deeds, state);
    }

    public int rest(int version) {
        State state = history.stateOf(version);
        return state == null ? MISSING : trial.putsTillAtRest(history.deeds, state);
    }

    public int worst(int version, int n, int what) {
        State state = history.stateOf(version);
        if (state == null || n < 1 || n > LONGEST_TRY) {
            return MISSING;
        }
        scout.tryAll(history.deeds, state, n);
        switch (what) {
            case 0:
                return scout.most;
            case 1:
                return scout.mostTogether;
            case 2:
                return scout.tries;
            default:
                return MISSING;
        }
    }

    public int worstAt(int version, int n, int i) {
        State state = history.stateOf(version);
        if (state == null || n < 1 || n > LONGEST_TRY || i < 0) {
            return MISSING;
        }
        scout.tryAll(history.deeds, state, n);
        return i < n ? scout.worstKind(i) : NONE;
    }

    public int spike(int version, int steps) {
        State state = history.stateOf(version);
        if (state == null || steps < 1) {
            return MISSING;
        }
        scout.tryAll(history.deeds, state, LONGEST_TRY);
        return scout.fewestFor(steps);
    }

    public int drain(int version) {
        State state = history.stateOf(version);
        return state == null ? MISSING : trial.stepsToDrain(history.deeds, state);
    }

    public int tell(int version) {
        if (!history.deeds.hasVersion(version)) {
            return MISSING;
        }
        history.write(version, out);
        return out.length;
    }

    public int octet(int i) {
        return out.byteAt(i);
    }

    public int walk(int version) {
        State state = history.stateOf(version);
        if (state == null) {
            return MISSING;
        }
        int steps = trial.stepsOfLetters(history.deeds, state, tape);
        tape.length = 0;
        return steps;
    }

    public int grafting(int from, int to, int on, int what) {
        if (!history.hasAll(from, to, on) || what < 0 || what > 3) {
            return MISSING;
        }
        int ways = trial.graftWay(history, from, to, on);
        if (ways == NONE || what == 0) {
            return ways;
        }
        if (what == 1) {
            return trial.steps;
        }
        return what == 2 ? trial.clash : trial.queue.many;
    }

    public int grafted(int from, int to, int on, int i) {
        if (!history.hasAll(from, to, on) || i < 0) {
            return MISSING;
        }
        int ways = trial.graftWay(history, from, to, on);
        return ways == NONE ? NONE : trial.queue.numberAt(i);
    }

    public int graft(int from, int to, int on) {
        if (!history.hasAll(from, to, on)) {
            return MISSING;
        }
        int ways = trial.graftWay(history, from, to, on);
        if (ways == NONE) {
            return UNRELATED;
        }
        if (trial.clash != NONE || history.deeds.versions() + ways > MOST_VERSIONS) {
            return REFUSED;
        }
        return history.actAlongWay(ways, on);
    }

    public int image(int k) {
        if (k < 0 || k >= IMAGES || !history.deeds.housed) {
            return MISSING;
        }
        images[k].become(history.deeds);
        return 0;
    }

    public int back(int k) {
        if (k < 0 || k >= IMAGES) {
            return MISSING;
        }
        if (!images[k].housed) {
            return BARE;
        }
        history.become(images[k]);
        return 0;
    }

    public int put(int version, int x) {
        return history.actPutting(PUT, version, x);
    }

    public int take(int version) {
        return history.actTaking(TAKE, version);
    }

    public int fore(int version, int x) {
        return history.deeds.law == EVENING ? history.actPutting(FORE, version, x) : MISSING;
    }

    public int last(int version) {
        return history.deeds.law == EVENING ? history.actTaking(LAST, version) : MISSING;
    }

    public int undo() {
        if (!history.deeds.housed) {
            return MISSING;
        }
        if (history.deeds.acts() == 0) {
            return REFUSED;
        }
        history.cutTo(history.deeds.many - 1);
        return history.deeds.acts();
    }

    public int anew() {
        if (!history.deeds.housed) {
            return MISSING;
        }
        int acts = history.deeds.acts();
        history.cutTo(history.deeds.told);
        return acts;
    }

    private static boolean isPutting(int kind) {
        return kind == PUT || kind == FORE;
    }

    /** Bytes behind one another, in room that is made once. */
    private static final class Bytes {
        int length;
        private final byte[] values;

        Bytes(int room) {
            values = new byte[Math.max(room, 0)];
        }

        void add(int value) {
            if (length >= 0 && length < values.length) {
                values[length] = (byte) value;
                length++;
            }
        }

        void addFour(int word) {
            add(word >>> 24);
            add(word >>> 16);
            add(word >>> 8);
            add(word);
        }

        void addWord(String word) {
            for (int i = 0; i < word.length(); i++) {
                add(word.charAt(i));
            }
        }

        void addNumber(int number) {
            if (number >= 10) {
                add('0' + number / 10 % 10);
            }
            add('0' + number % 10);
        }

        int byteAt(int i) {
            return i >= 0 && i < length && i < values.length ? values[i] & 255 : NONE;
        }

        boolean equalTo(Bytes other) {
            boolean equal = length == other.length;
            for (int i = 0; equal && i < length; i++) {
                equal = byteAt(i) == other.byteAt(i);
            }
            return equal;
        }
    }

    /** A row of numbers, the first one ahead. */
    private static final class Numbers {
        int many;
        private final int[] values;

        Numbers(int room) {
            values = new int[Math.max(room, 0)];
        }

        void become(Numbers other) {
            many = Math.min(other.many, values.length);
            for (int i = 0; i < many; i++) {
                values[i] = other.numberAt(i);
            }
        }

        int numberAt(int i) {
            return i >= 0 && i < many && i < values.length ? values[i] : NONE;
        }

        /** The number that is put or taken by a DEED of that kind. */
        int change(int kind, int x) {
            switch (kind) {
                case PUT:
                    insert(many, x);
                    return x;
                case FORE:
                    insert(0, x);
                    return x;
                case TAKE:
                    return remove(0);
                default:
                    return remove(many - 1);
            }
        }

        private void insert(int place, int x) {
            if (many >= values.length || place < 0 || place > many) {
                return;
            }
            for (int i = many; i > place; i--) {
                values[i] = values[i - 1];
            }
            values[place] = x;
            many++;
        }

        private int remove(int place) {
            int gone = numberAt(place);
            if (place < 0 || place >= many) {
                return gone;
            }
            many--;
            for (int i = place; i < many; i++) {
                values[i] = values[i + 1];
            }
            return gone;
        }

        boolean equalTo(Numbers other) {
            boolean equal = many == other.many;
            for (int i = 0; equal && i < many; i++) {
                equal = numberAt(i) == other.numberAt(i);
            }
            return equal;
        }
    }

    /** A HOUSE and its DEEDS, told ones and acts: all that an IMAGE has to keep. */
    private static final class Deeds {
        boolean housed;
        int law;
        int ratio;
        int told;
        int many;
        final int[] kinds = new int[MOST_DEEDS];
        final int[] bases = new int[MOST_DEEDS];
        final int[] numbers = new int[MOST_DEEDS];

        void clear() {
            housed = false;
            law = 0;
            ratio = 0;
            told = 0;
            many = 0;
        }

        void become(Deeds other) {
            housed = other.housed;
            law = other.law;
            ratio = other.ratio;
            told = other.told;
            many = other.many;
            for (int deed = 0; deed < MOST_DEEDS; deed++) {
                kinds[deed] = other.kinds[deed];
                bases[deed] = other.bases[deed];
                numbers[deed] = other.numbers[deed];
            }
        }

        void add(int kind, int base, int number) {
            if (many >= 0 && many < MOST_DEEDS) {
                kinds[many] = kind;
                bases[many] = base;
                numbers[many] = number;
                many++;
            }
        }

        int versions() {
            return housed ? many + 1 : 0;
        }

        int lines() {
            return housed ? told + 1 : 0;
        }

        int acts() {
            return many - told;
        }

        boolean hasVersion(int version) {
            return version >= 0 && version < versions() && version < MOST_VERSIONS;
        }

        boolean hasDeed(int deed) {
            return deed >= 0 && deed < many && deed < MOST_DEEDS;
        }

        int baseOf(int version) {
            return hasDeed(version - 1) ? bases[version - 1] : NONE;
        }

        int depth(int version) {
            int depth = 0;
            int above = baseOf(version);
            while (above != NONE && depth < MOST_DEEDS) {
                depth++;
                above = baseOf(above);
            }
            return depth;
        }

        /** A VERSION is made of a lesser one, so the greater of two is never the one where they meet. */
        int meeting(int version, int other) {
            int one = version;
            int two = other;
            for (int i = 0; i < 2 * MOST_VERSIONS && one != two; i++) {
                if (one > two) {
                    one = baseOf(one);
                } else {
                    two = baseOf(two);
                }
            }
            return one;
        }

        int madeOf(int version) {
            int children = 0;
            for (int deed = 0; deed < MOST_DEEDS && hasDeed(deed); deed++) {
                children += bases[deed] == version ? 1 : 0;
            }
            return children;
        }

        /** 0 where the DEEDS can be done by another LAW, else what is answered. */
        int lawRefusal(int other) {
            if (!housed || other < AT_ONCE || other > EVENING) {
                return MISSING;
            }
            for (int deed = 0; deed < MOST_DEEDS && other != EVENING && hasDeed(deed); deed++) {
                if (kinds[deed] == FORE || kinds[deed] == LAST) {
                    return NONE;
                }
            }
            return 0;
        }
    }

    /** Reads a text, token by token; of faults it keeps the first that it meets. */
    private static final class Reader {
        final Deeds draft = new Deeds();
        int fault;
        int faultPlace = NONE;
        private final int[] sizes = new int[MOST_TOLD + 1];
        private int token;
        private int start;
        private int next;
        private int value;

        boolean readText(Bytes text) {
            draft.clear();
            fault = 0;
            faultPlace = NONE;
            next = 0;
            step(text);
            if (token != TOKEN_END) {
                readHouseLine(text);
            }
            for (int line = 0; line <= MOST_TOLD && fault == 0 && token != TOKEN_END; line++) {
                readDeedLine(text);
            }
            draft.told = draft.many;
            return fault == 0;
        }

        private void readHouseLine(Bytes text) {
            expectWord(text, "house");
            expectWord(text, "law");
            draft.law = expectNumber(text, AT_ONCE, EVENING);
            expectWord(text, "balance");
            draft.ratio = expectNumber(text, LEAST_RATIO, MOST_RATIO);
            expectSign(text);
            draft.housed = true;
            sizes[0] = 0;
        }

        private void readDeedLine(Bytes text) {
            int kind = kindOfWord(text);
            boolean putting = isPutting(kind);
            if (kind == NONE) {
                refuse(FAULT_TOKEN);
            } else if (draft.many >= MOST_TOLD) {
                refuse(FAULT_TOO_MANY);
            }
            step(text);
            int base = expectVersion(text, putting);
            int number = putting ? expectNumber(text, 0, MOST_NUMBER) : NONE;
            expectSign(text);
            if (fault == 0 && draft.many < MOST_TOLD && base >= 0 && base <= draft.many) {
                sizes[draft.many + 1] = sizes[base] + (putting ? 1 : -1);
                draft.add(kind, base, number);
            }
        }

        private int expectVersion(Bytes text, boolean mayBeEmpty) {
            boolean known = token == TOKEN_NUMBER && value >= 0 && value <= draft.many && value < sizes.length;
            if (known && !mayBeEmpty && sizes[value] == 0) {
                refuse(FAULT_NUMBER);
            }
            return expectNumber(text, 0, draft.many);
        }

        private int kindOfWord(Bytes text) {
            if (isWord(text, "put")) {
                return PUT;
            }
            if (isWord(text, "take")) {
                return TAKE;
            }
            if (draft.law == EVENING && isWord(text, "fore")) {
                return FORE;
            }
            return draft.law == EVENING && isWord(text, "last") ? LAST : NONE;
        }

        private void refuse(int reason) {
            if (fault == 0) {
                fault = reason;
                faultPlace = start;
            }
        }

        private void expectWord(Bytes text, String word) {
            if (isWord(text, word)) {
                step(text);
            } else {
                refuse(FAULT_TOKEN);
            }
        }

        private void expectSign(Bytes text) {
            if (token == TOKEN_SIGN) {
                step(text);
            } else {
                refuse(FAULT_TOKEN);
            }
        }

        private int expectNumber(Bytes text, int least, int most) {
            int number = value;
            if (token != TOKEN_NUMBER) {
                refuse(FAULT_TOKEN);
            } else if (number < least || number > most) {
                refuse(FAULT_NUMBER);
            } else {
                step(text);
            }
            return fault == 0 ? number : least;
        }

        private boolean isWord(Bytes text, String word) {
            boolean equal = token == TOKEN_WORD && next - start == word.length();
            for (int i = 0; equal && i < word.length(); i++) {
                equal = text.byteAt(start + i) == word.charAt(i);
            }
            return equal;
        }

        /** Goes on to the next token; at a fault it stays, so that all behind it is not looked at. */
        private void step(Bytes text) {
            if (fault != 0) {
                return;
            }
            while (next < text.length && isBlank(text.byteAt(next))) {
                next++;
            }
            start = next;
            int sign = text.byteAt(next);
            if (next >= text.length) {
                token = TOKEN_END;
            } else if (isLetter(sign)) {
                readWord(text);
            } else if (isDigit(sign)) {
                readNumber(text);
            } else {
                token = sign == ';' ? TOKEN_SIGN : TOKEN_BAD;
                next++;
            }
        }

        private void readWord(Bytes text) {
            token = TOKEN_WORD;
            while (next < text.length && isLetter(text.byteAt(next))) {
                next++;
            }
        }

        private void readNumber(Bytes text) {
            token = TOKEN_NUMBER;
            value = 0;
            while (next < text.length && isDigit(text.byteAt(next))) {
                // A number past every bound stays past it, however many digits come.
                value = Math.min(value * 10 + text.byteAt(next) - '0', 10 * MOST_NUMBER);
                next++;
            }
        }

        private static boolean isBlank(int sign) {
            return sign == ' ' || sign == '\n';
        }

        private static boolean isLetter(int sign) {
            return sign >= 'a' && sign <= 'z';
        }

        private static boolean isDigit(int sign) {
            return sign >= '0' && sign <= '9';
        }
    }

    /** A ROW: its first CELL, and how many it has. */
    private static final class Row {
        int head = NONE;
        int length;

        void become(Row other) {
            head = other.head;
            length = other.length;
        }

        void clear() {
            head = NONE;
            length = 0;
        }
    }

    /** The CELLS, which are shared and never changed. Without room it makes none: ROWS have lengths alone. */
    private static final class Cells {
        int made;
        private final int[] numbers;
        private final int[] nexts;
        private final int[] makers;
        private final int[] marks;
        private int mark;

        Cells(int room) {
            int length = Math.max(room, 0);
            numbers = new int[length];
            nexts = new int[length];
            makers = new int[length];
            marks = new int[length];
        }

        int numberOf(int cell) {
            return cell >= 0 && cell < numbers.length ? numbers[cell] : NONE;
        }

        int makerOf(int cell) {
            return cell >= 0 && cell < makers.length ? makers[cell] : NONE;
        }

        int behind(int cell) {
            return cell >= 0 && cell < nexts.length ? nexts[cell] : NONE;
        }

        void add(Row row, int number, int maker) {
            int cell = NONE;
            if (made >= 0 && made < numbers.length) {
                cell = made;
                numbers[cell] = number;
                nexts[cell] = row.head;
                makers[cell] = maker;
                made++;
            }
            row.head = cell;
            row.length++;
        }

        void dropFirst(Row row) {
            int cell = row.head;
            if (row.length > 0) {
                row.head = cell >= 0 && cell < nexts.length ? nexts[cell] : NONE;
                row.length--;
            }
        }

        int cellIn(Row row, int i) {
            if (i < 0 || i >= row.length) {
                return NONE;
            }
            int cell = row.head;
            for (int k = 0; k < i; k++) {
                cell = behind(cell);
            }
            return cell;
        }

        void unmarkAll() {
            mark++;
        }

        /** How many CELLS of a VERSION get their mark now; with a maker: of those that it made. */
        int markState(State state, int maker) {
            return markRow(state.front, maker) + markRow(state.back, maker) + markRow(state.a, maker)
                    + markRow(state.c, maker) + markRow(state.d, maker) + markRow(state.e, maker);
        }

        private int markRow(Row row, int maker) {
            int fresh = 0;
            int cell = row.head;
            for (int i = 0; i < row.length && cell >= 0 && cell < marks.length; i++) {
                if (marks[cell] != mark && (maker == NONE || makers[cell] == maker)) {
                    fresh++;
                }
                marks[cell] = mark;
                cell = nexts[cell];
            }
            return fresh;
        }
    }

    /** What a VERSION has: its ROWS, and what its LAW keeps beside them. */
    private static final class State {
        final Row front = new Row();
        final Row back = new Row();
        final Row a = new Row();
        final Row c = new Row();
        final Row d = new Row();
        final Row e = new Row();
        int total;
        int count;
        int mode;
        int good;
        int frontOwes;
        int backOwes;

        void clearTurn() {
            a.clear();
            c.clear();
            d.clear();
            e.clear();
            mode = IDLE;
            good = 0;
        }

        void become(State other) {
            front.become(other.front);
            back.become(other.back);
            a.become(other.a);
            c.become(other.c);
            d.become(other.d);
            e.become(other.e);
            total = other.total;
            count = other.count;
            mode = other.mode;
            good = other.good;
            frontOwes = other.frontOwes;
            backOwes = other.backOwes;
        }

        boolean isAtRest() {
            return mode == IDLE && frontOwes == 0 && backOwes == 0;
        }

        Row rowNumbered(int row) {
            switch (row) {
                case 0:
                    return front;
                case 1:
                    return back;
                case 2:
                    return a;
                case 3:
                    return c;
                case 4:
                    return d;
                case 5:
                    return e;
                default:
                    return null;
            }
        }
    }

    /** Does DEEDS on a STATE by a LAW, and counts the STEPS. */
    private static final class Mill {
        final Cells cells;
        boolean turned;
        boolean wasOverdue;
        private final int[] laid;
        private int law;
        private int ratio;
        private int maker;
        private int steps;

        Mill(int cellRoom, int rowRoom) {
            cells = new Cells(cellRoom);
            laid = new int[Math.max(rowRoom, 0)];
        }

        void obey(int newLaw, int newRatio) {
            law = newLaw;
            ratio = newRatio;
        }

        /** STEPS of a DEED that can be done: who asks has looked at that. */
        int perform(State state, int kind, int number, int deed) {
            maker = deed;
            steps = 1;
            turned = false;
            wasOverdue = false;
            change(state, kind, number);
            if (law == AT_ONCE) {
                turnAtOnce(state);
            } else if (law == BY_STEPS) {
                turnBySteps(state);
            } else {
                even(state, isPutting(kind) ? 1 : 2);
            }
            return steps;
        }

        private void change(State state, int kind, int number) {
            state.total += isPutting(kind) ? 1 : -1;
            switch (kind) {
                case PUT:
                    cells.add(state.back, number, maker);
                    break;
                case FORE:
                    cells.add(state.front, number, maker);
                    break;
                case TAKE:
                    if (law == BY_STEPS) {
                        disown(state);
                    }
                    cells.dropFirst(state.front.length > 0 ? state.front : state.back);
                    break;
                default:
                    cells.dropFirst(state.back.length > 0 ? state.back : state.front);
                    break;
            }
        }

        private void move(Row source, Row target) {
            if (source.length > 0) {
                cells.add(target, cells.numberOf(source.head), maker);
                cells.dropFirst(source);
            }
        }

        private void turnAtOnce(State state) {
            if (state.front.length > 0) {
                return;
            }
            int many = state.back.length;
            turned = many > 0;
            for (int i = 0; i < many; i++) {
                move(state.back, state.front);
            }
            steps += many;
        }

        /** The number taken is in the ROWS being turned, too, and must not come out of them again. */
        private void disown(State state) {
            state.count--;
            if (state.mode == JOINING && state.good == 0) {
                cells.dropFirst(state.e);
                state.mode = READY;
            } else if (state.mode == TURNING || state.mode == JOINING) {
                state.good--;
            }
        }

        private void turnBySteps(State state) {
            if (state.back.length > state.count) {
                beginTurning(state);
            }
            turnOnce(state);
            turnOnce(state);
            if (state.mode == READY) {
                state.front.become(state.e);
                state.clearTurn();
            }
        }

        private void beginTurning(State state) {
            turned = true;
            wasOverdue = state.mode != IDLE;
            state.clearTurn();
            state.mode = TURNING;
            state.a.become(state.front);
            state.d.become(state.back);
            state.count += state.back.length;
            state.back.clear();
        }

        private void turnOnce(State state) {
            if (state.mode == TURNING) {
                steps++;
                if (state.a.length > 0) {
                    move(state.a, state.c);
                    state.good++;
                } else {
                    state.mode = JOINING;
                }
                move(state.d, state.e);
            } else if (state.mode == JOINING && state.good > 0) {
                steps++;
                move(state.c, state.e);
                state.good--;
            } else if (state.mode == JOINING) {
                steps++;
                state.mode = READY;
            }
        }

        private void even(State state, int share) {
            int frontPays = Math.min(state.frontOwes, share);
            int backPays = Math.min(state.backOwes, share);
            state.frontOwes -= frontPays;
            state.backOwes -= backPays;
            steps += frontPays + backPays;
            if (state.front.length > ratio * state.back.length + 1) {
                split(state, state.front, state.back);
            } else if (state.back.length > ratio * state.front.length + 1) {
                split(state, state.back, state.front);
            }
        }

        private void split(State state, Row more, Row less) {
            turned = true;
            wasOverdue = state.frontOwes > 0 || state.backOwes > 0;
            int all = more.length + less.length;
            int kept = all / 2;
            lay(more, 0, 1);
            lay(less, all - 1, -1);
            more.clear();
            less.clear();
            for (int i = kept - 1; i >= 0; i--) {
                cells.add(more, laidAt(i), maker);
            }
            for (int i = kept; i < all; i++) {
                cells.add(less, laidAt(i), maker);
            }
            state.frontOwes = state.front.length;
            state.backOwes = state.back.length;
        }

        /** Lays the numbers of a ROW out, from a place on, so that both ROWS can be made of new CELLS. */
        private void lay(Row row, int place, int pace) {
            int cell = row.head;
            for (int i = 0; i < row.length; i++) {
                int here = place + i * pace;
                if (here >= 0 && here < laid.length) {
                    laid[here] = cells.numberOf(cell);
                }
                cell = cells.behind(cell);
            }
        }

        private int laidAt(int i) {
            return i >= 0 && i < laid.length ? laid[i] : NONE;
        }
    }

    /** The DEEDS that are done now, and the VERSIONS that they made. */
    private static final class History {
        final Deeds deeds = new Deeds();
        final Mill mill = new Mill(MOST_CELLS, MOST_DEEDS);
        final Cells cells = mill.cells;
        private final State[] states = new State[MOST_VERSIONS];
        private final Numbers[] queues = new Numbers[MOST_VERSIONS];
        private final int[] spent = new int[MOST_DEEDS];
        private final boolean[] late = new boolean[MOST_DEEDS];
        private final int[] cellsBefore = new int[MOST_DEEDS];
        private final int[] way = new int[MOST_DEEDS];
        private final Bytes told = new Bytes(MOST_OUT);
        private final Bytes otherTold = new Bytes(MOST_OUT);

        History() {
            for (int i = 0; i < MOST_VERSIONS; i++) {
                states[i] = new State();
                queues[i] = new Numbers(MOST_DEEDS);
            }
        }

        /** The DEEDS are done again: what they make is told by them alone. */
        void become(Deeds others) {
            deeds.become(others);
            cells.made = 0;
            mill.obey(deeds.law, deeds.ratio);
            for (int deed = 0; deed < MOST_DEEDS && deeds.hasDeed(deed); deed++) {
                enact(deed);
            }
        }

        private void enact(int deed) {
            if (!deeds.hasDeed(deed)) {
                return;
            }
            State before = stateOf(deeds.bases[deed]);
            Numbers queueBefore = queueOf(deeds.bases[deed]);
            State state = stateOf(deed + 1);
            Numbers queue = queueOf(deed + 1);
            if (before == null || queueBefore == null || state == null || queue == null) {
                return;
            }
            int kind = deeds.kinds[deed];
            queue.become(queueBefore);
            deeds.numbers[deed] = queue.change(kind, deeds.numbers[deed]);
            state.become(before);
            cellsBefore[deed] = cells.made;
            spent[deed] = mill.perform(state, kind, deeds.numbers[deed], deed);
            late[deed] = mill.wasOverdue;
        }

        State stateOf(int version) {
            return deeds.hasVersion(version) ? states[version] : null;
        }

        Numbers queueOf(int version) {
            return deeds.hasVersion(version) ? queues[version] : null;
        }

        Row rowOf(int version, int row) {
            State state = stateOf(version);
            return state == null ? null : state.rowNumbered(row);
        }

        boolean hasAll(int one, int two, int three) {
            return deeds.hasVersion(one) && deeds.hasVersion(two) && deeds.hasVersion(three);
        }

        int actPutting(int kind, int base, int x) {
            if (!deeds.hasVersion(base) || x < 0 || x > MOST_NUMBER) {
                return MISSING;
            }
            if (deeds.versions() >= MOST_VERSIONS) {
                return REFUSED;
            }
            deeds.add(kind, base, x);
            enact(deeds.many - 1);
            return deeds.many;
        }

        int actTaking(int kind, int base) {
            Numbers queue = queueOf(base);
            if (queue == null) {
                return MISSING;
            }
            if (queue.many == 0 || deeds.versions() >= MOST_VERSIONS) {
                return REFUSED;
            }
            int taken = queue.numberAt(kind == TAKE ? 0 : queue.many - 1);
            deeds.add(kind, base, taken);
            enact(deeds.many - 1);
            return taken;
        }

        /** Does the DEEDS of the way that was found last, one behind the other: the last new VERSION. */
        int actAlongWay(int ways, int on) {
            int version = on;
            for (int i = 0; i < ways; i++) {
                int deed = wayDeed(i);
                if (deeds.hasDeed(deed)) {
                    deeds.add(deeds.kinds[deed], version, deeds.numbers[deed]);
                    enact(deeds.many - 1);
                    version = deeds.many;
                }
            }
            return version;
        }

        /** Takes the latest DEEDS back, so that as many stay. */
        void cutTo(int stay) {
            if (deeds.hasDeed(stay)) {
                cells.made = cellsBefore[stay];
                deeds.many = stay;
            }
        }

        /** Finds the DEEDS from one VERSION to another, in order: how many; NONE: it was not made of it. */
        int findWay(int from, int to) {
            int ways = deeds.depth(to) - deeds.depth(from);
            int version = to;
            for (int i = ways - 1; i >= 0 && i < MOST_DEEDS; i--) {
                way[i] = version - 1;
                version = deeds.baseOf(version);
            }
            return version == from ? ways : NONE;
        }

        int wayDeed(int i) {
            return i >= 0 && i < MOST_DEEDS ? way[i] : NONE;
        }

        int stepsOnWay(int ways) {
            int sum = 0;
            for (int i = 0; i < ways; i++) {
                sum += stepsOf(wayDeed(i));
            }
            return sum;
        }

        int mostOnWay(int ways) {
            int most = 0;
            for (int i = 0; i < ways; i++) {
                most = Math.max(most, stepsOf(wayDeed(i)));
            }
            return most;
        }

        int stepsOf(int deed) {
            return deeds.hasDeed(deed) ? spent[deed] : 0;
        }

        int stepsOfAll() {
            int sum = 0;
            for (int deed = 0; deed < MOST_DEEDS && deeds.hasDeed(deed); deed++) {
                sum += spent[deed];
            }
            return sum;
        }

        int dearestDeed() {
            int dearest = NONE;
            int most = 0;
            for (int deed = 0; deed < MOST_DEEDS && deeds.hasDeed(deed); deed++) {
                if (spent[deed] > most) {
                    most = spent[deed];
                    dearest = deed;
                }
            }
            return dearest;
        }

        int overdueDeeds() {
            int many = 0;
            for (int deed = 0; deed < MOST_DEEDS && deeds.hasDeed(deed); deed++) {
                many += late[deed] ? 1 : 0;
            }
            return many;
        }

        int heldByAll() {
            return heldBySet((1L << deeds.versions()) - 1L);
        }

        int heldBySet(long set) {
            int many = 0;
            cells.unmarkAll();
            for (int version = 0; version < MOST_VERSIONS && deeds.hasVersion(version); version++) {
                if ((set >>> version & 1L) != 0L) {
                    many += cells.markState(states[version], NONE);
                }
            }
            return many;
        }

        int leastEqual(int version) {
            for (int least = 0; least < version && deeds.hasVersion(version); least++) {
                if (queues[least].equalTo(queues[version])) {
                    return least;
                }
            }
            return version;
        }

        int leastToldAlike(int version) {
            write(version, told);
            for (int least = 0; least < version; least++) {
                write(least, otherTold);
                if (told.equalTo(otherTold)) {
                    return least;
                }
            }
            return version;
        }

        void write(int version, Bytes text) {
            text.length = 0;
            State state = stateOf(version);
            if (state == null) {
                return;
            }
            writeRow(text, "f", state.front);
            writeRow(text, "|b", state.back);
            if (deeds.law == BY_STEPS) {
                writeTurn(text, state);
            } else if (deeds.law == EVENING) {
                writeCount(text, "|owes ", state.frontOwes);
                writeCount(text, " ", state.backOwes);
            }
        }

        private void writeTurn(Bytes text, State state) {
            if (state.mode == TURNING) {
                writeCount(text, "|turning ", state.good);
                writeRow(text, "|a", state.a);
                writeRow(text, "|c", state.c);
                writeRow(text, "|d", state.d);
                writeRow(text, "|e", state.e);
            } else if (state.mode == JOINING) {
                writeCount(text, "|joining ", state.good);
                writeRow(text, "|c", state.c);
                writeRow(text, "|e", state.e);
            } else {
                text.addWord("|idle");
            }
        }

        private void writeCount(Bytes text, String name, int count) {
            text.addWord(name);
            text.addNumber(count);
        }

        private void writeRow(Bytes text, String name, Row row) {
            text.addWord(name);
            int cell = row.head;
            for (int i = 0; i < row.length; i++) {
                text.add(' ');
                text.addNumber(cells.numberOf(cell));
                cell = cells.behind(cell);
            }
        }
    }

    /** Does DEEDS of which nothing stays: their STEPS come of the ROWS' lengths alone. */
    private static final class Trial {
        int most;
        int steps;
        int clash;
        final Numbers queue = new Numbers(MOST_GRAFTED);
        private final Mill mill = new Mill(0, 0);
        private final State now = new State();
        private final State[] tree = new State[MOST_VERSIONS];

        Trial() {
            for (int i = 0; i < MOST_VERSIONS; i++) {
                tree[i] = new State();
            }
        }

        private void begin(Deeds deeds, State from) {
            mill.obey(deeds.law, deeds.ratio);
            now.become(from);
            steps = 0;
        }

        int stepsOfAll(Deeds deeds, int law, int ratio) {
            mill.obey(law, ratio);
            most = 0;
            int sum = 0;
            for (int deed = 0; deed < MOST_DEEDS && deeds.hasDeed(deed); deed++) {
                int base = deeds.bases[deed];
                State state = tree[deed + 1];
                state.become(tree[deeds.hasVersion(base) ? base : 0]);
                int spent = mill.perform(state, deeds.kinds[deed], 0, NONE);
                most = Math.max(most, spent);
                sum += spent;
            }
            return sum;
        }

        int cheapestRatio(Deeds deeds) {
            int cheapest = LEAST_RATIO;
            int fewest = stepsOfAll(deeds, EVENING, LEAST_RATIO);
            for (int ratio = LEAST_RATIO + 1; ratio <= MOST_RATIO; ratio++) {
                int sum = stepsOfAll(deeds, EVENING, ratio);
                if (sum < fewest) {
                    fewest = sum;
                    cheapest = ratio;
                }
            }
            return cheapest;
        }

        int putsTillTurned(Deeds deeds, State from) {
            begin(deeds, from);
            for (int puts = 1; puts <= MOST_PUTS; puts++) {
                mill.perform(now, PUT, 0, NONE);
                if (mill.turned) {
                    return puts;
                }
            }
            return NONE;
        }

        int putsTillAtRest(Deeds deeds, State from) {
            begin(deeds, from);
            for (int puts = 0; puts <= MOST_PUTS; puts++) {
                if (now.isAtRest()) {
                    return puts;
                }
                mill.perform(now, PUT, 0, NONE);
            }
            return NONE;
        }

        int stepsToDrain(Deeds deeds, State from) {
            begin(deeds, from);
            for (int i = 0; i < MOST_DEEDS && now.total > 0; i++) {
                steps += mill.perform(now, TAKE, 0, NONE);
            }
            return steps;
        }

        int stepsOfLetters(Deeds deeds, State from, Bytes letters) {
            begin(deeds, from);
            for (int i = 0; i < letters.length; i++) {
                int kind = kindOfLetter(letters.byteAt(i), deeds.law);
                if (kind == NONE || !isPutting(kind) && now.total == 0) {
                    return NONE;
                }
                steps += mill.perform(now, kind, 0, NONE);
            }
            return steps;
        }

        private static int kindOfLetter(int letter, int law) {
            switch (letter) {
                case 'p':
                    return PUT;
                case 't':
                    return TAKE;
                case 'f':
                    return law == EVENING ? FORE : NONE;
                case 'l':
                    return law == EVENING ? LAST : NONE;
                default:
                    return NONE;
            }
        }

        /** Does the DEEDS of a way on a third VERSION, up to where it clashes: how many the way has. */
        int graftWay(History history, int from, int to, int on) {
            int ways = history.findWay(from, to);
            State state = history.stateOf(on);
            Numbers queueBefore = history.queueOf(on);
            if (ways == NONE || state == null || queueBefore == null) {
                return NONE;
            }
            begin(history.deeds, state);
            queue.become(queueBefore);
            clash = NONE;
            for (int i = 0; i < ways && clash == NONE; i++) {
                graftDeed(history.deeds, history.wayDeed(i));
            }
            return ways;
        }

        private void graftDeed(Deeds deeds, int deed) {
            if (!deeds.hasDeed(deed)) {
                return;
            }
            int kind = deeds.kinds[deed];
            if (!isPutting(kind) && now.total == 0) {
                clash = deed;
            } else {
                queue.change(kind, deeds.numbers[deed]);
                steps += mill.perform(now, kind, 0, NONE);
            }
        }
    }

    /** Tries all rows of puts and takes, put ahead of take, DEED by DEED. */
    private static final class Scout {
        int most;
        int mostTogether;
        int tries;
        private int longest;
        private final int[] tried = new int[LONGEST_TRY];
        private final int[] worst = new int[LONGEST_TRY];
        private final int[] mostAtLevel = new int[LONGEST_TRY];
        private final Mill mill = new Mill(0, 0);
        private final State[] levels = new State[LONGEST_TRY + 1];

        Scout() {
            for (int level = 0; level <= LONGEST_TRY; level++) {
                levels[level] = new State();
            }
        }

        void tryAll(Deeds deeds, State from, int n) {
            mill.obey(deeds.law, deeds.ratio);
            levels[0].become(from);
            longest = Math.min(n, LONGEST_TRY);
            most = 0;
            mostTogether = 0;
            tries = 0;
            for (int level = 0; level < LONGEST_TRY; level++) {
                mostAtLevel[level] = 0;
            }
            tryFrom(this, 0, 0);
        }

        private static void tryFrom(Scout scout, int level, int together) {
            if (level < 0 || level >= scout.longest || level >= LONGEST_TRY) {
                scout.noteRow(together);
                return;
            }
            State before = scout.levels[level];
            State after = scout.levels[level + 1];
            int kinds = before.total > 0 ? 2 : 1;
            for (int kind = PUT; kind < PUT + kinds; kind++) {
                after.become(before);
                int steps = scout.mill.perform(after, kind, 0, NONE);
                scout.noteDeed(level, kind, steps);
                tryFrom(scout, level + 1, together + steps);
            }
        }

        private void noteDeed(int level, int kind, int steps) {
            most = Math.max(most, steps);
            if (level >= 0 && level < LONGEST_TRY) {
                tried[level] = kind;
                mostAtLevel[level] = Math.max(mostAtLevel[level], steps);
            }
        }

        private void noteRow(int together) {
            tries++;
            if (together > mostTogether) {
                mostTogether = together;
                for (int level = 0; level < longest; level++) {
                    worst[level] = tried[level];
                }
            }
        }

        int worstKind(int i) {
            return i >= 0 && i < longest && i < LONGEST_TRY ? worst[i] : NONE;
        }

        /** The least length of a row whose last DEED takes as many STEPS. */
        int fewestFor(int steps) {
            for (int level = 0; level < LONGEST_TRY; level++) {
                if (mostAtLevel[level] >= steps) {
                    return level + 1;
                }
            }
            return NONE;
        }
    }
}
