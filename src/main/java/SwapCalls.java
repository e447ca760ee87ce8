/**
 * Which calls may change places: routines told by texts, their effects, and programs of calls that are laid in
 * stages, swapped, and run. README.md tells how to use it.
 */
public final class SwapCalls {
    public static final int UNKNOWN = -1, OUTSIDE = -2, STATE = -3, FULL = -4, NO = -5, NONE = -6;

    private static final int NUMBERS = 6;
    private static final int CELLS = 12;
    private static final int PLACES = NUMBERS + CELLS;
    private static final int VALUES = 100;
    private static final int ROUTINES = 6;
    private static final int SIGNS = 30;
    private static final int FIRST_SIGN = 33;
    private static final int LAST_SIGN = 126;
    // The shortest STATEMENT, a test, has two signs.
    private static final int STATEMENTS = SIGNS / 2;
    private static final int CALLS = 16;
    private static final int IMAGES = 2;
    private static final int STEPS = 200;
    private static final int NESTING = 20;

    private static final int KIND_SET = 0;
    private static final int KIND_ADD = 1;
    private static final int KIND_TEST = 2;
    private static final int KIND_CALL = 3;

    private static final int LEAF_FIGURE = 0;
    private static final int LEAF_GIVEN = 1;
    private static final int LEAF_PLACE = 2;

    // A spot tells a PLACE before the given number is known: below PLACES it is that PLACE itself,
    // from PLACES on it is a CELL, so many behind the one that the given number tells.
    private static final int NO_SPOT = -1;

    private static final int READS = 0;
    private static final int WRITES = 1;
    private static final int ADDS = 2;
    private static final int THROWS = 3;
    private static final int EFFECT_PARTS = 4;

    private static final int CAUSE_WRITTEN = 1;
    private static final int CAUSE_READ = 2;
    private static final int CAUSE_THROWS = 4;

    private static final int TOLD_ROUTINE = 0;
    private static final int TOLD_GIVEN = 1;
    private static final int TOLD_STAGE = 2;
    private static final int TOLD_PARTS = 4;

    private static final int STAGES_LIKE_IMAGE = 6;

    private static final int IN_ORDER = 0;
    private static final int BY_STAGES = 1;
    private static final int BY_RANKS = 2;

    private static final int ENDED = 0;
    private static final int THREW = 1;
    private static final int TOO_FAR = 2;

    private static final int RUN_THROWS = PLACES;
    private static final int RUN_STEPS = PLACES + 1;

    private static final int FRACTION_BITS = 23;
    private static final int EXPONENT_OF_ONE = 127;

    private final Routine[] routines = new Routine[ROUTINES];
    private final Effects effects = new Effects();
    private final int[] places = new int[PLACES];
    private final Program program = new Program();
    private final Image[] images = new Image[IMAGES];
    private final Layout layout = new Layout();
    private final Layout otherLayout = new Layout();
    private final Machine machine = new Machine();

    public SwapCalls() {
        for (int r = 0; r < ROUTINES; r++) {
            routines[r] = new Routine();
        }
        for (int k = 0; k < IMAGES; k++) {
            images[k] = new Image();
        }
    }

    // ---- 1 routines, places

    public int say(int routine, int sign) {
        if (!within(routine, ROUTINES)) {
            return UNKNOWN;
        }
        if (sign < FIRST_SIGN || sign > LAST_SIGN) {
            return OUTSIDE;
        }
        if (routines[routine].length >= SIGNS) {
            return FULL;
        }
        routines[routine].append(sign);
        effects.forget();
        return routines[routine].length;
    }

    public int wipe(int routine) {
        if (!within(routine, ROUTINES)) {
            return UNKNOWN;
        }
        int before = routines[routine].length;
        routines[routine].empty();
        effects.forget();
        return before;
    }

    public int fault(int routine) {
        return within(routine, ROUTINES) ? routines[routine].faultAt : UNKNOWN;
    }

    public int set(int place, int v) {
        if (!within(place, PLACES)) {
            return UNKNOWN;
        }
        if (!within(v, VALUES)) {
            return OUTSIDE;
        }
        int before = places[place];
        places[place] = v;
        return before;
    }

    public int get(int place) {
        return within(place, PLACES) ? places[place] : UNKNOWN;
    }

    // ---- 2 effects

    public int effect(int routine, int x, int what) {
        if (!within(routine, ROUTINES)) {
            return UNKNOWN;
        }
        if (!within(x, CELLS) || !within(what, EFFECT_PARTS)) {
            return OUTSIDE;
        }
        effects.find(routines);
        return effects.known[routine] ? effects.part(routine, x, what) : NO;
    }

    public int causes(int one, int x, int other, int y) {
        if (!within(one, ROUTINES) || !within(other, ROUTINES)) {
            return UNKNOWN;
        }
        if (!within(x, CELLS) || !within(y, CELLS)) {
            return OUTSIDE;
        }
        effects.find(routines);
        if (!effects.known[one] || !effects.known[other]) {
            return NO;
        }
        return effects.between(one, x, other, y);
    }

    // ---- 3 programs

    public int call(int routine, int x) {
        if (!within(routine, ROUTINES)) {
            return UNKNOWN;
        }
        if (!within(x, CELLS)) {
            return OUTSIDE;
        }
        if (program.size >= CALLS) {
            return FULL;
        }
        program.append(routine, x);
        return program.size;
    }

    public int drop(int call) {
        if (!within(call, program.size)) {
            return UNKNOWN;
        }
        program.remove(call);
        return program.size;
    }

    public int swap(int call) {
        if (!within(call, program.size - 1)) {
            return UNKNOWN;
        }
        effects.find(routines);
        if (!effects.known[program.routine[call]] || !effects.known[program.routine[call + 1]]) {
            return NO;
        }
        if (!effects.free(program, call, call + 1)) {
            return STATE;
        }
        program.exchangeWithNext(call);
        return 1;
    }

    public int told(int call, int what) {
        if (!within(call, program.size)) {
            return UNKNOWN;
        }
        if (!within(what, TOLD_PARTS)) {
            return OUTSIDE;
        }
        if (what == TOLD_ROUTINE) {
            return program.routine[call];
        }
        if (what == TOLD_GIVEN) {
            return program.given[call];
        }
        if (!layProgram()) {
            return NO;
        }
        return what == TOLD_STAGE ? layout.stage[call] : layout.rank[call];
    }

    public int stages(int what) {
        if (what < 0 || what > STAGES_LIKE_IMAGE) {
            return OUTSIDE;
        }
        if (what == STAGES_LIKE_IMAGE && !images[0].kept) {
            return STATE;
        }
        if (!layProgram()) {
            return NO;
        }
        switch (what) {
            case 0:
                return layout.stageCount;
            case 1:
                return layout.mostOfOneStage();
            case 2:
                return layout.firstFullestStage();
            case 3:
                return nearestSingle(program.size, layout.stageCount);
            case 4:
                return layout.freePairs;
            case 5:
                return layout.isNormal() ? 1 : 0;
            default:
                return compareWithImage(images[0].program);
        }
    }

    // ---- 4 runs

    public int run(int how, int what) {
        if (how < IN_ORDER || how > BY_RANKS || what < 0 || what > RUN_STEPS) {
            return OUTSIDE;
        }
        if (!perform(how)) {
            return STATE;
        }
        if (what == RUN_THROWS) {
            return machine.throwCount;
        }
        return what == RUN_STEPS ? machine.allSteps : machine.holds[what];
    }

    public int thrower(int how, int i) {
        if (how < IN_ORDER || how > BY_RANKS) {
            return OUTSIDE;
        }
        if (!perform(how)) {
            return STATE;
        }
        return within(i, machine.throwCount) ? machine.throwers[i] : NONE;
    }

    public int commit() {
        if (!perform(IN_ORDER)) {
            return STATE;
        }
        System.arraycopy(machine.holds, 0, places, 0, PLACES);
        program.size = 0;
        return machine.throwCount;
    }

    public int image(int k) {
        if (!within(k, IMAGES)) {
            return OUTSIDE;
        }
        images[k].keep(places, program);
        return 1;
    }

    public int restore(int k) {
        if (!within(k, IMAGES)) {
            return OUTSIDE;
        }
        if (!images[k].kept) {
            return STATE;
        }
        System.arraycopy(images[k].places, 0, places, 0, PLACES);
        program.copyFrom(images[k].program);
        return 1;
    }

    public int count(int what) {
        if (what == 0) {
            return program.size;
        }
        int routine = Math.floorMod(what, 10);
        if (what < 10 || what >= 40 || routine >= ROUTINES) {
            return OUTSIDE;
        }
        Routine asked = routines[routine];
        if (what < 20) {
            return asked.length;
        }
        if (asked.faultAt != NONE) {
            return NONE;
        }
        return what < 30 ? asked.statements : asked.calleeBits();
    }

    // ---- helpers

    private static boolean within(int number, int bound) {
        return number >= 0 && number < bound;
    }

    private static int placeOf(int spot, int given) {
        return spot < PLACES ? spot : NUMBERS + (spot - PLACES + given) % CELLS;
    }

    /** Lays the PROGRAM in STAGES; false, if an EFFECT of a CALL is not known. */
    private boolean layProgram() {
        effects.find(routines);
        if (!effects.knowsAll(program)) {
            return false;
        }
        layout.lay(program, effects);
        return true;
    }

    /** Does the RUN on the machine's own PLACES; false, if it is not known. */
    private boolean perform(int how) {
        if (!layProgram()) {
            return false;
        }
        layout.arrange(how);
        return machine.perform(routines, program, layout.order, places);
    }

    private int compareWithImage(Program other) {
        if (!effects.knowsAll(other)) {
            return NO;
        }
        otherLayout.lay(other, effects);
        return layout.sameNormalForm(otherLayout) ? 1 : 0;
    }

    /** The bits of the single number nearest to calls / stageCount, a quotient of 1 to 16; 0, if there is no CALL. */
    private static int nearestSingle(int calls, int stageCount) {
        if (stageCount < 1 || calls < stageCount) {
            return 0;
        }
        int exponent = 0;
        while (exponent < 4 && calls >= stageCount << (exponent + 1)) {
            exponent++;
        }
        int scaled = calls << (FRACTION_BITS - exponent);
        int whole = scaled / stageCount;
        int twiceLeft = 2 * (scaled % stageCount);
        if (twiceLeft > stageCount || (twiceLeft == stageCount && (whole & 1) == 1)) {
            whole++;
        }
        // The leading bit of whole is not kept in a single number; added, it makes the exponent one more.
        return ((EXPONENT_OF_ONE - 1 + exponent) << FRACTION_BITS) + whole;
    }

    /** The text of one ROUTINE, and its STATEMENTS, which mean something as long as there is no FAULT. */
    private static final class Routine {
        private final int[] signs = new int[SIGNS];
        private int length = 0;
        private int faultAt = NONE;

        private final int[] kind = new int[STATEMENTS];
        private final int[] spot = new int[STATEMENTS];
        private final int[] callee = new int[STATEMENTS];
        private final int[] leafEnd = new int[STATEMENTS];
        private int statements = 0;

        // A TERM is the sum of its leaves, as it does not matter when what is over 100 is left out.
        private final int[] leafKind = new int[SIGNS];
        private final int[] leafValue = new int[SIGNS];
        private int leaves = 0;

        private int at = 0;

        void append(int sign) {
            if (length < SIGNS) {
                signs[length] = sign;
                length++;
                readText();
            }
        }

        void empty() {
            length = 0;
            readText();
        }

        int calleeBits() {
            int bits = 0;
            for (int s = 0; s < statements; s++) {
                if (kind[s] == KIND_CALL) {
                    bits |= 1 << callee[s];
                }
            }
            return bits;
        }

        int leafStart(int statement) {
            return statement == 0 ? 0 : leafEnd[statement - 1];
        }

        private void readText() {
            at = 0;
            statements = 0;
            leaves = 0;
            boolean stands = true;
            for (int s = 0; s < STATEMENTS && stands && at < length; s++) {
                stands = readStatement(s);
            }
            faultAt = stands ? NONE : at;
        }

        private boolean readStatement(int s) {
            int first = signs[at];
            boolean opens = first == '=' || first == '+' || first == '#' || first == '^' || first == '?' || first == 'c';
            if (!opens) {
                return false;
            }
            at++;
            kind[s] = kindOf(first);
            if (kind[s] == KIND_CALL && !readCallee(s)) {
                return false;
            }
            boolean byIndex = first == '#' || first == '^' || first == 'c';
            spot[s] = byIndex ? readIndex() : readLetter();
            if (spot[s] == NO_SPOT) {
                return false;
            }
            boolean hasTerm = kind[s] == KIND_SET || kind[s] == KIND_ADD;
            if (hasTerm && !readTerm()) {
                return false;
            }
            leafEnd[s] = leaves;
            statements = s + 1;
            return true;
        }

        private static int kindOf(int first) {
            if (first == '=' || first == '#') {
                return KIND_SET;
            }
            if (first == '+' || first == '^') {
                return KIND_ADD;
            }
            return first == '?' ? KIND_TEST : KIND_CALL;
        }

        private boolean readCallee(int s) {
            if (at >= length || signs[at] < '0' || signs[at] >= '0' + ROUTINES) {
                return false;
            }
            callee[s] = signs[at] - '0';
            at++;
            return true;
        }

        private int readLetter() {
            if (at >= length || !isLetter(signs[at])) {
                return NO_SPOT;
            }
            int number = signs[at] - 'a';
            at++;
            return number;
        }

        private int readIndex() {
            int more = 0;
            while (at < length && signs[at] == '>') {
                at++;
                more++;
            }
            if (at >= length) {
                return NO_SPOT;
            }
            int base = signs[at];
            if (base == 'p') {
                at++;
                return PLACES + more % CELLS;
            }
            if (isFigure(base)) {
                at++;
                return NUMBERS + (base - '0' + more) % CELLS;
            }
            return NO_SPOT;
        }

        private boolean readTerm() {
            int due = 1;
            for (int i = 0; i < SIGNS && due > 0 && at < length; i++) {
                if (signs[at] == '~') {
                    at++;
                    due++;
                } else if (readLeaf()) {
                    due--;
                } else {
                    return false;
                }
            }
            return due == 0;
        }

        private boolean readLeaf() {
            int first = signs[at];
            if (isFigure(first)) {
                at++;
                return addLeaf(LEAF_FIGURE, first - '0');
            }
            if (first == 'p') {
                at++;
                return addLeaf(LEAF_GIVEN, 0);
            }
            if (isLetter(first)) {
                at++;
                return addLeaf(LEAF_PLACE, first - 'a');
            }
            if (first == '@') {
                at++;
                return addLeaf(LEAF_PLACE, readIndex());
            }
            return false;
        }

        private boolean addLeaf(int newKind, int value) {
            if (value == NO_SPOT || leaves >= SIGNS) {
                return false;
            }
            leafKind[leaves] = newKind;
            leafValue[leaves] = value;
            leaves++;
            return true;
        }

        private static boolean isFigure(int sign) {
            return sign >= '0' && sign <= '9';
        }

        private static boolean isLetter(int sign) {
            return sign >= 'a' && sign < 'a' + NUMBERS;
        }
    }

    /** The EFFECTS of all ROUTINES for each number that they may be given. */
    private static final class Effects {
        private static final int PAIRS = ROUTINES * CELLS;

        private final int[] reads = new int[PAIRS];
        private final int[] writes = new int[PAIRS];
        private final int[] adds = new int[PAIRS];
        private final int[] mayThrow = new int[PAIRS];
        private final boolean[] known = new boolean[ROUTINES];
        private boolean found = false;

        void forget() {
            found = false;
        }

        void find(Routine[] routines) {
            if (found) {
                return;
            }
            findKnown(routines);
            for (int r = 0; r < ROUTINES; r++) {
                for (int x = 0; x < CELLS; x++) {
                    startWithOwn(routines[r], r, x);
                }
            }
            boolean changed = true;
            // Each round but the last brings at least one bit more to one of the pairs.
            for (int round = 0; round < PAIRS * (3 * PLACES + 1) + 1 && changed; round++) {
                changed = goRound(routines);
            }
            found = true;
        }

        boolean knowsAll(Program program) {
            for (int c = 0; c < program.size; c++) {
                if (!known[program.routine[c]]) {
                    return false;
                }
            }
            return true;
        }

        int part(int routine, int x, int what) {
            int pair = routine * CELLS + x;
            switch (what) {
                case READS:
                    return reads[pair];
                case WRITES:
                    return writes[pair];
                case ADDS:
                    return adds[pair];
                case THROWS:
                    return mayThrow[pair];
                default:
                    return 0;
            }
        }

        int between(int one, int x, int other, int y) {
            int p = one * CELLS + x;
            int q = other * CELLS + y;
            int changedByP = writes[p] | adds[p];
            int changedByQ = writes[q] | adds[q];
            int bits = 0;
            if (((writes[p] & changedByQ) | (writes[q] & changedByP)) != 0) {
                bits |= CAUSE_WRITTEN;
            }
            if (((reads[p] & changedByQ) | (reads[q] & changedByP)) != 0) {
                bits |= CAUSE_READ;
            }
            if (mayThrow[p] == 1 && mayThrow[q] == 1) {
                bits |= CAUSE_THROWS;
            }
            return bits;
        }

        boolean free(Program program, int c, int d) {
            return between(program.routine[c], program.given[c], program.routine[d], program.given[d]) == 0;
        }

        private void findKnown(Routine[] routines) {
            for (int r = 0; r < ROUTINES; r++) {
                known[r] = routines[r].faultAt == NONE;
            }
            // What is not known spreads by one call a round, and no chain is longer than there are ROUTINES.
            for (int round = 0; round < ROUTINES; round++) {
                for (int r = 0; r < ROUTINES; r++) {
                    known[r] = known[r] && knowsBits(routines[r].calleeBits());
                }
            }
        }

        private boolean knowsBits(int routineBits) {
            for (int r = 0; r < ROUTINES; r++) {
                if ((routineBits >> r & 1) == 1 && !known[r]) {
                    return false;
                }
            }
            return true;
        }

        private void startWithOwn(Routine text, int routine, int x) {
            int pair = routine * CELLS + x;
            reads[pair] = 0;
            writes[pair] = 0;
            adds[pair] = 0;
            mayThrow[pair] = 0;
            if (!known[routine]) {
                return;
            }
            for (int s = 0; s < text.statements; s++) {
                int bit = 1 << placeOf(text.spot[s], x);
                switch (text.kind[s]) {
                    case KIND_SET:
                        writes[pair] |= bit;
                        break;
                    case KIND_ADD:
                        adds[pair] |= bit;
                        break;
                    case KIND_TEST:
                        reads[pair] |= bit;
                        mayThrow[pair] = 1;
                        break;
                    default:
                        break;
                }
            }
            for (int leaf = 0; leaf < text.leaves; leaf++) {
                if (text.leafKind[leaf] == LEAF_PLACE) {
                    reads[pair] |= 1 << placeOf(text.leafValue[leaf], x);
                }
            }
        }

        private boolean goRound(Routine[] routines) {
            boolean changed = false;
            for (int r = 0; r < ROUTINES; r++) {
                if (known[r] && routines[r].calleeBits() != 0) {
                    for (int x = 0; x < CELLS; x++) {
                        changed = takeFromCallees(routines[r], r * CELLS + x, x) || changed;
                    }
                }
            }
            return changed;
        }

        private boolean takeFromCallees(Routine text, int pair, int x) {
            boolean changed = false;
            for (int s = 0; s < text.statements; s++) {
                if (text.kind[s] == KIND_CALL) {
                    int given = placeOf(text.spot[s], x) - NUMBERS;
                    changed = take(pair, text.callee[s] * CELLS + given) || changed;
                }
            }
            return changed;
        }

        private boolean take(int pair, int from) {
            int news = (reads[from] & ~reads[pair]) | (writes[from] & ~writes[pair])
                    | (adds[from] & ~adds[pair]) | (mayThrow[from] & ~mayThrow[pair]);
            reads[pair] |= reads[from];
            writes[pair] |= writes[from];
            adds[pair] |= adds[from];
            mayThrow[pair] |= mayThrow[from];
            return news != 0;
        }
    }

    /** A row of CALLS. */
    private static final class Program {
        private final int[] routine = new int[CALLS];
        private final int[] given = new int[CALLS];
        private int size = 0;

        void append(int newRoutine, int x) {
            if (size < CALLS) {
                routine[size] = newRoutine;
                given[size] = x;
                size++;
            }
        }

        void remove(int c) {
            for (int i = c; i < size - 1; i++) {
                routine[i] = routine[i + 1];
                given[i] = given[i + 1];
            }
            size--;
        }

        void exchangeWithNext(int c) {
            int keptRoutine = routine[c];
            int keptGiven = given[c];
            routine[c] = routine[c + 1];
            given[c] = given[c + 1];
            routine[c + 1] = keptRoutine;
            given[c + 1] = keptGiven;
        }

        void copyFrom(Program other) {
            System.arraycopy(other.routine, 0, routine, 0, CALLS);
            System.arraycopy(other.given, 0, given, 0, CALLS);
            size = other.size;
        }
    }

    /** STAGES and RANKS of a PROGRAM, all of whose EFFECTS are known. */
    private static final class Layout {
        private final Program laid = new Program();
        private final int[] stage = new int[CALLS];
        private final int[] rank = new int[CALLS];
        private final int[] order = new int[CALLS];
        private int stageCount = 0;
        private int freePairs = 0;

        void lay(Program program, Effects effects) {
            laid.copyFrom(program);
            stageCount = 0;
            freePairs = 0;
            for (int c = 0; c < laid.size; c++) {
                stage[c] = 0;
                for (int ahead = 0; ahead < c; ahead++) {
                    if (effects.free(laid, ahead, c)) {
                        freePairs++;
                    } else {
                        stage[c] = Math.max(stage[c], stage[ahead] + 1);
                    }
                }
                stageCount = Math.max(stageCount, stage[c] + 1);
            }
            for (int c = 0; c < laid.size; c++) {
                rank[c] = position(c, BY_RANKS);
            }
        }

        /** Fills order with the CALLS as a RUN does them. */
        void arrange(int how) {
            for (int c = 0; c < laid.size; c++) {
                order[position(c, how)] = c;
            }
        }

        int mostOfOneStage() {
            int most = 0;
            for (int s = 0; s < stageCount; s++) {
                most = Math.max(most, sizeOfStage(s));
            }
            return most;
        }

        int firstFullestStage() {
            int most = mostOfOneStage();
            for (int s = 0; s < stageCount; s++) {
                if (sizeOfStage(s) == most) {
                    return s;
                }
            }
            return NONE;
        }

        boolean isNormal() {
            for (int c = 0; c < laid.size; c++) {
                if (rank[c] != c) {
                    return false;
                }
            }
            return true;
        }

        boolean sameNormalForm(Layout other) {
            if (laid.size != other.laid.size) {
                return false;
            }
            arrange(BY_RANKS);
            other.arrange(BY_RANKS);
            for (int i = 0; i < laid.size; i++) {
                int mine = order[i];
                int its = other.order[i];
                if (laid.routine[mine] != other.laid.routine[its] || laid.given[mine] != other.laid.given[its]) {
                    return false;
                }
            }
            return true;
        }

        private int sizeOfStage(int s) {
            int calls = 0;
            for (int c = 0; c < laid.size; c++) {
                if (stage[c] == s) {
                    calls++;
                }
            }
            return calls;
        }

        private int position(int c, int how) {
            int ahead = 0;
            for (int d = 0; d < laid.size; d++) {
                if (d != c && goesAhead(d, c, how)) {
                    ahead++;
                }
            }
            return ahead;
        }

        private boolean goesAhead(int d, int c, int how) {
            if (how == IN_ORDER) {
                return d < c;
            }
            if (stage[d] != stage[c]) {
                return stage[d] < stage[c];
            }
            if (how == BY_STAGES) {
                return d > c;
            }
            if (laid.routine[d] != laid.routine[c]) {
                return laid.routine[d] < laid.routine[c];
            }
            if (laid.given[d] != laid.given[c]) {
                return laid.given[d] < laid.given[c];
            }
            return d < c;
        }
    }

    /** Does CALLS on PLACES of its own. */
    private static final class Machine {
        private final int[] holds = new int[PLACES];
        private final int[] throwers = new int[CALLS];
        private int throwCount = 0;
        private int allSteps = 0;
        private int steps = 0;

        /** False, if a CALL goes too far; what is held then means nothing. */
        boolean perform(Routine[] routines, Program program, int[] order, int[] places) {
            System.arraycopy(places, 0, holds, 0, PLACES);
            throwCount = 0;
            allSteps = 0;
            for (int i = 0; i < program.size; i++) {
                int c = order[i];
                steps = 0;
                int end = doRoutine(routines, program.routine[c], program.given[c], 1);
                if (end == TOO_FAR) {
                    return false;
                }
                if (end == THREW) {
                    throwers[throwCount] = c;
                    throwCount++;
                }
                allSteps += steps;
            }
            return true;
        }

        private int doRoutine(Routine[] routines, int routine, int given, int nesting) {
            if (nesting > NESTING) {
                return TOO_FAR;
            }
            Routine text = routines[routine];
            for (int s = 0; s < text.statements; s++) {
                if (steps >= STEPS) {
                    return TOO_FAR;
                }
                steps++;
                int place = placeOf(text.spot[s], given);
                int end = text.kind[s] == KIND_CALL
                        ? doRoutine(routines, text.callee[s], place - NUMBERS, nesting + 1)
                        : doSimple(text, s, place, given);
                if (end != ENDED) {
                    return end;
                }
            }
            return ENDED;
        }

        private int doSimple(Routine text, int s, int place, int given) {
            switch (text.kind[s]) {
                case KIND_SET:
                    holds[place] = sumOfLeaves(text, s, given) % VALUES;
                    return ENDED;
                case KIND_ADD:
                    holds[place] = (holds[place] + sumOfLeaves(text, s, given)) % VALUES;
                    return ENDED;
                default:
                    return holds[place] == 0 ? THREW : ENDED;
            }
        }

        private int sumOfLeaves(Routine text, int s, int given) {
            int sum = 0;
            for (int leaf = text.leafStart(s); leaf < text.leafEnd[s]; leaf++) {
                int value = text.leafValue[leaf];
                if (text.leafKind[leaf] == LEAF_FIGURE) {
                    sum += value;
                } else if (text.leafKind[leaf] == LEAF_GIVEN) {
                    sum += given;
                } else {
                    sum += holds[placeOf(value, given)];
                }
            }
            return sum;
        }
    }

    /** PLACES and a PROGRAM as they were when they were kept. */
    private static final class Image {
        private final int[] places = new int[PLACES];
        private final Program program = new Program();
        private boolean kept = false;

        void keep(int[] nowPlaces, Program nowProgram) {
            System.arraycopy(nowPlaces, 0, places, 0, PLACES);
            program.copyFrom(nowProgram);
            kept = true;
        }
    }
}
