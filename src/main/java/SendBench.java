public final class SendBench {
    public static final int OK = 0, STRANGE = 1, KIND = 2, DEAD = 3, LONG = 4, DEEP = 5, FULL = 6, BAD = -1, SHAPE = -2, NOROOM = -3;
    public static final long NIL = 10000000000L;

    private static final int NUM = 0, NOTHING = 1, SELF = 2, ARG = 3, TEMP = 4, SET = 5, FIELD = 6, PUT = 7, GLOBAL = 8, STORE = 9;
    private static final int SEND = 10, SUPER = 11, BLOCK = 12, PARAM = 13, CALL = 14, GIVE = 15, THEN = 16, RETURN = 17, ADD = 18, SUB = 19;
    private static final int MUL = 20, LESS = 21, SAME = 22, IF = 23, WHILE = 24, NEW = 25, SAY = 26, ENSURE = 27, BIND = 28, CLASS = 29;
    private static final int KINDS = 30;

    private static final int NONE = -1;
    private static final int CLASSES = 10, CLASS_OF_INTS = 1, CLASS_OF_NIL = 2, CLASS_OF_BLOCKS = 3, FIRST_MADE = 4;
    private static final int FIELDS = 4, GLOBALS = 4, SELECTORS = 12, NOT_FOUND_SELECTOR = 11, BINDINGS = CLASSES * SELECTORS;
    // The draft is kept in the row behind the last BODY, so there is one row more than BODIES.
    private static final int BODIES = 12, TOKENS = 32, TOKEN_CELLS = (BODIES + 1) * TOKENS;
    private static final int BLOCKS_AROUND = 3, STEPS = 200, AT_WORK = 12, SAID = 20;

    private static final long FIRST_OBJECT = 2 * NIL, FIRST_BLOCK = 3 * NIL;
    // No more than these are ever REACHABLE, so the next one always finds the place of one that is not.
    private static final int THINGS = 24, THING_FIELDS = THINGS * FIELDS;
    // 12 at work are each within at most three others, and 24 BLOCKS lead to at most three each: 120 can be kept at once.
    private static final int ACTIVATIONS = 128, VARIABLES = 7, ACTIVATION_VARIABLES = ACTIVATIONS * VARIABLES;
    private static final int SELF_AT = 0, ARGS_AT = 1, TEMPS_AT = 3, PARAM_AT = 6;
    // In each ACTIVATION at work all TOKENS can be operators under way (the last one a SUPER without operands), the latest of
    // which becomes the base of the next one; the base of the first one, which no operator began, is one more.
    private static final int FRAMES = 1 + AT_WORK * TOKENS, OPERANDS = 3, FRAME_OPERANDS = FRAMES * OPERANDS;
    private static final int NODES = THINGS + ACTIVATIONS;

    private static final int RUNNING = 100, NEVER_RUN = 101;
    private static final int READ = 0, HAND_ON = 1, APPLY = 2;
    private static final int FIRST_ONE = 0, SECOND_ONE = 1, SECOND_ONE_OF_RETURN = 2;
    // A run of 200 STEPS reads fewer than 7000 TOKENS.
    private static final int TURNS = 1000000;

    private int classCount = FIRST_MADE;
    private final int[] classParent = new int[CLASSES];
    private final int[] classFields = new int[CLASSES];
    private final int[] bound = new int[BINDINGS];

    private final int[] tokenKind = new int[TOKEN_CELLS];
    private final int[] tokenValue = new int[TOKEN_CELLS];
    private int bodyCount = 0;
    private int draftCount = 0;
    private int wrongPlace = NONE;

    private final long[] globals = new long[GLOBALS];

    // OBJECTS and BLOCKS, known by what they are shown as: a NUMBER stays when the place is given to another.
    private final long[] thingShown = new long[THINGS];
    private final int[] thingClass = new int[THINGS];
    private final long[] thingFields = new long[THING_FIELDS];
    private final int[] thingToken = new int[THINGS];
    private final int[] thingMaker = new int[THINGS];
    private int madeCount = 0;

    private final long[] variables = new long[ACTIVATION_VARIABLES];
    private final int[] homeOf = new int[ACTIVATIONS];
    private final int[] within = new int[ACTIVATIONS];
    private final int[] foundIn = new int[ACTIVATIONS];
    private final int[] baseFrame = new int[ACTIVATIONS];

    // A frame is an operator under way, or the base of an ACTIVATION (no token; stage and link lead back to its caller).
    private final int[] frameToken = new int[FRAMES];
    private final int[] frameStage = new int[FRAMES];
    private final int[] frameLink = new int[FRAMES];
    private final long[] operands = new long[FRAME_OPERANDS];
    private int frameCount = 0;

    private int current = NONE;
    private int next = 0;
    private long inHand = NIL;
    private int mode = READ;
    private int outcome = NEVER_RUN;

    private int stepCount = 0;
    private int atWork = 0;
    private int mostAtWork = 0;
    private int saidCount = 0;
    private final long[] saidValues = new long[SAID];

    private final boolean[] marked = new boolean[NODES];
    private final int[] pending = new int[NODES];
    private int pendingCount = 0;

    public SendBench() {
        classParent[0] = NONE;
        for (int i = 0; i < BINDINGS; i++) bound[i] = NONE;
        for (int k = 0; k < GLOBALS; k++) globals[k] = NIL;
        for (int a = 0; a < ACTIVATIONS; a++) baseFrame[a] = NONE;
    }

    public int cls(int parent, int fields) {
        if (!canHaveObjects(parent) || fields < 0 || fields > FIELDS - classFields[parent]) return BAD;
        if (classCount == CLASSES) return NOROOM;
        classParent[classCount] = parent;
        classFields[classCount] = classFields[parent] + fields;
        classCount++;
        return classCount - 1;
    }

    public int token(int kind, int value) {
        if (kind < 0 || kind >= KINDS || !valueFits(kind, value)) return BAD;
        if (draftCount == TOKENS) return NOROOM;
        int at = bodyCount * TOKENS + draftCount;
        tokenKind[at] = kind;
        tokenValue[at] = value;
        draftCount++;
        return draftCount;
    }

    public int wipe() {
        int had = draftCount;
        draftCount = 0;
        return had;
    }

    public int body() {
        if (bodyCount == BODIES) return NOROOM;
        wrongPlace = findWrongPlace();
        draftCount = 0;
        if (wrongPlace != NONE) return SHAPE;
        bodyCount++;
        return bodyCount - 1;
    }

    public int place() {
        return wrongPlace;
    }

    public boolean bind(int c, int s, int b) {
        if (!isClass(c) || !isSelector(s) || b < NONE || b >= bodyCount) return false;
        if (b != NONE && usesArgFrom(b, s / 4)) return false;
        bound[c * SELECTORS + s] = b;
        return true;
    }

    public boolean global(int k, int v) {
        if (!isGlobal(k)) return false;
        globals[k] = v;
        return true;
    }

    public int create(int k, int c) {
        if (!isGlobal(k) || !canHaveObjects(c)) return BAD;
        int made = makeThing(FIRST_OBJECT, c);
        if (made == NONE) return NOROOM;
        globals[k] = thingShown[made];
        return madeCount - 1;
    }

    public int send(int s, int k, int a, int b) {
        if (!isSelector(s) || !isGlobal(k)) return BAD;
        startRun();
        pushFrame(NONE);
        operands[0] = globals[k];
        if (s / 4 > 0) operands[1] = a;
        if (s / 4 > 1) operands[2] = b;
        int c = classOf(globals[k]);
        sendMessage(s, c);
        for (int turn = 0; turn < TURNS && outcome == RUNNING; turn++) {
            if (mode == READ) readToken();
            else if (mode == HAND_ON) handOn();
            else applyOperator();
        }
        endRun();
        return outcome;
    }

    public long result() {
        return outcome == OK ? inHand : -NIL;
    }

    public long read(int k) {
        return isGlobal(k) ? globals[k] : -NIL;
    }

    public long field(int k, int j) {
        if (!isGlobal(k)) return -NIL;
        int at = fieldPlace(globals[k], j);
        return at == NONE ? -NIL : thingFields[at];
    }

    public int finds(int c, int s) {
        if (!isClass(c) || !isSelector(s)) return NONE;
        return classThatHas(c, s);
    }

    public int reachable() {
        return markReachable();
    }

    public int says() {
        return saidCount;
    }

    public long said(int k) {
        return k >= 0 && k < SAID && k < saidCount ? saidValues[k] : -NIL;
    }

    public int taken(int what) {
        switch (what) {
            case 0: return stepCount;
            case 1: return mostAtWork;
            case 2: return madeCount;
            case 3: return classCount;
            case 4: return bodyCount;
            default: return NONE;
        }
    }

    private boolean isClass(int c) {
        return c >= 0 && c < classCount;
    }

    private boolean canHaveObjects(int c) {
        return c == 0 || c >= FIRST_MADE && c < classCount;
    }

    private boolean isSelector(int s) {
        return s >= 0 && s < SELECTORS;
    }

    private boolean isGlobal(int k) {
        return k >= 0 && k < GLOBALS;
    }

    // ---- the shape of a BODY

    private boolean valueFits(int kind, int v) {
        switch (kind) {
            case ARG: case BLOCK: return v >= 0 && v < 2;
            case TEMP: case SET: case PARAM: return v >= 0 && v < 3;
            case FIELD: case PUT: return v >= 0 && v < FIELDS;
            case GLOBAL: case STORE: return v >= 0 && v < GLOBALS;
            case SEND: case SUPER: return v >= 0 && v < SELECTORS;
            case NEW: return v >= 0 && v < CLASSES;
            case BIND: return v >= 0 && v / 256 < CLASSES && v / 16 % 16 < SELECTORS && v % 16 < BODIES;
            default: return true;
        }
    }

    private int operandsOf(int kind, int v) {
        switch (kind) {
            case SET: case PUT: case STORE: case BLOCK: case CALL: case RETURN: case SAY: case CLASS: return 1;
            case GIVE: case THEN: case ADD: case SUB: case MUL: case LESS: case SAME: case WHILE: case ENSURE: return 2;
            case IF: return 3;
            case SEND: return 1 + v / 4;
            case SUPER: return v / 4;
            default: return 0;
        }
    }

    private int endOfExpression(int at) {
        int missing = 1;
        int end = at;
        while (missing > 0 && end < TOKEN_CELLS) {
            missing += operandsOf(tokenKind[end], tokenValue[end]) - 1;
            end++;
        }
        return end;
    }

    private int findWrongPlace() {
        int start = bodyCount * TOKENS;
        int missing = 1;
        for (int i = 0; i < draftCount; i++) {
            int at = start + i;
            if (missing == 0 || !tokenFits(start, at)) return i;
            missing += operandsOf(tokenKind[at], tokenValue[at]) - 1;
        }
        return missing == 0 ? NONE : draftCount;
    }

    private boolean tokenFits(int start, int at) {
        int v = tokenValue[at];
        int block;
        switch (tokenKind[at]) {
            case BLOCK:
                return blockAround(start, at, BLOCKS_AROUND - 1) == NONE;
            case PARAM:
                block = blockAround(start, at, v);
                return block != NONE && tokenValue[block] == 1;
            case NEW:
                return canHaveObjects(v);
            case BIND:
                return isClass(v / 256) && v % 16 < bodyCount && !usesArgFrom(v % 16, v / 16 % 16 / 4);
            default:
                return true;
        }
    }

    private int blockAround(int start, int at, int outwards) {
        int left = outwards;
        for (int block = at - 1; block >= start; block--) {
            if (tokenKind[block] == BLOCK && lacksSomething(block, at)) {
                if (left == 0) return block;
                left--;
            }
        }
        return NONE;
    }

    private boolean lacksSomething(int from, int before) {
        int missing = 1;
        for (int at = from; at < before && missing > 0; at++) missing += operandsOf(tokenKind[at], tokenValue[at]) - 1;
        return missing > 0;
    }

    private boolean usesArgFrom(int b, int first) {
        int end = endOfExpression(b * TOKENS);
        for (int at = b * TOKENS; at < end; at++) {
            if (tokenKind[at] == ARG && tokenValue[at] >= first) return true;
        }
        return false;
    }

    // ---- VALUES

    private boolean isInt(long v) {
        return v < NIL;
    }

    private int thingOf(long v) {
        if (v < FIRST_OBJECT) return NONE;
        for (int t = 0; t < THINGS; t++) {
            if (thingShown[t] == v) return t;
        }
        return NONE;
    }

    private int classOf(long v) {
        if (isInt(v)) return CLASS_OF_INTS;
        int t = thingOf(v);
        return t == NONE ? CLASS_OF_NIL : thingClass[t];
    }

    private int fieldPlace(long v, int j) {
        int t = thingOf(v);
        if (t == NONE || j < 0 || j >= classFields[thingClass[t]]) return NONE;
        return t * FIELDS + j;
    }

    private int classThatHas(int c, int s) {
        int in = c;
        for (int n = 0; n < CLASSES && in != NONE; n++) {
            if (bound[in * SELECTORS + s] != NONE) return in;
            in = classParent[in];
        }
        return NONE;
    }

    // ---- what can be reached

    private void markThing(long v) {
        if (v < FIRST_OBJECT) return;
        for (int t = 0; t < THINGS; t++) {
            if (thingShown[t] == v && !marked[t]) {
                marked[t] = true;
                pending[pendingCount] = t;
                pendingCount++;
            }
        }
    }

    private void markActivation(int a) {
        if (a == NONE || marked[THINGS + a]) return;
        marked[THINGS + a] = true;
        pending[pendingCount] = THINGS + a;
        pendingCount++;
    }

    private int markReachable() {
        pendingCount = 0;
        for (int n = 0; n < NODES; n++) marked[n] = false;
        for (int k = 0; k < GLOBALS; k++) markThing(globals[k]);
        for (int i = 0; i < frameCount * OPERANDS; i++) markThing(operands[i]);
        for (int a = 0; a < ACTIVATIONS; a++) {
            if (baseFrame[a] != NONE) markActivation(a);
        }
        for (int i = 0; i < NODES && i < pendingCount; i++) {
            int node = pending[i];
            if (node < THINGS) {
                for (int j = 0; j < FIELDS; j++) markThing(thingFields[node * FIELDS + j]);
                markActivation(thingMaker[node]);
            } else {
                int a = node - THINGS;
                for (int j = 0; j < VARIABLES; j++) markThing(variables[a * VARIABLES + j]);
                markActivation(within[a]);
            }
        }
        int things = 0;
        for (int t = 0; t < THINGS; t++) {
            if (marked[t]) things++;
        }
        return things;
    }

    private int makeThing(long first, int c) {
        int reached = markReachable();
        if (reached >= THINGS) return NONE;
        int t = 0;
        while (t < THINGS - 1 && marked[t]) t++;
        // What had this place before must not be led to from here.
        for (int j = 0; j < FIELDS; j++) thingFields[t * FIELDS + j] = NIL;
        thingMaker[t] = NONE;
        thingShown[t] = first + madeCount;
        thingClass[t] = c;
        madeCount++;
        return t;
    }

    // ---- a run

    private void startRun() {
        outcome = RUNNING;
        mode = READ;
        current = NONE;
        next = 0;
        stepCount = 0;
        mostAtWork = 0;
        saidCount = 0;
    }

    /** A run that was ended leaves ACTIVATIONS behind: their BLOCKS must find them at work no more. */
    private void endRun() {
        for (int a = 0; a < ACTIVATIONS; a++) baseFrame[a] = NONE;
        frameCount = 0;
        atWork = 0;
    }

    private void pushFrame(int at) {
        int frame = frameCount;
        frameToken[frame] = at;
        frameStage[frame] = 0;
        frameLink[frame] = NONE;
        frameCount++;
        clearOperands(frame);
    }

    private void clearOperands(int frame) {
        for (int i = 0; i < OPERANDS; i++) operands[frame * OPERANDS + i] = NIL;
    }

    private boolean takeStep() {
        if (stepCount == STEPS) {
            outcome = LONG;
            return false;
        }
        stepCount++;
        return true;
    }

    private void readToken() {
        int at = next;
        int kind = tokenKind[at];
        int v = tokenValue[at];
        int needed = operandsOf(kind, v);
        mode = HAND_ON;
        if (kind == BLOCK) makeBlock(at);
        else if (kind == NEW) makeObject(v);
        else if (kind == SUPER) openSuper(at, needed);
        else if (needed > 0) openOperator(at, kind);
        else inHand = simpleValue(kind, v);
        next = kind == BLOCK ? endOfExpression(at) : at + 1;
    }

    private void makeBlock(int at) {
        int t = makeThing(FIRST_BLOCK, CLASS_OF_BLOCKS);
        if (t == NONE) {
            outcome = FULL;
            return;
        }
        thingToken[t] = at;
        thingMaker[t] = current;
        inHand = thingShown[t];
    }

    private void makeObject(int c) {
        int t = makeThing(FIRST_OBJECT, c);
        if (t == NONE) outcome = FULL;
        else inHand = thingShown[t];
    }

    private void openOperator(int at, int kind) {
        if (kind == WHILE && !takeStep()) return;
        pushFrame(at);
        mode = READ;
    }

    /** SELF stands where a SEND has what it is sent to, so that both go on in the same way. */
    private void openSuper(int at, int needed) {
        int frame = frameCount;
        pushFrame(at);
        operands[frame * OPERANDS] = selfOfHome();
        frameStage[frame] = 1;
        mode = needed == 0 ? APPLY : READ;
    }

    private long simpleValue(int kind, int v) {
        int home = homeOf[current] * VARIABLES;
        switch (kind) {
            case NUM: return v;
            case NOTHING: return NIL;
            case SELF: return selfOfHome();
            case ARG: return variables[home + ARGS_AT + v];
            case TEMP: return variables[home + TEMPS_AT + v];
            case FIELD: return fieldOfSelf(v);
            case GLOBAL: return globals[v];
            case PARAM: return paramOf(v);
            case BIND: bound[v / 256 * SELECTORS + v / 16 % 16] = v % 16; return NIL;
            default: return NIL;
        }
    }

    private long selfOfHome() {
        return variables[homeOf[current] * VARIABLES + SELF_AT];
    }

    private long fieldOfSelf(int j) {
        long self = selfOfHome();
        int at = fieldPlace(self, j);
        if (at != NONE) return thingFields[at];
        outcome = KIND;
        return NIL;
    }

    private long paramOf(int j) {
        int a = current;
        for (int n = 0; n < j && within[a] != NONE; n++) a = within[a];
        return variables[a * VARIABLES + PARAM_AT];
    }

    private void handOn() {
        int frame = frameCount - 1;
        int at = frameToken[frame];
        if (at == NONE) {
            endActivation();
            if (frameCount == 0) outcome = OK;
            return;
        }
        switch (tokenKind[at]) {
            case THEN: afterThen(); break;
            case IF: afterIf(frame); break;
            case WHILE: afterWhile(frame); break;
            case ENSURE: afterEnsure(frame); break;
            default: addOperand(frame, at);
        }
    }

    private void addOperand(int frame, int at) {
        int kind = tokenKind[at];
        int all = operandsOf(kind, tokenValue[at]);
        if (kind == SUPER) all++;
        operands[frame * OPERANDS + frameStage[frame]] = inHand;
        frameStage[frame]++;
        mode = frameStage[frame] < all ? READ : APPLY;
    }

    /** The second one is worth what the THEN is worth, so nothing is left to do for it. */
    private void afterThen() {
        frameCount--;
        mode = READ;
    }

    private void afterIf(int frame) {
        boolean secondIsDone = frameStage[frame] == SECOND_ONE;
        if (!secondIsDone) mode = READ;
        if (!secondIsDone && isSo(inHand)) {
            frameStage[frame] = SECOND_ONE;
            return;
        }
        // One of the two is left out: the third one behind the second, or the second before the third.
        next = endOfExpression(next);
        frameCount--;
    }

    private void afterWhile(int frame) {
        if (frameStage[frame] == SECOND_ONE) {
            if (!takeStep()) return;
            frameStage[frame] = FIRST_ONE;
            next = frameToken[frame] + 1;
            mode = READ;
            return;
        }
        if (isSo(inHand)) {
            frameStage[frame] = SECOND_ONE;
            mode = READ;
            return;
        }
        next = endOfExpression(next);
        inHand = NIL;
        frameCount--;
    }

    private boolean isSo(long v) {
        return v != NIL && v != 0;
    }

    private void afterEnsure(int frame) {
        long first = operands[frame * OPERANDS];
        if (frameStage[frame] == FIRST_ONE) {
            operands[frame * OPERANDS] = inHand;
            frameStage[frame] = SECOND_ONE;
            mode = READ;
        } else if (frameStage[frame] == SECOND_ONE) {
            inHand = first;
            frameCount--;
        } else {
            frameCount--;
            goHome(frameLink[frame], first);
        }
    }

    private void applyOperator() {
        int frame = frameCount - 1;
        int at = frameToken[frame];
        int kind = tokenKind[at];
        long first = operands[frame * OPERANDS];
        long second = operands[frame * OPERANDS + 1];
        if (kind == SEND) {
            int c = classOf(first);
            sendMessage(tokenValue[at], c);
            return;
        }
        if (kind == SUPER) {
            sendMessage(tokenValue[at], classParent[foundIn[homeOf[current]]]);
            return;
        }
        if (kind == CALL || kind == GIVE) {
            callBlock(first, second, kind == GIVE ? 1 : 0);
            return;
        }
        frameCount--;
        mode = HAND_ON;
        if (kind == RETURN) startReturn(first);
        else if (kind == SAME) inHand = first == second ? 1 : 0;
        else if (kind >= ADD && kind <= LESS) inHand = reckon(kind, first, second);
        else inHand = effect(kind, tokenValue[at], first);
    }

    private long reckon(int kind, long first, long second) {
        if (!isInt(first) || !isInt(second)) {
            outcome = KIND;
            return NIL;
        }
        switch (kind) {
            case ADD: return (int) (first + second);
            case SUB: return (int) (first - second);
            case MUL: return (int) (first * second);
            default: return first < second ? 1 : 0;
        }
    }

    private long effect(int kind, int v, long worth) {
        switch (kind) {
            case SET: variables[homeOf[current] * VARIABLES + TEMPS_AT + v] = worth; break;
            case PUT: putField(v, worth); break;
            case STORE: globals[v] = worth; break;
            case SAY: say(worth); break;
            case CLASS: return classOf(worth);
            default: break;
        }
        return worth;
    }

    private void putField(int j, long worth) {
        long self = selfOfHome();
        int at = fieldPlace(self, j);
        if (at == NONE) outcome = KIND;
        else thingFields[at] = worth;
    }

    private void say(long worth) {
        if (saidCount < SAID) saidValues[saidCount] = worth;
        saidCount++;
    }

    // ---- ACTIVATIONS

    private void sendMessage(int selector, int lookIn) {
        int at = (frameCount - 1) * OPERANDS;
        long receiver = operands[at];
        long first = operands[at + 1];
        long second = operands[at + 2];
        int s = selector;
        int found = classThatHas(lookIn, s);
        if (found == NONE) {
            int c = classOf(receiver);
            second = first;
            first = selector;
            s = NOT_FOUND_SELECTOR;
            found = classThatHas(c, s);
        }
        if (found == NONE) {
            outcome = STRANGE;
            return;
        }
        int a = beginActivation(bound[found * SELECTORS + s] * TOKENS);
        if (a == NONE) return;
        variables[a * VARIABLES + SELF_AT] = receiver;
        variables[a * VARIABLES + ARGS_AT] = first;
        variables[a * VARIABLES + ARGS_AT + 1] = second;
        homeOf[a] = a;
        within[a] = NONE;
        foundIn[a] = found;
    }

    private void callBlock(long block, long param, int params) {
        int t = thingOf(block);
        if (t == NONE || thingClass[t] != CLASS_OF_BLOCKS || tokenValue[thingToken[t]] != params) {
            outcome = KIND;
            return;
        }
        int a = beginActivation(thingToken[t] + 1);
        if (a == NONE) return;
        variables[a * VARIABLES + PARAM_AT] = param;
        within[a] = thingMaker[t];
        homeOf[a] = homeOf[thingMaker[t]];
    }

    /** The operator's frame becomes the base of the ACTIVATION: its operands wait until then, and no longer. */
    private int beginActivation(int firstToken) {
        if (!takeStep()) return NONE;
        if (atWork == AT_WORK) {
            outcome = DEEP;
            return NONE;
        }
        markReachable();
        int a = 0;
        while (a < ACTIVATIONS - 1 && marked[THINGS + a]) a++;
        for (int i = 0; i < VARIABLES; i++) variables[a * VARIABLES + i] = NIL;
        int frame = frameCount - 1;
        clearOperands(frame);
        frameToken[frame] = NONE;
        frameStage[frame] = next;
        frameLink[frame] = current;
        baseFrame[a] = frame;
        current = a;
        next = firstToken;
        mode = READ;
        atWork++;
        if (atWork > mostAtWork) mostAtWork = atWork;
        return a;
    }

    private void endActivation() {
        frameCount--;
        baseFrame[current] = NONE;
        next = frameStage[frameCount];
        current = frameLink[frameCount];
        atWork--;
    }

    private void startReturn(long worth) {
        int home = homeOf[current];
        if (baseFrame[home] == NONE) outcome = DEAD;
        else goHome(home, worth);
    }

    /** Ends what began after the HOME, down to the latest ENSURE whose second one is due, or to the HOME itself. */
    private void goHome(int home, long worth) {
        int base = baseFrame[home];
        for (int frame = frameCount - 1; frame > base; frame--) {
            int at = frameToken[frame];
            if (at == NONE) {
                endActivation();
            } else if (tokenKind[at] == ENSURE && frameStage[frame] == FIRST_ONE) {
                frameStage[frame] = SECOND_ONE_OF_RETURN;
                frameLink[frame] = home;
                operands[frame * OPERANDS] = worth;
                next = endOfExpression(at + 1);
                mode = READ;
                return;
            } else {
                frameCount--;
            }
        }
        inHand = worth;
        mode = HAND_ON;
    }
}
