/** A little language on a machine of 16-bit words. README.md tells how it is used. */
public final class ShortMill {
    public static final int NONE = -1;

    private static final int TEXT_LIMIT = 160;
    private static final int LAST_TOKEN = 191;
    private static final int MOST_WORDS = 4;
    private static final int MOST_STATEMENTS = 200;
    private static final int LOWEST = -32768;
    private static final int HIGHEST = 32767;

    private static final int GLOBALS = 8;
    private static final int ARRAYS = 4;
    private static final int PLACES = 8;
    private static final int LOCALS = 8;
    private static final int FUNCTIONS = 6;

    private final Text text = new Text();
    private final Keys keys = new Keys();
    private final Program program = new Program();
    private final Program draft = new Program();
    private final Grammar grammar = new Grammar(text, draft);
    private final Machine machine = new Machine(program, keys);

    public ShortMill() {
    }

    public int words(int four, int n) throws IllegalArgumentException, IllegalStateException {
        if (n < 1 || n > MOST_WORDS) {
            throw new IllegalArgumentException("n is not 1 .. 4");
        }
        for (int k = 0; k < n; k++) {
            if (byteOf(four, k) > LAST_TOKEN) {
                throw new IllegalArgumentException("a token is above 191");
            }
        }
        if (text.length() + n > TEXT_LIMIT) {
            throw new IllegalStateException("the text would have more than 160 tokens");
        }
        for (int k = n - 1; k >= 0; k--) {
            text.add(byteOf(four, k));
        }
        return text.length();
    }

    public int compile() {
        int fault = grammar.fault();
        text.clear();
        if (fault != 0) {
            return fault;
        }
        program.copy(draft);
        machine.clear();
        return program.functions();
    }

    public boolean start() throws IllegalStateException {
        // Every program has f0, so one without functions is none.
        if (program.functions() == 0) {
            throw new IllegalStateException("there is no program");
        }
        machine.begin();
        return true;
    }

    public int key(int v) throws IllegalArgumentException, IllegalStateException {
        if (v < LOWEST || v > HIGHEST) {
            throw new IllegalArgumentException("a key is not -32768 .. 32767");
        }
        if (keys.full()) {
            throw new IllegalStateException("there are 8 keys");
        }
        keys.add(v);
        return keys.count();
    }

    public int run(int n) throws IllegalArgumentException, IllegalStateException {
        if (n < 1 || n > MOST_STATEMENTS) {
            throw new IllegalArgumentException("n is not 1 .. 200");
        }
        if (machine.state() == Machine.NOTHING) {
            throw new IllegalStateException("nothing was started");
        }
        return machine.go(n);
    }

    public int shown(int i) throws IndexOutOfBoundsException {
        if (!machine.hasShown(i)) {
            throw new IndexOutOfBoundsException("no such number was shown");
        }
        return machine.shownAt(i);
    }

    public int global(int g) throws IndexOutOfBoundsException {
        if (g < 0 || g >= GLOBALS) {
            throw new IndexOutOfBoundsException("a global is not 0 .. 7");
        }
        return machine.globalAt(g);
    }

    public int array(int a, int i) throws IndexOutOfBoundsException {
        if (a < 0 || a >= ARRAYS || i < 0 || i >= PLACES) {
            throw new IndexOutOfBoundsException("an array is not 0 .. 3, or a place not 0 .. 7");
        }
        return machine.placeAt(a, i);
    }

    public int about(int what) {
        switch (what) {
            case 0: return machine.state();
            case 1: return text.length();
            case 2: return program.functions();
            case 3: return machine.begun();
            case 4: return machine.countShown();
            case 5: return keys.count();
            case 6: return machine.running();
            default: return NONE;
        }
    }

    private static int byteOf(int four, int k) {
        return (four >>> (8 * k)) & 255;
    }

    /** The tokens that have come since the last compile. */
    private static final class Text {
        private static final int END = -1;

        private final int[] tokens = new int[TEXT_LIMIT];
        private int length = 0;

        int length() {
            return length;
        }

        int at(int place) {
            return place >= 0 && place < length && place < tokens.length ? tokens[place] : END;
        }

        void add(int token) {
            if (length >= 0 && length < tokens.length) {
                tokens[length] = token;
                length++;
            }
        }

        void clear() {
            length = 0;
        }
    }

    /** The keys that no read has taken yet, the oldest first. */
    private static final class Keys {
        private static final int MOST = 8;
        private static final int MASK = MOST - 1;

        private final int[] ring = new int[MOST];
        private int first = 0;
        private int count = 0;

        int count() {
            return count;
        }

        boolean full() {
            return count >= MOST;
        }

        void add(int v) {
            if (count < MOST) {
                ring[(first + count) & MASK] = v;
                count++;
            }
        }

        int take() {
            if (count == 0) {
                return 0;
            }
            int v = ring[first & MASK];
            first = (first + 1) & MASK;
            count--;
            return v;
        }
    }

    /**
     * Functions as steps of a stack machine: a read that waits inside a value can then go on
     * later with nothing but the place of the next step and the stack. Every piece of a text
     * has at least as many tokens as steps, so TEXT_LIMIT steps hold every text.
     */
    private static final class Program {
        // The steps of + - * / % < == ! are the tokens themselves; the others lie above them.
        // LEAVE is 0, so that a place without a step would end the function.
        private static final int LEAVE = 0;
        private static final int BEGIN = 32;
        private static final int NUMBER = 33;
        private static final int READ = 34;
        private static final int NEGATE = 35;
        private static final int GET_GLOBAL = 36;
        private static final int SET_GLOBAL = 37;
        private static final int GET_LOCAL = 38;
        private static final int SET_LOCAL = 39;
        private static final int GET_PLACE = 40;
        private static final int SET_PLACE = 41;
        private static final int CALL = 42;
        private static final int DROP = 43;
        private static final int SHOW = 44;
        private static final int JUMP = 45;
        private static final int JUMP_IF_ZERO = 46;

        private static final int ABSENT = -1;

        private final int[] steps = new int[TEXT_LIMIT];
        private final int[] operands = new int[TEXT_LIMIT];
        private final int[] entries = new int[FUNCTIONS];
        // One more than the number of parameters, so that 0 is a function that there is not.
        private final int[] signs = new int[FUNCTIONS];
        private int length = 0;
        private int functions = 0;

        int functions() {
            return functions;
        }

        int stepAt(int place) {
            return place >= 0 && place < steps.length ? steps[place] : LEAVE;
        }

        int operandAt(int place) {
            return place >= 0 && place < operands.length ? operands[place] : 0;
        }

        int entryOf(int f) {
            return f >= 0 && f < entries.length ? entries[f] : 0;
        }

        int parametersOf(int f) {
            return f >= 0 && f < signs.length ? signs[f] - 1 : ABSENT;
        }

        void clear() {
            for (int f = 0; f < FUNCTIONS; f++) {
                signs[f] = 0;
            }
            length = 0;
            functions = 0;
        }

        void addFunction(int f, int parameters) {
            if (f >= 0 && f < FUNCTIONS) {
                entries[f] = length;
                signs[f] = parameters + 1;
                functions++;
            }
        }

        /** Answers where the step is, for a jump that is aimed later. */
        int add(int step, int operand) {
            int place = length;
            if (place >= 0 && place < steps.length && place < operands.length) {
                steps[place] = step;
                operands[place] = operand;
                length++;
            }
            return place;
        }

        /** Lets a jump go to the step that is added next. */
        void aim(int jump) {
            if (jump >= 0 && jump < operands.length) {
                operands[jump] = length;
            }
        }

        void copy(Program other) {
            for (int k = 0; k < TEXT_LIMIT; k++) {
                steps[k] = other.steps[k];
                operands[k] = other.operands[k];
            }
            for (int f = 0; f < FUNCTIONS; f++) {
                entries[f] = other.entries[f];
                signs[f] = other.signs[f];
            }
            length = other.length;
            functions = other.functions;
        }
    }

    /** Reads the text into a program, or finds what is wrong first. */
    private static final class Grammar {
        private static final int IF = 0;
        private static final int ELSE = 1;
        private static final int WHILE = 2;
        private static final int RETURN = 3;
        private static final int PRINT = 4;
        private static final int READ = 5;
        private static final int OPEN = 6;
        private static final int CLOSE = 7;
        private static final int OPEN_BLOCK = 8;
        private static final int CLOSE_BLOCK = 9;
        private static final int SEMICOLON = 10;
        private static final int COMMA = 11;
        private static final int SET = 12;
        private static final int PLUS = 13;
        private static final int MINUS = 14;
        private static final int TIMES = 15;
        private static final int DIVIDE = 16;
        private static final int REST = 17;
        private static final int LESS = 18;
        private static final int SAME = 19;
        private static final int NOT = 20;
        private static final int OPEN_PLACE = 21;
        private static final int CLOSE_PLACE = 22;
        private static final int FN = 23;
        private static final int FIRST_GLOBAL = 32;
        private static final int FIRST_ARRAY = 40;
        private static final int FIRST_LOCAL = 44;
        private static final int FIRST_FUNCTION = 52;
        private static final int FIRST_NUMBER = 64;
        private static final int NUMBERS = 128;

        private static final int MISFIT = 1;
        private static final int TWICE = 2;
        private static final int NESTED = 3;
        private static final int UNKNOWN = 4;
        private static final int MISCOUNT = 5;
        private static final int NO_MAIN = 6;

        private static final int MOST_PARAMETERS = 3;
        private static final int MOST_OTHERS = 3;
        private static final int NO_CALL = -1;

        private final Text text;
        private final Program draft;
        // By the place of a token: with how many arguments it calls. A call of a function
        // that stands further on can be looked at only when all is read.
        private final int[] arguments = new int[TEXT_LIMIT];
        private int place = 0;
        private int error = 0;
        private int errorPlace = 0;

        Grammar(Text text, Program draft) {
            this.text = text;
            this.draft = draft;
        }

        /** 0 if the draft is the text's program, otherwise compile's answer for the error. */
        int fault() {
            clear();
            for (int k = 0; k < TEXT_LIMIT && now() != Text.END; k++) {
                readFunction();
            }
            checkCalls();
            place = text.length();
            if (draft.parametersOf(0) != 0) {
                fail(NO_MAIN);
            }
            return -1000 * error - errorPlace;
        }

        private void clear() {
            draft.clear();
            for (int k = 0; k < TEXT_LIMIT; k++) {
                arguments[k] = NO_CALL;
            }
            place = 0;
            error = 0;
            errorPlace = 0;
        }

        private int now() {
            return text.at(place);
        }

        private void next() {
            place++;
        }

        private void expect(int token) {
            if (text.at(place) == token) {
                place++;
            } else {
                fail(MISFIT);
            }
        }

        /** Only the first error counts; behind it the text looks ended, so that reading stops. */
        private void fail(int which) {
            if (error == 0) {
                error = which;
                errorPlace = place;
            }
            place = TEXT_LIMIT;
        }

        private void readFunction() {
            expect(FN);
            int f = now() - FIRST_FUNCTION;
            if (f < 0 || f >= FUNCTIONS) {
                fail(MISFIT);
                return;
            }
            if (draft.parametersOf(f) != Program.ABSENT) {
                fail(TWICE);
                return;
            }
            next();
            int parameters = now() - FIRST_NUMBER;
            if (parameters < 0 || parameters > MOST_PARAMETERS) {
                fail(MISFIT);
                return;
            }
            next();
            draft.addFunction(f, parameters);
            readBlock(0);
            draft.add(Program.NUMBER, 0);
            draft.add(Program.LEAVE, 0);
        }

        /** The depth is looked at before the token: the error is there whatever that is. */
        private void readBlock(int others) {
            if (others > MOST_OTHERS) {
                fail(NESTED);
                return;
            }
            expect(OPEN_BLOCK);
            for (int k = 0; k < TEXT_LIMIT && error == 0 && now() != CLOSE_BLOCK; k++) {
                readStatement(others);
            }
            expect(CLOSE_BLOCK);
        }

        private void readStatement(int others) {
            int begin = draft.add(Program.BEGIN, 0);
            int token = now();
            if (token == IF) {
                readIf(others);
            } else if (token == WHILE) {
                readWhile(others, begin);
            } else if (token == RETURN) {
                readWord(Program.LEAVE);
            } else if (token == PRINT) {
                readWord(Program.SHOW);
            } else if (isOf(token, FIRST_FUNCTION, FUNCTIONS)) {
                readCall(0);
                draft.add(Program.DROP, 0);
                expect(SEMICOLON);
            } else {
                readSetting(token);
            }
        }

        private void readIf(int others) {
            next();
            readChoice();
            int jump = draft.add(Program.JUMP_IF_ZERO, 0);
            readBlock(others + 1);
            if (now() == ELSE) {
                next();
                int over = draft.add(Program.JUMP, 0);
                draft.aim(jump);
                readBlock(others + 1);
                draft.aim(over);
            } else {
                draft.aim(jump);
            }
        }

        private void readWhile(int others, int begin) {
            next();
            readChoice();
            int jump = draft.add(Program.JUMP_IF_ZERO, 0);
            readBlock(others + 1);
            draft.add(Program.JUMP, begin);
            draft.aim(jump);
        }

        private void readChoice() {
            expect(OPEN);
            readValue(0);
            expect(CLOSE);
        }

        private void readWord(int step) {
            next();
            readValue(0);
            draft.add(step, 0);
            expect(SEMICOLON);
        }

        private void readSetting(int token) {
            boolean global = isOf(token, FIRST_GLOBAL, GLOBALS);
            boolean local = isOf(token, FIRST_LOCAL, LOCALS);
            boolean array = isOf(token, FIRST_ARRAY, ARRAYS);
            if (!global && !local && !array) {
                fail(MISFIT);
                return;
            }
            next();
            if (array) {
                readIndex(0);
            }
            expect(SET);
            readValue(0);
            expect(SEMICOLON);
            if (global) {
                draft.add(Program.SET_GLOBAL, token - FIRST_GLOBAL);
            } else if (local) {
                draft.add(Program.SET_LOCAL, token - FIRST_LOCAL);
            } else {
                draft.add(Program.SET_PLACE, token - FIRST_ARRAY);
            }
        }

        private void readIndex(int others) {
            expect(OPEN_PLACE);
            readValue(others);
            expect(CLOSE_PLACE);
        }

        /** The arguments, not the call, are in as many other values as others says. */
        private void readCall(int others) {
            int name = place;
            int f = now() - FIRST_FUNCTION;
            next();
            expect(OPEN);
            int count = 0;
            if (now() != CLOSE) {
                readValue(others);
                count = 1;
                while (count < TEXT_LIMIT && now() == COMMA) {
                    next();
                    readValue(others);
                    count++;
                }
            }
            expect(CLOSE);
            if (name >= 0 && name < arguments.length) {
                arguments[name] = count;
            }
            draft.add(Program.CALL, f);
        }

        /** The depth is looked at before the token: the error is there whatever that is. */
        private void readValue(int others) {
            if (others > MOST_OTHERS) {
                fail(NESTED);
                return;
            }
            readSum(others);
            int token = now();
            if (token == LESS || token == SAME) {
                next();
                readSum(others);
                draft.add(token, 0);
            }
        }

        private void readSum(int others) {
            readProduct(others);
            int token = now();
            for (int k = 0; k < TEXT_LIMIT && (token == PLUS || token == MINUS); k++) {
                next();
                readProduct(others);
                draft.add(token, 0);
                token = now();
            }
        }

        private void readProduct(int others) {
            readPart(others);
            int token = now();
            for (int k = 0; k < TEXT_LIMIT && isOf(token, TIMES, REST - TIMES + 1); k++) {
                next();
                readPart(others);
                draft.add(token, 0);
                token = now();
            }
        }

        private void readPart(int others) {
            int token = now();
            if (token == MINUS || token == NOT) {
                next();
                readPiece(others);
                draft.add(token == MINUS ? Program.NEGATE : NOT, 0);
            } else {
                readPiece(others);
            }
        }

        private void readPiece(int others) {
            int token = now();
            if (isOf(token, FIRST_FUNCTION, FUNCTIONS)) {
                readCall(others + 1);
            } else if (isOf(token, FIRST_ARRAY, ARRAYS)) {
                next();
                readIndex(others + 1);
                draft.add(Program.GET_PLACE, token - FIRST_ARRAY);
            } else if (token == OPEN) {
                next();
                readValue(others + 1);
                expect(CLOSE);
            } else {
                readSingle(token);
            }
        }

        private void readSingle(int token) {
            if (isOf(token, FIRST_NUMBER, NUMBERS)) {
                draft.add(Program.NUMBER, token - FIRST_NUMBER);
            } else if (token == READ) {
                draft.add(Program.READ, 0);
            } else if (isOf(token, FIRST_GLOBAL, GLOBALS)) {
                draft.add(Program.GET_GLOBAL, token - FIRST_GLOBAL);
            } else if (isOf(token, FIRST_LOCAL, LOCALS)) {
                draft.add(Program.GET_LOCAL, token - FIRST_LOCAL);
            } else {
                fail(MISFIT);
                return;
            }
            next();
        }

        private void checkCalls() {
            for (int k = 0; k < TEXT_LIMIT && error == 0; k++) {
                if (arguments[k] != NO_CALL) {
                    place = k;
                    checkCall(draft.parametersOf(now() - FIRST_FUNCTION), arguments[k]);
                }
            }
        }

        private void checkCall(int parameters, int count) {
            if (parameters == Program.ABSENT) {
                fail(UNKNOWN);
            } else if (parameters != count) {
                fail(MISCOUNT);
            }
        }

        private static boolean isOf(int token, int first, int count) {
            return token >= first && token < first + count;
        }
    }

    /** Runs the program step by step. */
    private static final class Machine {
        private static final int NOTHING = 0;
        private static final int READY = 1;
        private static final int WAITING = 2;
        private static final int ENDED = 3;
        private static final int DIVIDED = 4;
        private static final int OUTSIDE = 5;
        private static final int DEEP = 6;

        private static final int MOST_RUNNING = 10;
        private static final int KEPT = 32;
        private static final int KEPT_MASK = KEPT - 1;
        // Far above need: a running of a function holds some twenty values at the most, as
        // values lie in one another four deep and a call has at most three arguments.
        private static final int STACK_LIMIT = 512;
        // Far above need: between two beginnings of statements each running function goes
        // through the program's 160 steps once at the most.
        private static final int STEP_LIMIT = 1000000;

        private final Program program;
        private final Keys keys;
        private final int[] globals = new int[GLOBALS];
        private final int[] places = new int[ARRAYS * PLACES];
        private final int[] locals = new int[MOST_RUNNING * LOCALS];
        private final int[] returns = new int[MOST_RUNNING];
        private final int[] stack = new int[STACK_LIMIT];
        private final int[] kept = new int[KEPT];
        private int state = NOTHING;
        private int begun = 0;
        private int shown = 0;
        private int running = 0;
        private int top = 0;
        private int place = 0;

        Machine(Program program, Keys keys) {
            this.program = program;
            this.keys = keys;
        }

        int state() {
            return state;
        }

        int begun() {
            return begun;
        }

        int countShown() {
            return shown;
        }

        int running() {
            return running;
        }

        boolean hasShown(int i) {
            return i >= 0 && i < KEPT && i < shown;
        }

        int shownAt(int i) {
            return kept[(shown - 1 - i) & KEPT_MASK];
        }

        int globalAt(int g) {
            return g >= 0 && g < globals.length ? globals[g] : 0;
        }

        int placeAt(int a, int i) {
            int at = a * PLACES + i;
            return at >= 0 && at < places.length ? places[at] : 0;
        }

        void clear() {
            for (int k = 0; k < GLOBALS; k++) {
                globals[k] = 0;
            }
            for (int k = 0; k < ARRAYS * PLACES; k++) {
                places[k] = 0;
            }
            state = NOTHING;
            begun = 0;
            shown = 0;
            running = 0;
            top = 0;
            place = 0;
        }

        void begin() {
            clear();
            enter(0);
            state = READY;
        }

        int go(int n) {
            if (state == WAITING && keys.count() > 0) {
                state = READY;
            }
            int last = begun + n;
            for (int k = 0; k < STEP_LIMIT && state == READY; k++) {
                int step = program.stepAt(place);
                if (step == Program.BEGIN && begun >= last) {
                    break;
                }
                int operand = program.operandAt(place);
                place++;
                act(step, operand);
            }
            return state;
        }

        private void act(int step, int operand) {
            switch (step) {
                case Program.BEGIN:
                    begun++;
                    break;
                case Program.LEAVE:
                    leave();
                    break;
                case Program.CALL:
                    call(operand);
                    break;
                case Program.DROP:
                    pop();
                    break;
                case Program.SHOW:
                    show(pop());
                    break;
                case Program.READ:
                    read();
                    break;
                case Program.JUMP:
                    place = operand;
                    break;
                case Program.JUMP_IF_ZERO:
                    if (pop() == 0) {
                        place = operand;
                    }
                    break;
                case Program.NUMBER:
                    push(operand);
                    break;
                case Program.NEGATE:
                    push(-pop());
                    break;
                case Grammar.NOT:
                    push(pop() == 0 ? 1 : 0);
                    break;
                default:
                    actOnVariable(step, operand);
                    break;
            }
        }

        private void actOnVariable(int step, int operand) {
            switch (step) {
                case Program.GET_GLOBAL:
                    push(globalAt(operand));
                    break;
                case Program.SET_GLOBAL:
                    setGlobal(operand, pop());
                    break;
                case Program.GET_LOCAL:
                    push(localAt(operand));
                    break;
                case Program.SET_LOCAL:
                    setLocal(operand, pop());
                    break;
                case Program.GET_PLACE:
                    getPlace(operand);
                    break;
                case Program.SET_PLACE:
                    setPlace(operand);
                    break;
                default:
                    combine(step);
                    break;
            }
        }

        private void combine(int token) {
            int second = pop();
            int first = pop();
            switch (token) {
                case Grammar.PLUS:
                    push(first + second);
                    break;
                case Grammar.MINUS:
                    push(first - second);
                    break;
                case Grammar.TIMES:
                    push(first * second);
                    break;
                case Grammar.LESS:
                    push(first < second ? 1 : 0);
                    break;
                case Grammar.SAME:
                    push(first == second ? 1 : 0);
                    break;
                default:
                    divide(token, first, second);
                    break;
            }
        }

        private void divide(int token, int first, int second) {
            if (second == 0) {
                state = DIVIDED;
            } else {
                push(token == Grammar.DIVIDE ? first / second : first % second);
            }
        }

        /** All values wrap to 16 bits here. */
        private void push(int value) {
            if (top >= 0 && top < stack.length) {
                stack[top] = (short) value;
                top++;
            }
        }

        private int pop() {
            if (top < 1 || top > stack.length) {
                return 0;
            }
            top--;
            return stack[top];
        }

        /** Without a key the step is left undone, so that run takes it up again. */
        private void read() {
            if (keys.count() > 0) {
                push(keys.take());
            } else {
                state = WAITING;
                place--;
            }
        }

        private void show(int value) {
            kept[shown & KEPT_MASK] = value;
            shown++;
        }

        private void setGlobal(int g, int value) {
            if (g >= 0 && g < globals.length) {
                globals[g] = value;
            }
        }

        private int localAt(int l) {
            int at = (running - 1) * LOCALS + l;
            return at >= 0 && at < locals.length ? locals[at] : 0;
        }

        private void setLocal(int l, int value) {
            int at = (running - 1) * LOCALS + l;
            if (at >= 0 && at < locals.length) {
                locals[at] = value;
            }
        }

        private void getPlace(int a) {
            int i = pop();
            if (i < 0 || i >= PLACES) {
                state = OUTSIDE;
            } else {
                push(placeAt(a, i));
            }
        }

        private void setPlace(int a) {
            int value = pop();
            int i = pop();
            int at = a * PLACES + i;
            if (i < 0 || i >= PLACES) {
                state = OUTSIDE;
            } else if (at >= 0 && at < places.length) {
                places[at] = value;
            }
        }

        private void call(int f) {
            if (running >= MOST_RUNNING) {
                state = DEEP;
            } else {
                enter(f);
            }
        }

        private void enter(int f) {
            if (running >= 0 && running < returns.length) {
                returns[running] = place;
                running++;
            }
            for (int l = 0; l < LOCALS; l++) {
                setLocal(l, 0);
            }
            for (int l = program.parametersOf(f) - 1; l >= 0; l--) {
                setLocal(l, pop());
            }
            place = program.entryOf(f);
        }

        private void leave() {
            int value = pop();
            running--;
            if (running > 0 && running < returns.length) {
                place = returns[running];
                push(value);
            } else {
                running = 0;
                state = ENDED;
            }
        }
    }
}
