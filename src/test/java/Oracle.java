import java.util.ArrayDeque;
import java.util.ArrayList;
import java.util.Deque;
import java.util.List;

/**
 * The document's answers by other means than the class under test: texts are checked with a
 * stack of symbols that are still due, and run by walking over the tokens themselves, each time
 * anew from the start with all keys that came since.
 */
final class Oracle {
    /** Ends a walk, with the state that it came to. */
    private static final class Stop extends RuntimeException {
        private static final long serialVersionUID = 1;
        final int state;

        Stop(int state) {
            super(null, null, false, false);
            this.state = state;
        }
    }

    /** Ends a running of a function. */
    private static final class Return extends RuntimeException {
        private static final long serialVersionUID = 1;
        final int value;

        Return(int value) {
            super(null, null, false, false);
            this.value = value;
        }
    }

    private record Symbol(String kind, int depth) { }

    private record Call(int name, int arguments) { }

    private int[] text;
    private int[] at = new int[6];
    private int[] parameters = new int[6];

    // What was started, and where a walk through it is.
    List<Integer> keys = new ArrayList<>();
    List<Integer> shown = new ArrayList<>();
    int[] globals = new int[8];
    int[][] arrays = new int[4][8];
    int functions = 0;
    int state = 0;
    int begun = 0;
    int running = 0;
    private int taken = 0;
    private int most = 0;
    private int p = 0;
    private int[] locals = new int[8];

    int keysLeft() {
        return keys.size() - taken;
    }

    private void forgetTaken() {
        keys = new ArrayList<>(keys.subList(taken, keys.size()));
        taken = 0;
    }

    private void clear() {
        shown.clear();
        globals = new int[8];
        arrays = new int[4][8];
        begun = 0;
        running = 0;
        taken = 0;
    }

    int compile(int[] tokens) {
        int fault = fault(tokens);
        if (fault != 0) {
            return fault;
        }
        forgetTaken();
        clear();
        state = 0;
        text = tokens;
        functions = 0;
        for (int k = 0; k < tokens.length; k++) {
            if (tokens[k] == 23) {
                at[tokens[k + 1] - 52] = k + 3;
                parameters[tokens[k + 1] - 52] = tokens[k + 2] - 64;
                functions++;
            }
        }
        return functions;
    }

    void start() {
        forgetTaken();
        clear();
        state = 1;
        running = 1;
    }

    int run(int n) {
        if (state > 2) {
            return state;
        }
        most = begun + n;
        clear();
        try {
            call(0, new int[0]);
            state = 3;
        } catch (Stop stop) {
            state = stop.state;
        }
        return state;
    }

    // ---- checking

    static int fault(int[] tokens) {
        Deque<Symbol> due = new ArrayDeque<>();
        due.push(new Symbol("text", 0));
        int[] has = {-1, -1, -1, -1, -1, -1};
        int last = -1;
        int p = 0;
        while (!due.isEmpty()) {
            int token = p < tokens.length ? tokens[p] : -1;
            Symbol symbol = due.pop();
            int d = symbol.depth;
            if ((symbol.kind.equals("block") || symbol.kind.equals("value")) && d > 3) {
                return -3000 - p;
            }
            if (symbol.kind.equals("newname") && token >= 52 && token <= 57) {
                if (has[token - 52] >= 0) {
                    return -2000 - p;
                }
                last = token - 52;
            }
            if (symbol.kind.equals("0..3") && token >= 64) {
                has[last] = token - 64;
            }
            if (fits(symbol.kind, token)) {
                p++;
                continue;
            }
            String follows = expansion(symbol.kind, token, p == tokens.length);
            if (follows == null) {
                return -1000 - p;
            }
            push(due, follows, d);
        }
        return callFault(tokens, has);
    }

    private static boolean fits(String kind, int token) {
        switch (kind) {
            case "newname": return token >= 52 && token <= 57;
            case "0..3": return token >= 64 && token <= 67;
            default: return kind.startsWith("'") && token == Check.tokens(kind.substring(1))[0];
        }
    }

    /** Symbols with + are one deeper, with 0 in nothing; null where the token does not fit. */
    private static String expansion(String kind, int token, boolean end) {
        boolean variable = token >= 32 && token <= 51;
        boolean array = token >= 40 && token <= 43;
        boolean function = token >= 52 && token <= 57;
        switch (kind) {
            case "text": return end ? "" : "'fn newname 0..3 block0 text";
            case "block": return "'{ statements";
            case "statements": return token == 9 ? "'}" : "statement statements";
            case "statement":
                switch (token) {
                    case 0: return "'if '( value0 ') block+ else";
                    case 2: return "'while '( value0 ') block+";
                    case 3: return "'return value0 ';";
                    case 4: return "'print value0 ';";
                    default:
                }
                return array ? "'#" + token + " '[ value0 '] '= value0 ';"
                    : variable ? "'#" + token + " '= value0 ';"
                    : function ? "'#" + token + " '( arguments0 ') ';" : null;
            case "else": return token == 1 ? "'else block+" : "";
            case "arguments": return token == 7 ? "" : "value comma";
            case "comma": return token == 11 ? "', value comma" : "";
            case "value": return "sum compare";
            case "compare": return token == 18 ? "'< sum" : token == 19 ? "'== sum" : "";
            case "sum": return "product plus";
            case "plus": return token == 13 || token == 14 ? "'#" + token + " product plus" : "";
            case "product": return "part times";
            case "times": return token >= 15 && token <= 17 ? "'#" + token + " part times" : "";
            case "part": return token == 14 || token == 20 ? "'#" + token + " piece" : "piece";
            case "piece": return token >= 64 || token == 5 ? "'#" + token
                : array ? "'#" + token + " '[ value+ ']"
                : variable ? "'#" + token
                : function ? "'#" + token + " '( arguments+ ')"
                : token == 6 ? "'( value+ ')" : null;
            default: return null;
        }
    }

    private static void push(Deque<Symbol> due, String follows, int d) {
        if (follows.isEmpty()) {
            return;
        }
        String[] parts = follows.split(" ");
        for (int k = parts.length - 1; k >= 0; k--) {
            String part = parts[k];
            if (part.startsWith("'") || part.equals("0..3")) {
                due.push(new Symbol(part, d));
            } else if (part.endsWith("+")) {
                due.push(new Symbol(part.substring(0, part.length() - 1), d + 1));
            } else if (part.endsWith("0")) {
                due.push(new Symbol(part.substring(0, part.length() - 1), 0));
            } else {
                due.push(new Symbol(part, d));
            }
        }
    }

    private static int callFault(int[] tokens, int[] has) {
        for (int k = 1; k < tokens.length; k++) {
            if (tokens[k] >= 52 && tokens[k] <= 57 && tokens[k - 1] != 23) {
                Call call = callAt(tokens, k);
                if (has[tokens[k] - 52] < 0) {
                    return -4000 - call.name;
                }
                if (has[tokens[k] - 52] != call.arguments) {
                    return -5000 - call.name;
                }
            }
        }
        return has[0] == 0 ? 0 : -6000 - tokens.length;
    }

    private static Call callAt(int[] tokens, int name) {
        int open = 0;
        int commas = 0;
        int k = name + 1;
        do {
            open += tokens[k] == 6 || tokens[k] == 21 ? 1 : tokens[k] == 7 || tokens[k] == 22 ? -1 : 0;
            commas += tokens[k] == 11 && open == 1 ? 1 : 0;
            k++;
        } while (open > 0);
        return new Call(name, k == name + 3 ? 0 : commas + 1);
    }

    // ---- walking

    private int call(int f, int[] arguments) {
        if (running == 10) {
            throw new Stop(6);
        }
        int back = p;
        int[] outer = locals;
        locals = new int[8];
        System.arraycopy(arguments, 0, locals, 0, arguments.length);
        running++;
        p = at[f];
        int value = 0;
        try {
            block();
        } catch (Return end) {
            value = end.value;
        }
        running--;
        locals = outer;
        p = back;
        return value;
    }

    private void block() {
        p++;
        while (text[p] != 9) {
            statement();
        }
        p++;
    }

    private void skipBlock() {
        int open = 0;
        do {
            open += text[p] == 8 ? 1 : text[p] == 9 ? -1 : 0;
            p++;
        } while (open > 0);
    }

    private void begin() {
        if (begun == most) {
            throw new Stop(1);
        }
        begun++;
    }

    private void statement() {
        begin();
        int token = text[p];
        if (token == 0) {
            choose();
        } else if (token == 2) {
            repeat();
        } else if (token == 3) {
            p++;
            throw new Return(value());
        } else if (token == 4) {
            p++;
            shown.add(value());
            p++;
        } else if (token >= 52) {
            piece();
            p++;
        } else {
            set(token);
        }
    }

    private void choose() {
        p += 2;
        boolean yes = value() != 0;
        p++;
        branch(yes);
        if (text[p] == 1) {
            p++;
            branch(!yes);
        }
    }

    private void branch(boolean yes) {
        if (yes) {
            block();
        } else {
            skipBlock();
        }
    }

    private void repeat() {
        int first = p;
        while (true) {
            p = first + 2;
            boolean yes = value() != 0;
            p++;
            branch(yes);
            if (!yes) {
                return;
            }
            begin();
        }
    }

    private void set(int token) {
        p++;
        int i = 0;
        if (token >= 40 && token <= 43) {
            p++;
            i = value();
            p++;
        }
        p++;
        int value = value();
        p++;
        if (token < 40) {
            globals[token - 32] = value;
        } else if (token >= 44) {
            locals[token - 44] = value;
        } else {
            arrays[token - 40][inside(i)] = value;
        }
    }

    private static int inside(int i) {
        if (i < 0 || i > 7) {
            throw new Stop(5);
        }
        return i;
    }

    private int value() {
        int first = sum();
        if (text[p] == 18) {
            p++;
            return first < sum() ? 1 : 0;
        }
        if (text[p] == 19) {
            p++;
            return first == sum() ? 1 : 0;
        }
        return first;
    }

    private int sum() {
        int first = product();
        while (text[p] == 13 || text[p] == 14) {
            int sign = text[p++] == 13 ? 1 : -1;
            first = wrapped(first + (long) sign * product());
        }
        return first;
    }

    private int product() {
        int first = part();
        while (text[p] >= 15 && text[p] <= 17) {
            int token = text[p++];
            long second = part();
            if (token != 15 && second == 0) {
                throw new Stop(4);
            }
            first = wrapped(token == 15 ? first * second : token == 16 ? first / second : first % second);
        }
        return first;
    }

    private int part() {
        if (text[p] == 14) {
            p++;
            return wrapped(-(long) piece());
        }
        if (text[p] == 20) {
            p++;
            return piece() == 0 ? 1 : 0;
        }
        return piece();
    }

    private int piece() {
        int token = text[p++];
        if (token >= 64) {
            return token - 64;
        }
        if (token == 5) {
            if (taken == keys.size()) {
                throw new Stop(2);
            }
            return keys.get(taken++);
        }
        if (token >= 52) {
            int[] arguments = new int[parameters[token - 52]];
            p++;
            for (int k = 0; k < arguments.length; k++) {
                arguments[k] = value();
                p++;
            }
            p += arguments.length == 0 ? 1 : 0;
            return call(token - 52, arguments);
        }
        if (token >= 44) {
            return locals[token - 44];
        }
        if (token >= 32 && token < 40) {
            return globals[token - 32];
        }
        if (token != 6) {
            p++;
        }
        int value = value();
        p++;
        return token == 6 ? value : arrays[token - 40][inside(value)];
    }

    private static int wrapped(long value) {
        long low = ((value % 65536) + 65536) % 65536;
        return (int) (low >= 32768 ? low - 65536 : low);
    }
}
