import java.util.ArrayList;
import java.util.Arrays;
import java.util.List;
import java.util.Random;

/** Made-up texts, right and wrong, run on the class and on the Oracle side by side. */
final class OracleTest {
    private static final int TEXTS = 20000;
    private static final int CALLS = 512;
    // As many calls as each of these makes at the most.
    private static final int TO_LOOK_AT_ALL = 80;
    private static final int TO_COMPILE = 50;
    private static final int TO_RUN = 120 + TO_LOOK_AT_ALL;

    private final Random random;
    private final Check check;
    private List<Integer> made = new ArrayList<>();
    private int[] parameters = new int[6];
    private int known = 1;
    private boolean careless = false;
    private ShortMill mill = new ShortMill();
    private Oracle oracle = new Oracle();
    private int left = CALLS;
    private boolean close = false;

    private OracleTest(long seed, Check check) {
        this.random = new Random(seed);
        this.check = check;
    }

    private void add(String source) {
        for (int token : Check.tokens(source)) {
            made.add(token);
        }
    }

    private boolean chance(int percent) {
        return random.nextInt(100) < percent;
    }

    // ---- making texts

    /** A text that may be too long, or deeper by one than is allowed if it is careless. */
    private int[] program() {
        made = new ArrayList<>();
        careless = chance(15);
        known = 1 + random.nextInt(careless ? 6 : 4);
        for (int f = 0; f < 6; f++) {
            parameters[f] = f == 0 ? 0 : random.nextInt(4);
        }
        boolean backwards = chance(30);
        for (int k = 0; k < known; k++) {
            int f = careless && chance(5) ? random.nextInt(6) : backwards ? known - 1 - k : k;
            add("fn f" + f + " " + parameters[f]);
            block(0, random.nextInt(4));
        }
        return made.stream().mapToInt(Integer::intValue).toArray();
    }

    private int deepest() {
        return careless ? 4 : 3;
    }

    private void block(int others, int statements) {
        add("{");
        for (int k = 0; k < statements; k++) {
            statement(others);
        }
        add("}");
    }

    private void statement(int others) {
        int kind = random.nextInt(others < deepest() ? 12 : 8);
        if (kind < 4) {
            variable(0);
            add("=");
            value(0);
            add(";");
        } else if (kind == 4) {
            add(chance(30) ? "return" : "print");
            value(0);
            add(";");
        } else if (kind == 5) {
            add("print");
            value(0);
            add(";");
        } else if (kind < 8) {
            call(0);
            add(";");
        } else {
            add(kind < 10 ? "if (" : "while (");
            value(0);
            add(")");
            block(others + 1, random.nextInt(3));
            if (kind < 10 && chance(40)) {
                add("else");
                block(others + 1, random.nextInt(3));
            }
        }
    }

    private void variable(int inside) {
        if (chance(40) && inside <= deepest()) {
            add("a" + random.nextInt(4) + " [");
            if (chance(70) || inside > deepest()) {
                add(String.valueOf(random.nextInt(chance(90) ? 8 : 10)));
            } else {
                value(inside);
            }
            add("]");
        } else {
            add((chance(60) ? "g" : "l") + random.nextInt(3));
        }
    }

    private void call(int inside) {
        int f = careless && chance(5) ? random.nextInt(6) : random.nextInt(known);
        int count = careless && chance(5) ? random.nextInt(5) : parameters[f];
        add("f" + f + " (");
        for (int k = 0; k < count; k++) {
            add(k == 0 ? "" : ",");
            value(inside);
        }
        add(")");
    }

    private void value(int others) {
        sum(others);
        if (chance(25)) {
            add(chance(60) ? "<" : "==");
            sum(others);
        }
    }

    private void sum(int others) {
        part(others);
        while (chance(30)) {
            add(List.of("+", "-", "*", "/", "%", "+", "-", "*").get(random.nextInt(8)));
            part(others);
        }
    }

    private void part(int others) {
        add(chance(10) ? "-" : chance(5) ? "!" : "");
        int kind = random.nextInt(others < deepest() ? 12 : 7);
        if (kind < 3) {
            add(String.valueOf(random.nextInt(chance(80) ? 5 : 128)));
        } else if (kind < 6) {
            add((chance(50) ? "g" : "l") + random.nextInt(3));
        } else if (kind == 6) {
            add("read");
        } else if (kind < 9) {
            add("(");
            value(others + 1);
            add(")");
        } else if (kind == 9) {
            variable(others + 1);
        } else {
            call(others + 1);
        }
    }

    private int[] spoiled(int[] tokens) {
        int[] spoiled = tokens.clone();
        int places = 1 + random.nextInt(2);
        for (int k = 0; k < places && spoiled.length > 0; k++) {
            int place = random.nextInt(spoiled.length);
            int how = random.nextInt(4);
            if (how == 0) {
                spoiled[place] = random.nextInt(192);
            } else if (how == 1) {
                spoiled[place] = spoiled[random.nextInt(spoiled.length)];
            } else if (how == 2) {
                spoiled = Arrays.copyOf(spoiled, place);
            } else {
                for (int j = place; j < spoiled.length - 1; j++) {
                    spoiled[j] = spoiled[j + 1];
                }
                spoiled = Arrays.copyOf(spoiled, spoiled.length - 1);
            }
        }
        return spoiled;
    }

    // ---- comparing

    /**
     * Nothing is promised of an object that has had its 512 calls: it is looked at closely, or it has several texts.
     */
    private void newObject() {
        mill = new ShortMill();
        oracle = new Oracle();
        left = CALLS;
        close = chance(50);
    }

    private void same(String what) {
        sameCounts(what);
        if (close && left >= TO_LOOK_AT_ALL) {
            left -= TO_LOOK_AT_ALL;
            sameAll(what);
        }
    }

    private void sameCounts(String what) {
        int[] want = {oracle.state, 0, oracle.functions, oracle.begun, oracle.shown.size(), oracle.keysLeft(),
            runningOf(oracle)};
        for (int k = 0; k < want.length; k++) {
            check.due(what + " about(" + k + ")", mill.about(k), want[k]);
        }
    }

    private void sameAll(String what) {
        for (int g = 0; g < 8; g++) {
            check.due(what + " global " + g, mill.global(g), oracle.globals[g]);
            for (int a = 0; a < 4; a++) {
                check.due(what + " array " + a + " " + g, mill.array(a, g), oracle.arrays[a][g]);
            }
        }
        int count = oracle.shown.size();
        for (int i = 0; i < Math.min(32, count); i++) {
            check.due(what + " shown " + i, mill.shown(i), oracle.shown.get(count - 1 - i));
        }
        check.dueThrow(what + " shown too far", IndexOutOfBoundsException.class, () -> mill.shown(Math.min(32, count)));
    }

    private static int runningOf(Oracle oracle) {
        return oracle.state == 0 || oracle.state == 3 ? 0 : oracle.running;
    }

    private void runBoth(String what) {
        oracle.start();
        check.due(what + " start", mill.start() ? 1 : 0, 1);
        same(what + " started");
        int turns = 3 + random.nextInt(8);
        for (int turn = 0; turn < turns; turn++) {
            if (chance(60) && mill.about(5) < 8) {
                int v = chance(70) ? random.nextInt(9) - 2 : random.nextInt(65536) - 32768;
                mill.key(v);
                oracle.keys.add(v);
            }
            int n = chance(60) ? 1 + random.nextInt(5) : 1 + random.nextInt(200);
            check.due(what + " run " + n, mill.run(n), oracle.run(n));
            same(what + " turn " + turn);
        }
        sameAll(what + " at last");
    }

    private int[] seen = new int[8];
    private int[] errors = new int[7];

    private void oneText() {
        if (left < TO_COMPILE + TO_RUN) {
            newObject();
        }
        left -= TO_COMPILE + TO_RUN;
        int[] tokens = program();
        if (tokens.length > 160) {
            tokens = Arrays.copyOf(tokens, 160);
        }
        if (chance(40)) {
            tokens = spoiled(tokens);
        }
        String what = Arrays.toString(tokens);
        Check.feed(mill, tokens);
        int answer = oracle.compile(tokens);
        check.due(what + " compile", mill.compile(), answer);
        same(what + " compiled");
        if (answer > 0) {
            runBoth(what);
            seen[oracle.state]++;
        } else {
            left += TO_RUN;
            errors[-answer / 1000]++;
        }
    }

    public static void main(String[] args) {
        Check check = new Check();
        long seed = args.length > 0 ? Long.parseLong(args[0]) : 1;
        int texts = args.length > 1 ? Integer.parseInt(args[1]) : TEXTS;
        OracleTest test = new OracleTest(seed, check);
        for (int k = 0; k < texts; k++) {
            test.oneText();
        }
        System.out.println("states at the end: " + Arrays.toString(test.seen));
        System.out.println("errors: " + Arrays.toString(test.errors));
        for (int k = 1; k <= 6; k++) {
            check.due("texts that end in state " + k, test.seen[k] > 0 ? 1 : 0, 1);
            check.due("texts with error " + k, test.errors[k] > 0 ? 1 : 0, 1);
        }
        check.end();
    }
}
