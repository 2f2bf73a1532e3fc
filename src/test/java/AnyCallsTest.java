import java.util.Random;

/** Any calls with any arguments in any state: each throws exactly what is due, and a refused one changes nothing. */
final class AnyCallsTest extends Sentences {
    private static final int OBJECTS = 2000;
    private static final int CALLS = 512;
    // As many as each way to take a turn makes at the most.
    private static final int TO_ADD = 18;
    private static final int TO_COMPILE = 58;
    private static final int TO_START = 52;
    private static final int TO_LOOK = 8;
    private static final int MOST_OF_A_TURN = TO_ADD + TO_COMPILE + TO_START;
    private static final int OF_TWO_PICTURES = 162;

    private static final int[] EDGES = {
        Integer.MIN_VALUE, Integer.MIN_VALUE + 1, -65536, -32769, -32768, -1000, -33, -32, -9, -8, -2, -1,
        0, 1, 2, 3, 4, 5, 6, 7, 8, 9, 31, 32, 33, 159, 160, 161, 191, 192, 199, 200, 201, 255, 256,
        32767, 32768, 65535, 65536, Integer.MAX_VALUE - 1, Integer.MAX_VALUE,
    };

    /** Programs that come to every state, and one that is refused. */
    private static final String[] SOURCES = {
        "fn f0 0 { while ( 1 ) { g0 = g0 + 1 ; print g0 * g0 ; } }",
        "fn f0 0 { while ( 1 ) { print a0 [ read ] ; } }",
        "fn f0 0 { while ( 1 ) { a3 [ g0 ] = f1 ( read , g0 ) ; g0 = g0 + 1 ; } } fn f1 2 { return l0 / ( 5 - l1 ) ; }",
        "fn f0 0 { g1 = g1 + 1 ; print 9 % ( 3 - g1 ) ; f0 ( ) ; }",
        "fn f0 0 { }",
        "fn f0 0 { f1 ( 1 ) ; } fn f1 1 { print l0 ; f1 ( l0 * 127 ) ; }",
        "fn f0 0 { print f1 ( ) ; }",
    };

    private final Random random = new Random(20);
    private int left = 0;

    private int any() {
        int kind = random.nextInt(4);
        return kind == 0 ? random.nextInt() : kind == 1 ? random.nextInt(8) : EDGES[random.nextInt(EDGES.length)];
    }

    /** Nothing is promised of an object that has had its 512 calls, so not every refused call is looked at so closely. */
    private void refused(String what, Class<? extends RuntimeException> want, ShortMill mill, Runnable call) {
        if (left >= OF_TWO_PICTURES && random.nextInt(4) == 0) {
            left -= OF_TWO_PICTURES;
            dueRefused(what, want, mill, call);
        } else {
            dueThrow(what, want, call);
        }
    }

    /** The exception that is due for words, or null; the document names IllegalArgumentException first. */
    private static Class<? extends RuntimeException> wordsThrows(int length, int four, int n) {
        if (n < 1 || n > 4) {
            return ARGUMENT;
        }
        for (int k = 0; k < n; k++) {
            if ((four >>> (8 * k) & 255) > 191) {
                return ARGUMENT;
            }
        }
        return length + n > 160 ? STATE : null;
    }

    private void words(ShortMill mill) {
        left -= TO_ADD;
        int four = random.nextBoolean() ? any() : random.nextInt() & 0x7f7f7f7f;
        int n = random.nextBoolean() ? any() : 1 + random.nextInt(4);
        Class<? extends RuntimeException> want = wordsThrows(mill.about(1), four, n);
        String what = "words(" + four + ", " + n + ")";
        if (want != null) {
            refused(what, want, mill, () -> mill.words(four, n));
        } else {
            int length = mill.about(1) + n;
            due(what, mill.words(four, n), length);
            due(what + ": the text", mill.about(1), length);
        }
    }

    private void source(ShortMill mill) {
        left -= TO_ADD;
        int[] tokens = tokens(SOURCES[random.nextInt(SOURCES.length)]);
        if (mill.about(1) + tokens.length <= 160) {
            feed(mill, tokens);
        }
    }

    private void compile(ShortMill mill) {
        left -= TO_COMPILE;
        int length = mill.about(1);
        int keys = mill.about(5);
        int[] before = counts(mill);
        int answer = mill.compile();
        due("the text behind compile", mill.about(1), 0);
        if (answer > 0) {
            due("at most 6 functions", answer <= 6 ? 1 : 0, 1);
            dueCounts("compile", mill, NOTHING, answer, 0, 0, keys, 0);
            dueNoVariables("compile", mill);
        } else {
            int error = -answer / 1000;
            int place = -answer % 1000;
            due("error " + error, error >= 1 && error <= 6 ? 1 : 0, 1);
            due("place " + place + " of " + length, place <= length ? 1 : 0, 1);
            dueSame("everything else stays", counts(mill), before);
        }
    }

    private static int[] counts(ShortMill mill) {
        return new int[] {mill.about(0), mill.about(2), mill.about(3), mill.about(4), mill.about(5), mill.about(6)};
    }

    private void start(ShortMill mill) {
        left -= TO_START;
        if (mill.about(2) == 0) {
            refused("start", STATE, mill, mill::start);
        } else {
            int functions = mill.about(2);
            int keys = mill.about(5);
            due("start", mill.start() ? 1 : 0, 1);
            dueCounts("start", mill, READY, functions, 0, 0, keys, 1);
            dueNoVariables("start", mill);
        }
    }

    private void key(ShortMill mill) {
        left -= TO_LOOK;
        int v = any();
        int keys = mill.about(5);
        if (v < -32768 || v > 32767) {
            refused("key(" + v + ")", ARGUMENT, mill, () -> mill.key(v));
        } else if (keys == 8) {
            refused("key(" + v + ")", STATE, mill, () -> mill.key(v));
        } else {
            due("key(" + v + ")", mill.key(v), keys + 1);
        }
    }

    private void run(ShortMill mill) {
        left -= TO_LOOK;
        int n = random.nextBoolean() ? any() : 1 + random.nextInt(5);
        int state = mill.about(0);
        int begun = mill.about(3);
        if (n < 1 || n > 200) {
            refused("run(" + n + ")", ARGUMENT, mill, () -> mill.run(n));
        } else if (state == NOTHING) {
            refused("run(" + n + ")", STATE, mill, () -> mill.run(n));
        } else {
            int answer = mill.run(n);
            due("about(0) behind run", mill.about(0), answer);
            due("run(" + n + ") that stays READY began", answer == READY ? mill.about(3) - begun : n, n);
            due("run(" + n + ") began no more", mill.about(3) - begun <= n ? 1 : 0, 1);
            due("an end stays", state >= ENDED ? answer : state, state);
        }
    }

    private void look(ShortMill mill) {
        left -= TO_LOOK;
        int a = any();
        int i = any();
        if (i < 0 || i >= 32 || i >= mill.about(4)) {
            refused("shown(" + i + ")", INDEX, mill, () -> mill.shown(i));
        } else {
            dueWord("shown(" + i + ")", mill.shown(i));
        }
        if (i < 0 || i > 7) {
            refused("global(" + i + ")", INDEX, mill, () -> mill.global(i));
        } else {
            dueWord("global(" + i + ")", mill.global(i));
        }
        if (a < 0 || a > 3 || i < 0 || i > 7) {
            refused("array(" + a + ", " + i + ")", INDEX, mill, () -> mill.array(a, i));
        } else {
            dueWord("array(" + a + ", " + i + ")", mill.array(a, i));
        }
        due("about(" + a + ") is NONE", mill.about(a) == ShortMill.NONE ? 1 : 0, a < 0 || a > 6 ? 1 : 0);
    }

    private void dueWord(String what, int value) {
        due(what + " is a 16-bit number", value, (short) value);
    }

    private void oneTurn(ShortMill mill) {
        switch (random.nextInt(16)) {
            case 0: source(mill); break;
            case 1: source(mill); compile(mill); start(mill); break;
            case 2: compile(mill); break;
            case 3: start(mill); break;
            case 4: words(mill); break;
            case 5: case 6: case 7: key(mill); break;
            case 8: case 9: case 10: case 11: run(mill); break;
            default: look(mill); break;
        }
    }

    @Sentence(promise = 10, says = "An object is used for at most 512 calls after it has been made")
    void anyCalls() {
        int[] states = new int[7];
        for (int object = 0; object < OBJECTS; object++) {
            ShortMill mill = new ShortMill();
            left = CALLS;
            while (left >= MOST_OF_A_TURN) {
                oneTurn(mill);
                states[mill.about(0)]++;
            }
        }
        for (int state = NOTHING; state <= DEEP; state++) {
            due("state " + state + " was met", states[state] > 0 ? 1 : 0, 1);
        }
    }

    public static void main(String[] args) {
        new AnyCallsTest().runAll();
    }
}
