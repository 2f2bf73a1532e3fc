import java.util.List;

/** What the tests share: texts written as words, and answers held against what is due. */
class Check {
    private static final List<String> WORDS = List.of(
        "if", "else", "while", "return", "print", "read", "(", ")", "{", "}", ";", ",",
        "=", "+", "-", "*", "/", "%", "<", "==", "!", "[", "]", "fn");

    private int wrong = 0;
    private int looked = 0;
    private String label = "";

    /** Stands before every wrong answer that is told from now on. */
    final void under(String label) {
        this.label = label;
    }

    final int looked() {
        return looked;
    }

    /** A text such as "fn f0 0 { print 1 ; }"; #n is the token n itself. */
    static int[] tokens(String source) {
        String[] words = source.trim().split("\\s+");
        if (source.isBlank()) {
            return new int[0];
        }
        int[] tokens = new int[words.length];
        for (int k = 0; k < words.length; k++) {
            tokens[k] = token(words[k]);
        }
        return tokens;
    }

    private static int token(String word) {
        if (WORDS.contains(word)) {
            return WORDS.indexOf(word);
        }
        char kind = word.charAt(0);
        if (kind >= '0' && kind <= '9') {
            return 64 + Integer.parseInt(word);
        }
        int number = Integer.parseInt(word.substring(1));
        switch (kind) {
            case '#': return number;
            case 'g': return 32 + number;
            case 'a': return 40 + number;
            case 'l': return 44 + number;
            case 'f': return 52 + number;
            default: throw new IllegalArgumentException(word);
        }
    }

    static void feed(ShortMill mill, int[] tokens) {
        for (int k = 0; k < tokens.length; k += 4) {
            int n = Math.min(4, tokens.length - k);
            int four = 0;
            for (int j = 0; j < n; j++) {
                four = four << 8 | tokens[k + j];
            }
            mill.words(four, n);
        }
    }

    static int compiled(ShortMill mill, String source) {
        feed(mill, tokens(source));
        return mill.compile();
    }

    static ShortMill started(String source) {
        ShortMill mill = new ShortMill();
        int answer = compiled(mill, source);
        if (answer < 1) {
            throw new IllegalStateException(source + " does not compile: " + answer);
        }
        mill.start();
        return mill;
    }

    final void due(String what, long got, long want) {
        looked++;
        if (got != want) {
            wrong++;
            System.out.println(label + what + " answered " + got + ", due is " + want);
        }
    }

    final void dueError(String source, int error, int place) {
        due("compile of " + source, compiled(new ShortMill(), source), -1000L * error - place);
    }

    final void dueFunctions(String source, int functions) {
        due("compile of " + source, compiled(new ShortMill(), source), functions);
    }

    final void dueThrow(String what, Class<? extends RuntimeException> want, Runnable call) {
        looked++;
        Class<?> got = null;
        try {
            call.run();
        } catch (RuntimeException e) {
            got = e.getClass();
        }
        if (got != want) {
            wrong++;
            System.out.println(label + what + " threw " + got + ", due is " + want);
        }
    }

    final void end() {
        System.out.println(wrong == 0
            ? "all " + looked + " answers are as due"
            : wrong + " of " + looked + " answers are not as due");
        if (wrong != 0) {
            System.exit(1);
        }
    }
}
