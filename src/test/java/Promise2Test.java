/** Promise 2: words; and the tokens and the text of the terms. */
final class Promise2Test extends Sentences {
    /** An object whose text has so many tokens. */
    private static ShortMill holding(int length) {
        ShortMill mill = new ShortMill();
        for (int k = 0; k < length; k++) {
            mill.words(0, 1);
        }
        return mill;
    }

    @Sentence(promise = 2, says = "The n lowest bytes of four, the highest of them first, come to the text as tokens")
    void lowestBytes() {
        // fn f0 0 { print 127 ; }, each word with a byte above the n lowest that is no token.
        ShortMill mill = new ShortMill();
        mill.words(23 << 24 | 52 << 16 | 64 << 8 | 8, 4);
        mill.words(0xffffff << 8 | 4, 1);
        mill.words(0xffff << 16 | 191 << 8 | 10, 2);
        mill.words(9, 1);
        due("compile", mill.compile(), 1);
        mill.start();
        mill.run(1);
        dueShown("run", mill, 127);
        ShortMill three = new ShortMill();
        three.words(0xff << 24 | 23 << 16 | 52 << 8 | 64, 3);
        three.words(8 << 8 | 9, 2);
        due("three and two", three.compile(), 1);
    }

    @Sentence(promise = 2, says = "answers how long it is")
    void answersLength() {
        ShortMill mill = new ShortMill();
        due("1 byte", mill.words(0x01020304, 1), 1);
        due("2 bytes", mill.words(0x01020304, 2), 3);
        due("3 bytes", mill.words(0x01020304, 3), 6);
        due("4 bytes", mill.words(0x01020304, 4), 10);
        due("about(1)", mill.about(1), 10);
        mill.compile();
        due("behind compile", mill.words(0, 1), 1);
    }

    @Sentence(promise = 2, says = "n is not 1 .. 4")
    void wrongCount() {
        ShortMill mill = holding(7);
        dueUnchanged("a wrong n", mill, () -> {
            for (int n : new int[] {0, 5, -1, 6, 8, Integer.MIN_VALUE, Integer.MAX_VALUE}) {
                dueThrow("words(0, " + n + ")", ARGUMENT, () -> mill.words(0, n));
            }
        });
        due("n is 1", mill.words(0, 1), 8);
        due("n is 4", mill.words(0, 4), 12);
    }

    @Sentence(promise = 2, says = "or one is above 191")
    void wrongToken() {
        for (int n = 1; n <= 4; n++) {
            for (int k = 0; k < 4; k++) {
                int count = n;
                int shift = 8 * k;
                ShortMill mill = holding(3);
                due("191 as byte " + k + " of " + n, mill.words(191 << shift, n), 3 + n);
                for (int b : new int[] {192, 255}) {
                    if (k < n) {
                        dueRefused(b + " as byte " + k + " of " + n, ARGUMENT, mill, () -> mill.words(b << shift, count));
                    } else {
                        due(b + " above byte " + n, holding(3).words(b << shift, n), 3 + n);
                    }
                }
            }
        }
        ShortMill mill = holding(3);
        dueRefused("words(-1, 4)", ARGUMENT, mill, () -> mill.words(-1, 4));
        dueRefused("words(Integer.MIN_VALUE | 192, 1)", ARGUMENT, mill, () -> mill.words(Integer.MIN_VALUE | 192, 1));
        due("words(Integer.MIN_VALUE, 4)", mill.words(Integer.MIN_VALUE, 4), 7);
    }

    @Sentence(promise = 2, says = "TOKENS are numbers 0 .. 191")
    void everyToken() {
        ShortMill mill = new ShortMill();
        for (int token = 0; token <= 191; token++) {
            if (token == 160) {
                mill.compile();
            }
            due("token " + token, mill.words(token, 1), token % 160 + 1);
        }
        dueUnchanged("192 to 255", mill, () -> {
            for (int token = 192; token <= 255; token++) {
                int none = token;
                dueThrow("token " + token, ARGUMENT, () -> mill.words(none, 1));
            }
        });
    }

    @Sentence(promise = 2, says = "A TEXT has at most 160 tokens.")
    void fullText() {
        for (int n = 1; n <= 4; n++) {
            int count = n;
            due("160 by " + n, holding(160 - n).words(0, n), 160);
            ShortMill mill = holding(161 - n);
            dueRefused("161 by " + n, STATE, mill, () -> mill.words(0, count));
            ShortMill full = holding(160);
            dueRefused("160 and " + n, STATE, full, () -> full.words(0, count));
        }
    }

    @Sentence(promise = 2, says = "IllegalStateException: it would have more than 160.")
    void refusedWhole() {
        String start = "fn f0 0 { print 0" + " + 1".repeat(76);
        ShortMill mill = new ShortMill();
        feed(mill, tokens(start));
        dueRefused("; } and one more", STATE, mill, () -> mill.words(10 << 16 | 9 << 8 | 23, 3));
        due("; } alone", mill.words(10 << 8 | 9, 2), 160);
        dueRefused("one more", STATE, mill, () -> mill.words(9, 1));
        due("compile", mill.compile(), 1);
        mill.start();
        mill.run(1);
        dueShown("nothing of what was refused", mill, 76);
        due("behind a good compile", mill.words(0, 4), 4);
        ShortMill wrong = holding(160);
        due("compile of a full text", wrong.compile(), -1000);
        due("behind a bad compile", wrong.words(0, 4), 4);
    }

    @Sentence(promise = 2, says = "IllegalArgumentException: n is not 1 .. 4, or one is above 191.")
    void refusedWholeForOne() {
        ShortMill mill = new ShortMill();
        feed(mill, tokens("fn f0 0 {"));
        dueRefused("print 1 ; and 192", ARGUMENT, mill, () -> mill.words(4 << 24 | 65 << 16 | 10 << 8 | 192, 4));
        mill.words(9, 1);
        due("compile", mill.compile(), 1);
        mill.start();
        mill.run(200);
        dueShown("nothing of what was refused", mill);
    }

    /** The document names IllegalArgumentException first, and does not say which it is. */
    @Sentence(promise = 2, says = "throws IllegalArgumentException, IllegalStateException")
    void bothWrong() {
        ShortMill mill = holding(160);
        dueUnchanged("the text is full", mill, () -> {
            dueThrow("n is 0 and the text is full", ARGUMENT, () -> mill.words(0, 0));
            dueThrow("n is 5 and the text is full", ARGUMENT, () -> mill.words(0, 5));
            dueThrow("192 and the text is full", ARGUMENT, () -> mill.words(192, 1));
        });
    }

    public static void main(String[] args) {
        new Promise2Test().runAll();
    }
}
