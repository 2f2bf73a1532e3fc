/** Promise 5: key. */
final class Promise5Test extends Sentences {
    @Sentence(promise = 5, says = "A key comes behind those that are there.")
    void behindThose() {
        ShortMill mill = started("fn f0 0 { while ( 1 ) { print read ; } }");
        // More keys than there is room for at once, so that the row of keys goes round.
        int next = 0;
        for (int turn = 0; turn < 10; turn++) {
            for (int k = 0; k < 3; k++) {
                due("key " + next, mill.key(100 + next), k + 1);
                next++;
            }
            due("all are read", mill.run(200), WAITING);
            for (int i = 0; i < 3; i++) {
                due("in their order", mill.shown(i), 100 + next - 1 - i);
            }
        }
    }

    @Sentence(promise = 5, says = "Answers how many there are.")
    void answersHowMany() {
        ShortMill mill = started("fn f0 0 { print read ; print read ; print read ; }");
        due("first", mill.key(1), 1);
        due("second", mill.key(2), 2);
        due("about(5)", mill.about(5), 2);
        mill.run(1);
        due("one was read", mill.about(5), 1);
        due("second again", mill.key(3), 2);
        mill.run(200);
        due("none is left", mill.about(5), 0);
        due("first again, with nothing that reads", mill.key(4), 1);
    }

    @Sentence(promise = 5, says = "IllegalArgumentException: v is not -32768 .. 32767.")
    void wrongKey() {
        ShortMill mill = new ShortMill();
        dueUnchanged("a wrong key", mill, () -> {
            for (int v : new int[] {32768, -32769, 65535, 65536, -65536, Integer.MIN_VALUE, Integer.MAX_VALUE}) {
                dueThrow("key(" + v + ")", ARGUMENT, () -> mill.key(v));
            }
        });
        int[] right = {32767, -32768, 32766, -32767, 0, 1, -1};
        for (int k = 0; k < right.length; k++) {
            due("key(" + right[k] + ")", mill.key(right[k]), k + 1);
        }
        compiled(mill, "fn f0 0 { while ( 1 ) { print read ; } }");
        mill.start();
        due("all are read", mill.run(200), WAITING);
        dueShown("as they came", mill, right);
    }

    @Sentence(promise = 5, says = "IllegalStateException: there are 8.")
    void fullKeys() {
        ShortMill mill = new ShortMill();
        for (int k = 1; k <= 7; k++) {
            due("key " + k, mill.key(k), k);
        }
        due("the eighth", mill.key(8), 8);
        dueRefused("the ninth", STATE, mill, () -> mill.key(9));
        compiled(mill, "fn f0 0 { while ( 1 ) { print read ; } }");
        mill.start();
        mill.run(2);
        due("room for one", mill.key(10), 8);
        dueRefused("one more", STATE, mill, () -> mill.key(11));
        due("all are read", mill.run(200), WAITING);
        dueShown("none that was refused", mill, 1, 2, 3, 4, 5, 6, 7, 8, 10);
    }

    /** The document names IllegalArgumentException first, and does not say which it is. */
    @Sentence(promise = 5, says = "throws IllegalArgumentException, IllegalStateException")
    void bothWrong() {
        ShortMill mill = new ShortMill();
        for (int k = 1; k <= 8; k++) {
            mill.key(k);
        }
        dueRefused("32768 as the ninth", ARGUMENT, mill, () -> mill.key(32768));
    }

    /** What is WAITING waits still: only run goes on in its statement. */
    @Sentence(promise = 5, says = "A key comes behind those that are there. Answers how many there are.")
    void nothingElse() {
        for (int state = NOTHING; state <= DEEP; state++) {
            ShortMill mill = inState(state);
            int[] before = picture(mill);
            due("the third key in state " + state, mill.key(77), 3);
            before[4] = 3;
            dueSame("nothing else changes in state " + state, picture(mill), before);
        }
    }

    public static void main(String[] args) {
        new Promise5Test().runAll();
    }
}
