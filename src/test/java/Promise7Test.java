/** Promise 7: shown. */
final class Promise7Test extends Sentences {
    /** An object that has shown 1 .. count. */
    private static ShortMill showing(int count) {
        ShortMill mill = started("fn f0 0 { while ( 1 ) { g0 = g0 + 1 ; print g0 ; } }");
        for (int k = 0; k < count; k++) {
            mill.run(3);
        }
        return mill;
    }

    @Sentence(promise = 7, says = "The i-th last number that was shown (0 the last one")
    void lastFirst() {
        for (int count = 1; count <= 70; count++) {
            ShortMill mill = showing(count);
            for (int i = 0; i < Math.min(count, 32); i++) {
                due("shown(" + i + ") of " + count, mill.shown(i), count - i);
            }
        }
        ShortMill ends = started("fn f0 0 { print read ; print read ; print 0 ; }");
        ends.key(-32768);
        ends.key(32767);
        ends.run(3);
        due("the last", ends.shown(0), 0);
        due("the highest", ends.shown(1), 32767);
        due("the lowest", ends.shown(2), -32768);
    }

    @Sentence(promise = 7, says = "32 are kept")
    void keeps() {
        ShortMill almost = showing(31);
        due("the oldest of 31", almost.shown(30), 1);
        dueRefused("shown(31) of 31", INDEX, almost, () -> almost.shown(31));
        ShortMill full = showing(32);
        due("the oldest of 32", full.shown(31), 1);
        dueRefused("shown(32) of 32", INDEX, full, () -> full.shown(32));
        ShortMill over = showing(33);
        due("the oldest of 33", over.shown(31), 2);
        dueRefused("shown(32) of 33", INDEX, over, () -> over.shown(32));
        ShortMill twice = showing(65);
        due("the oldest of 65", twice.shown(31), 34);
        dueRefused("shown(32) of 65", INDEX, twice, () -> twice.shown(32));
    }

    @Sentence(promise = 7, says = "IndexOutOfBoundsException: there is none.")
    void thereIsNone() {
        for (int count : new int[] {0, 1, 2, 31, 32, 33, 64}) {
            ShortMill mill = showing(count);
            int[] wrong = {-1, -32, Math.min(count, 32), 32, 33, 64, Integer.MIN_VALUE, Integer.MAX_VALUE};
            dueUnchanged("shown of " + count, mill, () -> {
                for (int i : wrong) {
                    dueThrow("shown(" + i + ") of " + count, INDEX, () -> mill.shown(i));
                }
            });
        }
        ShortMill mill = new ShortMill();
        dueRefused("new", INDEX, mill, () -> mill.shown(0));
        ShortMill silent = started("fn f0 0 { g0 = 1 ; }");
        silent.run(1);
        dueRefused("a program that shows nothing", INDEX, silent, () -> silent.shown(0));
    }

    @Sentence(promise = 7, says = "that was shown")
    void onlyWhenWorkedOut() {
        ShortMill mill = started("fn f0 0 { print 1 ; print 2 + read ; }");
        due("waits", mill.run(200), WAITING);
        dueShown("the second is not shown yet", mill, 1);
        mill.key(5);
        mill.run(1);
        dueShown("now it is", mill, 1, 7);
        ShortMill divided = started("fn f0 0 { print 1 ; print 2 / 0 ; }");
        divided.run(200);
        dueShown("never", divided, 1);
    }

    public static void main(String[] args) {
        new Promise7Test().runAll();
    }
}
