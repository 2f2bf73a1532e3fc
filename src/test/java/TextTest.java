/** Promises 1 and 2: a new object, words. */
final class TextTest {
    private static final Class<IllegalArgumentException> ARGUMENT = IllegalArgumentException.class;
    private static final Class<IllegalStateException> STATE = IllegalStateException.class;

    private final Check check = new Check();

    private void newObject() {
        ShortMill mill = new ShortMill();
        for (int what = 0; what <= 6; what++) {
            check.due("new: about(" + what + ")", mill.about(what), 0);
        }
        for (int g = 0; g < 8; g++) {
            check.due("new: global " + g, mill.global(g), 0);
            for (int a = 0; a < 4; a++) {
                check.due("new: array " + a + " " + g, mill.array(a, g), 0);
            }
        }
        check.dueThrow("new: shown(0)", IndexOutOfBoundsException.class, () -> mill.shown(0));
        check.dueThrow("new: start", STATE, mill::start);
        check.dueThrow("new: run", STATE, () -> mill.run(1));
        check.due("new: compile", mill.compile(), -6000);
    }

    private void lengths() {
        ShortMill mill = new ShortMill();
        check.due("1 byte", mill.words(0x01020304, 1), 1);
        check.due("2 bytes", mill.words(0x01020304, 2), 3);
        check.due("3 bytes", mill.words(0x01020304, 3), 6);
        check.due("4 bytes", mill.words(0x01020304, 4), 10);
        check.due("about(1)", mill.about(1), 10);
        mill.compile();
        check.due("about(1) behind compile", mill.about(1), 0);
        check.due("again from 1", mill.words(0, 1), 1);
    }

    private void order() {
        ShortMill mill = new ShortMill();
        mill.words(23 << 24 | 52 << 16 | 64 << 8 | 8, 4);
        mill.words(0xffffff << 8 | 4, 1);
        mill.words(0xffff << 16 | 191 << 8 | 10, 2);
        mill.words(9, 1);
        check.due("fn f0 0 { print 127 ; }", mill.compile(), 1);
        mill.start();
        mill.run(1);
        check.due("shown", mill.shown(0), 127);
    }

    private void wrong() {
        ShortMill mill = new ShortMill();
        for (int n : new int[] {0, 5, -1, Integer.MIN_VALUE, Integer.MAX_VALUE}) {
            check.dueThrow("words(0, " + n + ")", ARGUMENT, () -> mill.words(0, n));
        }
        for (int k = 0; k < 4; k++) {
            int four = 192 << (8 * k);
            int n = k + 1;
            check.dueThrow("192 as byte " + k, ARGUMENT, () -> mill.words(four, n));
            check.due("nothing came", mill.about(1), 0);
        }
        check.due("192 above the n lowest", mill.words(192 << 24, 3), 3);
        check.due("191", mill.words(191, 1), 4);
        check.dueThrow("255", ARGUMENT, () -> mill.words(-1, 4));
        check.due("still 4", mill.about(1), 4);
    }

    private void full() {
        ShortMill mill = new ShortMill();
        for (int k = 0; k < 39; k++) {
            mill.words(0, 4);
        }
        check.due("157", mill.words(0, 1), 157);
        check.dueThrow("161", STATE, () -> mill.words(0, 4));
        check.due("still 157", mill.about(1), 157);
        check.due("160", mill.words(0, 3), 160);
        check.dueThrow("one more", STATE, () -> mill.words(0, 1));
        check.dueThrow("n wrong and full", ARGUMENT, () -> mill.words(0, 0));
        check.dueThrow("token wrong and full", ARGUMENT, () -> mill.words(192, 1));
        check.due("still 160", mill.about(1), 160);
    }

    public static void main(String[] args) {
        TextTest test = new TextTest();
        test.newObject();
        test.lengths();
        test.order();
        test.wrong();
        test.full();
        test.check.end();
    }
}
