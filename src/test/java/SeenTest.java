/** Promises 7 to 10: shown, global, array, about. */
final class SeenTest {
    private static final Class<IndexOutOfBoundsException> INDEX = IndexOutOfBoundsException.class;

    private final Check check = new Check();

    private void shown() {
        ShortMill mill = Check.started("fn f0 0 { while ( g0 < 100 ) { g0 = g0 + 1 ; print g0 ; } }");
        mill.run(3);
        check.due("the first", mill.shown(0), 1);
        check.dueThrow("no second", INDEX, () -> mill.shown(1));
        mill.run(90);
        check.due("31 are shown", mill.about(4), 31);
        check.due("the oldest of 31", mill.shown(30), 1);
        check.dueThrow("31 of 31", INDEX, () -> mill.shown(31));
        mill.run(3);
        check.due("the oldest of 32", mill.shown(31), 1);
        check.dueThrow("32 of 32", INDEX, () -> mill.shown(32));
        mill.run(3);
        check.due("33 are shown", mill.about(4), 33);
        check.due("32 are kept", mill.shown(31), 2);
        check.due("the last", mill.shown(0), 33);
        check.dueThrow("32 of 33", INDEX, () -> mill.shown(32));
        check.due("to the end", mill.run(200) * 10 + mill.run(200), 13);
        check.due("100 are shown", mill.about(4), 100);
        for (int i = 0; i < 32; i++) {
            check.due("of 100", mill.shown(i), 100 - i);
        }
        for (int i : new int[] {-1, 32, 33, Integer.MIN_VALUE, Integer.MAX_VALUE}) {
            check.dueThrow("shown(" + i + ")", INDEX, () -> mill.shown(i));
        }
        mill.start();
        check.dueThrow("nothing behind start", INDEX, () -> mill.shown(0));
    }

    private void variables() {
        StringBuilder source = new StringBuilder("fn f0 0 { while ( l0 < 8 ) {");
        for (int a = 0; a < 4; a++) {
            source.append(" a" + a + " [ l0 ] = l0 * 10 + " + (a + 1) + " ;");
        }
        source.append(" l0 = l0 + 1 ; }");
        for (int g = 0; g < 8; g++) {
            source.append(" g" + g + " = " + (g + 100) + " ;");
        }
        ShortMill mill = Check.started(source + " }");
        check.due("end", mill.run(200), 3);
        for (int g = 0; g < 8; g++) {
            check.due("global " + g, mill.global(g), g + 100);
            for (int a = 0; a < 4; a++) {
                check.due("array " + a + " " + g, mill.array(a, g), g * 10 + a + 1);
            }
        }
        for (int i : new int[] {-1, 8, Integer.MIN_VALUE, Integer.MAX_VALUE}) {
            check.dueThrow("global " + i, INDEX, () -> mill.global(i));
            check.dueThrow("array 0 " + i, INDEX, () -> mill.array(0, i));
            check.dueThrow("array " + i + " 0", INDEX, () -> mill.array(i, 0));
        }
        check.dueThrow("array 4", INDEX, () -> mill.array(4, 0));
        check.dueThrow("array 1 -1", INDEX, () -> mill.array(1, -1));
        check.dueThrow("array -1 8", INDEX, () -> mill.array(-1, 8));
    }

    private void about() {
        ShortMill mill = Check.started("fn f0 0 { print 1 ; f1 ( ) ; } fn f1 0 { print 2 ; print read ; } fn f5 3 { }");
        mill.run(200);
        mill.words(0, 3);
        int[] waiting = {2, 3, 3, 4, 2, 0, 2};
        for (int what = 0; what < waiting.length; what++) {
            check.due("waiting: about(" + what + ")", mill.about(what), waiting[what]);
        }
        mill.key(1);
        mill.key(2);
        check.due("keys", mill.about(5), 2);
        mill.run(1);
        int[] ended = {3, 3, 3, 4, 3, 1, 0};
        for (int what = 0; what < ended.length; what++) {
            check.due("ended: about(" + what + ")", mill.about(what), ended[what]);
        }
        for (int what : new int[] {-1, 7, Integer.MIN_VALUE, Integer.MAX_VALUE}) {
            check.due("about(" + what + ")", mill.about(what), ShortMill.NONE);
        }
    }

    public static void main(String[] args) {
        SeenTest test = new SeenTest();
        test.shown();
        test.variables();
        test.about();
        test.check.end();
    }
}
