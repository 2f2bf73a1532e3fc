/** Whole programs, each with many of the promises at once, by the document's first sentence. */
final class WholeTest extends Sentences {
    /** Reads numbers up to a 0 into a0, sorts them, and shows them. */
    private static final String SORTS = "fn f0 0 { l0 = 1 ; while ( l0 ) { l0 = read ; "
        + "if ( l0 ) { a0 [ g0 ] = l0 ; g0 = g0 + 1 ; } } f1 ( ) ; "
        + "while ( g1 < g0 ) { print a0 [ g1 ] ; g1 = g1 + 1 ; } } "
        + "fn f1 0 { while ( l0 < g0 ) { l1 = l0 ; while ( f2 ( l1 ) ) { l1 = l1 - 1 ; } l0 = l0 + 1 ; } } "
        + "fn f2 1 { if ( l0 ) { l1 = a0 [ l0 - 1 ] ; l2 = a0 [ l0 ] ; "
        + "if ( l2 < l1 ) { a0 [ l0 - 1 ] = l2 ; a0 [ l0 ] = l1 ; return 1 ; } } }";

    /** Shows of each key whether it is even: f1 and f2 call one another. */
    private static final String EVEN = "fn f0 0 { while ( 1 ) { print f1 ( read ) ; } } "
        + "fn f1 1 { if ( l0 == 0 ) { return 1 ; } return f2 ( l0 - 1 ) ; } "
        + "fn f2 1 { if ( l0 == 0 ) { return 0 ; } return f1 ( l0 - 1 ) ; }";

    private int runOn(ShortMill mill) {
        int state = mill.run(200);
        for (int k = 0; k < 10 && state == READY; k++) {
            state = mill.run(200);
        }
        return state;
    }

    @Sentence(promise = 6, says = "globals and arrays, loops and choices")
    void sorts() {
        ShortMill mill = started(SORTS);
        due("waits", runOn(mill), WAITING);
        int[] numbers = {5, -32768, 32767, 5, -1, 1, 300, 2};
        for (int v : numbers) {
            mill.key(v);
        }
        due("waits for the last", runOn(mill), WAITING);
        due("8 numbers have come", mill.global(0), 8);
        for (int i = 0; i < 8; i++) {
            due("number " + i, mill.array(0, i), numbers[i]);
        }
        mill.key(0);
        due("ends", runOn(mill), ENDED);
        dueShown("sorted", mill, -32768, -1, 1, 2, 5, 5, 300, 32767);
        due("all are told", mill.global(1), 8);
    }

    @Sentence(promise = 6, says = "and ends that have names")
    void sortsTooMany() {
        ShortMill mill = started(SORTS);
        for (int k = 0; k < 9; k++) {
            due("waits", runOn(mill), WAITING);
            mill.key(k + 1);
        }
        due("no place for the ninth", runOn(mill), OUTSIDE);
        due("f0 alone runs", mill.about(6), 1);
        dueShown("nothing is shown", mill);
    }

    @Sentence(promise = 6, says = "functions that call one another")
    void callOneAnother() {
        ShortMill mill = started(EVEN);
        for (int v = 0; v <= 8; v++) {
            due("waits for " + v, mill.run(200), WAITING);
            mill.key(v);
        }
        due("waits for 9", mill.run(200), WAITING);
        dueShown("even or not", mill, 1, 0, 1, 0, 1, 0, 1, 0, 1);
        mill.key(9);
        due("one too deep", mill.run(200), DEEP);
        due("10 run", mill.about(6), 10);
        dueShown("nothing more is shown", mill, 1, 0, 1, 0, 1, 0, 1, 0, 1);
    }

    @Sentence(promise = 6, says = "and run statement by statement, with keys that are waited for")
    void statementByStatement() {
        ShortMill whole = started(SORTS);
        ShortMill steps = started(SORTS);
        for (int v : new int[] {3, 1, 2, 0}) {
            whole.key(v);
            steps.key(v);
        }
        due("at once", runOn(whole), ENDED);
        for (int k = 1; k < whole.about(3); k++) {
            due("step " + k, steps.run(1), READY);
            due("begun", steps.about(3), k);
        }
        due("the last step", steps.run(1), ENDED);
        dueSame("both ways", picture(steps), picture(whole));
        dueShown("sorted", steps, 1, 2, 3);
    }

    /** One object all along: what one program leaves is nothing to the next. */
    @Sentence(promise = 3, says = "that is the program from then on")
    void oneBehindAnother() {
        ShortMill mill = new ShortMill();
        for (int turn = 0; turn < 3; turn++) {
            due("sorts", compiled(mill, SORTS), 3);
            due("a wrong text", compiled(mill, EVEN + " fn f2 0 { }"), -2000 - tokens(EVEN).length - 1);
            mill.start();
            mill.key(2);
            mill.key(1);
            mill.key(0);
            due("sorts to its end", runOn(mill), ENDED);
            dueShown("sorted", mill, 1, 2);
            due("even", compiled(mill, EVEN), 3);
            mill.start();
            mill.key(6);
            due("waits for more", mill.run(200), WAITING);
            dueShown("6 is even", mill, 1);
        }
    }

    public static void main(String[] args) {
        new WholeTest().runAll();
    }
}
