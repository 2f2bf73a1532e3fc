/** Promise 6: run itself. */
final class Promise6RunTest extends Sentences {
    @Sentence(promise = 6, says = "Runs until n statements have begun and the next one is about to begin")
    void untilTheNext() {
        for (int n = 1; n <= 200; n++) {
            ShortMill mill = started("fn f0 0 { while ( 1 ) { g0 = g0 + 1 ; print g0 ; } }");
            due("run(" + n + ")", mill.run(n), READY);
            due("run(" + n + ") began", mill.about(3), n);
            due("run(" + n + ") set", mill.global(0), (n + 1) / 3);
            due("run(" + n + ") showed", mill.about(4), n / 3);
            due("run(" + n + ") again", mill.run(n), READY);
            due("run(" + n + ") again began", mill.about(3), 2 * n);
        }
    }

    @Sentence(promise = 6, says = "n statements have begun")
    void inOneOrInMany() {
        String source = "fn f0 0 { while ( l0 < 4 ) { l0 = l0 + 1 ; g0 = g0 + f1 ( l0 ) * f1 ( 2 ) ; "
            + "if ( l0 == 2 ) { print g0 ; } } } "
            + "fn f1 1 { if ( l0 < 2 ) { return 1 ; } return l0 * f1 ( l0 - 1 ) ; }";
        ShortMill whole = started(source);
        due("at once", whole.run(200), ENDED);
        int all = whole.about(3);
        int[] end = picture(whole);
        for (int n = 1; n <= all; n++) {
            ShortMill mill = started(source);
            for (int begun = 0; begun + n < all; begun += n) {
                due("run(" + n + ") at " + begun, mill.run(n), READY);
                due("begun", mill.about(3), begun + n);
            }
            due("the last run(" + n + ")", mill.run(n), ENDED);
            dueSame("in runs of " + n, picture(mill), end);
        }
    }

    @Sentence(promise = 6, says = "and the next one is about to begin")
    void nextInACall() {
        ShortMill mill = started("fn f0 0 { g0 = 1 + f1 ( 2 , 3 ) ; g1 = 9 ; } "
            + "fn f1 2 { l2 = l0 * 10 + l1 ; return l2 ; g2 = 1 ; }");
        due("the next is the first of f1", mill.run(1), READY);
        due("two run", mill.about(6), 2);
        due("not set yet", mill.global(0), 0);
        due("in f1", mill.run(1), READY);
        due("two run still", mill.about(6), 2);
        due("return, and what is left of the statement that called", mill.run(1), READY);
        due("one runs", mill.about(6), 1);
        due("set", mill.global(0), 24);
        due("the next one is not", mill.global(1), 0);
        due("the end", mill.run(1), ENDED);
        due("behind return nothing", mill.global(2), 0);
        due("4 began", mill.about(3), 4);
        ShortMill empty = started("fn f0 0 { g0 = f1 ( ) + 1 ; g1 = 1 ; } fn f1 0 { }");
        due("an empty function begins nothing", empty.run(1), READY);
        due("the whole statement has run", empty.global(0), 1);
        due("the next has not", empty.global(1), 0);
    }

    /** Behind the n-th statement no other is about to begin, so it runs on to the end of f0. */
    @Sentence(promise = 6, says = "or the state is another than READY")
    void anotherState() {
        ShortMill exact = started("fn f0 0 { g0 = 1 ; g0 = 2 ; }");
        due("the last statement", exact.run(2), ENDED);
        due("2 began", exact.about(3), 2);
        ShortMill more = started("fn f0 0 { g0 = 1 ; g0 = 2 ; }");
        due("one too many", more.run(3), ENDED);
        due("2 began", more.about(3), 2);
        ShortMill fewer = started("fn f0 0 { g0 = 1 ; g0 = 2 ; }");
        due("one too few", fewer.run(1), READY);
        ShortMill loop = started("fn f0 0 { while ( g0 < 1 ) { g0 = 1 ; } }");
        due("the loop is about to begin anew", loop.run(2), READY);
        due("and ends", loop.run(1), ENDED);
        ShortMill call = started("fn f0 0 { f1 ( ) ; } fn f1 0 { g0 = 1 ; }");
        due("the ends of f1 and f0", call.run(2), ENDED);
        ShortMill waits = started("fn f0 0 { g0 = f1 ( ) + read ; } fn f1 0 { return 1 ; }");
        due("the value waits behind the second statement", waits.run(2), WAITING);
        due("one runs", waits.about(6), 1);
        ShortMill divides = started("fn f0 0 { g0 = 1 / f1 ( ) ; } fn f1 0 { return 0 ; }");
        due("the value divides behind the second statement", divides.run(2), DIVIDED);
        due("one runs", divides.about(6), 1);
    }

    @Sentence(promise = 6, says = "(What is WAITING goes on in its statement, if there is a key.)")
    void goesOnInItsStatement() {
        ShortMill mill = started("fn f0 0 { g0 = 1 ; g1 = g0 + read * f1 ( read ) ; g2 = 1 ; g3 = 1 ; } "
            + "fn f1 1 { g0 = 50 ; return l0 + read ; }");
        due("waits", mill.run(2), WAITING);
        due("2 began", mill.about(3), 2);
        int[] before = picture(mill);
        due("no key", mill.run(200), WAITING);
        dueSame("no key", picture(mill), before);
        mill.key(3);
        due("waits until it runs", mill.about(0), WAITING);
        due("waits again", mill.run(1), WAITING);
        due("the key is gone", mill.about(5), 0);
        due("none began", mill.about(3), 2);
        mill.key(4);
        due("goes on, then in f1", mill.run(1), READY);
        due("one more began", mill.about(3), 3);
        due("two run", mill.about(6), 2);
        due("waits in f1", mill.run(1), WAITING);
        due("two run waiting", mill.about(6), 2);
        mill.key(5);
        due("ends its statement, and one more begins", mill.run(1), READY);
        due("the value", mill.global(1), 28);
        due("g2", mill.global(2), 1);
        due("g3", mill.global(3), 0);
        due("5 began", mill.about(3), 5);
        due("the end", mill.run(1), ENDED);
    }

    @Sentence(promise = 6, says = "goes on in its statement")
    void nothingTwice() {
        ShortMill mill = started("fn f0 0 { a0 [ f1 ( ) ] = f1 ( ) + read * 10 + f1 ( ) + read ; } "
            + "fn f1 0 { g0 = g0 + 1 ; print g0 ; return g0 ; }");
        due("waits", mill.run(200), WAITING);
        dueShown("before", mill, 1, 2);
        mill.key(4);
        due("waits again", mill.run(200), WAITING);
        dueShown("between", mill, 1, 2, 3);
        mill.key(-50);
        due("ends", mill.run(200), ENDED);
        dueShown("behind", mill, 1, 2, 3);
        due("the value", mill.array(0, 1), 2 + 40 + 3 - 50);
    }

    @Sentence(promise = 6, says = "Answers the state.")
    void answersTheState() {
        for (int state = READY; state <= DEEP; state++) {
            ShortMill mill = inState(state);
            int answer = mill.run(1);
            due("as about(0) tells it, out of state " + state, answer, mill.about(0));
        }
    }

    @Sentence(promise = 6, says = "IllegalArgumentException: n is not 1 .. 200.")
    void wrongCount() {
        for (int state = READY; state <= DEEP; state++) {
            ShortMill mill = inState(state);
            dueUnchanged("a wrong n in state " + state, mill, () -> {
                for (int n : new int[] {0, 201, -1, -200, 256, Integer.MIN_VALUE, Integer.MAX_VALUE}) {
                    dueThrow("run(" + n + ")", ARGUMENT, () -> mill.run(n));
                }
            });
        }
        ShortMill mill = started("fn f0 0 { while ( 1 ) { } }");
        due("run(1)", mill.run(1), READY);
        due("one began", mill.about(3), 1);
        due("run(200)", mill.run(200), READY);
        due("200 more began", mill.about(3), 201);
    }

    @Sentence(promise = 6, says = "IllegalStateException: nothing was started.")
    void nothingStarted() {
        ShortMill mill = new ShortMill();
        dueRefused("new", STATE, mill, () -> mill.run(1));
        compiled(mill, "fn f0 0 { }");
        dueRefused("compiled", STATE, mill, () -> mill.run(200));
        mill.start();
        due("started", mill.run(1), ENDED);
        compiled(mill, "fn f0 0 { }");
        dueRefused("compiled again", STATE, mill, () -> mill.run(1));
    }

    /** The document names IllegalArgumentException first, and does not say which it is. */
    @Sentence(promise = 6, says = "throws IllegalArgumentException, IllegalStateException")
    void bothWrong() {
        ShortMill mill = new ShortMill();
        dueRefused("run(0) of nothing", ARGUMENT, mill, () -> mill.run(0));
        dueRefused("run(201) of nothing", ARGUMENT, mill, () -> mill.run(201));
    }

    @Sentence(promise = 6, says = "An object is used for at most 512 calls after it has been made")
    void allOfItsCalls() {
        ShortMill mill = new ShortMill();
        int[] tokens = tokens("fn f0 0 { while ( 1 ) { g0 = g0 + 1 ; print f1 ( 8 ) ; } } "
            + "fn f1 1 { if ( l0 ) { return f1 ( l0 - 1 ) ; } return g0 ; }");
        feed(mill, tokens);
        mill.compile();
        mill.start();
        int calls = (tokens.length + 3) / 4 + 2;
        int begun = 0;
        for (; calls < 508; calls++) {
            due("run", mill.run(200), READY);
            begun += 200;
        }
        // One turn is while, g0 = .., print and 2 in each of nine runnings of f1.
        due("begun", mill.about(3), begun);
        due("shown", mill.about(4), begun / 21);
        due("the last", mill.shown(0), begun / 21);
        due("the 512th call", mill.shown(31), begun / 21 - 31);
    }

    public static void main(String[] args) {
        new Promise6RunTest().runAll();
    }
}
