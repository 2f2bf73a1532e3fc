/** Promise 10: about. */
final class Promise10Test extends Sentences {
    @Sentence(promise = 10, says = "what 0: the state")
    void state() {
        due("new", new ShortMill().about(0), NOTHING);
        for (int state = NOTHING; state <= DEEP; state++) {
            due("state " + state, inState(state).about(0), state);
        }
    }

    @Sentence(promise = 10, says = "1: how long the text is")
    void textLength() {
        ShortMill mill = new ShortMill();
        due("empty", mill.about(1), 0);
        for (int length = 1; length <= 160; length++) {
            mill.words(9, 1);
            due("length", mill.about(1), length);
        }
        dueThrow("one more", STATE, () -> mill.words(9, 1));
        due("full", mill.about(1), 160);
        mill.compile();
        due("behind compile", mill.about(1), 0);
        for (int state = NOTHING; state <= DEEP; state++) {
            ShortMill used = inState(state);
            due("in state " + state, used.about(1), 0);
            used.words(0, 2);
            due("2 in state " + state, used.about(1), 2);
            used.start();
            due("start leaves it", used.about(1), 2);
        }
    }

    @Sentence(promise = 10, says = "2: functions of the program")
    void functions() {
        ShortMill mill = new ShortMill();
        due("none", mill.about(2), 0);
        feed(mill, tokens("fn f0 0 { }"));
        due("a text is no program", mill.about(2), 0);
        mill.compile();
        due("one", mill.about(2), 1);
        compiled(mill, "fn f5 0 { } fn f4 0 { } fn f3 0 { } fn f2 0 { } fn f1 0 { } fn f0 0 { }");
        due("six", mill.about(2), 6);
        compiled(mill, "fn f0 0 { } fn f1 0 {");
        due("six still", mill.about(2), 6);
        mill.start();
        mill.run(1);
        due("six when it has run", mill.about(2), 6);
        compiled(mill, "fn f0 0 { } fn f3 0 { }");
        due("two", mill.about(2), 2);
    }

    @Sentence(promise = 10, says = "3: statements that have begun since the start")
    void begun() {
        ShortMill mill = started("fn f0 0 { while ( 1 ) { g0 = 1 / ( 75 * 2 - g1 ) ; g1 = g1 + 1 ; } }");
        due("none", mill.about(3), 0);
        mill.run(200);
        due("200", mill.about(3), 200);
        mill.run(200);
        due("400", mill.about(3), 400);
        due("to its end", mill.run(200), DIVIDED);
        due("452", mill.about(3), 452);
        mill.run(200);
        due("452 still", mill.about(3), 452);
        mill.start();
        due("none since the start", mill.about(3), 0);
        mill.run(7);
        due("7 since the start", mill.about(3), 7);
    }

    /** All since the start, also those that are kept no more. */
    @Sentence(promise = 10, says = "4: numbers shown")
    void numbersShown() {
        ShortMill mill = started("fn f0 0 { while ( g0 < 100 ) { g0 = g0 + 1 ; print g0 ; } }");
        for (int k = 0; k < 100; k++) {
            due("shown", mill.about(4), k);
            mill.run(3);
        }
        due("100", mill.about(4), 100);
        due("the end", mill.run(1), ENDED);
        due("100 at the end", mill.about(4), 100);
        mill.start();
        due("none behind start", mill.about(4), 0);
    }

    @Sentence(promise = 10, says = "5: keys")
    void keys() {
        ShortMill mill = started("fn f0 0 { print read ; print read ; }");
        for (int k = 0; k < 8; k++) {
            due("keys", mill.about(5), k);
            mill.key(k);
        }
        due("8", mill.about(5), 8);
        mill.run(1);
        due("7", mill.about(5), 7);
        mill.run(1);
        due("6 at the end", mill.about(5), 6);
    }

    @Sentence(promise = 10, says = "6: how many functions run (0 in NONE")
    void running() {
        due("new", new ShortMill().about(6), 0);
        due("NONE", inState(NOTHING).about(6), 0);
        ShortMill mill = started("fn f0 0 { f1 ( 8 ) ; g0 = 1 ; } fn f1 1 { if ( l0 ) { f1 ( l0 - 1 ) ; } print l0 ; }");
        due("start", mill.about(6), 1);
        for (int f = 2; f <= 10; f++) {
            due("run", mill.run(f == 2 ? 1 : 2), READY);
            due("one more", mill.about(6), f);
        }
        due("the if of the last", mill.run(1), READY);
        for (int f = 10; f >= 2; f--) {
            due("before its print", mill.about(6), f);
            due("its print, and its end", mill.run(1), READY);
        }
        due("f0 alone", mill.about(6), 1);
        due("the end", mill.run(1), ENDED);
        due("none", mill.about(6), 0);
    }

    @Sentence(promise = 10, says = "in 3 to 6 as they were when it came to that, in 3: 0)")
    void runningAtTheEnd() {
        due("READY", inState(READY).about(6), 2);
        due("WAITING", inState(WAITING).about(6), 2);
        due("ENDED", inState(ENDED).about(6), 0);
        due("DIVIDED", inState(DIVIDED).about(6), 2);
        due("OUTSIDE", inState(OUTSIDE).about(6), 2);
        due("DEEP", inState(DEEP).about(6), 10);
        String[] ends = {"1 / 0", "1 % 0", "a0 [ 8 ]"};
        for (int k = 0; k < ends.length; k++) {
            ShortMill mill = started("fn f0 0 { f1 ( 8 ) ; } fn f1 1 { if ( l0 ) { f1 ( l0 - 1 ) ; } g0 = " + ends[k] + " ; }");
            due(ends[k], mill.run(200), k < 2 ? DIVIDED : OUTSIDE);
            due("10 run at " + ends[k], mill.about(6), 10);
            mill.run(200);
            due("10 run still", mill.about(6), 10);
            mill.start();
            due("f0 behind start", mill.about(6), 1);
        }
        ShortMill returned = started("fn f0 0 { if ( g0 ) { return 1 ; } g0 = 1 ; g1 = f0 ( ) / 0 ; }");
        due("behind the end of a call", returned.run(200), DIVIDED);
        due("one runs", returned.about(6), 1);
    }

    @Sentence(promise = 10, says = "NONE for another what.")
    void another() {
        for (int state = NOTHING; state <= DEEP; state++) {
            ShortMill mill = inState(state);
            for (int what : new int[] {-1, 7, 8, 256, Integer.MIN_VALUE, Integer.MAX_VALUE}) {
                due("about(" + what + ") in state " + state, mill.about(what), ShortMill.NONE);
            }
        }
        due("NONE", ShortMill.NONE, -1);
    }

    public static void main(String[] args) {
        new Promise10Test().runAll();
    }
}
