/** Promise 4: start. */
final class Promise4Test extends Sentences {
    @Sentence(promise = 4, says = "The program starts: READY, all variables 0, nothing shown (keys stay): true.")
    void startsFromEveryState() {
        for (int state = NOTHING; state <= DEEP; state++) {
            ShortMill mill = inState(state);
            due("state " + state, mill.about(0), state);
            mill.words(0, 3);
            String what = "start in state " + state;
            due(what, mill.start() ? 1 : 0, 1);
            dueCounts(what, mill, READY, 2, 0, 0, 2, 1);
            dueNoVariables(what, mill);
            dueRefused(what + ": shown(0)", INDEX, mill, () -> mill.shown(0));
            due(what + ": the text stays", mill.about(1), 3);
            due(what + ": again", mill.start() ? 1 : 0, 1);
            dueCounts(what + " again", mill, READY, 2, 0, 0, 2, 1);
            due(what + ": runs from its first statement", mill.run(1), READY);
            dueCounts(what + " and run", mill, READY, 2, 1, 0, 2, 1);
            due(what + ": which sets", mill.global(1), 5);
            due(what + ": and only that", mill.array(1, 2), 0);
        }
    }

    /** What was open in values when it ended is gone, however often that has been. */
    @Sentence(promise = 4, says = "The program starts")
    void startsAgainAndAgain() {
        String source = "fn f0 0 { if ( g0 == 0 ) { g0 = read ; } "
            + "if ( g0 ) { print 1 + ( 2 * ( 3 + ( 4 * f0 ( ) ) ) ) ; } print 1 + ( 2 * ( 3 + ( 4 * 5 ) ) ) ; }";
        ShortMill mill = started(source);
        for (int time = 0; time < 60; time++) {
            mill.key(1);
            due("start " + time, mill.start() ? 1 : 0, 1);
            due("run " + time, mill.run(200), DEEP);
        }
        mill.key(0);
        mill.start();
        due("the last run", mill.run(200), ENDED);
        dueShown("the last run", mill, 47);
        due("compile", compiled(mill, source), 1);
        mill.key(0);
        mill.start();
        due("the run behind compile", mill.run(200), ENDED);
        dueShown("the run behind compile", mill, 47);
    }

    @Sentence(promise = 4, says = "all variables 0")
    void everyVariable() {
        StringBuilder source = new StringBuilder("fn f0 0 { print l0 ; while ( l0 < 8 ) {");
        for (int a = 0; a < 4; a++) {
            source.append(" a" + a + " [ l0 ] = 9 ;");
        }
        source.append(" l0 = l0 + 1 ; }");
        for (int g = 0; g < 8; g++) {
            source.append(" g" + g + " = 9 ;");
        }
        ShortMill mill = started(source + " }");
        for (int time = 0; time < 2; time++) {
            dueNoVariables("start " + time, mill);
            due("run", mill.run(200), ENDED);
            dueShown("l0 is 0 first", mill, 0);
            for (int k = 0; k < 8; k++) {
                due("global " + k, mill.global(k), 9);
                due("array 3 " + k, mill.array(3, k), 9);
            }
            mill.start();
        }
    }

    @Sentence(promise = 4, says = "nothing shown")
    void nothingShown() {
        ShortMill mill = started("fn f0 0 { while ( g0 < 40 ) { g0 = g0 + 1 ; print g0 ; } }");
        due("run", mill.run(200), ENDED);
        due("40 shown", mill.about(4), 40);
        mill.start();
        for (int i : new int[] {0, 1, 31, 32}) {
            dueThrow("shown(" + i + ") behind start", INDEX, () -> mill.shown(i));
        }
        due("none shown", mill.about(4), 0);
        mill.run(3);
        due("the first anew", mill.shown(0), 1);
        dueRefused("shown(1) of one", INDEX, mill, () -> mill.shown(1));
    }

    @Sentence(promise = 4, says = "(keys stay)")
    void keysStay() {
        ShortMill mill = started("fn f0 0 { print read ; print read ; }");
        for (int k = 1; k <= 8; k++) {
            mill.key(k);
        }
        mill.start();
        due("8 keys", mill.about(5), 8);
        dueRefused("a ninth", STATE, mill, () -> mill.key(9));
        mill.run(1);
        due("7 keys", mill.about(5), 7);
        mill.start();
        due("7 keys stay", mill.about(5), 7);
        mill.run(2);
        dueShown("what one start has read no other does", mill, 2, 3);
    }

    @Sentence(promise = 4, says = "IllegalStateException: there is no program.")
    void noProgram() {
        ShortMill mill = new ShortMill();
        dueThrow("new", STATE, mill::start);
        feed(mill, tokens("fn f0 0 { }"));
        dueRefused("a text that was not compiled", STATE, mill, mill::start);
        mill.words(0, 1);
        due("a wrong text", mill.compile(), -1005);
        dueRefused("behind a wrong text", STATE, mill, mill::start);
        due("compile of nothing", mill.compile(), -6000);
        dueThrow("behind no text", STATE, mill::start);
        due("a right text", compiled(mill, "fn f0 0 { }"), 1);
        due("start", mill.start() ? 1 : 0, 1);
        due("a wrong text again", compiled(mill, "fn"), -1001);
        due("start still", mill.start() ? 1 : 0, 1);
    }

    public static void main(String[] args) {
        new Promise4Test().runAll();
    }
}
