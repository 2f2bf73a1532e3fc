/** Promise 3: what compile answers, and what stays and what goes behind it. */
final class Promise3CompileTest extends Sentences {
    /** A text for each error, and the answer that is due. */
    private static final String[] WRONG = {
        "fn f0 0 { g1 = }", "fn f0 0 { } fn f0 0 { }", "fn f1 0 { print ( ( ( ( 1", "fn f0 0 { f1 ( ) ; }",
        "fn f0 0 { f0 ( 1 ) ; }", "fn f1 3 { print 1 ; }", "", "fn f1 2 { return 1 ; } fn f0 0 { f5 ( ) ; }",
    };
    private static final int[] ANSWERS = {-1006, -2006, -3009, -4004, -5004, -6008, -6000, -4012};

    @Sentence(promise = 3, says = "The text is read, and empty then.")
    void emptyThen() {
        for (int k = 0; k < WRONG.length; k++) {
            ShortMill mill = new ShortMill();
            due(WRONG[k], compiled(mill, WRONG[k]), ANSWERS[k]);
            due(WRONG[k] + ": how long the text is", mill.about(1), 0);
            due(WRONG[k] + ": once more", mill.compile(), -6000);
        }
        ShortMill mill = new ShortMill();
        due("a right text", compiled(mill, "fn f0 0 { }"), 1);
        due("how long the text is", mill.about(1), 0);
        due("once more", mill.compile(), -6000);
        due("the program stays then", mill.about(2), 1);
    }

    @Sentence(promise = 3, says = "Answers how many functions the program has")
    void answersFunctions() {
        String source = "fn f0 0 { }";
        for (int f = 1; f <= 6; f++) {
            ShortMill mill = new ShortMill();
            due(source, compiled(mill, source), f);
            due("about(2) of " + source, mill.about(2), f);
            source = "fn f" + f + " " + f % 4 + " { } " + source;
        }
    }

    @Sentence(promise = 3, says = "that is the program from then on")
    void fromThenOn() {
        ShortMill mill = started("fn f0 0 { print 1 ; f1 ( ) ; } fn f1 0 { print 2 ; }");
        mill.run(200);
        dueShown("the first program", mill, 1, 2);
        due("another", compiled(mill, "fn f1 1 { print l0 ; } fn f0 0 { f1 ( 5 ) ; }"), 2);
        mill.start();
        due("it runs", mill.run(200), ENDED);
        dueShown("the second program", mill, 5);
        due("a longer one", compiled(mill, "fn f0 0 {" + " print 3 ;".repeat(51) + " }"), 1);
        mill.start();
        due("it runs", mill.run(200), ENDED);
        due("the third program", mill.about(4), 51);
        due("the shortest", compiled(mill, "fn f0 0 { }"), 1);
        mill.start();
        due("it ends", mill.run(200), ENDED);
        dueCounts("the fourth program", mill, ENDED, 1, 0, 0, 0, 0);
    }

    @Sentence(promise = 3, says = "(what ran is no more: state NONE, nothing shown, all variables and counts 0; keys stay)")
    void whatGoes() {
        for (int state = NOTHING; state <= DEEP; state++) {
            ShortMill mill = inState(state);
            due("state " + state, mill.about(0), state);
            due("compile in state " + state, compiled(mill, "fn f0 0 { print read ; print read ; print g1 ; }"), 1);
            String what = "behind compile in state " + state;
            dueCounts(what, mill, NOTHING, 1, 0, 0, 2, 0);
            dueNoVariables(what, mill);
            dueRefused(what + ": shown(0)", INDEX, mill, () -> mill.shown(0));
            dueRefused(what + ": run(1)", STATE, mill, () -> mill.run(1));
            due(what + ": start", mill.start() ? 1 : 0, 1);
            due(what + ": run", mill.run(200), ENDED);
            dueShown(what + ": the keys in their order", mill, -4, 9, 0);
        }
    }

    @Sentence(promise = 3, says = "keys stay")
    void fullKeysStay() {
        ShortMill mill = new ShortMill();
        for (int k = 1; k <= 8; k++) {
            mill.key(k);
        }
        due("compile", compiled(mill, "fn f0 0 { print read ; }"), 1);
        due("8 keys", mill.about(5), 8);
        dueRefused("a ninth", STATE, mill, () -> mill.key(9));
        due("a wrong text", compiled(mill, "fn"), -1001);
        due("8 keys still", mill.about(5), 8);
    }

    @Sentence(promise = 3, says = "or -1000 * error - place, and everything else stays.")
    void everythingElseStays() {
        for (int state = NOTHING; state <= DEEP; state++) {
            for (int k = 0; k < WRONG.length; k++) {
                ShortMill mill = inState(state);
                int[] before = picture(mill);
                String what = "'" + WRONG[k] + "' in state " + state;
                due(what, compiled(mill, WRONG[k]), ANSWERS[k]);
                due(what + ": how long the text is", mill.about(1), 0);
                dueSame(what, picture(mill), before);
                dueGoesOn(what, mill, state);
            }
        }
        ShortMill none = new ShortMill();
        dueUnchanged("an object without a program", none, () -> {
            for (int k = 0; k < WRONG.length; k++) {
                due(WRONG[k], compiled(none, WRONG[k]), ANSWERS[k]);
                dueThrow("no program behind " + WRONG[k], STATE, none::start);
            }
        });
    }

    /** The program of inState runs on where it was, and starts again. */
    private void dueGoesOn(String what, ShortMill mill, int state) {
        if (state == READY) {
            due(what + ": runs on", mill.run(1), READY);
            dueShown(what + ": runs on", mill, 7, 8);
        } else if (state == WAITING) {
            due(what + ": runs on", mill.run(1), ENDED);
            due(what + ": the value in its midst", mill.global(2), 26);
            due(what + ": one key is left", mill.about(5), 1);
        } else if (state != NOTHING) {
            due(what + ": stays", mill.run(1), state);
        }
        due(what + ": starts", mill.start() ? 1 : 0, 1);
        due(what + ": runs", mill.run(5), state == ENDED || state == NOTHING ? ENDED : READY);
        due(what + ": sets", mill.global(1), 5);
    }

    @Sentence(promise = 3, says = "-1000 * error - place")
    void lastPlaces() {
        String start = "fn f0 0 { print 0" + " + 1".repeat(76);
        dueError(start + " ; print", 1, 160);
        dueError("fn f1 0 { print 0" + " + 1".repeat(76) + " ; }", 6, 160);
        String almost = "fn f0 0 { " + "print 1 ; ".repeat(49);
        dueError(almost + "print 1 * 1 ; } fn f0", 2, 158);
        dueError(almost + "print ( ( ( (", 3, 156);
        dueError(almost + "g0 = f3 ( ) ; }", 4, 153);
        dueError(almost + "g0 = f0 ( 1 ) ; }", 5, 153);
    }

    public static void main(String[] args) {
        new Promise3CompileTest().runAll();
    }
}
