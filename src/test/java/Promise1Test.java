/** Promise 1: a new object. */
final class Promise1Test extends Sentences {
    @Sentence(promise = 1, says = "An empty text")
    void emptyText() {
        due("how long", new ShortMill().about(1), 0);
        due("compile", new ShortMill().compile(), -6000);
        due("the first token", new ShortMill().words(23, 1), 1);
    }

    @Sentence(promise = 1, says = "no program")
    void noProgram() {
        ShortMill mill = new ShortMill();
        due("functions", mill.about(2), 0);
        dueRefused("start", STATE, mill, mill::start);
    }

    @Sentence(promise = 1, says = "no keys")
    void noKeys() {
        due("keys", new ShortMill().about(5), 0);
        due("the first key", new ShortMill().key(0), 1);
        due("a read", started("fn f0 0 { print read ; }").run(1), WAITING);
    }

    @Sentence(promise = 1, says = "nothing shown")
    void nothingShown() {
        ShortMill mill = new ShortMill();
        due("numbers", mill.about(4), 0);
        dueRefused("shown(0)", INDEX, mill, () -> mill.shown(0));
        dueRefused("shown(31)", INDEX, mill, () -> mill.shown(31));
    }

    @Sentence(promise = 1, says = "0 NONE: nothing was started")
    void nothingStarted() {
        ShortMill mill = new ShortMill();
        dueCounts("new", mill, NOTHING, 0, 0, 0, 0, 0);
        dueNoVariables("new", mill);
        dueRefused("run(1)", STATE, mill, () -> mill.run(1));
        dueRefused("run(200)", STATE, mill, () -> mill.run(200));
    }

    @Sentence(promise = 1, says = "A new object")
    void noOtherObject() {
        ShortMill used = inState(WAITING);
        used.words(0, 4);
        ShortMill mill = new ShortMill();
        due("text beside another object", mill.about(1), 0);
        dueCounts("beside another object", mill, NOTHING, 0, 0, 0, 0, 0);
        dueNoVariables("beside another object", mill);
        int[] before = picture(used);
        compiled(mill, "fn f0 0 { g1 = 1 ; print 2 ; }");
        mill.start();
        mill.run(200);
        dueSame("the other object", picture(used), before);
        due("the other object's text", used.about(1), 4);
    }

    public static void main(String[] args) {
        new Promise1Test().runAll();
    }
}
