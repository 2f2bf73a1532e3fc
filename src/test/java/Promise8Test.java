/** Promise 8: global. */
final class Promise8Test extends Sentences {
    @Sentence(promise = 8, says = "Global g.")
    void everyGlobal() {
        StringBuilder source = new StringBuilder("fn f0 0 {");
        for (int g = 0; g < 8; g++) {
            source.append(" g" + g + " = " + (g + 100) + " ;");
        }
        ShortMill mill = started(source + " }");
        for (int begun = 0; begun <= 8; begun++) {
            for (int g = 0; g < 8; g++) {
                due("global(" + g + ") behind " + begun, mill.global(g), g < begun ? g + 100 : 0);
            }
            mill.run(1);
        }
        ShortMill ends = started("fn f0 0 { g0 = read ; g7 = read ; }");
        ends.key(-32768);
        ends.key(32767);
        ends.run(2);
        due("the lowest", ends.global(0), -32768);
        due("the highest", ends.global(7), 32767);
    }

    @Sentence(promise = 8, says = "IndexOutOfBoundsException: g is not 0 .. 7.")
    void wrongGlobal() {
        for (int state = NOTHING; state <= DEEP; state++) {
            ShortMill mill = inState(state);
            dueUnchanged("a wrong global in state " + state, mill, () -> {
                for (int g : new int[] {-1, 8, 32, -8, Integer.MIN_VALUE, Integer.MAX_VALUE}) {
                    dueThrow("global(" + g + ")", INDEX, () -> mill.global(g));
                }
            });
            due("global(0) in state " + state, mill.global(0), 0);
            due("global(1) in state " + state, mill.global(1), state == NOTHING ? 0 : 5);
            due("global(7) in state " + state, mill.global(7), 0);
        }
        ShortMill mill = new ShortMill();
        dueRefused("global(8) of a new one", INDEX, mill, () -> mill.global(8));
        dueRefused("global(-1) of a new one", INDEX, mill, () -> mill.global(-1));
    }

    public static void main(String[] args) {
        new Promise8Test().runAll();
    }
}
