/** Promise 9: array. */
final class Promise9Test extends Sentences {
    @Sentence(promise = 9, says = "Place i of array a.")
    void everyPlace() {
        for (int a = 0; a < 4; a++) {
            for (int i = 0; i < 8; i++) {
                ShortMill mill = started("fn f0 0 { a" + a + " [ " + i + " ] = 9 ; }");
                mill.run(1);
                for (int b = 0; b < 4; b++) {
                    for (int k = 0; k < 8; k++) {
                        due("a" + a + " [ " + i + " ] seen at " + b + " " + k, mill.array(b, k), a == b && i == k ? 9 : 0);
                    }
                }
            }
        }
        ShortMill ends = started("fn f0 0 { a0 [ 0 ] = read ; a3 [ 7 ] = read ; }");
        ends.key(-32768);
        ends.key(32767);
        ends.run(2);
        due("the lowest", ends.array(0, 0), -32768);
        due("the highest", ends.array(3, 7), 32767);
    }

    @Sentence(promise = 9, says = "IndexOutOfBoundsException: a is not 0 .. 3, or i not 0 .. 7.")
    void wrongPlace() {
        for (int state = NOTHING; state <= DEEP; state++) {
            ShortMill mill = inState(state);
            dueUnchanged("a wrong place in state " + state, mill, () -> dueAllRefused(mill));
            for (int a = 0; a < 4; a++) {
                due("array(" + a + ", 0)", mill.array(a, 0), 0);
                due("array(" + a + ", 7)", mill.array(a, 7), 0);
            }
            due("array(1, 2) in state " + state, mill.array(1, 2), state == NOTHING ? 0 : 6);
        }
        ShortMill mill = new ShortMill();
        dueUnchanged("a wrong place of a new one", mill, () -> dueAllRefused(mill));
    }

    /** Every pair with a wrong one in it; a row of all 32 places would have some of them. */
    private void dueAllRefused(ShortMill mill) {
        int[] arrays = {-1, 4, 40, Integer.MIN_VALUE, Integer.MAX_VALUE, 0, 1, 2, 3};
        int[] places = {-1, 8, -8, 16, Integer.MIN_VALUE, Integer.MAX_VALUE, 0, 7};
        for (int a : arrays) {
            for (int i : places) {
                if (a < 0 || a > 3 || i < 0 || i > 7) {
                    dueThrow("array(" + a + ", " + i + ")", INDEX, () -> mill.array(a, i));
                }
            }
        }
    }

    public static void main(String[] args) {
        new Promise9Test().runAll();
    }
}
