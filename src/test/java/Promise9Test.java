/** Promise 9: array. */
final class Promise9Test extends Sentences {
    @Sentence(promise = 9, says = "Place i of array a.")
    void everyPlace() {
        for (int a = 0; a < 4; a++) {
            for (int i = 0; i < 8; i++) {
                ShortMill mill = started("fn f0 0 { a" + a + " [ " + i + " ] = 9 ; }");
                mill.run(1);
                for (int b = 0; b < 4; b++) {
                    for (int k = 0; k < 8; k++) {
                        due("a" + a + " [ " + i + " ] seen at " + b + " " + k, mill.array(b, k), a == b && i == k ? 9 : 0);
                    }
                }
            }
        }
        ShortMill ends = started("fn f0 0 { a0 [ 0 ] = read ; a3 [ 7 ] = read ; }");
        ends.key(-32768);
        ends.key(32767);
        ends.run(2);
        due("the lowest", ends.array(0, 0), -32768);
        due("the highest", ends.array(3, 7), 32767);
    }

    @Sentence(promise = 9, says = "IndexOutOfBoundsException: a is not 0 .. 3, or i not 0 .. 7.")
    void wrongPlace() {
        int[] wrongArrays = {-1, 4, 40, Integer.MIN_VALUE, Integer.MAX_VALUE};
        int[] wrongPlaces = {-1, 8, -8, 16, Integer.MIN_VALUE, Integer.MAX_VALUE};
        for (int state = NOTHING; state <= DEEP; state++) {
            ShortMill mill = inState(state);
            for (int a : wrongArrays) {
                for (int i : new int[] {0, 7}) {
                    dueRefused("array(" + a + ", " + i + ")", INDEX, mill, () -> mill.array(a, i));
                }
                for (int i : wrongPlaces) {
                    dueRefused("array(" + a + ", " + i + ")", INDEX, mill, () -> mill.array(a, i));
                }
            }
            for (int a = 0; a < 4; a++) {
                int right = a;
                for (int i : wrongPlaces) {
                    dueRefused("array(" + a + ", " + i + ")", INDEX, mill, () -> mill.array(right, i));
                }
                due("array(" + a + ", 0)", mill.array(a, 0), 0);
                due("array(" + a + ", 7)", mill.array(a, 7), 0);
            }
            due("array(1, 2) in state " + state, mill.array(1, 2), state == NOTHING ? 0 : 6);
        }
        ShortMill mill = new ShortMill();
        dueRefused("array(4, 0) of a new one", INDEX, mill, () -> mill.array(4, 0));
        dueRefused("array(0, 8) of a new one", INDEX, mill, () -> mill.array(0, 8));
        // Places that a row of all 32 would have.
        dueRefused("array(1, -1)", INDEX, mill, () -> mill.array(1, -1));
        dueRefused("array(-1, 8)", INDEX, mill, () -> mill.array(-1, 8));
    }

    public static void main(String[] args) {
        new Promise9Test().runAll();
    }
}
