/** The values: 16 bits, the operators, and which of them binds first. */
final class ValueTest {
    private final Check check = new Check();

    private void due(String value, int want) {
        ShortMill mill = Check.started("fn f0 0 { g0 = read ; g1 = read ; print " + value + " ; }");
        mill.key(-32768);
        mill.key(32767);
        check.due(value, mill.run(3), 3);
        check.due(value, mill.shown(0), want);
    }

    private void wraps() {
        due("g1 + 1", -32768);
        due("g0 - 1", 32767);
        due("- g0", -32768);
        due("- g1", -32767);
        due("g1 * g1", 1);
        due("g0 * g0", 0);
        due("g0 * g1", -32768);
        due("g0 * - 1", -32768);
        due("g1 + g1", -2);
        due("127 * 127 * 127", 16767);
    }

    private void divisions() {
        due("g0 / - 1", -32768);
        due("g0 % - 1", 0);
        due("7 / 2", 3);
        due("- 7 / 2", -3);
        due("7 / - 2", -3);
        due("- 7 / - 2", 3);
        due("7 % 3", 1);
        due("- 7 % 3", -1);
        due("7 % - 3", 1);
        due("- 7 % - 3", -1);
        due("0 / 5", 0);
        due("g0 / g1", -1);
        due("g0 % g1", -1);
    }

    private void comparisons() {
        due("1 < 2", 1);
        due("2 < 2", 0);
        due("3 < 2", 0);
        due("g0 < g1", 1);
        due("g1 < g0", 0);
        due("- 1 < 0", 1);
        due("2 == 2", 1);
        due("2 == 3", 0);
        due("! 0", 1);
        due("! 1", 0);
        due("! g0", 0);
        due("! ( 1 == 2 )", 1);
    }

    private void order() {
        due("1 + 2 * 3", 7);
        due("( 1 + 2 ) * 3", 9);
        due("10 - 3 - 2", 5);
        due("100 / 10 / 2", 5);
        due("100 / 10 * 2", 20);
        due("17 % 10 * 3", 21);
        due("2 * 17 % 10", 4);
        due("- 2 * - 3", 6);
        due("- 2 + 3", 1);
        due("! 0 + 1", 2);
        due("1 + 1 < 1 * 3", 1);
        due("4 < 2 + 3", 1);
        due("( 1 < 2 ) == 1", 1);
        due("1 - ! 1 - - 1", 2);
        due("127", 127);
        due("0", 0);
    }

    private void choices() {
        String source = "fn f0 0 { if ( # ) { print 1 ; } else { print 2 ; } while ( # ) { return 0 ; } print 3 ; }";
        for (int v : new int[] {0, 1, -1, -32768, 32767, 256}) {
            ShortMill mill = Check.started(source.replace("#", "read"));
            mill.key(v);
            mill.key(v);
            check.due("choice by " + v, mill.run(200), 3);
            check.due("choice by " + v, mill.about(4), v == 0 ? 2 : 1);
            check.due("choice by " + v, mill.shown(mill.about(4) - 1), v == 0 ? 2 : 1);
        }
    }

    public static void main(String[] args) {
        ValueTest test = new ValueTest();
        test.wraps();
        test.divisions();
        test.comparisons();
        test.order();
        test.choices();
        test.check.end();
    }
}
