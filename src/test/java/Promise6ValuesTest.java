/** Promise 6, by the terms' values: where they wrap and round, and in which order they are worked out. */
final class Promise6ValuesTest extends Sentences {
    private static final int[] EDGES = {
        -32768, -32767, -16384, -257, -256, -182, -181, -8, -7, -3, -2, -1, 0,
        1, 2, 3, 7, 8, 181, 182, 255, 256, 257, 16383, 16384, 32766, 32767,
    };

    /** What "print value ;" shows, where each read in it is the next of the keys. */
    private void dueValue(String value, int want, int... keys) {
        ShortMill mill = started("fn f0 0 { print " + value + " ; }");
        for (int v : keys) {
            mill.key(v);
        }
        due(value + ": the state", mill.run(1), ENDED);
        dueShown(value, mill, want);
    }

    private void dueOf(int first, String operator, int second, int want) {
        ShortMill mill = started("fn f0 0 { print read " + operator + " read ; }");
        mill.key(first);
        mill.key(second);
        String what = first + " " + operator + " " + second;
        due(what + ": the state", mill.run(1), ENDED);
        dueShown(what, mill, want);
    }

    @Sentence(promise = 6, says = "VALUES are 16-bit numbers -32768 .. 32767")
    void everyKindHoldsTheEnds() {
        for (int v : new int[] {-32768, -32767, 32766, 32767}) {
            ShortMill mill = started("fn f0 0 { g0 = read ; l0 = g0 ; a0 [ 0 ] = l0 ; print f1 ( a0 [ 0 ] ) ; } "
                + "fn f1 1 { return l0 ; }");
            mill.key(v);
            due("run", mill.run(200), ENDED);
            due("global", mill.global(0), v);
            due("array", mill.array(0, 0), v);
            dueShown("parameter and return", mill, v);
        }
        ShortMill wraps = started("fn f0 0 { g0 = read + 1 ; l0 = read + 1 ; a0 [ 0 ] = read + 1 ; print l0 ; "
            + "print f1 ( read + 1 ) ; } fn f1 1 { print l0 ; return l0 - 1 ; }");
        for (int k = 0; k < 4; k++) {
            wraps.key(32767);
        }
        due("run", wraps.run(200), ENDED);
        due("global", wraps.global(0), -32768);
        due("array", wraps.array(0, 0), -32768);
        dueShown("local, parameter and return", wraps, -32768, -32768, 32767);
    }

    @Sentence(promise = 6, says = "+ - * and the - of one wrap")
    void wraps() {
        dueOf(32766, "+", 1, 32767);
        dueOf(32767, "+", 1, -32768);
        dueOf(32767, "+", 32767, -2);
        dueOf(-32767, "+", -1, -32768);
        dueOf(-32768, "+", -1, 32767);
        dueOf(-32768, "+", -32768, 0);
        dueOf(-32767, "-", 1, -32768);
        dueOf(-32768, "-", 1, 32767);
        dueOf(32767, "-", -1, -32768);
        dueOf(0, "-", -32768, -32768);
        dueOf(-32768, "-", 32767, 1);
        dueOf(127, "*", 258, 32766);
        dueOf(128, "*", 256, -32768);
        dueOf(-128, "*", 256, -32768);
        dueOf(181, "*", 181, 32761);
        dueOf(182, "*", 181, -32594);
        dueOf(256, "*", 256, 0);
        dueOf(-32768, "*", -1, -32768);
        dueOf(32767, "*", 32767, 1);
        dueOf(-32768, "*", -32768, 0);
        dueOf(-32768, "*", 32767, -32768);
        dueValue("127 * 127 * 127", 16767);
    }

    @Sentence(promise = 6, says = "the - of one wrap")
    void wrapsOfOne() {
        dueValue("- read", -32768, -32768);
        dueValue("- read", 32767, -32767);
        dueValue("- read", -32767, 32767);
        dueValue("- read", 0, 0);
        dueValue("- read", -1, 1);
        dueValue("- ( - read )", -32768, -32768);
        dueValue("0 - read", -32768, -32768);
        dueValue("- read == read", 1, -32768, -32768);
        dueValue("- read < 0", 1, -32768);
    }

    /** Each step wraps, not only the last: / % < == see what was wrapped. */
    @Sentence(promise = 6, says = "16-bit numbers")
    void wrapsAtOnce() {
        dueValue("( read + 1 ) / 2", -16384, 32767);
        dueValue("( read + 1 ) % 7", -1, 32767);
        dueValue("read + 1 < 0", 1, 32767);
        dueValue("read - 1 == read", 1, -32768, 32767);
        dueValue("read * 2 == 0", 1, -32768);
        dueValue("! ( read + read )", 1, -32768, -32768);
        dueValue("read * 2 / 2", 0, -32768);
        dueValue("- read / 2", -16384, -32768);
    }

    @Sentence(promise = 6, says = "/ rounds towards 0")
    void divides() {
        dueOf(7, "/", 2, 3);
        dueOf(-7, "/", 2, -3);
        dueOf(7, "/", -2, -3);
        dueOf(-7, "/", -2, 3);
        dueOf(1, "/", 2, 0);
        dueOf(-1, "/", 2, 0);
        dueOf(0, "/", -5, 0);
        dueOf(32767, "/", -1, -32767);
        dueOf(-32768, "/", 1, -32768);
        dueOf(-32768, "/", -32768, 1);
        dueOf(-32767, "/", -32768, 0);
        dueOf(-32768, "/", 32767, -1);
    }

    @Sentence(promise = 6, says = "% has the sign of the first")
    void rests() {
        dueOf(7, "%", 3, 1);
        dueOf(-7, "%", 3, -1);
        dueOf(7, "%", -3, 1);
        dueOf(-7, "%", -3, -1);
        dueOf(6, "%", 3, 0);
        dueOf(-6, "%", 3, 0);
        dueOf(32767, "%", -32768, 32767);
        dueOf(-32768, "%", 32767, -1);
        dueOf(-32768, "%", -32768, 0);
        dueOf(5, "%", 1, 0);
    }

    @Sentence(promise = 6, says = "(-32768 / -1 is -32768, % then 0)")
    void lowestByMinusOne() {
        dueOf(-32768, "/", -1, -32768);
        dueOf(-32768, "%", -1, 0);
        dueOf(-32767, "/", -1, 32767);
        dueOf(-32767, "%", -1, 0);
        dueValue("read / - 1", -32768, -32768);
        dueValue("read % - 1", 0, -32768);
    }

    @Sentence(promise = 6, says = "4 DIVIDED: / or % by 0")
    void byZero() {
        for (String operator : new String[] {"/", "%"}) {
            for (int first : EDGES) {
                ShortMill mill = started("fn f0 0 { g0 = read " + operator + " read ; g1 = 1 ; }");
                mill.key(first);
                mill.key(0);
                due(first + " " + operator + " 0", mill.run(200), DIVIDED);
                due("not set", mill.global(0) + mill.global(1), 0);
                dueCounts("one began", mill, DIVIDED, 1, 1, 0, 0, 1);
            }
        }
        ShortMill wrapped = started("fn f0 0 { g0 = 1 / ( read + read ) ; }");
        wrapped.key(-32768);
        wrapped.key(-32768);
        due("by what wraps to 0", wrapped.run(1), DIVIDED);
    }

    @Sentence(promise = 6, says = "< and == give 1 or 0")
    void compares() {
        for (int first : EDGES) {
            for (int second : EDGES) {
                dueOf(first, "<", second, first < second ? 1 : 0);
                dueOf(first, "==", second, first == second ? 1 : 0);
            }
        }
    }

    @Sentence(promise = 6, says = "! gives 1 for 0, otherwise 0")
    void not() {
        for (int v : EDGES) {
            dueValue("! read", v == 0 ? 1 : 0, v);
        }
        dueValue("! ( ! read )", 1, -32768);
        dueValue("! 0 + 1", 2);
    }

    /** All edges with one another; the wrapping is that of Java's short. */
    @Sentence(promise = 6, says = "/ rounds towards 0, % has the sign of the first")
    void edgesWithEdges() {
        for (int first : EDGES) {
            for (int second : EDGES) {
                dueOf(first, "+", second, (short) (first + second));
                dueOf(first, "-", second, (short) (first - second));
                dueOf(first, "*", second, (short) (first * second));
                if (second != 0) {
                    int size = Math.abs(first) / Math.abs(second);
                    int rest = Math.abs(first) - size * Math.abs(second);
                    dueOf(first, "/", second, (short) ((first < 0) == (second < 0) ? size : -size));
                    dueOf(first, "%", second, first < 0 ? -rest : rest);
                }
            }
        }
    }

    @Sentence(promise = 6, says = "value: sum [ (< or ==) sum ]     sum: product { (+ or -) product }     "
        + "product: part { (* or / or %) part }     part: [ - or ! ] piece")
    void bindsFirst() {
        dueValue("1 + 2 * 3", 7);
        dueValue("2 * 3 + 1", 7);
        dueValue("( 1 + 2 ) * 3", 9);
        dueValue("10 - 3 - 2", 5);
        dueValue("10 - 3 + 2", 9);
        dueValue("100 / 10 / 2", 5);
        dueValue("100 / 10 * 2", 20);
        dueValue("17 % 10 * 3", 21);
        dueValue("2 * 17 % 10", 4);
        dueValue("- 2 * - 3", 6);
        dueValue("- 2 + 3", 1);
        dueValue("- 7 / 2", -3);
        dueValue("- 7 % 4", -3);
        dueValue("1 + 1 < 1 * 3", 1);
        dueValue("4 < 2 + 3", 1);
        dueValue("3 == 1 + 2", 1);
        dueValue("! 1 == 0", 1);
        dueValue("( 1 < 2 ) == 1", 1);
        dueValue("1 - ! 1 - - 1", 2);
    }

    @Sentence(promise = 6, says = "All is worked out from left to right")
    void leftToRight() {
        dueValue("read - read - read", 70, 100, 20, 10);
        dueValue("read + read * read", 107, 100, 7, 1);
        dueValue("read * read - read / read", 33, 5, 7, 8, 4);
        dueValue("read < read", 1, 1, 2);
        dueValue("a0 [ read ] + read / read", 5, 7, 10, 2);
        ShortMill order = started("fn f0 0 { g1 = g0 + f1 ( ) + g0 ; print f2 ( read , f1 ( ) , read ) ; } "
            + "fn f1 0 { g0 = g0 + 10 ; return 1 ; } fn f2 3 { return l0 * 100 + l1 * 10 + l2 ; }");
        order.key(3);
        order.key(4);
        due("run", order.run(200), ENDED);
        due("the old g0, f1, the new g0", order.global(1), 11);
        dueShown("arguments", order, 314);
        ShortMill first = started("fn f0 0 { g1 = 1 / 0 + a0 [ 8 ] ; }");
        due("/ before the array", first.run(1), DIVIDED);
        ShortMill second = started("fn f0 0 { g1 = a0 [ 8 ] + 1 / 0 ; }");
        due("the array before /", second.run(1), OUTSIDE);
        ShortMill none = started("fn f0 0 { g1 = 0 * f1 ( ) ; } fn f1 0 { g2 = 5 ; return 1 ; }");
        none.run(200);
        due("nothing is left out", none.global(2), 5);
    }

    @Sentence(promise = 6, says = "of a variable = value the value in the brackets first")
    void bracketsFirst() {
        ShortMill mill = started("fn f0 0 { a0 [ read ] = read ; a1 [ f1 ( ) ] = f2 ( ) ; } "
            + "fn f1 0 { print 1 ; g0 = 6 ; return 7 ; } fn f2 0 { print 2 ; return g0 ; }");
        mill.key(3);
        mill.key(40);
        due("run", mill.run(200), ENDED);
        due("a0", mill.array(0, 3), 40);
        due("a1", mill.array(1, 7), 6);
        dueShown("f1 first", mill, 1, 2);
        ShortMill own = started("fn f0 0 { a0 [ g0 ] = f1 ( ) ; } fn f1 0 { g0 = 5 ; return 9 ; }");
        own.run(200);
        due("the place of before the value", own.array(0, 0), 9);
        due("not of behind it", own.array(0, 5), 0);
        ShortMill divided = started("fn f0 0 { a0 [ 1 / 0 ] = read ; }");
        due("brackets that divide", divided.run(1), DIVIDED);
    }

    @Sentence(promise = 6, says = "but whether the array has such a place is looked at when it is read or set")
    void lookedAtWhenSet() {
        ShortMill set = started("fn f0 0 { a0 [ 8 ] = f1 ( ) + read ; g1 = 1 ; } fn f1 0 { print 5 ; return 1 ; }");
        due("the value first", set.run(200), WAITING);
        dueShown("the call in it has run", set, 5);
        set.key(1);
        due("then the place", set.run(200), OUTSIDE);
        due("the key is gone", set.about(5), 0);
        due("nothing goes on", set.global(1), 0);
        ShortMill divided = started("fn f0 0 { a0 [ 8 ] = 1 / 0 ; }");
        due("the value's end comes first", divided.run(1), DIVIDED);
        ShortMill deep = started("fn f0 0 { a0 [ - 1 ] = f0 ( ) ; }");
        due("a value that is too deep", deep.run(200), DEEP);
        ShortMill read = started("fn f0 0 { g0 = a0 [ 8 ] + read ; }");
        due("read at once", read.run(1), OUTSIDE);
        ShortMill inner = started("fn f0 0 { a0 [ a1 [ 8 ] ] = read ; }");
        due("the brackets' own array", inner.run(1), OUTSIDE);
    }

    @Sentence(promise = 6, says = "read is the next KEY")
    void nextKey() {
        ShortMill mill = started("fn f0 0 { print read ; print read * 10 + read ; }");
        for (int v : new int[] {-32768, 4, 5, 6}) {
            mill.key(v);
        }
        due("run", mill.run(2), ENDED);
        dueShown("run", mill, -32768, 45);
        due("one is left", mill.about(5), 1);
    }

    public static void main(String[] args) {
        new Promise6ValuesTest().runAll();
    }
}
