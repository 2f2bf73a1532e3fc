/** Promise 6, by the terms' "RUNNING begins": calls, locals, returns, choices. */
final class Promise6RunningTest extends Sentences {
    private ShortMill ended(String source) {
        ShortMill mill = started(source);
        due(source, mill.run(200), ENDED);
        return mill;
    }

    @Sentence(promise = 6, says = "RUNNING begins with f0")
    void beginsWithMain() {
        dueShown("f0 is first", ended("fn f0 0 { print 1 ; } fn f1 0 { print 2 ; }"), 1);
        dueShown("f0 is last", ended("fn f1 0 { print 2 ; } fn f5 3 { print 3 ; } fn f0 0 { print 1 ; }"), 1);
        dueShown("f0 calls what stands before and behind it",
            ended("fn f2 0 { print 2 ; } fn f0 0 { f1 ( 6 ) ; f2 ( ) ; } fn f1 1 { print l0 ; }"), 6, 2);
    }

    @Sentence(promise = 6, says = "globals and arrays (8 values each) are 0")
    void eightValuesEach() {
        ShortMill zero = ended("fn f0 0 { print g0 + g1 + g2 + g3 + g4 + g5 + g6 + g7 ; while ( l0 < 8 ) { "
            + "l1 = l1 + a0 [ l0 ] + a1 [ l0 ] + a2 [ l0 ] + a3 [ l0 ] ; l0 = l0 + 1 ; } print l1 ; }");
        dueShown("all", zero, 0, 0);
        ShortMill own = ended("fn f0 0 { while ( l0 < 8 ) { a0 [ l0 ] = l0 + 10 ; a1 [ l0 ] = l0 + 20 ; "
            + "a2 [ l0 ] = l0 + 30 ; a3 [ l0 ] = l0 + 40 ; l0 = l0 + 1 ; } g0 = 50 ; g7 = 57 ; }");
        for (int k = 0; k < 8; k++) {
            for (int a = 0; a < 4; a++) {
                due("array " + a + " " + k, own.array(a, k), 10 * (a + 1) + k);
            }
            due("global " + k, own.global(k), k == 0 || k == 7 ? 50 + k : 0);
        }
    }

    @Sentence(promise = 6, says = "A call works out its arguments, then the function runs with its parameters in l0, l1, ..")
    void parametersInOrder() {
        dueShown("three", ended("fn f0 0 { f1 ( 1 , 2 , 3 ) ; } fn f1 3 { print l0 ; print l1 ; print l2 ; }"), 1, 2, 3);
        dueShown("two", ended("fn f0 0 { print 7 - f1 ( 1 , 2 ) - 1 ; } fn f1 2 { return l0 * 10 + l1 ; }"), -6);
        dueShown("calls as arguments",
            ended("fn f0 0 { print f2 ( f1 ( 3 ) , f1 ( 4 ) ) ; } fn f1 1 { print l0 ; return l0 * 2 ; } "
                + "fn f2 2 { print 9 ; return l0 * 10 + l1 ; }"), 3, 4, 9, 68);
        dueShown("arguments of the caller's locals",
            ended("fn f0 0 { l0 = 5 ; l1 = 6 ; f1 ( l1 , l0 ) ; } fn f1 2 { print l0 ; print l1 ; }"), 6, 5);
    }

    @Sentence(promise = 6, says = "all other locals 0")
    void otherLocals() {
        String sum = "print l0 + l1 + l2 + l3 + l4 + l5 + l6 + l7 ;";
        for (int parameters = 0; parameters <= 3; parameters++) {
            String arguments = new String[] {"", "1", "1 , 2", "1 , 2 , 4"}[parameters];
            ShortMill mill = ended("fn f0 0 { f1 ( ) ; f2 ( " + arguments + " ) ; } "
                + "fn f1 0 { l0 = 9 ; l1 = 9 ; l2 = 9 ; l3 = 9 ; l4 = 9 ; l5 = 9 ; l6 = 9 ; l7 = 9 ; } "
                + "fn f2 " + parameters + " { " + sum + " print l" + parameters + " ; print l7 ; }");
            dueShown(parameters + " parameters", mill, (1 << parameters) - 1, 0, 0);
        }
    }

    @Sentence(promise = 6, says = "(every running of a function has its own locals)")
    void ownLocals() {
        ShortMill mill = ended("fn f0 0 { l0 = 5 ; l1 = 6 ; print f1 ( 1 ) ; print l0 ; print l1 ; } "
            + "fn f1 1 { print l0 ; print l1 ; print l7 ; l0 = 8 ; l1 = 8 ; l7 = 8 ; if ( g0 ) { return 3 ; } "
            + "g0 = 1 ; print f1 ( 4 ) ; print l7 ; }");
        dueShown("f1 in f1", mill, 1, 0, 0, 4, 0, 0, 3, 8, 0, 5, 6);
        ShortMill deep = ended("fn f0 0 { print f1 ( 9 ) ; } "
            + "fn f1 1 { l7 = l0 * 3 ; if ( l0 == 1 ) { return 3 ; } return f1 ( l0 - 1 ) + l7 ; }");
        dueShown("in all of 10 runnings", deep, 135);
    }

    @Sentence(promise = 6, says = "return ends it with a value")
    void returns() {
        dueShown("out of blocks", ended("fn f0 0 { print 1 + f1 ( ) ; print 2 ; } "
            + "fn f1 0 { while ( 1 ) { if ( 1 ) { while ( 1 ) { return 7 ; } } } }"), 8, 2);
        dueShown("nothing behind it", ended("fn f0 0 { print f1 ( ) ; } fn f1 0 { return 4 ; print 5 ; }"), 4);
        dueShown("of f0", ended("fn f0 0 { print 1 ; return 5 ; print 2 ; }"), 1);
        dueShown("of f0 in f0", ended("fn f0 0 { if ( g0 ) { return 5 ; } g0 = 1 ; print f0 ( ) ; }"), 5);
        ShortMill value = started("fn f0 0 { g0 = f1 ( ) ; } fn f1 0 { return 1 / 0 ; }");
        due("its value is worked out", value.run(200), DIVIDED);
        due("while it runs", value.about(6), 2);
    }

    @Sentence(promise = 6, says = "at its end it is 0")
    void endsWithZero() {
        dueShown("an empty one", ended("fn f0 0 { print 7 - f1 ( ) ; } fn f1 0 { }"), 7);
        dueShown("one that worked out values", ended("fn f0 0 { print 7 - f1 ( 5 ) ; } fn f1 1 { g0 = l0 ; }"), 7);
        dueShown("one that might return", ended("fn f0 0 { print 7 - f1 ( 0 ) - f1 ( 1 ) ; } "
            + "fn f1 1 { if ( l0 ) { return 5 ; } }"), 2);
        dueShown("behind a call in it", ended("fn f0 0 { print f1 ( ) ; } fn f1 0 { f2 ( ) ; } fn f2 0 { return 3 ; }"), 0);
    }

    @Sentence(promise = 6, says = "A statement that is a call throws the value away.")
    void valueThrownAway() {
        ShortMill mill = started("fn f0 0 { while ( g0 < 99 * 99 ) { f1 ( 1 ) ; f2 ( ) ; } } "
            + "fn f1 1 { g0 = g0 + l0 ; return g0 ; } fn f2 0 { }");
        for (int k = 0; k < 100; k++) {
            due("run", mill.run(200), READY);
        }
        due("f1 ran", mill.global(0), 4000);
        due("about(3)", mill.about(3), 20000);
        due("nothing else is set", mill.global(1), 0);
        dueShown("inside a value", ended("fn f0 0 { print 7 - f1 ( ) ; } fn f1 0 { f2 ( ) ; return 1 ; } "
            + "fn f2 0 { return 50 ; }"), 6);
    }

    @Sentence(promise = 6, says = "Where it is said that a value is 0 or not: if and while.")
    void zeroOrNot() {
        for (int v : new int[] {0, 1, -1, 2, 256, -256, 32767, -32768}) {
            ShortMill mill = started("fn f0 0 { if ( read ) { print 1 ; } else { print 2 ; } if ( read ) { print 3 ; } "
                + "while ( read ) { print 4 ; } print 5 ; }");
            for (int value : new int[] {v, v, v, 0}) {
                mill.key(value);
            }
            due("by " + v, mill.run(200), ENDED);
            if (v == 0) {
                dueShown("by 0", mill, 2, 5);
            } else {
                dueShown("by " + v, mill, 1, 3, 4, 5);
            }
        }
    }

    @Sentence(promise = 6, says = "if ( value ) block [ else block ]   or   while ( value ) block")
    void blocksInBlocks() {
        dueShown("the deepest blocks run", ended("fn f0 0 { while ( l0 < 2 ) { "
            + "if ( l0 ) { if ( 0 ) { print 1 ; } else { print 2 ; } } "
            + "else { while ( l1 < 2 ) { l1 = l1 + 1 ; print l1 + 10 ; } } l0 = l0 + 1 ; } print 3 ; }"), 11, 12, 2, 3);
        dueShown("empty blocks", ended("fn f0 0 { if ( 1 ) { } else { print 1 ; } if ( 0 ) { print 2 ; } else { } "
            + "while ( 0 ) { } if ( 1 ) { } print 3 ; }"), 3);
        dueShown("loops and choices inside a value", ended("fn f0 0 { print 7 - f1 ( ) ; } "
            + "fn f1 0 { while ( l0 < 2 ) { l0 = l0 + 1 ; } if ( 1 ) { } else { } return 1 ; }"), 6);
    }

    /** The fullest that values in values can be, in all functions that may run at once. */
    @Sentence(promise = 6, says = "VALUES are 16-bit numbers")
    void valuesInValues() {
        dueShown("the deepest value", ended("fn f0 0 { a1 [ 2 ] = 6 ; print 1 + ( 2 * a1 [ f1 ( 2 , 1 ) ] ) ; } "
            + "fn f1 2 { return l0 * l1 ; }"), 13);
        String inner = "1 + 2 * f2 ( 3 , 4 , ";
        ShortMill deep = ended("fn f0 0 { print f1 ( ) ; } fn f2 3 { return l0 * 5 - l1 + l2 ; } "
            + "fn f1 0 { g0 = g0 + 1 ; if ( g0 == 9 ) { return 5 ; } "
            + "a0 [ 1 ] = " + inner.repeat(3) + "1 + 2 * f1 ( ) ) ) ) ; return a0 [ 1 ] ; }");
        int want = 5;
        for (int f = 0; f < 8; f++) {
            want = 1 + 2 * want;
            for (int k = 0; k < 3; k++) {
                want = (short) (1 + 2 * (3 * 5 - 4 + want));
            }
        }
        dueShown("10 functions with open values", deep, want);
    }

    /** As many values open at once as any text can have: each level gives what the one in it gave. */
    @Sentence(promise = 6, says = "a call when 10 functions run already")
    void mostOpenValues() {
        String level = "12 < 1 + 1 * ";
        String source = "fn f0 0 { g0 = g0 + 1 ; if ( g0 == 10 ) { return read * 12 ; } a0 [ 1 ] = "
            + (level + "f1 ( 3 , 4 , ").repeat(3) + level + "f0 ( ) ) ) ) ; return a0 [ 1 ] * 12 ; } "
            + "fn f1 3 { return l0 * 5 - l1 + l2 ; }";
        for (int v = 0; v <= 1; v++) {
            ShortMill mill = started(source);
            mill.key(v);
            due("down to the tenth with " + v, mill.run(29), READY);
            due("10 run", mill.about(6), 10);
            due("and back", mill.run(200), ENDED);
            due("what came back", mill.array(0, 1), v);
            due("10 of f0", mill.global(0), 10);
        }
    }

    public static void main(String[] args) {
        new Promise6RunningTest().runAll();
    }
}
