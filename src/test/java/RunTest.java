/** Promises 4, 5 and 6: start, key, run; when statements begin, and the states. */
final class RunTest {
    private static final Class<IllegalArgumentException> ARGUMENT = IllegalArgumentException.class;
    private static final Class<IllegalStateException> STATE = IllegalStateException.class;
    private static final int READY = 1;
    private static final int WAITING = 2;
    private static final int ENDED = 3;
    private static final int DIVIDED = 4;
    private static final int OUTSIDE = 5;
    private static final int DEEP = 6;

    private final Check check = new Check();

    private void starts() {
        ShortMill mill = new ShortMill();
        check.dueThrow("no program", STATE, mill::start);
        mill.key(3);
        Check.compiled(mill, "fn f0 0 { g0 = 1 ; a0 [ 1 ] = 2 ; l0 = 3 ; print read ; print l1 ; l1 = 5 ; }");
        check.due("state", mill.about(0), 0);
        for (int time = 0; time < 2; time++) {
            check.due("start", mill.start() ? 1 : 0, 1);
            int[] want = {READY, 0, 1, 0, 0, 1 - time, 1};
            for (int what = 0; what < want.length; what++) {
                check.due("started: about(" + what + ")", mill.about(what), want[what]);
            }
            check.due("global", mill.global(0), 0);
            check.due("array", mill.array(0, 1), 0);
            check.dueThrow("shown", IndexOutOfBoundsException.class, () -> mill.shown(0));
            mill.run(200);
            check.due("state at the end", mill.about(0), time == 0 ? ENDED : WAITING);
            check.due("global at the end", mill.global(0), 1);
        }
        mill.start();
        check.due("out of WAITING too", mill.about(0), READY);
        mill.key(7);
        check.due("to the end", mill.run(200), ENDED);
        check.due("locals begin as 0", mill.shown(0), 0);
    }

    private void keys() {
        ShortMill mill = new ShortMill();
        check.dueThrow("above", ARGUMENT, () -> mill.key(32768));
        check.dueThrow("below", ARGUMENT, () -> mill.key(-32769));
        check.due("highest", mill.key(32767), 1);
        check.due("lowest", mill.key(-32768), 2);
        for (int k = 3; k <= 8; k++) {
            check.due("key " + k, mill.key(k), k);
        }
        check.dueThrow("ninth", STATE, () -> mill.key(0));
        check.dueThrow("ninth and wrong", ARGUMENT, () -> mill.key(40000));
        check.due("still 8", mill.about(5), 8);
        Check.compiled(mill, "fn f0 0 { while ( 1 ) { print read ; } }");
        mill.start();
        check.due("two reads", mill.run(4), READY);
        check.due("6 are left", mill.about(5), 6);
        check.due("first in first out", mill.shown(1), 32767);
        check.due("then the next", mill.shown(0), -32768);
        check.due("seventh", mill.key(9), 7);
        check.due("eighth", mill.key(10), 8);
        check.dueThrow("full again", STATE, () -> mill.key(11));
        check.due("all are read", mill.run(200), WAITING);
        for (int i = 0; i < 8; i++) {
            check.due("in order", mill.shown(i), 10 - i);
        }
        check.due("none is left", mill.about(5), 0);
    }

    private void bounds() {
        ShortMill mill = new ShortMill();
        check.dueThrow("run(1) of nothing", STATE, () -> mill.run(1));
        check.dueThrow("run(0) of nothing", ARGUMENT, () -> mill.run(0));
        Check.compiled(mill, "fn f0 0 { while ( 1 ) { g0 = g0 + 1 ; } }");
        check.dueThrow("run(1) before start", STATE, () -> mill.run(1));
        mill.start();
        for (int n : new int[] {0, 201, -1, Integer.MIN_VALUE, Integer.MAX_VALUE}) {
            check.dueThrow("run(" + n + ")", ARGUMENT, () -> mill.run(n));
        }
        check.due("none has begun", mill.about(3), 0);
        check.due("run(1)", mill.run(1), READY);
        check.due("one has begun", mill.about(3), 1);
        check.due("its block has not", mill.global(0), 0);
        check.due("run(200)", mill.run(200), READY);
        check.due("201 have begun", mill.about(3), 201);
        check.due("100 in the block", mill.global(0), 100);
    }

    private void statementsBegin() {
        ShortMill mill = Check.started("fn f0 0 { while ( g0 < 2 ) { g0 = g0 + 1 ; } if ( g0 ) { g1 = 1 ; } else { g1 = 2 ; } }");
        int[] g0 = {0, 1, 1, 2, 2, 2};
        for (int k = 0; k < g0.length; k++) {
            check.due("step " + k, mill.run(1), READY);
            check.due("begun " + k, mill.about(3), k + 1);
            check.due("g0 " + k, mill.global(0), g0[k]);
        }
        check.due("the last one goes on to the end", mill.run(1), ENDED);
        check.due("7 begun", mill.about(3), 7);
        check.due("g1", mill.global(1), 1);
        check.due("none runs", mill.about(6), 0);
        check.due("nothing goes on", mill.run(200), ENDED);
        check.due("7 begun still", mill.about(3), 7);
    }

    private void emptyMain() {
        ShortMill mill = Check.started("fn f0 0 { }");
        check.due("about to end", mill.about(0), READY);
        check.due("one runs", mill.about(6), 1);
        check.due("ends", mill.run(1), ENDED);
        check.due("nothing has begun", mill.about(3), 0);
        check.due("none runs", mill.about(6), 0);
    }

    private void calls() {
        ShortMill mill = Check.started("fn f0 0 { g0 = 1 + f1 ( 2 , 3 ) ; g1 = 9 ; } fn f1 2 { l2 = l0 * 10 + l1 ; return l2 ; g2 = 1 ; }");
        check.due("the call is about to begin its statements", mill.run(1), READY);
        check.due("two run", mill.about(6), 2);
        check.due("not set yet", mill.global(0), 0);
        check.due("l2 is set", mill.run(1), READY);
        check.due("two run still", mill.about(6), 2);
        check.due("return", mill.run(1), READY);
        check.due("one runs", mill.about(6), 1);
        check.due("set", mill.global(0), 24);
        check.due("what follows", mill.global(1), 0);
        check.due("the end", mill.run(1), ENDED);
        check.due("behind return nothing", mill.global(2), 0);
        check.due("4 begun", mill.about(3), 4);
    }

    private void endsOfFunctions() {
        ShortMill mill = Check.started("fn f0 0 { g0 = f1 ( ) + 1 ; f2 ( ) ; return 5 ; g1 = 1 ; } fn f1 0 { } fn f2 0 { while ( 1 ) { if ( 1 ) { return 7 ; } } }");
        check.due("an empty function begins nothing", mill.run(1), READY);
        check.due("it is 0", mill.global(0), 1);
        check.due("return out of blocks, return of f0", mill.run(5), ENDED);
        check.due("6 begun", mill.about(3), 6);
        check.due("behind f0's return nothing", mill.global(1), 0);
        ShortMill own = Check.started("fn f0 0 { l0 = 5 ; l1 = 6 ; print f1 ( 1 ) ; print l0 ; print l1 ; } fn f1 1 { print l0 ; print l1 ; print l7 ; l0 = 8 ; l1 = 8 ; l7 = 8 ; if ( g0 ) { return 3 ; } g0 = 1 ; print f1 ( 4 ) ; }");
        check.due("locals of its own", own.run(200), ENDED);
        int[] want = {1, 0, 0, 4, 0, 0, 3, 0, 5, 6};
        check.due("shown", own.about(4), want.length);
        for (int i = 0; i < want.length; i++) {
            check.due("number " + i, own.shown(want.length - 1 - i), want[i]);
        }
    }

    private void everyRunningIsNew() {
        ShortMill first = Check.started("fn f2 0 { g1 = 2 ; } fn f1 1 { print l0 ; } fn f0 0 { f1 ( 6 ) ; f2 ( ) ; }");
        check.due("f0 is the last function", first.run(200), ENDED);
        check.due("it called f1", first.shown(0), 6);
        check.due("it called f2", first.global(1), 2);
        ShortMill stale = Check.started("fn f0 0 { f1 ( 1 , 2 , 3 ) ; f2 ( ) ; } fn f1 3 { l7 = 4 ; } fn f2 0 { print l0 ; print l1 ; print l2 ; print l7 ; }");
        check.due("locals of what ran before", stale.run(200), ENDED);
        for (int i = 0; i < 4; i++) {
            check.due("are gone", stale.shown(i), 0);
        }
        ShortMill pending = Check.started("fn f0 0 { print 7 - f1 ( ) ; print 7 - f2 ( 1 , 2 , 3 ) - 1 ; } fn f1 0 { } fn f2 3 { return l0 * 100 + l1 * 10 + l2 - 120 ; }");
        check.due("calls inside values", pending.run(200), ENDED);
        check.due("f1 is 0", pending.shown(1), 7);
        check.due("f2 has its arguments in order", pending.shown(0), 3);
        ShortMill jumps = Check.started("fn f0 0 { print 7 - f1 ( ) ; } fn f1 0 { while ( l0 < 2 ) { l0 = l0 + 1 ; } if ( 1 ) { } else { } return 1 ; }");
        check.due("loops and choices inside values", jumps.run(200), ENDED);
        check.due("leave them alone", jumps.shown(0), 6);
        ShortMill often = Check.started("fn f0 0 { while ( g0 < 99 * 99 ) { f1 ( 1 ) ; f2 ( ) ; } } fn f1 1 { g0 = g0 + l0 ; return g0 ; } fn f2 0 { }");
        for (int k = 0; k < 10; k++) {
            often.run(200);
        }
        check.due("values of calls are thrown away", often.global(0), 400);
        check.due("about(3)", often.about(3), 2000);
    }

    private void clearsAll() {
        StringBuilder source = new StringBuilder("fn f0 0 { while ( l0 < 8 ) {");
        for (int a = 0; a < 4; a++) {
            source.append(" a" + a + " [ l0 ] = 9 ;");
        }
        source.append(" l0 = l0 + 1 ; }");
        for (int g = 0; g < 8; g++) {
            source.append(" g" + g + " = 9 ;");
        }
        ShortMill mill = Check.started(source + " }");
        check.due("all set", mill.run(200), ENDED);
        mill.start();
        for (int k = 0; k < 8; k++) {
            check.due("global " + k, mill.global(k), 0);
            for (int a = 0; a < 4; a++) {
                check.due("array " + a + " " + k, mill.array(a, k), 0);
            }
        }
    }

    private void endsStay() {
        String[] ends = {"return 1 ;", "print 1 / 0 ;", "print a0 [ 8 ] ;", "f0 ( ) ;"};
        for (int k = 0; k < ends.length; k++) {
            ShortMill mill = Check.started("fn f0 0 { " + ends[k] + " print read ; }");
            check.due(ends[k], mill.run(200), ENDED + k);
            mill.key(1);
            int begun = mill.about(3);
            check.due(ends[k] + " with a key", mill.run(200), ENDED + k);
            check.due(ends[k] + " key", mill.about(5), 1);
            check.due(ends[k] + " begun", mill.about(3), begun);
            check.due(ends[k] + " shown", mill.about(4), 0);
        }
    }

    /** The densest texts there are, so that rows inside the class are filled as far as may be. */
    private void densest() {
        ShortMill prints = Check.started("fn f0 0 {" + " print 1 ;".repeat(51) + " }");
        check.due("51 statements", prints.run(51), ENDED);
        check.due("51 numbers", prints.about(4), 51);
        String inner = "1 + 2 * f2 ( 3 , 4 , ";
        ShortMill deep = Check.started("fn f0 0 { print f1 ( ) ; } fn f2 3 { return l0 * 5 - l1 + l2 ; } "
            + "fn f1 0 { g0 = g0 + 1 ; if ( g0 == 9 ) { return 5 ; } "
            + "a0 [ 1 ] = " + inner.repeat(3) + "1 + 2 * f1 ( ) ) ) ) ; return a0 [ 1 ] ; }");
        check.due("10 functions with open values", deep.run(200), ENDED);
        int want = 5;
        for (int f = 0; f < 8; f++) {
            want = 1 + 2 * want;
            for (int k = 0; k < 3; k++) {
                want = (short) (1 + 2 * (3 * 5 - 4 + want));
            }
        }
        check.due("the value of all", deep.shown(0), want);
    }

    private void waits() {
        ShortMill mill = Check.started("fn f0 0 { g0 = 1 ; g1 = g0 + read * f1 ( read ) ; g2 = 1 ; g3 = 1 ; } fn f1 1 { g0 = 50 ; return l0 + read ; }");
        check.due("waits", mill.run(2), WAITING);
        check.due("has begun", mill.about(3), 2);
        check.due("no key", mill.run(200), WAITING);
        mill.key(3);
        check.due("still waiting until it runs", mill.about(0), WAITING);
        check.due("waits again", mill.run(1), WAITING);
        check.due("taken", mill.about(5), 0);
        check.due("none has begun", mill.about(3), 2);
        mill.key(4);
        check.due("goes on in its statement, then in f1", mill.run(1), READY);
        check.due("one more has begun", mill.about(3), 3);
        check.due("two run", mill.about(6), 2);
        check.due("waits in f1", mill.run(1), WAITING);
        check.due("two run waiting", mill.about(6), 2);
        mill.key(5);
        check.due("ends the statement, begins one more", mill.run(1), READY);
        check.due("left to right: the old g0", mill.global(1), 28);
        check.due("g2", mill.global(2), 1);
        check.due("g3", mill.global(3), 0);
        check.due("5 begun", mill.about(3), 5);
        check.due("the end", mill.run(1), ENDED);
    }

    private void divided() {
        String[] values = {"1 / 0", "1 % 0", "0 / g0", "f1 ( ) / ( 3 - 3 )"};
        for (String value : values) {
            ShortMill mill = Check.started("fn f0 0 { f2 ( ) ; } fn f1 0 { return 2 ; } fn f2 0 { g1 = " + value + " ; g2 = 1 ; }");
            check.due(value, mill.run(200), DIVIDED);
            check.due(value + " two run", mill.about(6), 2);
            int begun = mill.about(3);
            check.due(value + " stays", mill.run(200), DIVIDED);
            check.due(value + " begun", mill.about(3), begun);
            check.due(value + " not set", mill.global(1), 0);
            check.due(value + " nothing behind", mill.global(2), 0);
            check.due(value + " starts again", mill.start() ? 1 : 0, 1);
            check.due(value + " ready", mill.about(0), READY);
        }
    }

    private void outside() {
        for (String i : new String[] {"8", "- 1", "127", "- 1 / 2 - 127 * 127"}) {
            ShortMill get = Check.started("fn f0 0 { print a1 [ " + i + " ] + read ; }");
            check.due("get " + i, get.run(1), OUTSIDE);
            ShortMill set = Check.started("fn f0 0 { a1 [ " + i + " ] = read ; g1 = 1 ; }");
            check.due("set " + i + " looks only when it is set", set.run(1), WAITING);
            set.key(1);
            check.due("set " + i, set.run(1), OUTSIDE);
            check.due("one runs", set.about(6), 1);
            check.due("stays", set.run(9), OUTSIDE);
        }
        ShortMill both = Check.started("fn f0 0 { a0 [ 8 ] = 1 / 0 ; }");
        check.due("the value comes first", both.run(1), DIVIDED);
        ShortMill order = Check.started("fn f0 0 { a0 [ f1 ( ) ] = f2 ( ) ; } fn f1 0 { print 1 ; return 7 ; } fn f2 0 { print 2 ; return 5 ; }");
        check.due("brackets first", order.run(200), ENDED);
        check.due("f2 last", order.shown(0), 2);
        check.due("set", order.array(0, 7), 5);
        ShortMill edges = Check.started("fn f0 0 { a3 [ 0 ] = 1 ; a3 [ 7 ] = 2 ; print a3 [ 0 ] + a3 [ 7 ] ; }");
        check.due("0 and 7 are there", edges.run(3), ENDED);
        check.due("both", edges.shown(0), 3);
    }

    private void deep() {
        String source = "fn f0 0 { f1 ( # ) ; } fn f1 1 { g0 = g0 + 1 ; if ( 1 < l0 ) { g1 = f1 ( l0 - 1 ) + 1 ; } return g1 ; }";
        ShortMill ten = Check.started(source.replace("#", "9"));
        check.due("10 run", ten.run(200), ENDED);
        check.due("9 of f1", ten.global(0), 9);
        check.due("all came back", ten.global(1), 8);
        ShortMill eleven = Check.started(source.replace("#", "10"));
        check.due("one more", eleven.run(200), DEEP);
        check.due("10 run", eleven.about(6), 10);
        check.due("9 of f1 began", eleven.global(0), 9);
        check.due("stays", eleven.run(1), DEEP);
        ShortMill arguments = Check.started("fn f0 0 { f1 ( 1 ) ; } fn f1 1 { g0 = g0 + 1 ; f1 ( 1 / ( 9 - g0 ) ) ; }");
        check.due("arguments before the depth", arguments.run(200), DIVIDED);
        ShortMill waiting = Check.started("fn f0 0 { f0 ( ) ; }");
        check.due("f0 counts too", waiting.run(200), DEEP);
        check.due("10 began", waiting.about(3), 10);
    }

    public static void main(String[] args) {
        RunTest test = new RunTest();
        test.starts();
        test.keys();
        test.bounds();
        test.statementsBegin();
        test.emptyMain();
        test.calls();
        test.endsOfFunctions();
        test.everyRunningIsNew();
        test.clearsAll();
        test.endsStay();
        test.densest();
        test.waits();
        test.divided();
        test.outside();
        test.deep();
        test.check.end();
    }
}
