/** Promise 6, by the terms' "A STATEMENT BEGINS" and states. */
final class Promise6StatesTest extends Sentences {
    @Sentence(promise = 6, says = "A STATEMENT BEGINS when it is its turn")
    void whenItIsItsTurn() {
        ShortMill mill = started("fn f0 0 { g0 = 1 ; if ( g0 ) { g1 = 1 ; } else { g1 = 2 ; } if ( 0 ) { g2 = 3 ; } print 4 ; "
            + "f1 ( ) ; g4 = 5 ; } fn f1 0 { }");
        int[] g0 = {1, 1, 1, 1, 1, 1, 1};
        int[] g1 = {0, 0, 1, 1, 1, 1, 1};
        int[] shown = {0, 0, 0, 0, 1, 1, 1};
        int[] g4 = {0, 0, 0, 0, 0, 0, 5};
        for (int k = 0; k < 7; k++) {
            due("step " + k, mill.run(1), k == 6 ? ENDED : READY);
            due("begun " + k, mill.about(3), k + 1);
            due("g0 " + k, mill.global(0), g0[k]);
            due("g1 " + k, mill.global(1), g1[k]);
            due("g2 " + k, mill.global(2), 0);
            due("shown " + k, mill.about(4), shown[k]);
            due("g4 " + k, mill.global(4), g4[k]);
        }
    }

    @Sentence(promise = 6, says = "a while anew each time before its value is worked out")
    void whileAnew() {
        ShortMill mill = started("fn f0 0 { while ( g0 < 2 ) { g0 = g0 + 1 ; } g1 = 1 ; }");
        int[] g0 = {0, 1, 1, 2, 2, 2};
        for (int k = 0; k < g0.length; k++) {
            due("step " + k, mill.run(1), k == 5 ? ENDED : READY);
            due("begun " + k, mill.about(3), k + 1);
            due("g0 " + k, mill.global(0), g0[k]);
            due("g1 " + k, mill.global(1), k == 5 ? 1 : 0);
        }
        ShortMill reads = started("fn f0 0 { while ( read ) { } }");
        due("it has begun when its value waits", reads.run(1), WAITING);
        due("once", reads.about(3), 1);
        reads.key(1);
        due("its block is empty: it is about to begin anew", reads.run(1), WAITING);
        due("twice", reads.about(3), 2);
        reads.key(0);
        due("the end", reads.run(1), ENDED);
        due("twice still", reads.about(3), 2);
        ShortMill empty = started("fn f0 0 { while ( 1 ) { } }");
        due("an empty block", empty.run(200), READY);
        due("begins each time", empty.about(3), 200);
        ShortMill never = started("fn f0 0 { while ( 0 ) { g0 = 1 ; } }");
        due("a block that never is", never.run(200), ENDED);
        due("begins once", never.about(3), 1);
    }

    @Sentence(promise = 6, says = "STATES: 0 NONE: nothing was started")
    void none() {
        ShortMill mill = new ShortMill();
        due("new", mill.about(0), NOTHING);
        mill.key(1);
        due("with a key", mill.about(0), NOTHING);
        due("compile", compiled(mill, "fn f0 0 { }"), 1);
        due("compiled", mill.about(0), NOTHING);
        dueRefused("run", STATE, mill, () -> mill.run(1));
        mill.start();
        due("started", mill.about(0), READY);
    }

    @Sentence(promise = 6, says = "1 READY: a statement is about to begin (or f0 about to end)")
    void ready() {
        ShortMill mill = started("fn f0 0 { g0 = 1 ; g0 = 2 ; }");
        due("start", mill.about(0), READY);
        due("run", mill.run(1), READY);
        due("about(0)", mill.about(0), READY);
        due("the first has run", mill.global(0), 1);
        ShortMill empty = started("fn f0 0 { }");
        due("f0 about to end", empty.about(0), READY);
        due("it runs still", empty.about(6), 1);
        due("it ends", empty.run(1), ENDED);
        due("nothing has begun", empty.about(3), 0);
        due("none runs", empty.about(6), 0);
    }

    @Sentence(promise = 6, says = "2 WAITING: read, and no key is there")
    void waiting() {
        String[] places = {"print read ;", "g0 = 1 + read ;", "if ( read ) { }", "while ( read ) { }", "return read ;",
            "f1 ( read ) ;", "a0 [ read ] = 1 ;", "a0 [ 1 ] = read ;", "print a0 [ read ] ;", "print f1 ( 1 + read ) ;"};
        for (String place : places) {
            ShortMill mill = started("fn f0 0 { " + place + " } fn f1 1 { }");
            due(place, mill.run(1), WAITING);
            due(place + " begun", mill.about(3), 1);
            due(place + " runs", mill.about(6), 1);
            mill.key(0);
            due(place + " with a key", mill.run(1), ENDED);
            due(place + " begun still", mill.about(3), 1);
            due(place + " the key is gone", mill.about(5), 0);
            ShortMill ready = started("fn f0 0 { " + place + " } fn f1 1 { }");
            ready.key(0);
            due(place + " with a key before", ready.run(1), ENDED);
        }
    }

    @Sentence(promise = 6, says = "3 ENDED: f0 has ended")
    void ended() {
        for (String statements : new String[] {"", "g0 = 1 ;", "return 1 ;", "while ( 1 ) { return 1 ; }", "if ( 0 ) { }"}) {
            ShortMill mill = started("fn f0 0 { " + statements + " }");
            due(statements, mill.run(200), ENDED);
            due(statements + " about(0)", mill.about(0), ENDED);
            due(statements + " runs", mill.about(6), 0);
        }
        ShortMill inner = started("fn f0 0 { if ( g0 == 0 ) { g0 = 1 ; f0 ( ) ; g0 = 2 ; } g1 = g1 + 1 ; }");
        due("an f0 inside f0 may end", inner.run(4), READY);
        due("inside", inner.about(6), 2);
        due("it ends", inner.run(1), READY);
        due("the first f0 runs", inner.about(6), 1);
        due("g1", inner.global(1), 1);
        due("to the end", inner.run(200), ENDED);
        due("both went on", inner.global(1), 2);
    }

    @Sentence(promise = 6, says = "4 DIVIDED: / or % by 0")
    void divided() {
        for (String value : new String[] {"1 / 0", "1 % 0", "0 / g0", "0 % 0", "f1 ( ) / ( 3 - 3 )", "1 + 2 * ( 3 / 0 )"}) {
            ShortMill mill = started("fn f0 0 { f2 ( ) ; } fn f1 0 { return 2 ; } fn f2 0 { g1 = " + value + " ; g2 = 1 ; }");
            due(value, mill.run(200), DIVIDED);
            due(value + " two run", mill.about(6), 2);
            due(value + " not set", mill.global(1), 0);
            due(value + " nothing behind", mill.global(2), 0);
        }
        ShortMill fine = started("fn f0 0 { print 0 / 1 ; print 0 % 1 ; print 1 / - 1 ; }");
        due("by 1 and -1", fine.run(200), ENDED);
        dueShown("by 1 and -1", fine, 0, 0, -1);
    }

    @Sentence(promise = 6, says = "5 OUTSIDE: an array has no place of that number (0 .. 7)")
    void outside() {
        for (int a = 0; a < 4; a++) {
            for (int i : new int[] {-32768, -8, -1, 0, 7, 8, 9, 16, 255, 256, 32767}) {
                boolean has = i >= 0 && i <= 7;
                ShortMill get = started("fn f0 0 { g0 = a" + a + " [ read ] + 1 ; print 5 ; }");
                get.key(i);
                due("get a" + a + " " + i, get.run(200), has ? ENDED : OUTSIDE);
                due("got a" + a + " " + i, get.global(0), has ? 1 : 0);
                due("behind a" + a + " " + i, get.about(4), has ? 1 : 0);
                ShortMill set = started("fn f0 0 { a" + a + " [ read ] = 9 ; print 5 ; }");
                set.key(i);
                due("set a" + a + " " + i, set.run(200), has ? ENDED : OUTSIDE);
                due("running a" + a + " " + i, set.about(6), has ? 0 : 1);
                for (int b = 0; b < 4; b++) {
                    for (int k = 0; k < 8; k++) {
                        due("a" + a + " " + i + " seen at " + b + " " + k, set.array(b, k), a == b && i == k ? 9 : 0);
                    }
                }
            }
        }
    }

    @Sentence(promise = 6, says = "6 DEEP: a call when 10 functions run already")
    void deep() {
        String source = "fn f0 0 { f1 ( # ) ; } "
            + "fn f1 1 { g0 = g0 + 1 ; if ( 1 < l0 ) { g1 = f1 ( l0 - 1 ) + 1 ; } return g1 ; }";
        ShortMill ten = started(source.replace("#", "9"));
        due("10 run", ten.run(200), ENDED);
        due("9 of f1", ten.global(0), 9);
        due("all came back", ten.global(1), 8);
        ShortMill eleven = started(source.replace("#", "10"));
        due("an eleventh", eleven.run(200), DEEP);
        due("10 run", eleven.about(6), 10);
        due("9 of f1 began", eleven.global(0), 9);
        due("none came back", eleven.global(1), 0);
        ShortMill main = started("fn f0 0 { f0 ( ) ; }");
        due("nine calls of f0", main.run(9), READY);
        due("10 of f0 run", main.about(6), 10);
        due("one call more", main.run(1), DEEP);
        due("10 run", main.about(6), 10);
        due("10 began", main.about(3), 10);
        ShortMill empty = started("fn f0 0 { g0 = g0 + 1 ; if ( g0 == 10 ) { print f1 ( ) ; } f0 ( ) ; } fn f1 0 { }");
        due("a call of an empty function", empty.run(200), DEEP);
        dueShown("shows nothing", empty);
    }

    @Sentence(promise = 6, says = "when 10 functions run already")
    void tenAgainAndAgain() {
        ShortMill mill = started("fn f0 0 { while ( g0 < 20 ) { g0 = g0 + 1 ; g1 = g1 + f1 ( 9 ) ; } } "
            + "fn f1 1 { if ( l0 == 1 ) { return 1 ; } return f1 ( l0 - 1 ) + 1 ; }");
        for (int k = 0; k < 4; k++) {
            mill.run(200);
        }
        due("those that have ended do not count", mill.about(0), ENDED);
        due("20 times 9", mill.global(1), 180);
    }

    @Sentence(promise = 6, says = "(looked at behind its arguments)")
    void deepBehindArguments() {
        String source = "fn f0 0 { f1 ( 0 ) ; } fn f1 1 { g0 = g0 + 1 ; if ( g0 == 9 ) { f1 ( # ) ; } f1 ( 0 ) ; }";
        ShortMill divided = started(source.replace("#", "1 / 0"));
        due("arguments that divide", divided.run(200), DIVIDED);
        due("10 run", divided.about(6), 10);
        ShortMill outside = started(source.replace("#", "a0 [ 8 ]"));
        due("arguments that are outside", outside.run(200), OUTSIDE);
        ShortMill reads = started(source.replace("#", "read"));
        due("arguments that wait", reads.run(200), WAITING);
        due("10 run", reads.about(6), 10);
        int begun = reads.about(3);
        reads.key(5);
        due("then it is too deep", reads.run(200), DEEP);
        due("the key is gone", reads.about(5), 0);
        due("none has begun", reads.about(3), begun);
        ShortMill calls = started(source.replace("#", "f2 ( read )") + " fn f2 1 { print 1 ; }");
        due("a call as an argument: its own arguments", calls.run(200), WAITING);
        calls.key(1);
        due("then it is itself too deep", calls.run(200), DEEP);
        dueShown("it has not run", calls);
    }

    @Sentence(promise = 6, says = "In 3 to 6 nothing goes on.")
    void nothingGoesOn() {
        for (int state = ENDED; state <= DEEP; state++) {
            ShortMill mill = inState(state);
            int end = state;
            dueUnchanged("in state " + state, mill, () -> {
                for (int n : new int[] {1, 2, 200}) {
                    due("run(" + n + ") in state " + end, mill.run(n), end);
                }
                dueThrow("run(0) in state " + end, ARGUMENT, () -> mill.run(0));
                dueThrow("run(201) in state " + end, ARGUMENT, () -> mill.run(201));
            });
        }
        String[] ends = {"return 1 ;", "print 1 / 0 ;", "print a0 [ 8 ] ;", "f0 ( ) ;"};
        for (int k = 0; k < ends.length; k++) {
            ShortMill mill = started("fn f0 0 { " + ends[k] + " print read ; }");
            mill.key(1);
            due(ends[k], mill.run(200), ENDED + k);
            due(ends[k] + " again", mill.run(200), ENDED + k);
            due(ends[k] + " the key stays", mill.about(5), 1);
            due(ends[k] + " nothing is shown", mill.about(4), 0);
        }
    }

    public static void main(String[] args) {
        new Promise6StatesTest().runAll();
    }
}
