/** Promise 3: compile, the grammar, the errors with their places. */
final class CompileTest {
    private final Check check = new Check();

    private void whole() {
        check.dueFunctions("fn f0 0 { }", 1);
        check.dueFunctions("fn f1 3 { } fn f0 0 { }", 2);
        check.dueFunctions("fn f0 0 { } fn f1 0 { } fn f2 1 { } fn f3 2 { } fn f4 3 { } fn f5 0 { }", 6);
        check.dueFunctions("fn f0 0 { g7 = 127 ; l7 = read ; a3 [ g0 ] = ! l0 ; }", 1);
        check.dueFunctions("fn f0 0 { if ( 1 ) { } else { } if ( 0 ) { } while ( 0 ) { } return 0 ; print 1 ; }", 1);
        check.dueFunctions("fn f0 0 { f1 ( 1 , 2 , 3 ) ; print f1 ( f0 ( ) , 1 , 2 ) ; } fn f1 3 { }", 2);
        check.dueFunctions("fn f0 0 { print 1 + 2 - 3 * 4 / 5 % 6 < - 7 ; print ! 1 == 2 ; print a0 [ 1 ] ; }", 1);
    }

    private void misfits() {
        check.dueError("{", 1, 0);
        check.dueError("#24", 1, 0);
        check.dueError("fn", 1, 1);
        check.dueError("fn g0", 1, 1);
        check.dueError("fn #51", 1, 1);
        check.dueError("fn #58 0 { }", 1, 1);
        check.dueError("fn f0", 1, 2);
        check.dueError("fn f0 4 { }", 1, 2);
        check.dueError("fn f0 #63 { }", 1, 2);
        check.dueError("fn f0 {", 1, 2);
        check.dueError("fn f0 0", 1, 3);
        check.dueError("fn f0 0 ;", 1, 3);
        check.dueError("fn f0 0 {", 1, 4);
        check.dueError("fn f0 0 { } }", 1, 5);
        check.dueError("fn f0 0 { } fn f1 0 {", 1, 9);
        check.dueError("fn f0 0 { ; }", 1, 4);
        check.dueError("fn f0 0 { else { } }", 1, 4);
        check.dueError("fn f0 0 { 1 ; }", 1, 4);
        check.dueError("fn f0 0 { read ; }", 1, 4);
        check.dueError("fn f0 0 { { } }", 1, 4);
        check.dueError("fn f0 0 { g0 1 ; }", 1, 5);
        check.dueError("fn f0 0 { g0 [ 1 ] = 1 ; }", 1, 5);
        check.dueError("fn f0 0 { l0 == 1 ; }", 1, 5);
        check.dueError("fn f0 0 { a0 = 1 ; }", 1, 5);
        check.dueError("fn f0 0 { a0 [ ] = 1 ; }", 1, 6);
        check.dueError("fn f0 0 { a0 [ 1 ) = 1 ; }", 1, 7);
        check.dueError("fn f0 0 { a0 [ 1 ] ; }", 1, 8);
        check.dueError("fn f0 0 { g0 = ; }", 1, 6);
        check.dueError("fn f0 0 { g0 = 1 }", 1, 7);
        check.dueError("fn f0 0 { g0 = 1", 1, 7);
        check.dueError("fn f0 0 { f0 ; }", 1, 5);
        check.dueError("fn f0 0 { f0 ( ; }", 1, 6);
        check.dueError("fn f0 0 { f0 ( 1 , ) ; }", 1, 8);
        check.dueError("fn f0 0 { f0 ( 1 1 ) ; }", 1, 7);
        check.dueError("fn f0 0 { f0 ( ) + 1 ; }", 1, 7);
        check.dueError("fn f0 0 { if 1 { } }", 1, 5);
        check.dueError("fn f0 0 { if ( ) { } }", 1, 6);
        check.dueError("fn f0 0 { if ( 1 { } }", 1, 7);
        check.dueError("fn f0 0 { if ( 1 ) print 1 ; }", 1, 8);
        check.dueError("fn f0 0 { if ( 1 ) { } else if ( 1 ) { } }", 1, 11);
        check.dueError("fn f0 0 { while ( 1 ) { } else { } }", 1, 10);
        check.dueError("fn f0 0 { return ; }", 1, 5);
        check.dueError("fn f0 0 { print 1 , 2 ; }", 1, 6);
    }

    private void misfitsInValues() {
        check.dueError("fn f0 0 { print 1 < 2 < 3 ; }", 1, 8);
        check.dueError("fn f0 0 { print 1 == 2 < 3 ; }", 1, 8);
        check.dueError("fn f0 0 { print - - 1 ; }", 1, 6);
        check.dueError("fn f0 0 { print ! - 1 ; }", 1, 6);
        check.dueError("fn f0 0 { print + 1 ; }", 1, 5);
        check.dueError("fn f0 0 { print 1 + ; }", 1, 7);
        check.dueError("fn f0 0 { print 1 * * 1 ; }", 1, 7);
        check.dueError("fn f0 0 { print ( 1 ; }", 1, 7);
        check.dueError("fn f0 0 { print ( ) ; }", 1, 6);
        check.dueError("fn f0 0 { print a0 ; }", 1, 6);
        check.dueError("fn f0 0 { print f0 ; }", 1, 6);
        check.dueError("fn f0 0 { print #31 ; }", 1, 5);
        check.dueError("fn f0 0 { print #60 ; }", 1, 5);
        check.dueError("fn f0 0 { print if ; }", 1, 5);
        check.dueError("fn f0 0 { print", 1, 5);
    }

    private void twice() {
        check.dueError("fn f0 0 { } fn f0 0 { }", 2, 6);
        check.dueError("fn f1 0 { } fn f0 0 { } fn f1 9 ;", 2, 11);
        check.dueError("fn f0 0 { } fn f1 0 { ; } fn f0 0 { }", 1, 9);
        check.dueError("fn f0 0 { } fn f0", 2, 6);
    }

    private void nestedBlocks() {
        String three = "fn f0 0 { if ( 1 ) { while ( 1 ) { if ( 1 ) { } else { ";
        check.dueFunctions(three + "} } } }", 1);
        check.dueError(three + "if ( 1 ) { } } } } }", 3, 26);
        check.dueError(three + "while ( 1 ) ; } } } }", 3, 26);
        check.dueError(three + "while ( 1 )", 3, 26);
        check.dueError(three + "while ( 1 ;", 1, 25);
        check.dueFunctions("fn f0 0 { if ( 1 ) { } if ( 1 ) { } if ( 1 ) { } if ( 1 ) { } if ( 1 ) { } }", 1);
        check.dueFunctions(three + "} } } } fn f1 0 { if ( 1 ) { } }", 2);
    }

    private void nestedValues() {
        check.dueFunctions("fn f0 0 { print ( ( ( 1 ) ) ) ; }", 1);
        check.dueError("fn f0 0 { print ( ( ( ( 1 ) ) ) ) ; }", 3, 9);
        check.dueError("fn f0 0 { print ( ( ( ( ;", 3, 9);
        check.dueError("fn f0 0 { print ( ( ( (", 3, 9);
        check.dueFunctions("fn f0 0 { print a0 [ a1 [ a2 [ g0 ] ] ] ; }", 1);
        check.dueError("fn f0 0 { print a0 [ a1 [ a2 [ a3 [ 1 ] ] ] ] ; }", 3, 13);
        check.dueFunctions("fn f0 0 { print f1 ( f1 ( f1 ( 1 ) ) ) ; } fn f1 1 { }", 2);
        check.dueError("fn f0 0 { print f1 ( f1 ( f1 ( f1 ( 1 ) ) ) ) ; } fn f1 1 { }", 3, 13);
        check.dueFunctions("fn f0 0 { print ( ( ( f0 ( ) ) ) ) ; }", 1);
        check.dueError("fn f0 0 { print ( ( ( f0 ( ; ) ) ) ) ; }", 3, 10);
        check.dueError("fn f0 0 { print 1 + ( 1 < ( 1 * a0 [ 1 + ( 1 ) ] ) ) ; }", 3, 18);
        check.dueFunctions("fn f0 0 { if ( ( ( ( 1 ) ) ) ) { } while ( ( ( ( 0 ) ) ) ) { } return ( ( ( 1 ) ) ) ; }", 1);
        check.dueError("fn f0 0 { if ( ( ( ( ( 1 ) ) ) ) ) { } }", 3, 10);
        check.dueFunctions("fn f0 0 { a0 [ ( ( ( 1 ) ) ) ] = ( ( ( 1 ) ) ) ; }", 1);
        check.dueError("fn f0 0 { a0 [ ( ( ( ( 1 ) ) ) ) ] = 1 ; }", 3, 10);
        check.dueFunctions("fn f0 0 { f1 ( ( ( ( 1 ) ) ) , ( ( ( 2 ) ) ) ) ; } fn f1 2 { }", 2);
        check.dueError("fn f0 0 { f1 ( ( ( ( 1 ) ) ) , ( ( ( ( 2 ) ) ) ) ) ; } fn f1 2 { }", 3, 18);
        check.dueFunctions("fn f0 0 { if ( 1 ) { if ( 1 ) { if ( 1 ) { print ( ( ( 1 ) ) ) ; } } } }", 1);
        check.dueFunctions("fn f0 0 { print ( 1 ) + ( 2 ) + ( 3 ) + ( 4 ) + ( 5 ) ; }", 1);
    }

    private void calls() {
        check.dueError("fn f0 0 { f1 ( ) ; }", 4, 4);
        check.dueError("fn f0 0 { print 1 + f5 ( f4 ( ) ) ; }", 4, 7);
        check.dueError("fn f0 0 { f0 ( 1 ) ; }", 5, 4);
        check.dueError("fn f0 0 { f1 ( ) ; } fn f1 1 { }", 5, 4);
        check.dueError("fn f0 0 { f1 ( 1 , 2 , 3 , 4 ) ; } fn f1 3 { }", 5, 4);
        check.dueError("fn f0 0 { f1 ( ) ; f2 ( ) ; } fn f1 1 { }", 5, 4);
        check.dueError("fn f0 0 { f2 ( ) ; f1 ( ) ; } fn f1 1 { }", 4, 4);
        check.dueError("fn f0 0 { f1 ( f2 ( ) , 1 ) ; } fn f1 1 { }", 5, 4);
        check.dueError("fn f0 0 { f1 ( f2 ( ) ) ; } fn f1 1 { }", 4, 6);
        check.dueError("fn f0 0 { a0 [ f1 ( ) ] = f2 ( ) ; } fn f1 0 { }", 4, 11);
        check.dueError("fn f1 0 { f2 ( ) ; }", 4, 4);
        check.dueError("fn f0 0 { f1 ( ) ; } ;", 1, 9);
        check.dueError("fn f0 0 { f1 ( ) ; } fn f0 0 { }", 2, 10);
    }

    private void noMain() {
        check.dueError("", 6, 0);
        check.dueError("fn f1 0 { }", 6, 5);
        check.dueError("fn f0 1 { }", 6, 5);
        check.dueError("fn f1 0 { } fn f0 3 { print f1 ( ) ; }", 6, 15);
    }

    private void longest() {
        String start = "fn f0 0 { print 0" + " + 1".repeat(76);
        check.due("tokens", Check.tokens(start + " ; }").length, 160);
        ShortMill mill = Check.started(start + " ; }");
        check.due("160 tokens run", mill.run(1), 3);
        check.due("160 tokens show", mill.shown(0), 76);
        check.dueError(start + " }", 1, 158);
        check.dueError(start + " ; ;", 1, 159);
        check.dueError(start + " ; print", 1, 160);
        check.dueError("fn f1 0 { print 0" + " + 1".repeat(76) + " ; }", 6, 160);
    }

    private void whatStaysAndGoes() {
        ShortMill mill = Check.started("fn f0 0 { g1 = 5 ; a1 [ 2 ] = 6 ; print 7 ; f1 ( ) ; } fn f1 0 { g2 = read ; }");
        mill.run(200);
        mill.key(9);
        Check.feed(mill, Check.tokens("fn f0 0 { g1 = }"));
        check.due("a wrong text", mill.compile(), -1006);
        check.due("text empty", mill.about(1), 0);
        check.due("state stays", mill.about(0), 2);
        check.due("functions stay", mill.about(2), 2);
        check.due("begun stays", mill.about(3), 5);
        check.due("shown stays", mill.about(4), 1);
        check.due("keys stay", mill.about(5), 1);
        check.due("running stays", mill.about(6), 2);
        check.due("global stays", mill.global(1), 5);
        check.due("array stays", mill.array(1, 2), 6);
        check.due("it goes on", mill.run(1), 3);
        check.due("with its key", mill.global(2), 9);
        mill.key(-4);
        check.due("a right text", Check.compiled(mill, "fn f0 0 { print read ; }"), 1);
        int[] want = {0, 0, 1, 0, 0, 1, 0};
        for (int what = 0; what < want.length; what++) {
            check.due("behind it about(" + what + ")", mill.about(what), want[what]);
        }
        check.due("global 0", mill.global(1), 0);
        check.due("array 0", mill.array(1, 2), 0);
        check.dueThrow("nothing shown", IndexOutOfBoundsException.class, () -> mill.shown(0));
        check.dueThrow("nothing started", IllegalStateException.class, () -> mill.run(1));
        mill.start();
        check.due("the new one runs", mill.run(1), 3);
        check.due("with the key that stayed", mill.shown(0), -4);
        check.due("empty text", mill.compile(), -6000);
        check.due("the program stays", mill.about(2), 1);
        check.due("it starts again", mill.start() ? 1 : 0, 1);
    }

    public static void main(String[] args) {
        CompileTest test = new CompileTest();
        test.whole();
        test.misfits();
        test.misfitsInValues();
        test.twice();
        test.nestedBlocks();
        test.nestedValues();
        test.calls();
        test.noMain();
        test.longest();
        test.whatStaysAndGoes();
        test.check.end();
    }
}
