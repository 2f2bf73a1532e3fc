/** Promise 3, by the terms' errors 2 to 6: where each begins, its place, and which is told of several. */
final class Promise3ErrorsTest extends Sentences {
    /** # is where a value stands; f1, f2 and f3 have as many parameters as their names say. */
    private static final String[] STATEMENTS = {
        "g0 = # ;", "l0 = # ;", "a0 [ 0 ] = # ;", "a0 [ # ] = 0 ;", "print # ;", "return # ;",
        "if ( # ) { }", "while ( # ) { }", "f1 ( # ) ;", "f2 ( 0 , # ) ;", "f3 ( 0 , 0 , # ) ;",
        "g0 = 1 < # ;", "g0 = 1 + 2 * - # ;", "g0 = ( 1 ) + # ;",
    };
    private static final String[] BRACKETS = {
        "( # )", "a1 [ # ]", "f1 ( # )", "f2 ( # , 0 )", "f2 ( 0 , # )", "f3 ( 0 , 0 , # )",
    };
    private static final String OTHERS = " fn f1 1 { } fn f2 2 { } fn f3 3 { }";

    /** # is where a statement stands. */
    private static final String[] BLOCKS = {"if ( 1 ) { # }", "if ( 1 ) { } else { # }", "while ( 0 ) { # }"};

    /** Every chain of so many brackets in one another, each with # in the innermost. */
    private static String[] chains(String[] kinds, int count) {
        String[] chains = {"#"};
        for (int k = 0; k < count; k++) {
            String[] longer = new String[chains.length * kinds.length];
            for (int j = 0; j < longer.length; j++) {
                longer[j] = chains[j / kinds.length].replace("#", kinds[j % kinds.length]);
            }
            chains = longer;
        }
        return chains;
    }

    private static int placeOf(String source) {
        return tokens(source.substring(0, source.indexOf('#'))).length;
    }

    /** The text behind the mark does not count any more, so any token may stand there, or the end. */
    private void dueForEveryToken(String before, int error, int except) {
        int place = tokens(before).length;
        for (int token = 0; token < 192; token++) {
            if (token != except) {
                dueError(before + " #" + token, error, place);
            }
        }
        dueError(before, error, place);
    }

    // ---- 2

    @Sentence(promise = 3, says = "2: a function that there is already, at its second name.")
    void twice() {
        for (int f = 0; f < 6; f++) {
            String name = "f" + f;
            dueError("fn " + name + " 0 { } fn " + name + " 0 { }", 2, 6);
            dueError("fn " + name + " 0 { } fn " + name + " 3 { }", 2, 6);
            dueError("fn " + name + " 0 { } fn f" + (f + 1) % 6 + " 0 { } fn " + name + " 0 { }", 2, 11);
            dueError("fn " + name + " 0 { } fn " + name, 2, 6);
        }
        dueError("fn f0 0 { } fn f1 0 { } fn f2 0 { } fn f3 0 { } fn f4 0 { } fn f5 0 { } fn f5 0 { }", 2, 31);
        ShortMill again = started("fn f0 0 { } fn f1 0 { }");
        due("a function of the program before", compiled(again, "fn f0 0 { } fn f1 0 { }"), 2);
        ShortMill refused = new ShortMill();
        compiled(refused, "fn f0 0 { } fn f1 0 { } ;");
        due("a function of a text that was refused", compiled(refused, "fn f1 0 { } fn f0 0 { }"), 2);
    }

    // ---- 3

    @Sentence(promise = 3, says = "3: the token where a block would begin that is in more than 3 others")
    void blocksInBlocks() {
        for (String three : chains(BLOCKS, 3)) {
            String fits = "fn f0 0 { " + three + " }";
            dueFunctions(fits.replace("#", ""), 1);
            dueFunctions(fits.replace("#", "print ( ( ( 1 ) ) ) ; f0 ( ) ;"), 1);
            for (String last : new String[] {"if ( 1 ) # { }", "while ( 1 ) # { }"}) {
                String wrong = fits.replace("#", last);
                dueError(wrong.replace("#", ""), 3, placeOf(wrong));
            }
        }
        dueFunctions("fn f0 0 {" + " if ( 1 ) { }".repeat(25) + " }", 1);
        dueFunctions("fn f0 0 { if ( 1 ) { if ( 1 ) { if ( 1 ) { } } } } fn f1 0 { while ( 1 ) { } }", 2);
    }

    @Sentence(promise = 3, says = "or a value that is in more than 3 other values")
    void valuesInValues() {
        for (String statement : STATEMENTS) {
            String before = "fn f0 0 { " + statement + " }" + OTHERS;
            for (String three : chains(BRACKETS, 3)) {
                String fits = before.replace("#", three);
                dueFunctions(fits.replace("#", "1"), 4);
                dueFunctions(fits.replace("#", "1 + - g0 * l0 < read"), 4);
                for (String last : BRACKETS) {
                    String wrong = fits.replace("#", last);
                    dueError(wrong.replace("#", "1"), 3, firstOf(wrong, last));
                }
            }
        }
    }

    /** Of a call with several arguments the first is already a value too deep. */
    private static int firstOf(String wrong, String last) {
        int begin = wrong.indexOf(last);
        return tokens(wrong.substring(0, begin)).length + (last.startsWith("(") ? 1 : 2);
    }

    @Sentence(promise = 3, says = "whatever that token is")
    void whateverToken() {
        String blocks = "fn f0 0 { if ( 1 ) { while ( 1 ) { if ( 1 ) { } else { ";
        dueForEveryToken(blocks + "if ( 1 )", 3, -1);
        dueForEveryToken(blocks + "while ( 1 )", 3, -1);
        dueForEveryToken(blocks.replace("if ( 1 ) { } else {", "while ( 1 ) {") + "if ( read )", 3, -1);
        dueForEveryToken("fn f0 0 { print ( ( ( (", 3, -1);
        dueForEveryToken("fn f0 0 { print a0 [ a0 [ a0 [ a0 [", 3, -1);
        // Behind the ( of a call no value begins if ) follows.
        dueForEveryToken("fn f0 0 { print ( ( ( f0 (", 3, 7);
        dueError("fn f0 0 { print ( ( ( f0 ( )", 1, 11);
        dueFunctions("fn f0 0 { print ( ( ( f0 ( ) ) ) ) ; }", 1);
    }

    @Sentence(promise = 3, says = "a value in brackets of any kind, or as an argument, is in the value around it")
    void inTheValueAround() {
        dueFunctions("fn f0 0 { print ( ( ( 1 ) ) ) ; }", 1);
        dueError("fn f0 0 { print ( ( ( ( 1 ) ) ) ) ; }", 3, 9);
        dueFunctions("fn f0 0 { print a0 [ a1 [ a2 [ g0 ] ] ] ; }", 1);
        dueError("fn f0 0 { print a0 [ a1 [ a2 [ a3 [ 1 ] ] ] ] ; }", 3, 13);
        dueFunctions("fn f0 0 { print f1 ( f1 ( f1 ( 1 ) ) ) ; } fn f1 1 { }", 2);
        dueError("fn f0 0 { print f1 ( f1 ( f1 ( f1 ( 1 ) ) ) ) ; } fn f1 1 { }", 3, 13);
        dueFunctions("fn f0 0 { print ( 1 ) + ( 2 ) * ( 3 ) < ( 4 ) ; }", 1);
        dueFunctions("fn f0 0 { print ( ( ( 1 ) ) ) + ( ( ( 2 ) ) ) ; }", 1);
        dueFunctions("fn f0 0 { print f2 ( ( ( 1 ) ) , ( ( 2 ) ) ) ; } fn f2 2 { }", 2);
        dueError("fn f0 0 { print f2 ( ( ( 1 ) ) , ( ( ( 2 ) ) ) ) ; } fn f2 2 { }", 3, 16);
        dueError("fn f0 0 { print 1 + ( 1 < ( 1 * a0 [ 1 + ( 1 ) ] ) ) ; }", 3, 18);
    }

    @Sentence(promise = 3, says = "the value that a statement has, the one in the brackets of a variable on the left of =, "
        + "and the arguments of a call that is a statement are in none")
    void inNone() {
        dueFunctions("fn f0 0 { if ( ( ( ( 1 ) ) ) ) { } while ( ( ( ( 0 ) ) ) ) { } return ( ( ( 1 ) ) ) ; }", 1);
        dueError("fn f0 0 { if ( ( ( ( ( 1 ) ) ) ) ) { } }", 3, 10);
        dueError("fn f0 0 { while ( ( ( ( ( 1 ) ) ) ) ) { } }", 3, 10);
        dueError("fn f0 0 { return ( ( ( ( 1 ) ) ) ) ; }", 3, 9);
        dueError("fn f0 0 { g0 = ( ( ( ( 1 ) ) ) ) ; }", 3, 10);
        dueFunctions("fn f0 0 { a0 [ ( ( ( 1 ) ) ) ] = ( ( ( 1 ) ) ) ; }", 1);
        dueError("fn f0 0 { a0 [ ( ( ( ( 1 ) ) ) ) ] = 1 ; }", 3, 10);
        dueError("fn f0 0 { a0 [ 1 ] = ( ( ( ( 1 ) ) ) ) ; }", 3, 13);
        dueFunctions("fn f0 0 { f2 ( ( ( ( 1 ) ) ) , ( ( ( 2 ) ) ) ) ; } fn f2 2 { }", 2);
        dueError("fn f0 0 { f1 ( ( ( ( ( 1 ) ) ) ) ) ; } fn f1 1 { }", 3, 10);
        dueError("fn f0 0 { f2 ( ( ( ( 1 ) ) ) , ( ( ( ( 2 ) ) ) ) ) ; } fn f2 2 { }", 3, 18);
        dueFunctions("fn f0 0 { if ( 1 ) { if ( 1 ) { if ( 1 ) { print ( ( ( 1 ) ) ) ; } } } }", 1);
    }

    // ---- 1 to 3, several in one text

    @Sentence(promise = 3, says = "Errors 1 to 3: the first that is met from left to right.")
    void leftToRight() {
        String deepValue = "print ( ( ( ( 1 ) ) ) ) ;";
        String deepBlock = "if ( 1 ) { if ( 1 ) { if ( 1 ) { if ( 1 ) { } } } }";
        dueError("fn f0 0 { ; } fn f0 0 { }", 1, 4);
        dueError("fn f0 0 { } fn f0 0 { ; }", 2, 6);
        dueError("fn f0 0 { } fn f0 4 { }", 2, 6);
        dueError("fn f0 4 { } fn f0 0 { }", 1, 2);
        dueError("fn f0 0 { ; " + deepValue + " }", 1, 4);
        dueError("fn f0 0 { " + deepValue + " ; }", 3, 9);
        dueError("fn f0 0 { ; " + deepBlock + " }", 1, 4);
        dueError("fn f0 0 { " + deepBlock + " ; }", 3, 23);
        dueError("fn f0 0 { " + deepBlock + " } fn f0 0 { }", 3, 23);
        dueError("fn f0 0 { " + deepValue + " } fn f0 0 { }", 3, 9);
        dueError("fn f0 0 { } fn f0 0 { " + deepValue + " }", 2, 6);
        dueError("fn f0 0 { " + deepValue + " " + deepBlock + " }", 3, 9);
        dueError("fn f0 0 { " + deepBlock + " " + deepValue + " }", 3, 23);
        dueError("fn f0 0 { ; ; }", 1, 4);
        dueError("fn f0 0 { } fn f0 0 { } fn f0 0 { }", 2, 6);
        dueError("fn f0 0 { if ( 1 ) { if ( 1 ) { if ( 1 ) { if ( ( ( ( ( 1 ) ) ) ) ) { } } } } }", 3, 25);
        dueError("fn f0 0 { if ( 1 ) { if ( 1 ) { if ( 1 ) { if ( 1 ; ) { } } } } }", 1, 22);
        dueError("fn f0 0 { print ( ( ( 1 ; ( 1", 1, 9);
    }

    @Sentence(promise = 3, says = "If there is none: 4")
    void oneToThreeBeforeTheOthers() {
        String[] calls = {"f5 ( ) ;", "f0 ( 1 ) ;"};
        for (String call : calls) {
            int length = tokens(call).length;
            dueError("fn f0 0 { " + call + " ; }", 1, 4 + length);
            dueError("fn f0 0 { " + call + " } fn f0 0 { }", 2, 6 + length);
            dueError("fn f0 0 { " + call + " print ( ( ( ( 1 ) ) ) ) ; }", 3, 9 + length);
            dueError("fn f0 0 { " + call, 1, 4 + length);
        }
        dueError("fn f1 0 { ; }", 1, 4);
        dueError("fn f1 0 { } fn f1 0 { }", 2, 6);
        dueError("fn f1 0 { print ( ( ( ( 1 ) ) ) ) ; }", 3, 9);
        dueError("fn f0 1 { ; }", 1, 4);
    }

    // ---- 4 and 5

    @Sentence(promise = 3, says = "4: the first call (at its name) of a function that there is not")
    void unknown() {
        for (int f = 1; f < 6; f++) {
            dueError("fn f0 0 { f" + f + " ( ) ; }", 4, 4);
            dueError("fn f0 0 { print f" + f + " ( 1 , 2 ) ; }", 4, 5);
            dueFunctions("fn f0 0 { f" + f + " ( ) ; } fn f" + f + " 0 { }", 2);
            dueFunctions("fn f" + f + " 0 { f0 ( ) ; f" + f + " ( ) ; } fn f0 0 { }", 2);
        }
        dueError("fn f0 0 { f1 ( ) ; f2 ( ) ; }", 4, 4);
        dueError("fn f0 0 { f1 ( ) ; f2 ( ) ; } fn f1 0 { }", 4, 8);
        dueError("fn f0 0 { f1 ( f2 ( ) ) ; } fn f2 0 { }", 4, 4);
        dueError("fn f0 0 { f1 ( f2 ( ) ) ; } fn f1 1 { }", 4, 6);
        dueError("fn f0 0 { print 1 + f5 ( f4 ( ) ) ; }", 4, 7);
        dueError("fn f0 0 { a0 [ f1 ( ) ] = f2 ( ) ; } fn f1 0 { }", 4, 11);
        dueError("fn f0 0 { a0 [ f1 ( ) ] = f2 ( ) ; } fn f2 0 { }", 4, 6);
        dueError("fn f0 0 { while ( f1 ( ) ) { f2 ( ) ; } } fn f2 0 { }", 4, 6);
        dueError("fn f0 0 { } fn f1 0 { f2 ( ) ; }", 4, 9);
        ShortMill mill = started("fn f0 0 { f1 ( ) ; } fn f1 0 { }");
        due("a function of the program before", compiled(mill, "fn f0 0 { f1 ( ) ; }"), -4004);
        String longest = "fn f0 0 { " + "print 1 ; ".repeat(50);
        dueError(longest + "f1 ( ) ; }", 4, 154);
    }

    @Sentence(promise = 3, says = "or, in the same order, with another number of arguments than its parameters: 5")
    void miscounted() {
        dueError("fn f0 0 { f0 ( 1 ) ; }", 5, 4);
        dueError("fn f0 0 { f1 ( ) ; } fn f1 1 { }", 5, 4);
        dueError("fn f0 0 { print 1 + f1 ( 1 , 2 ) ; } fn f1 1 { }", 5, 7);
        dueError("fn f0 0 { f1 ( 1 , 2 , 3 , 4 ) ; } fn f1 3 { }", 5, 4);
        dueError("fn f0 0 { f1 ( ) ; f1 ( 1 , 2 ) ; } fn f1 0 { }", 5, 8);
        dueError("fn f0 0 { f1 ( ) ; f2 ( ) ; } fn f1 1 { }", 5, 4);
        dueError("fn f0 0 { f2 ( ) ; f1 ( ) ; } fn f1 1 { }", 4, 4);
        dueError("fn f0 0 { f1 ( f2 ( ) , 1 ) ; } fn f1 1 { }", 5, 4);
        dueError("fn f0 0 { f2 ( f1 ( ) ) ; } fn f1 1 { }", 4, 4);
        dueError("fn f0 0 { f1 ( f1 ( ) ) ; } fn f1 1 { }", 5, 6);
        dueError("fn f0 0 { a0 [ f1 ( 1 ) ] = f2 ( ) ; } fn f1 0 { }", 5, 6);
    }

    // ---- 6

    @Sentence(promise = 3, says = "Then 6, at the text's length: no f0, or one with parameters.")
    void noMain() {
        dueError("", 6, 0);
        for (int f = 1; f < 6; f++) {
            dueError("fn f" + f + " 0 { }", 6, 5);
        }
        for (int parameters = 1; parameters <= 3; parameters++) {
            dueError("fn f0 " + parameters + " { }", 6, 5);
            dueError("fn f1 0 { } fn f0 " + parameters + " { print f1 ( ) ; }", 6, 15);
        }
        dueError("fn f1 0 { } fn f2 0 { } fn f3 0 { } fn f4 0 { } fn f5 0 { }", 6, 25);
        dueError("fn f1 0 { print 0" + " + 1".repeat(76) + " ; }", 6, 160);
        dueFunctions("fn f5 3 { } fn f0 0 { }", 2);
    }

    @Sentence(promise = 3, says = "Then 6")
    void fourAndFiveBeforeSix() {
        dueError("fn f1 0 { f2 ( ) ; }", 4, 4);
        dueError("fn f1 0 { f0 ( ) ; }", 4, 4);
        dueError("fn f1 0 { f1 ( 1 ) ; }", 5, 4);
        dueError("fn f0 1 { f0 ( ) ; }", 5, 4);
        dueError("fn f0 1 { f0 ( 1 ) ; }", 6, 10);
    }

    public static void main(String[] args) {
        new Promise3ErrorsTest().runAll();
    }
}
