import java.util.Arrays;

/** Promise 3, by the terms' tokens and grammar: which token fits where. */
final class Promise3GrammarTest extends Sentences {
    // Tokens as ranges: "32-39" is 32 to 39.
    private static final String STATEMENT = " 0 2 3 4 32-57 ";
    private static final String VALUE = " 5 6 14 20 32-57 64-191 ";
    private static final String PIECE = " 5 6 32-57 64-191 ";
    private static final String OPERATOR = " 13-19 ";

    /** Beginnings of texts, each with the tokens that fit behind it. */
    private static final String[][] PLACES = {
        {"", "23"},
        {"fn", "52-57"},
        {"fn f0", "64-67"},
        {"fn f0 0", "8"},
        {"fn f0 0 {", STATEMENT + "9"},
        {"fn f0 0 { }", "23"},
        {"fn f0 0 { } fn", "53-57"},
        {"fn f0 0 { } fn f1", "64-67"},
        {"fn f0 0 { g0", "12"},
        {"fn f0 0 { l0", "12"},
        {"fn f0 0 { a0", "21"},
        {"fn f0 0 { a0 [", VALUE},
        {"fn f0 0 { a0 [ 1", OPERATOR + "22"},
        {"fn f0 0 { a0 [ 1 < 2", "13-17 22"},
        {"fn f0 0 { a0 [ 1 ]", "12"},
        {"fn f0 0 { a0 [ 1 ] =", VALUE},
        {"fn f0 0 { g0 =", VALUE},
        {"fn f0 0 { g0 = 1", OPERATOR + "10"},
        {"fn f0 0 { g0 = 1 ;", STATEMENT + "9"},
        {"fn f0 0 { g0 = read", OPERATOR + "10"},
        {"fn f0 0 { g0 = g1", OPERATOR + "10"},
        {"fn f0 0 { g0 = l1", OPERATOR + "10"},
        {"fn f0 0 { g0 = 1 <", VALUE},
        {"fn f0 0 { g0 = 1 ==", VALUE},
        {"fn f0 0 { g0 = 1 < 2", "13-17 10"},
        {"fn f0 0 { g0 = 1 == 2", "13-17 10"},
        {"fn f0 0 { g0 = 1 < 2 + 3", "13-17 10"},
        {"fn f0 0 { g0 = 1 +", VALUE},
        {"fn f0 0 { g0 = 1 -", VALUE},
        {"fn f0 0 { g0 = 1 *", VALUE},
        {"fn f0 0 { g0 = 1 /", VALUE},
        {"fn f0 0 { g0 = 1 %", VALUE},
        {"fn f0 0 { g0 = 1 + 2", OPERATOR + "10"},
        {"fn f0 0 { g0 = 1 * 2", OPERATOR + "10"},
        {"fn f0 0 { g0 = -", PIECE},
        {"fn f0 0 { g0 = !", PIECE},
        {"fn f0 0 { g0 = 1 + -", PIECE},
        {"fn f0 0 { g0 = 1 * !", PIECE},
        {"fn f0 0 { g0 = (", VALUE},
        {"fn f0 0 { g0 = ( 1", OPERATOR + "7"},
        {"fn f0 0 { g0 = ( 1 == 2", "13-17 7"},
        {"fn f0 0 { g0 = ( 1 )", OPERATOR + "10"},
        {"fn f0 0 { g0 = a0", "21"},
        {"fn f0 0 { g0 = a0 [", VALUE},
        {"fn f0 0 { g0 = a0 [ 1", OPERATOR + "22"},
        {"fn f0 0 { g0 = a0 [ 1 ]", OPERATOR + "10"},
        {"fn f0 0 { g0 = f0", "6"},
        {"fn f0 0 { g0 = f0 (", VALUE + "7"},
        {"fn f0 0 { g0 = f0 ( )", OPERATOR + "10"},
        {"fn f0 0 { g0 = f0 ( 1", OPERATOR + "7 11"},
        {"fn f0 0 { g0 = f0 ( 1 ,", VALUE},
        {"fn f0 0 { g0 = f0 ( 1 , 2", OPERATOR + "7 11"},
        {"fn f0 0 { f0", "6"},
        {"fn f0 0 { f0 (", VALUE + "7"},
        {"fn f0 0 { f0 ( )", "10"},
        {"fn f0 0 { f0 ( 1", OPERATOR + "7 11"},
        {"fn f0 0 { f0 ( 1 ,", VALUE},
        {"fn f0 0 { f0 ( 1 )", "10"},
        {"fn f0 0 { f0 ( ) ;", STATEMENT + "9"},
        {"fn f0 0 { if", "6"},
        {"fn f0 0 { if (", VALUE},
        {"fn f0 0 { if ( 1", OPERATOR + "7"},
        {"fn f0 0 { if ( 1 )", "8"},
        {"fn f0 0 { if ( 1 ) {", STATEMENT + "9"},
        {"fn f0 0 { if ( 1 ) { }", STATEMENT + "1 9"},
        {"fn f0 0 { if ( 1 ) { } else", "8"},
        {"fn f0 0 { if ( 1 ) { } else {", STATEMENT + "9"},
        {"fn f0 0 { if ( 1 ) { } else { }", STATEMENT + "9"},
        {"fn f0 0 { while", "6"},
        {"fn f0 0 { while (", VALUE},
        {"fn f0 0 { while ( 1", OPERATOR + "7"},
        {"fn f0 0 { while ( 1 )", "8"},
        {"fn f0 0 { while ( 1 ) {", STATEMENT + "9"},
        {"fn f0 0 { while ( 1 ) { }", STATEMENT + "9"},
        {"fn f0 0 { return", VALUE},
        {"fn f0 0 { return 1", OPERATOR + "10"},
        {"fn f0 0 { return 1 ;", STATEMENT + "9"},
        {"fn f0 0 { print", VALUE},
        {"fn f0 0 { print 1", OPERATOR + "10"},
        {"fn f0 0 { print 1 ;", STATEMENT + "9"},
    };

    private static boolean[] set(String ranges) {
        boolean[] set = new boolean[192];
        for (String range : ranges.trim().split("\\s+")) {
            String[] ends = range.split("-");
            for (int t = Integer.parseInt(ends[0]); t <= Integer.parseInt(ends[ends.length - 1]); t++) {
                set[t] = true;
            }
        }
        return set;
    }

    private static int answer(String before, int token) {
        return compiled(new ShortMill(), before + " #" + token);
    }

    @Sentence(promise = 3, says = "1: the first token that does not fit")
    void everyTokenEverywhere() {
        for (String[] place : PLACES) {
            int length = tokens(place[0]).length;
            boolean[] fits = set(place[1]);
            for (int token = 0; token < 192; token++) {
                String what = place[0] + " #" + token;
                if (what.equals("fn f0 0 { } fn #52")) {
                    due(what, answer(place[0], token), -2000 - length);
                } else if (fits[token]) {
                    boolean whole = token == 9 && what.chars().filter(c -> c == '{').count()
                        == what.chars().filter(c -> c == '}').count() + 1;
                    due(what, answer(place[0], token), whole ? 1 : -1000 - length - 1);
                } else {
                    due(what, answer(place[0], token), -1000 - length);
                }
            }
        }
    }

    @Sentence(promise = 3, says = "(24 .. 31 and 58 .. 63 fit nowhere.)")
    void fitNowhere() {
        for (String[] place : PLACES) {
            int length = tokens(place[0]).length;
            for (int token = 24; token <= 63; token++) {
                if (token <= 31 || token >= 58) {
                    due(place[0] + " #" + token, answer(place[0], token), -1000 - length);
                }
            }
        }
    }

    /** What f0 with these statements has made, when all of it has run. */
    private static ShortMill ran(String statements) {
        ShortMill mill = started("fn f0 0 { " + statements + " }");
        mill.run(200);
        return mill;
    }

    /** Every token by its number: the words of the other tests' texts come from the tests' own list. */
    @Sentence(promise = 3, says = "0 if   1 else   2 while   3 return   4 print   5 read   6 (   7 )   8 {   9 }   "
        + "10 ;   11 ,   12 =   13 +   14 -   15 *   16 /   17 %   18 <   19 ==   20 !   21 [   22 ]   23 fn")
    void byNumber() {
        // if ( 1 < 2 ) { g0 = 7 ; } else { g0 = 8 ; }
        String choice = " #0 #6 #65 #18 #66 #7 #8 #32 #12 #71 #10 #9 #1 #8 #32 #12 #72 #10 #9";
        // while ( g1 == 0 ) { g1 = f1 ( 3 , 9 ) ; }
        String loop = " #2 #6 #33 #19 #64 #7 #8 #33 #12 #53 #6 #67 #11 #73 #7 #10 #9";
        // print - read + 100 ; print 9 * 7 / 4 % 8 ; a0 [ 1 ] = ! 0 ;
        String rest = " #4 #14 #5 #13 #164 #10 #4 #73 #15 #71 #16 #68 #17 #72 #10 #40 #21 #65 #22 #12 #20 #64 #10";
        // fn f0 0 { .. } fn f1 2 { return l0 - l1 ; }
        ShortMill mill = started("#23 #52 #64 #8" + choice + loop + rest + " #9 #23 #53 #66 #8 #3 #44 #14 #45 #10 #9");
        mill.key(30);
        due("run", mill.run(200), ENDED);
        dueShown("- read + 100 and 9 * 7 / 4 % 8", mill, 70, 7);
        due("if and <", mill.global(0), 7);
        due("while, == and f1", mill.global(1), -6);
        due("!", mill.array(0, 1), 1);
    }

    @Sentence(promise = 3, says = "32 .. 39 GLOBALS g0 .. g7")
    void globals() {
        for (int g = 0; g < 8; g++) {
            due("token " + (32 + g), ran("#" + (32 + g) + " = 9 ;").global(g), 9);
        }
        dueError("fn f0 0 { #31 = 9 ; }", 1, 4);
        dueError("fn f0 0 { #40 = 9 ; }", 1, 5);
    }

    @Sentence(promise = 3, says = "40 .. 43 ARRAYS a0 .. a3")
    void arrays() {
        for (int a = 0; a < 4; a++) {
            due("token " + (40 + a), ran("#" + (40 + a) + " [ 7 ] = 9 ;").array(a, 7), 9);
        }
        dueError("fn f0 0 { #39 [ 7 ] = 9 ; }", 1, 5);
        dueError("fn f0 0 { #44 [ 7 ] = 9 ; }", 1, 5);
    }

    @Sentence(promise = 3, says = "44 .. 51 LOCALS l0 .. l7")
    void locals() {
        for (int l = 0; l < 8; l++) {
            ShortMill mill = ran("#" + (44 + l) + " = 9 ; g0 = l" + l + " ; print l0 + l1 + l2 + l3 + l4 + l5 + l6 + l7 ;");
            due("token " + (44 + l), mill.global(0), 9);
            dueShown("the only one that is set", mill, 9);
        }
        dueError("fn f0 0 { #43 = 9 ; }", 1, 5);
        dueError("fn f0 0 { #52 = 9 ; }", 1, 5);
    }

    @Sentence(promise = 3, says = "52 .. 57 FUNCTIONS f0 .. f5")
    void functions() {
        for (int f = 1; f < 6; f++) {
            ShortMill mill = started("fn #" + (52 + f) + " 0 { print " + f + " ; } fn #52 0 { f" + f + " ( ) ; }");
            due("f" + f, mill.run(200), ENDED);
            dueShown("f" + f, mill, f);
        }
        dueError("fn #51 0 { }", 1, 1);
        dueError("fn #58 0 { }", 1, 1);
        dueFunctions("fn f0 0 { } fn f1 0 { } fn f2 1 { } fn f3 2 { } fn f4 3 { } fn f5 0 { }", 6);
    }

    @Sentence(promise = 3, says = "64 .. 191 NUMBERS 0 .. 127")
    void numbers() {
        for (int token = 64; token <= 191; token++) {
            dueShown("token " + token, ran("print #" + token + " ;"), token - 64);
        }
        dueError("fn f0 0 { print #63 ; }", 1, 5);
        ShortMill mill = new ShortMill();
        dueThrow("a number 128", ARGUMENT, () -> mill.words(192, 1));
    }

    @Sentence(promise = 3, says = "A TEXT has at most 160 tokens.")
    void fullText() {
        String start = "fn f0 0 { print 0" + " + 1".repeat(76);
        ShortMill mill = started(start + " ; }");
        due("160 tokens run", mill.run(1), ENDED);
        dueShown("160 tokens", mill, 76);
        dueError(start + " ;", 1, 159);
        dueError(start + " ; ;", 1, 159);
        dueError(start + " ; print", 1, 160);
        dueError(start + " ; #191", 1, 159);
    }

    @Sentence(promise = 3, says = "GRAMMAR: {x} any number of times, [x] once or not.")
    void anyNumberOfTimes() {
        dueError("", 6, 0);
        dueFunctions("fn f0 0 { }", 1);
        ShortMill statements = started("fn f0 0 {" + " print 1 ;".repeat(51) + " }");
        due("51 statements", statements.run(200), ENDED);
        due("51 numbers", statements.about(4), 51);
        dueShown("a product of 77", ran("print 1" + " * 1".repeat(76) + " ;"), 1);
        dueShown("a sum of 77", ran("print 127" + " - 1".repeat(76) + " ;"), 51);
        dueFunctions("fn f0 0 { f1 ( 1 , 2 , 3 ) ; f2 ( ) ; } fn f1 3 { } fn f2 0 { }", 3);
        dueError("fn f0 0 { f0 ( 1" + " , 1".repeat(70) + " ) ; }", 5, 4);
    }

    @Sentence(promise = 3, says = "[x] once or not")
    void onceOrNot() {
        dueFunctions("fn f0 0 { if ( 1 ) { } }", 1);
        dueFunctions("fn f0 0 { if ( 1 ) { } else { } }", 1);
        dueError("fn f0 0 { if ( 1 ) { } else { } else { } }", 1, 13);
        dueError("fn f0 0 { print 1 < 2 < 3 ; }", 1, 8);
        dueError("fn f0 0 { print 1 == 2 == 3 ; }", 1, 8);
        dueError("fn f0 0 { print 1 < 2 == 3 ; }", 1, 8);
        dueError("fn f0 0 { print - - 1 ; }", 1, 6);
        dueError("fn f0 0 { print ! ! 1 ; }", 1, 6);
        dueError("fn f0 0 { print ! - 1 ; }", 1, 6);
        dueFunctions("fn f0 0 { print - ( - 1 ) ; print ! ( ! 1 ) ; print 1 - - 1 ; print ( 1 < 2 ) < 3 ; }", 1);
    }

    @Sentence(promise = 3, says = "text: { fn FUNCTION NUMBER block }")
    void wholeTexts() {
        dueFunctions("fn f3 0 { f5 ( ) ; } fn f0 0 { f3 ( ) ; } fn f5 0 { f0 ( ) ; }", 3);
        dueError("f0 0 { }", 1, 0);
        dueError("print 1 ;", 1, 0);
        dueError("fn 0 { }", 1, 1);
        dueError("fn fn f0 0 { }", 1, 1);
        dueError("fn f0 { }", 1, 2);
        dueError("fn f0 ( ) { }", 1, 2);
        dueError("fn f0 0", 1, 3);
        dueError("fn f0 0 fn f1 0 { }", 1, 3);
        dueError("fn f0 0 { } ;", 1, 5);
        dueError("fn f0 0 { } print 1 ;", 1, 5);
        dueError("fn f0 0 { } { }", 1, 5);
        dueError("fn f0 0 { } f1 0 { }", 1, 5);
        dueError("fn f0 0 { } fn f1 0 { } else { }", 1, 10);
    }

    @Sentence(promise = 3, says = "the number 0 .. 3 being how many PARAMETERS it has")
    void parameters() {
        String[] arguments = {"", "1", "1 , 2", "1 , 2 , 3", "1 , 2 , 3 , 4"};
        for (int has = 0; has <= 3; has++) {
            for (int given = 0; given <= 4; given++) {
                String source = "fn f0 0 { f1 ( " + arguments[given] + " ) ; } fn f1 " + has + " { }";
                if (given == has) {
                    dueFunctions(source, 2);
                } else {
                    dueError(source, 5, 4);
                }
            }
        }
        for (int token : new int[] {63, 68, 127, 191}) {
            dueError("fn f0 0 { } fn f1 #" + token + " { }", 1, 7);
        }
    }

    @Sentence(promise = 3, says = "(the number behind fn must be 0 .. 3)")
    void numberBehindFn() {
        for (int token = 0; token < 192; token++) {
            String source = "fn f0 0 { } fn f1 #" + token + " { }";
            if (token >= 64 && token <= 67) {
                dueFunctions(source, 2);
            } else {
                dueError(source, 1, 7);
            }
        }
        dueError("fn f0 0 { } fn f1", 1, 7);
    }

    @Sentence(promise = 3, says = "block: { of tokens 8 and 9 around {statement}")
    void blocks() {
        dueError("fn f0 0 ;", 1, 3);
        dueError("fn f0 0 ( )", 1, 3);
        dueError("fn f0 0 { { } }", 1, 4);
        dueError("fn f0 0 { ; }", 1, 4);
        dueError("fn f0 0 { } }", 1, 5);
        dueError("fn f0 0 { ] }", 1, 4);
        dueError("fn f0 0 { fn f1 0 { } }", 1, 4);
        dueError("fn f0 0 { if ( 1 ) print 1 ; }", 1, 8);
        dueError("fn f0 0 { if ( 1 ) { } else if ( 1 ) { } }", 1, 11);
        dueError("fn f0 0 { if ( 1 ) { } ; }", 1, 10);
        dueError("fn f0 0 { if ( 1 ) { } } }", 1, 11);
    }

    @Sentence(promise = 3, says = "statement: variable = value ;   or   call ;")
    void statements() {
        dueFunctions("fn f0 0 { g7 = 127 ; l7 = read ; a3 [ g0 ] = ! l0 ; f0 ( ) ; return 0 ; print 1 ; }", 1);
        dueError("fn f0 0 { 1 ; }", 1, 4);
        dueError("fn f0 0 { read ; }", 1, 4);
        dueError("fn f0 0 { ( 1 ) ; }", 1, 4);
        dueError("fn f0 0 { else { } }", 1, 4);
        dueError("fn f0 0 { g0 ; }", 1, 5);
        dueError("fn f0 0 { g0 == 1 ; }", 1, 5);
        dueError("fn f0 0 { g0 = ; }", 1, 6);
        dueError("fn f0 0 { g0 = 1 }", 1, 7);
        dueError("fn f0 0 { g0 = g1 = 1 ; }", 1, 7);
        dueError("fn f0 0 { f0 ( ) = 1 ; }", 1, 7);
        dueError("fn f0 0 { f0 ( ) + 1 ; }", 1, 7);
        dueError("fn f0 0 { f0 ( ) }", 1, 7);
        dueError("fn f0 0 { if 1 { } }", 1, 5);
        dueError("fn f0 0 { if ( ) { } }", 1, 6);
        dueError("fn f0 0 { while ( 1 ) { } else { } }", 1, 10);
    }

    @Sentence(promise = 3, says = "return value ;   or   print value ;")
    void returnsAndPrints() {
        for (String word : new String[] {"return", "print"}) {
            dueFunctions("fn f0 0 { " + word + " 1 ; }", 1);
            dueFunctions("fn f0 0 { " + word + " f0 ( ) + - read < a3 [ g7 ] ; }", 1);
            dueFunctions("fn f0 0 { if ( 0 ) { " + word + " 1 ; } else { " + word + " 2 ; } " + word + " 3 ; }", 1);
            dueError("fn f0 0 { " + word + " ; }", 1, 5);
            dueError("fn f0 0 { " + word + " = 1 ; }", 1, 5);
            dueError("fn f0 0 { " + word + " 1 }", 1, 6);
            dueError("fn f0 0 { " + word + " 1 , 2 ; }", 1, 6);
            dueError("fn f0 0 { " + word + " g0 = 1 ; }", 1, 6);
            dueError("fn f0 0 { " + word + " 1 ; ; }", 1, 7);
            dueError("fn f0 0 { g0 = " + word + " 1 ; }", 1, 6);
        }
        ShortMill both = started("fn f0 0 { print 1 ; print f1 ( ) ; return 3 ; print 4 ; } fn f1 0 { print 5 ; return 6 ; }");
        due("run", both.run(200), ENDED);
        dueShown("run", both, 1, 5, 6);
    }

    @Sentence(promise = 3, says = "variable: GLOBAL or LOCAL or ARRAY [ value ]")
    void variables() {
        dueFunctions("fn f0 0 { g0 = l0 ; l0 = a0 [ 0 ] ; a0 [ g0 ] = g0 ; }", 1);
        dueError("fn f0 0 { a0 = 1 ; }", 1, 5);
        dueError("fn f0 0 { a0 [ ] = 1 ; }", 1, 6);
        dueError("fn f0 0 { a0 [ 1 ) = 1 ; }", 1, 7);
        dueError("fn f0 0 { a0 [ 1 , 2 ] = 1 ; }", 1, 7);
        dueError("fn f0 0 { a0 [ 1 ] [ 1 ] = 1 ; }", 1, 8);
        dueError("fn f0 0 { g0 [ 1 ] = 1 ; }", 1, 5);
        dueError("fn f0 0 { l0 [ 1 ] = 1 ; }", 1, 5);
        dueError("fn f0 0 { print a0 ; }", 1, 6);
        dueError("fn f0 0 { print g0 [ 1 ] ; }", 1, 6);
    }

    @Sentence(promise = 3, says = "call: FUNCTION ( [ value { , value } ] )")
    void calls() {
        dueFunctions("fn f0 0 { f0 ( ) ; print f1 ( 1 ) + f2 ( f0 ( ) , 2 ) ; } fn f1 1 { } fn f2 2 { }", 3);
        dueError("fn f0 0 { f0 ; }", 1, 5);
        dueError("fn f0 0 { f0 ( ; }", 1, 6);
        dueError("fn f0 0 { f0 ( , ) ; }", 1, 6);
        dueError("fn f0 0 { f0 ( 1 , ) ; }", 1, 8);
        dueError("fn f0 0 { f0 ( 1 1 ) ; }", 1, 7);
        dueError("fn f0 0 { f0 ( 1 ] ; }", 1, 7);
        dueError("fn f0 0 { f0 ( ) ( ) ; }", 1, 7);
        dueError("fn f0 0 { print f0 ; }", 1, 6);
        dueError("fn f0 0 { g0 ( ) ; }", 1, 5);
    }

    @Sentence(promise = 3, says = "piece: NUMBER or read or variable or call or ( value )")
    void pieces() {
        dueFunctions("fn f0 0 { print 1 + read * g0 / l0 % a0 [ 1 ] - f0 ( ) < ( 1 == 2 ) ; }", 1);
        dueError("fn f0 0 { print ( ) ; }", 1, 6);
        dueError("fn f0 0 { print ( 1 ; }", 1, 7);
        dueError("fn f0 0 { print ( 1 ] ; }", 1, 7);
        dueError("fn f0 0 { print 1 ) ; }", 1, 6);
        dueError("fn f0 0 { print { 1 } ; }", 1, 5);
        dueError("fn f0 0 { print [ 1 ] ; }", 1, 5);
        dueError("fn f0 0 { print + 1 ; }", 1, 5);
        dueError("fn f0 0 { print 1 + ; }", 1, 7);
        dueError("fn f0 0 { print 1 * * 1 ; }", 1, 7);
        dueError("fn f0 0 { print 1 2 ; }", 1, 6);
        dueError("fn f0 0 { print 1 ! ; }", 1, 6);
        dueError("fn f0 0 { print read ( ) ; }", 1, 6);
    }

    @Sentence(promise = 3, says = "ERRORS have a place, that of a token (from 0; the text's length at its end)")
    void everyBeginning() {
        String first = "fn f0 0 { g0 = - 1 ; if ( read ) { l0 = f1 ( 1 , 2 ) ; } else { a0 [ 1 + 2 ] = ! l1 ; } } ";
        int[] whole = tokens(first + "fn f1 2 { while ( a1 [ g1 ] < ( 3 == l0 ) ) { "
            + "f0 ( ) ; f1 ( 1 % 2 , 1 / 2 ) ; print 1 * 2 ; } return 5 ; }");
        for (int length = 1; length <= whole.length; length++) {
            ShortMill mill = new ShortMill();
            feed(mill, Arrays.copyOf(whole, length));
            int want = length == whole.length ? 2 : length == tokens(first).length ? -4016 : -1000 - length;
            due("the first " + length + " tokens", mill.compile(), want);
        }
        dueError("{", 1, 0);
    }

    public static void main(String[] args) {
        new Promise3GrammarTest().runAll();
    }
}
