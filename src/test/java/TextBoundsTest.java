/**
 * The bounds of texts: "Terms" up to ==== 2, and promises 2 and 3. Each function stands for the
 * sentence that its first line names.
 */
public final class TextBoundsTest {
    private static final String[] TOKENS = {"fun", "if", "else", "loop", "give", "q", "7",
        "(", ")", "{", "}", ",", ";", "=", "+", "-", "*", "<", "$"};

    private static String blanks(int many) {
        return " ".repeat(many);
    }

    private static String letter(int k) {
        return "" + (char) ('a' + k);
    }

    // ---- the text and its tokens

    private static void textOf400Bytes() {
        Check.about("Terms", "A TEXT of a PROGRAM, 0 to 400 bytes");
        Check.dueFunctions("", 0);
        Check.dueFunctions("fun a(){" + blanks(390) + "}", 1);
        Check.dueFunctions("fun a(){" + blanks(391) + "}", 1);
        CallOpener x = new CallOpener();
        Check.feed(x, "fun a(){" + blanks(391) + "}" + blanks(20));
        Check.due("program(-1)", x.program(-1), -1);
        Check.due("program(401)", x.program(401), -1);
        Check.due("program(420)", x.program(420), -1);
        Check.due("program(MIN)", x.program(Integer.MIN_VALUE), -1);
        Check.due("program(MAX)", x.program(Integer.MAX_VALUE), -1);
        Check.due("the tape stays", x.count(3), 420);
        Check.due("program(400)", x.program(400), 1);
        Check.dueFault("fun a(){" + blanks(392), 1, 400);
        Check.dueFault(blanks(399) + "$", 1, 399);
        CallOpener y = new CallOpener();
        Check.feed(y, "fun a(){" + blanks(391) + "}");
        Check.due("without its last byte", y.program(399), -1399);
    }

    private static void wordsAreSmallLetters() {
        Check.about("Terms", "TOKENS: words (small letters)");
        for (int b = 0; b < 256; b++) {
            String text = "fun " + (char) b + "(){}";
            if (b >= 'a' && b <= 'z') {
                CallOpener x = Check.with(text);
                Check.due("its name", x.function(0, 9), b);
            } else {
                Check.dueFault(text, 1, b == 32 || b == 10 ? 5 : 4);
            }
        }
        Check.dueFault("fun a1(){}", 1, 5);
        Check.dueFault("funa(){}", 1, 0);
        Check.dueFault("Fun a(){}", 1, 0);
        Check.dueFault("fun a(){x=aB;}", 1, 11);
    }

    private static void numbersAreDigits() {
        Check.about("Terms", "TOKENS: numbers (digits)");
        for (int b = 0; b < 256; b++) {
            String text = "fun a(){x=" + (char) b + ";}";
            if (b >= '0' && b <= '9') {
                CallOpener x = Check.with(text);
                Check.due("its number", x.line(0, 0, 2), b - '0');
            } else if (b >= 'a' && b <= 'z') {
                Check.dueFunctions(text, 1);
            } else {
                Check.dueFault(text, 1, b == 32 || b == 10 ? 11 : 10);
            }
        }
        Check.due("in tens", Check.with("fun a(){x=0907;}").line(0, 0, 2), 907);
        Check.dueFault("fun a(){x=1 2;}", 1, 12);
    }

    private static void signsEachAlone() {
        Check.about("Terms", "the signs ( ) { } , ; = + - * <, each alone");
        for (int b = 0; b < 256; b++) {
            String text = "fun a(){x=1" + (char) b + "2;}";
            if ("+-*<=0123456789".indexOf(b) >= 0) {
                Check.dueFunctions(text, 1);
            } else {
                Check.dueFault(text, 1, b == 32 || b == 10 || b == ';' ? 12 : 11);
            }
        }
        Check.dueFault("fun a(){x==1;}", 1, 10);
        Check.dueFault("fun a(){x=1==2;}", 1, 12);
        Check.dueFault("fun a(){x=1<=2;}", 1, 12);
        Check.dueFault("fun a(){x=-1;}", 1, 10);
        Check.dueFunctions("fun a(){if 1{if 1{}}}", 1);
    }

    private static void blanksAsOneLikes() {
        Check.about("Terms", "blanks (32, 10) as one likes");
        for (int b = 0; b < 128; b++) {
            boolean isBlank = b == 32 || b == 10;
            if (!Character.isLetterOrDigit(b)) {
                Check.due("byte " + b + " at first", Check.tell(new CallOpener(), (char) b + "fun a(){}"), isBlank ? 1 : -1000);
                Check.due("byte " + b + " at last", Check.tell(new CallOpener(), "fun a(){}" + (char) b), isBlank ? 1 : -1009);
            }
        }
        Check.dueFunctions(blanks(400), 0);
        Check.dueFunctions("\n".repeat(20), 0);
        String[] parts = "fun a ( b , c ) { d = a ( b , 1 ) ; if d { d = d < 2 ; } else { } loop 3 { } give d ; }".split(" ");
        Check.dueFunctions(String.join(" ", parts), 1);
        Check.dueFunctions(String.join("\n", parts), 1);
        Check.dueFunctions(String.join(" \n\n ", parts), 1);
        Check.dueFunctions("fun a(b,c){d=a(b,1);if d{d=d<2;}else{}loop 3{}give d;}", 1);
        Check.dueFunctions("fun a(){if1{}else{}loop2{}give3;}", 1);
        Check.dueFault("fu n a(){}", 1, 0);
        Check.dueFault("fun a(){x=1 0;}", 1, 12);
    }

    // ---- what can stand where

    /** Behind a text these tokens can stand and no other one can; a complete text is one with "}" told as last. */
    private static void dueNext(String text, String allowed, boolean endsFunction) {
        for (String token : TOKENS) {
            String whole = text + " " + token;
            boolean can = (" " + allowed + " ").contains(" " + token + " ");
            int answer = Check.tell(new CallOpener(), whole);
            if (can && token.equals("}") && endsFunction) {
                Check.due("program [" + whole + "]", answer, 1);
            } else {
                Check.due("program [" + whole + "]", answer, -1000 - (can ? whole.length() : text.length() + 1));
            }
        }
        if (!text.isEmpty()) {
            Check.due("program [" + text + "]", Check.tell(new CallOpener(), text), -1000 - text.length());
        }
    }

    private static void functionsAsTold() {
        Check.about("Terms", "PROGRAM: {FUNCTION}. FUNCTION: fun NAME ( [NAME {, NAME}] ) { {LINE} }");
        dueNext("", "fun", false);
        dueNext("fun", "q", false);
        dueNext("fun f", "(", false);
        dueNext("fun f (", "q )", false);
        dueNext("fun f ( a", ", )", false);
        dueNext("fun f ( a ,", "q", false);
        dueNext("fun f ( a , b", ", )", false);
        dueNext("fun f ( a , b , c", ", )", false);
        dueNext("fun f ( )", "{", false);
        dueNext("fun f ( a )", "{", false);
        dueNext("fun f ( ) {", "q if loop give }", true);
        CallOpener x = new CallOpener();
        Check.due("behind a function a function", Check.tell(x, "fun f(){} fun"), -1013);
        Check.due("behind a function no name", Check.tell(x, "fun f(){} q"), -1010);
        Check.due("behind a function no }", Check.tell(x, "fun f(){} }"), -1010);
    }

    private static void linesAsTold() {
        Check.about("Terms", "LINE: NAME = OPERAND [one of + - * < = OPERAND] ;");
        dueNext("fun f ( ) { a", "=", false);
        dueNext("fun f ( ) { a =", "q 7", false);
        dueNext("fun f ( ) { a = b", "( ; + - * < =", false);
        dueNext("fun f ( ) { a = 1", "; + - * < =", false);
        for (String sign : "+ - * < =".split(" ")) {
            dueNext("fun f ( ) { a = 1 " + sign, "q 7", false);
            dueNext("fun f ( ) { a = b " + sign + " c", ";", false);
            dueNext("fun f ( ) { a = b " + sign + " 2", ";", false);
        }
        dueNext("fun f ( ) { a = b ;", "q if loop give }", true);
    }

    private static void callsAsTold() {
        Check.about("Terms", "NAME = NAME ( [OPERAND {, OPERAND}] ) ; (a CALL)");
        dueNext("fun f ( ) { a = f (", "q 7 )", false);
        dueNext("fun f ( ) { a = f ( )", ";", false);
        dueNext("fun f ( ) { a = f ( b", ", )", false);
        dueNext("fun f ( ) { a = f ( 2", ", )", false);
        dueNext("fun f ( ) { a = f ( 2 ,", "q 7", false);
        dueNext("fun f ( ) { a = f ( 2 , b", ", )", false);
        dueNext("fun f ( ) { a = f ( 2 , b )", ";", false);
        dueNext("fun f ( ) { a = f ( 1 , 2 , 3 , 4", ", )", false);
        dueNext("fun f ( ) { a = f ( ) ;", "q if loop give }", true);
    }

    private static void branchesAndLoopsAsTold() {
        Check.about("Terms", "if OPERAND BLOCK [else BLOCK] | loop OPERAND BLOCK. BLOCK: { {LINE} }. OPERAND: NAME | NUMBER");
        dueNext("fun f ( ) { if", "q 7", false);
        dueNext("fun f ( ) { if a", "{", false);
        dueNext("fun f ( ) { if 1", "{", false);
        dueNext("fun f ( ) { if a {", "q if loop }", false);
        dueNext("fun f ( ) { if a { }", "q if loop give } else", true);
        dueNext("fun f ( ) { if a { b = 1 ;", "q if loop }", false);
        dueNext("fun f ( ) { if a { } else", "{", false);
        dueNext("fun f ( ) { if a { } else {", "q if loop }", false);
        dueNext("fun f ( ) { if a { } else { }", "q if loop give }", true);
        dueNext("fun f ( ) { if a { } b = 1 ;", "q if loop give }", true);
        dueNext("fun f ( ) { loop", "q 7", false);
        dueNext("fun f ( ) { loop a", "{", false);
        dueNext("fun f ( ) { loop 1", "{", false);
        dueNext("fun f ( ) { loop a {", "q if loop }", false);
        dueNext("fun f ( ) { loop a { }", "q if loop give }", true);
        dueNext("fun f ( ) { loop a { if b { }", "q if loop } else", false);
        dueNext("fun f ( ) { if a { loop b { }", "q if loop }", false);
        dueNext("fun f ( ) { if a { } else { if b { }", "q if loop } else", false);
        dueNext("fun f ( ) { if a { if b { } else { }", "q if loop }", false);
        dueNext("fun f ( ) { if a { if b { } }", "q if loop give } else", true);
    }

    private static void giveIsTheLastAlone() {
        Check.about("Terms", "give OPERAND ; the last in a FUNCTION alone (not in a BLOCK)");
        dueNext("fun f ( ) { give", "q 7", false);
        dueNext("fun f ( ) { give a", ";", false);
        dueNext("fun f ( ) { give 1", ";", false);
        dueNext("fun f ( ) { give 1 ;", "}", true);
        dueNext("fun f ( ) { a = 1 ; give a ;", "}", true);
        dueNext("fun f ( ) { if 1 { a = 1 ;", "q if loop }", false);
        Check.dueFault("fun a(){if 1{give 1;}}", 1, 13);
        Check.dueFault("fun a(){if 1{}else{give 1;}}", 1, 19);
        Check.dueFault("fun a(){loop 1{give 1;}}", 1, 15);
        Check.dueFault("fun a(){loop 1{if 1{give 1;}}}", 1, 20);
        Check.dueFunctions("fun a(){give 1;}fun b(){give 2;}", 2);
    }

    // ---- names

    /** A text with a name in each place that a name can stand, once. */
    private static final String[] PLACES = {"fun #(){}", "fun a(#){}", "fun a(b,#){}", "fun a(){#=1;}", "fun a(){b=#;}",
        "fun a(){b=#+1;}", "fun a(){b=1+#;}", "fun a(){if #{}}", "fun a(){loop #{}}", "fun a(){give #;}",
        "fun a(b){b=a(#);}", "fun a(b,c){b=a(1,#);}", "fun a(){#=a();}", "fun a(){if 1{#=1;}}", "fun a(){if 1{}else{#=1;}}"};
    private static final String CALLED = "fun a(){b=#();}fun #(){}";

    private static void namesOf1To6Letters() {
        Check.about("Terms", "NAMES: 1 to 6 letters; 2 a NAME longer than 6");
        for (String place : PLACES) {
            int at = place.indexOf('#');
            Check.dueFunctions(place.replace("#", "z"), 1);
            Check.dueFunctions(place.replace("#", "zyxwv"), 1);
            Check.dueFunctions(place.replace("#", "zyxwvu"), 1);
            Check.dueFault(place.replace("#", "zyxwvut"), 2, at);
            Check.dueFault(place.replace("#", "z".repeat(100)), 2, at);
        }
        Check.dueFunctions(CALLED.replace("#", "z"), 2);
        Check.dueFunctions(CALLED.replace("#", "zyxwvu"), 2);
        Check.dueFault(CALLED.replace("#", "zyxwvut"), 2, 10);
        Check.dueFault("z".repeat(400), 1, 0);
    }

    private static void namesAreNoWords() {
        Check.about("Terms", "no word of the language (fun if else loop give)");
        for (String word : new String[] {"fun", "if", "else", "loop", "give"}) {
            for (String place : PLACES) {
                boolean beginsLine = (word.equals("if") || word.equals("loop") || word.equals("give")) && place.contains("{#=");
                int at = place.indexOf('#');
                // a line that begins with such a word is none of NAME = ..: then = can't stand
                boolean giveInBlock = word.equals("give") && place.contains("1{#=") || word.equals("give") && place.contains("else{#=");
                Check.dueFault(place.replace("#", word), 1, beginsLine && !giveInBlock ? at + word.length() : at);
            }
            Check.dueFault(CALLED.replace("#", word), 1, 10);
        }
        for (String near : new String[] {"fu", "funs", "i", "ifs", "iff", "els", "elses", "loo", "loops", "giv", "gives", "un", "gun", "fan", "fum",
            "of", "ii", "xlse", "elsa", "poop", "look", "five", "gave"}) {
            for (String place : PLACES) {
                Check.dueFunctions(place.replace("#", near), 1);
            }
            Check.dueFunctions(CALLED.replace("#", near), 2);
        }
    }

    private static void namesInOrder() {
        Check.about("Terms", "FUNCTIONS .. numbered as they come, no two of one NAME; those that are called may be told behind");
        CallOpener x = Check.with("fun z(){q=y();}fun y(){q=x();}fun x(){q=z();}");
        Check.due("first", x.function(0, 9), 'z');
        Check.due("second", x.function(1, 9), 'y');
        Check.due("third", x.function(2, 9), 'x');
        Check.due("called behind", x.site(0, 1), 1);
        Check.due("called ahead", x.site(2, 1), 0);
        Check.dueFunctions("fun ab(){}fun a(){}fun abc(){}fun b(){}", 4);
        Check.dueFault("fun ab(){}fun a(){}fun ab(){}", 5, 23);
        Check.dueFunctions("fun abcdef(){}fun abcdeg(){}fun bbcdef(){}", 3);
    }

    private static void variablesAsTheyCome() {
        Check.about("Terms", "VARIABLES of a FUNCTION: its PARAMETERS, then other NAMES in it as they come"
            + " (but those of FUNCTIONS called: a NAME behind = with ( behind it)");
        CallOpener x = Check.with("fun f(p,q){c=d+e;if g{h=q;}else{i=p;}}");
        Check.due("variables", x.function(0, 1), 8);
        Check.dueAll("line 0", w -> x.line(0, 0, w), 1, 2, -13, -14);
        Check.dueAll("line 1", w -> x.line(0, 1, w), 7, -2, -15);
        Check.dueAll("line 2", w -> x.line(0, 2, w), 0, 6, -11);
        Check.dueAll("line 3", w -> x.line(0, 3, w), 0, 7, -10);
        CallOpener y = Check.with("fun f(){f=f();f=g(h,f);loop k{}give m;}fun g(a,b){}");
        Check.due("f is a variable, too, g is none", y.function(0, 1), 4);
        Check.dueAll("line 1", w -> y.line(0, 1, w), 6, 0, -11, -10);
        Check.dueAll("line 2", w -> y.line(0, 2, w), 8, -2, -12);
        Check.dueAll("line 3", w -> y.line(0, 3, w), 9, -2, -13);
        CallOpener z = Check.with("fun f(){a=b;b=a;}fun g(){b=a;}");
        Check.due("each function has its own", z.line(1, 0, 2), -11);
    }

    // ---- how many

    private static void functions8() {
        Check.about("Terms", "FUNCTIONS, 8 at most; 4 a 9th FUNCTION (at fun)");
        StringBuilder s = new StringBuilder();
        for (int f = 0; f < 9; f++) {
            Check.dueFunctions(s.toString(), f);
            s.append("fun ").append(letter(f)).append("(){}");
        }
        Check.dueFault(s.toString(), 4, 72);
        String eight = s.substring(0, 72);
        Check.dueFault(eight + " fun", 4, 73);
        Check.dueFault(eight + "fun a(){}", 4, 72);
        Check.dueFault(eight + "fun fun", 4, 72);
        CallOpener x = Check.with(eight);
        Check.due("the eighth", x.function(7, 9), 'h');
        Check.due("a ninth", x.function(8, 9), -1);
    }

    private static void parameters3() {
        Check.about("Terms", "PARAMETERS: 3 at most; 4 a 4th PARAMETER (at the NAME)");
        String[] heads = {"fun a(){}", "fun a(b){}", "fun a(b,c){}", "fun a(b,c,d){}"};
        for (int n = 0; n < 4; n++) {
            Check.due("parameters", Check.with(heads[n]).function(0, 0), n);
        }
        Check.dueFault("fun a(b,c,d,e){}", 4, 12);
        Check.dueFault("fun a(b,c,d, e,f){}", 4, 13);
        Check.dueFault("fun a(b,c,d,){}", 1, 12);
        Check.dueFunctions("fun a(b,c,d){}fun e(b,c,d){}", 2);
    }

    /** Lines in which # is a variable once more, and where it stands in them. */
    private static final String[] USES = {"#=1;", "a=#;", "a=#+1;", "a=1<#;", "if #{}", "loop #{}", "give #;", "a=z(#);",
        "#=z(a);", "if 1{#=1;}", "if 1{}else{a=#;}", "loop 1{a=1-#;}"};

    private static void variables8() {
        Check.about("Terms", "VARIABLES .. 8 at most together; 4 a 9th VARIABLE (at the NAME)");
        String[] heads = {"fun a(){a=b+c;d=e*f;", "fun a(a){b=c;d=e;f=1;", "fun a(a,b,c){d=e;f=1;"};
        for (String head : heads) {
            for (String use : USES) {
                String behind = "}fun z(h){}";
                Check.due("seven", Check.with(head + "g=1;" + use.replace("#", "g") + behind).function(0, 1), 7);
                Check.due("eight", Check.with(head + "g=1;" + use.replace("#", "h") + behind).function(0, 1), 8);
                Check.due("eight", Check.with(head + "g=h;" + use.replace("#", "h") + behind).function(0, 1), 8);
                Check.dueFault(head + "g=h;" + use.replace("#", "i") + behind, 4, head.length() + 4 + use.indexOf('#'));
            }
            Check.dueFunctions(head + "g=h;a=z(1);}fun z(h){}", 2);
        }
    }

    private static final String[] LINES = {"a=1;", "a=a;", "if a{}", "loop 1{}", "give a;", "a=a();"};

    private static void lines60() {
        Check.about("Terms", "LINES 60 at most; 4 a 61st LINE (at its first TOKEN)");
        String fifty = "a=1;".repeat(58);
        for (String line : LINES) {
            Check.due("59", Check.with("fun a(){" + fifty + line + "}").count(1), 59);
            Check.due("60", Check.with("fun a(){" + fifty + "a=1;" + line + "}").count(1), 60);
            Check.dueFault("fun a(){" + fifty + "a=1;a=1;" + line + "}", 4, 248);
            if (!line.startsWith("give")) {
                Check.dueFault("fun a(){" + fifty + "a=1;if 1{" + line + "}}", 4, 8 + 236 + 5);
                Check.dueFault("fun a(){" + fifty + "a=1;if 1{}else{" + line + "}}", 4, 8 + 236 + 11);
                Check.dueFault("fun a(){" + fifty + "a=1;loop 1{" + line + "}}", 4, 8 + 236 + 7);
            }
            String half = "fun b(){" + "a=1;".repeat(30) + "}";
            Check.dueFunctions(half + "fun a(){" + "a=1;".repeat(29) + line + "}", 2);
            Check.dueFault(half + "fun a(){" + "a=1;".repeat(30) + line + "}", 4, half.length() + 8 + 120);
        }
        Check.dueFunctions("fun a(){" + fifty + "a=1;if 1{}else{}}", 1);
    }

    private static void linesNumbered() {
        Check.about("Terms", "LINES .. numbered as they begin; SITES .. likewise");
        CallOpener x = Check.with("fun a(){if 1{b=a();}else{loop 2{b=a();b=1;}b=a();}b=a();}fun c(){b=a();}");
        int[] lines = {1, 3, 5, 6, 7};
        for (int s = 0; s < 5; s++) {
            Check.due("line of site " + s, x.site(s, 5), lines[s]);
        }
        Check.due("the last", x.site(4, 0), 1);
    }

    private static void sites16() {
        Check.about("Terms", "SITES (CALLS) 16 at most; 4 a 17th SITE (at the NAME called)");
        String fifteen = "b=a();".repeat(15);
        Check.due("15", Check.with("fun a(){" + fifteen + "}").count(2), 15);
        Check.due("16", Check.with("fun a(){" + fifteen + "b=a();}").count(2), 16);
        Check.dueFault("fun a(){" + fifteen + "b=a();b=a();}", 4, 8 + 96 + 2);
        Check.dueFault("fun a(){" + fifteen + "b=a();b=x(1);}", 4, 8 + 96 + 2);
        Check.dueFault("fun a(){" + fifteen + "if 1{loop 1{b=a();b=a();}}}", 4, 8 + 90 + 12 + 6 + 2);
        Check.dueFunctions("fun a(){" + fifteen + "b=a();b=a;}", 1);
        String eight = "fun c(){" + "b=a();".repeat(8) + "}fun a(){" + "b=c();".repeat(8);
        Check.due("8 and 8", Check.with(eight + "}").count(2), 16);
        Check.dueFault(eight + "b=c();}", 4, eight.length() + 2);
    }

    private static void bracesWithin5() {
        Check.about("Terms", "4 .. a { within 5 others");
        String[] heads = {"if 1", "loop 1"};
        for (String head : heads) {
            StringBuilder open = new StringBuilder("fun a(){");
            for (int within = 1; within < 5; within++) {
                open.append(head).append("{");
                Check.dueFunctions(open + "}".repeat(within + 1), 1);
                Check.dueFunctions(open + "a=1;" + "}".repeat(within + 1), 1);
            }
            for (String last : heads) {
                Check.dueFault(open + last + "{}}}}}}", 4, open.length() + last.length());
            }
            Check.dueFunctions(open + "}" + head + "{}}}}}", 1);
        }
        String three = "fun a(){loop 1{loop 1{loop 1{";
        Check.dueFunctions(three + "if 1{}else{}}}}}", 1);
        Check.dueFault(three + "if 1{}else{if 1{}}}}}}", 4, three.length() + 15);
        Check.dueFault(three + "if 1{}else{loop 1{}}}}}}", 4, three.length() + 17);
        Check.dueFunctions("fun a(){" + "if 1{}".repeat(8) + "}", 1);
        Check.dueFunctions("fun a(){if 1{if 1{if 1{if 1{}}}}}fun b(){if 1{if 1{if 1{if 1{}}}}}", 2);
    }

    // ---- faults

    private static void firstFromTheLeft() {
        Check.about("Terms", "FAULTS, the first TOKEN from the left that is wrong, at its first byte");
        Check.dueFault("fun abcdefg(){x=1000;}", 2, 4);
        Check.dueFault("fun a(){x=1000;abcdefg=1;}", 3, 10);
        Check.dueFault("fun a(){$ x=1000;}", 1, 8);
        Check.dueFault("fun a(){x=1000 $;}", 3, 10);
        Check.dueFault("fun a(b,b,abcdefg){}", 5, 8);
        Check.dueFault("fun a(abcdefg,b,b){}", 2, 6);
        Check.dueFault("fun a(){}fun a(b,b){}", 5, 13);
        Check.dueFault("fun a(){x=b();y=1000;}", 3, 16);
        Check.dueFault("fun a(){\n\n  loops 1{}}", 1, 18);
        Check.dueFault("fun a(){x=1;else{}}", 1, 12);
    }

    private static void theEnd() {
        Check.about("Terms", "(the end: at the length)");
        Check.dueFault("fun", 1, 3);
        Check.dueFault("fun a(", 1, 6);
        Check.dueFault("fun a()  \n", 1, 10);
        Check.dueFault("fun a(){x=1;" + blanks(30), 1, 42);
        Check.dueFault("fun a(){}fun b(){", 1, 17);
        CallOpener x = new CallOpener();
        Check.feed(x, "fun a(){x=12;}fun b(){}");
        Check.due("in the middle of the tape", x.program(11), -1011);
        Check.feed(x, "fun a(){x=9999;}");
        Check.due("in the middle of a number", x.program(13), -1013);
        Check.feed(x, "fun a(){x=9999;}");
        Check.due("behind the number", x.program(14), -3010);
        Check.feed(x, "fun abcdefg(){}");
        Check.due("in the middle of a name", x.program(10), -1010);
        Check.feed(x, "fun abcdefg(){}");
        Check.due("behind the name", x.program(11), -2004);
        Check.feed(x, "fun a(){}fun b(){}");
        Check.due("in the middle of a word", x.program(11), -1009);
    }

    private static void theLeastOfOneToken() {
        Check.about("Terms", "of one TOKEN the least");
        Check.dueFault("abcdefg", 1, 0);
        Check.dueFault("fun a abcdefg", 1, 6);
        Check.dueFault("fun a(b abcdefg)", 1, 8);
        Check.dueFault("fun a(){x abcdefg;}", 1, 10);
        Check.dueFault("fun a(){if x abcdefg", 1, 13);
        Check.dueFault("fun a(){give 1;abcdefg=1;}", 1, 15);
        Check.dueFault("fun 1000", 1, 4);
        Check.dueFault("fun a(1000)", 1, 6);
        Check.dueFault("fun a(){1000", 1, 8);
        Check.dueFault("fun a(){x=1 1000;}", 1, 12);
        String sixty = "fun a(){" + "b=1;".repeat(60);
        Check.dueFault(sixty + "else{}}", 1, 248);
        Check.dueFault(sixty + "1000=b;}", 1, 248);
        Check.dueFault(sixty + "bcdefgh=1;}", 2, 248);
        String inBlock = "fun a(){" + "b=1;".repeat(59) + "if 1{";
        Check.dueFault(inBlock + "give 1;}}", 1, inBlock.length());
        String given = "fun a(){" + "b=1;".repeat(59) + "give b;";
        Check.dueFault(given + "give b;}", 1, given.length());
        Check.dueFault(given + "b=1;}", 1, given.length());
        String eight = "fun a(b,c,d){e=f+g;h=i;";
        Check.dueFault(eight + "bcdefgh=1;}", 2, eight.length());
        Check.dueFault(eight + "b=bcdefgh;}", 2, eight.length() + 2);
        Check.dueFault("fun a(b,c,d,bcdefgh){}", 2, 12);
        Check.dueFault("fun a(b,c,d,fun){}", 1, 12);
        Check.dueFault("fun a(b,c,d,b){}", 4, 12);
        String sixteen = "fun a(){" + "b=a();".repeat(16);
        Check.dueFault(sixteen + "b=bcdefgh();}", 2, 106);
        String functions = "fun a(){}fun b(){}fun c(){}fun d(){}fun e(){}fun f(){}fun g(){}fun h(){";
        Check.dueFault(functions + "fun", 1, functions.length());
        String braces = "fun a(){if 1{if 1{if 1{if 1{";
        Check.dueFault(braces + "{}", 1, braces.length());
        Check.dueFault(braces + "x={}", 1, braces.length() + 2);
        Check.dueFault(braces + "if{}", 1, braces.length() + 2);
    }

    private static void numbersTo999() {
        Check.about("Terms", "3 a NUMBER above 999");
        String[] places = {"fun a(){x=#;}", "fun a(){x=#+1;}", "fun a(){x=1*#;}", "fun a(){if #{}}", "fun a(){loop #{}}",
            "fun a(){give #;}", "fun a(b){x=a(#);}", "fun a(b,c){x=a(1,#);}"};
        String[] low = {"0", "998", "999", "0999", "00000000000000000000999", "000"};
        String[] high = {"1000", "1001", "01000", "9999", "2147483648", "4294967295", "4294967296", "4294968295",
            "18446744073709551616", "9".repeat(200)};
        for (String place : places) {
            int at = place.indexOf('#');
            for (String number : low) {
                Check.dueFunctions(place.replace("#", number), 1);
            }
            for (String number : high) {
                Check.dueFault(place.replace("#", number), 3, at);
            }
        }
        Check.due("999", Check.with("fun a(){x=999;}").line(0, 0, 2), 999);
    }

    private static void toldAlready() {
        Check.about("Terms", "5 a NAME of a FUNCTION, a PARAMETER told already");
        Check.dueFault("fun a(){}fun a(){}", 5, 13);
        Check.dueFault("fun a(){}fun b(){}fun  a(){}", 5, 23);
        Check.dueFault("fun abcdef(){}fun abcdef(){}", 5, 18);
        Check.dueFault("fun a(b,b){}", 5, 8);
        Check.dueFault("fun a(b,c,b){}", 5, 10);
        Check.dueFault("fun a(b,c,c){}", 5, 10);
        Check.dueFunctions("fun a(b,bb,bbb){}", 1);
        Check.dueFunctions("fun a(a){}fun b(a,b){}", 2);
        Check.dueFunctions("fun a(b){b=b;}", 1);
    }

    private static void callsOfNone() {
        Check.about("Terms", "Without one: the first CALL (by its place) of no FUNCTION,"
            + " or with not as many OPERANDS as that has PARAMETERS: 6, at the NAME called");
        String[] heads = {"fun g(){}", "fun g(a){}", "fun g(a,b){}", "fun g(a,b,c){}"};
        String[] operands = {"", "1", "1,2", "1,2,3", "1,2,3,4", "1,2,3,4,5"};
        for (int parameters = 0; parameters < 4; parameters++) {
            for (int given = 0; given < 6; given++) {
                String call = "fun f(){x=g(" + operands[given] + ");}";
                int ahead = heads[parameters].length() + 10;
                boolean fits = given == parameters;
                Check.due(call, Check.tell(new CallOpener(), call + heads[parameters]), fits ? 2 : -6010);
                Check.due(call, Check.tell(new CallOpener(), heads[parameters] + call), fits ? 2 : -6000 - ahead);
            }
        }
        Check.dueFault("fun f(){x=  h();}", 6, 12);
        Check.dueFault("fun f(){x=f();y=h();z=f(1);}", 6, 16);
        Check.dueFault("fun f(){x=f();z=f(1);y=h();}", 6, 16);
        Check.dueFault("fun f(x){x=x();}", 6, 11);
        Check.dueFault("fun f(){x=h();}fun g(){}fun g(){}", 5, 28);
        Check.dueFault("fun f(){x=h();}fun g(){", 1, 23);
    }

    // ---- the tape

    private static void tapeOf480() {
        Check.about("Promise 2", "Twenty bytes come behind the tape .. how many it has; NONE if that would be more than 480");
        CallOpener x = new CallOpener();
        for (int many = 20; many <= 480; many += 20) {
            Check.due("feed", x.feed(-1, 0, 1, 2, 3), many);
        }
        Check.due("feed of a full tape", x.feed(0, 0, 0, 0, 0), -1);
        Check.due("once more", x.feed(0, 0, 0, 0, 0), -1);
        Check.due("it has as many", x.count(3), 480);
        Check.due("program(0)", x.program(0), 0);
        Check.due("from the first byte on", x.feed(0, 0, 0, 0, 0), 20);
    }

    private static void highestByteFirst() {
        Check.about("Promise 2", "the highest of each int first");
        int blank = 0x20202020;
        for (int place = 0; place < 20; place++) {
            int[] v = {blank, blank, blank, blank, blank};
            v[place / 4] = v[place / 4] & ~(255 << 24 - place % 4 * 8) | 0xff << 24 - place % 4 * 8;
            CallOpener x = new CallOpener();
            x.feed(v[0], v[1], v[2], v[3], v[4]);
            Check.due("a byte of 255 at " + place, x.program(20), -1000 - place);
        }
        CallOpener y = new CallOpener();
        y.feed(blank, blank, blank, blank, blank);
        y.feed(0x66756e20, 0x67282961, 0, 0, 0);
        Check.due("the next twenty are behind", y.program(28), -1027);
    }

    private static void firstBytesOfTheTape() {
        Check.about("Promise 3", "A PROGRAM by the tape's first n bytes (0 to 400; empty then) .. NONE: no such n,"
            + " it has not so many (the tape stays)");
        CallOpener x = new CallOpener();
        Check.due("more than none", x.program(1), -1);
        Check.feed(x, "fun a(){}fun b(){} $");
        Check.due("one more than it has", x.program(21), -1);
        Check.due("below 0", x.program(-1), -1);
        Check.due("the tape stays", x.count(3), 20);
        Check.due("as many as it has", x.program(20), -1019);
        Check.due("the tape is empty by a fault", x.count(3), 0);
        Check.feed(x, "fun a(){}fun b(){} $");
        Check.due("fewer than it has", x.program(19), 2);
        Check.due("the tape is empty", x.count(3), 0);
        Check.due("nothing is left", x.program(1), -1);
        Check.feed(x, "fun a(){}fun b(){} $");
        Check.due("none of it", x.program(0), 0);
        Check.due("the tape is empty", x.count(3), 0);
        Check.due("no function", x.count(0), 0);
    }

    private static void allThatWasStays() {
        Check.about("Promise 3", "THE PROFILE empty: how many FUNCTIONS; a FAULT: -1000 times its number, less its place (all that was stays)");
        CallOpener x = Check.countedWith("fun a(n){give n;}fun b(){x=a(2);}", 5);
        x.counted(1);
        x.set(0, 77);
        int[] faults = {1, 2, 3, 4, 5, 6};
        String[] texts = {"fun b(", "fun abcdefg(", "fun a(){x=1000;}", "fun a(b,c,d,e){}", "fun a(b,b){}", "fun a(){x=b();}"};
        int[] places = {6, 4, 10, 12, 8, 10};
        for (int i = 0; i < 6; i++) {
            Check.due("fault", Check.tell(x, texts[i]), -1000 * faults[i] - places[i]);
            Check.dueAll("count", x::count, 2, 2, 1, 0, 3, 1);
            Check.due("name", x.function(1, 9), 'b');
            Check.due("heat", x.worth(1, 1, 0), 1);
            Check.due("run", x.run(0, 1), 5);
        }
        Check.due("the same text", Check.tell(x, "fun a(n){give n;}fun b(){x=a(2);}"), 2);
        Check.dueAll("count", x::count, 2, 2, 1, 0, 0, 0);
        Check.due("heat", x.worth(1, 0, 0), 0);
        Check.due("nodes", x.tree(1, 0), 1);
        Check.due("arguments stay", x.argument(0, 0), 5);
        Check.due("settings stay", x.set(0, 100), 77);
        Check.due("an empty program", x.program(0), 0);
        Check.dueAll("count", x::count, 0, 0, 0, 0, 0, 0);
        Check.due("no tree", x.tree(0, 0), -1);
    }

    /** Whatever was told ahead of it, a text is read as by a new object. */
    private static void readAsByANewObject() {
        Check.about("Promise 3", "A PROGRAM by the tape's first n bytes");
        String[] texts = {
            "fun m(p){if p{a=g(1,2,3);}else{a=g(4,5,6);}loop 2{a=g(1,1,1);a=h(a);}}fun g(x,y,z){give z;}fun h(x){y=x;give y;}",
            "fun m(){if 1{if 1{if 1{if 1{a=1;$",
            "fun m(p){if p{a=g(p,p,p);}loop p{a=g(p,p,a);}}fun g(x,y,z){give x;}",
            "fun m(a,b,c){d=e+f;g=h;loop 1{i=1;}}",
            "fun m(){a=g();a=g();}fun g(){b=1;}",
            "fun m(){a=g(1,2);}fun g(){}",
            "fun abcdef(p){if p{}p=abcdef(1);give p;}",
            "fun m(",
            "fun m(){give 3;}fun g(){}",
            "",
            "fun a(){x=b(2);}fun b(p){q=3;}"};
        CallOpener x = new CallOpener();
        CallOpener latest = new CallOpener();
        for (String text : texts) {
            CallOpener fresh = new CallOpener();
            int answer = Check.tell(fresh, text);
            Check.due("program [" + text + "]", Check.tell(x, text), answer);
            latest = answer < 0 ? latest : fresh;
            Check.due("as by a new object, not run [" + text + "]", Seen.of(x).equals(Seen.of(latest)) ? 1 : 0, 1);
            x.counted(0);
            latest.counted(0);
            Check.due("as by a new object, run [" + text + "]", Seen.of(x).equals(Seen.of(latest)) ? 1 : 0, 1);
        }
    }

    public static void main(String[] args) {
        textOf400Bytes();
        wordsAreSmallLetters();
        numbersAreDigits();
        signsEachAlone();
        blanksAsOneLikes();
        functionsAsTold();
        linesAsTold();
        callsAsTold();
        branchesAndLoopsAsTold();
        giveIsTheLastAlone();
        namesOf1To6Letters();
        namesAreNoWords();
        namesInOrder();
        variablesAsTheyCome();
        functions8();
        parameters3();
        variables8();
        lines60();
        linesNumbered();
        sites16();
        bracesWithin5();
        firstFromTheLeft();
        theEnd();
        theLeastOfOneToken();
        numbersTo999();
        toldAlready();
        callsOfNone();
        tapeOf480();
        highestByteFirst();
        firstBytesOfTheTape();
        allThatWasStays();
        readAsByANewObject();
        Check.end("TextBoundsTest");
    }
}
