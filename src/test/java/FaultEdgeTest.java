import java.util.ArrayList;
import java.util.List;
import java.util.regex.Matcher;
import java.util.regex.Pattern;

/** The sentences that name a boundary of tokens, of the grammar and of the fault: promises 6, 7 and 15. */
final class FaultEdgeTest {
    private static final Edges EDGES = new Edges();
    private static final String[] WORDS = {"class", "extends", "int", "return", "new", "this"};
    /** Of every way that the grammar knows something. */
    private static final String SOUND = "class A extends B{A a;int f(A b,int c){int d=1+(c);B e=new B;"
            + "b.f(this,d).g=f(a,1);c;return a.b().c;}int g(){}}class B{}";
    // where # stands, only a name may stand
    private static final String[] NAME_PLACES = {"class #{}", "class A extends #{}", "class A{int #;}", "class A{A #;}",
        "class A{int #(){}}", "class A{int f(int #){}}", "class A{int f(int a,A #){}}", "class A{int f(){int #=1;}}",
        "class A{int f(){new #;}}", "class A{int f(){this.#;}}", "class A{int f(){this.#(1);}}", "class A{int f(){f().#=1;}}"};
    // where # stands, a type or an operand may stand
    private static final String[] TYPE_PLACES = {"class A{# a;}", "class A{# a(){}}", "class A{int f(# a){}}",
        "class A{int f(int a,# b){}}"};
    private static final String[] OPERAND_PLACES = {"class A{int f(){return #;}}", "class A{int f(){int a=#;}}",
        "class A{int f(){a=#;}}", "class A{int f(){1+#;}}", "class A{int f(){(#);}}", "class A{int f(){f(#);}}",
        "class A{int f(){f(1,#);}}"};

    public static void main(String[] args) {
        blanks();
        asLongAsCanBe();
        wordLength();
        wordCharacters();
        numberLength();
        signs();
        wordsThatAreNoNames();
        placeOfToken();
        tokenLimit();
        oneOrNone();
        anyNumber();
        locals();
        depth();
        notInOneAnother();
        placeOfFault();
        firstFault();
        aloneAndWithoutClasses();
        diagnosticIndices();
        EDGES.close("FaultEdgeTest");
    }

    private static List<String> tokensOf(String text) {
        List<String> all = new ArrayList<>();
        Matcher matcher = Pattern.compile("[A-Za-z][A-Za-z0-9]*|[0-9]+|[^ ]").matcher(text);
        while (matcher.find()) {
            all.add(matcher.group());
        }
        return all;
    }

    private static void sound(String text) {
        EDGES.sound(text, tokensOf(text).size());
    }

    /** The text without the mark # has a fault there. */
    private static void faultAtMark(String marked) {
        int place = marked.indexOf('#');
        EDGES.fault(marked.replace("#", ""), place, tokensOf(marked.substring(0, place)).size());
    }

    private static String inMethod(String statements) {
        return "class A{int f(int a){" + statements + "}}";
    }

    private static void blanks() {
        EDGES.sentence("TOKENS, blanks parting them");
        sound("");
        sound(" ");
        sound(" ".repeat(240));
        sound("class A{}");
        sound(" class  A { } ");
        sound("   class   A   {   int   a   ;   }   ");
        faultAtMark("#classA{}");
        faultAtMark("#cl ass A{}");
        sound("class A{inta a;}");
        faultAtMark("class A{inta#;}");
    }

    private static void asLongAsCanBe() {
        EDGES.sentence("each as long as it can be");
        EDGES.gives("a name of all letters and digits", "class ab12{}", 6, s -> s.definition(9));
        sound("class class1{int this1;int inta;}");
        sound(inMethod("returna=newA;thisa;"));
        EDGES.gives("int1 is one word", "class int1{}", 4, s -> s.count(1));
        EDGES.gives("12 is one number", inMethod("12;"), 14, s -> s.count(1));
        faultAtMark(inMethod("1 #2;"));
        faultAtMark(inMethod("1#a;"));
        faultAtMark(inMethod("123456#a;"));
        sound(inMethod("a1;a1a;"));
    }

    private static void wordLength() {
        EDGES.sentence("a WORD: a letter and then letters and digits, 8 at most (a longer one is a fault)");
        List<String> places = new ArrayList<>(List.of(NAME_PLACES));
        places.addAll(List.of(TYPE_PLACES));
        places.addAll(List.of(OPERAND_PLACES));
        places.add("class A{int f(){# a=1;}}");
        places.add("class A{int f(){#;}}");
        places.add("class A{int f(){#(1);}}");
        for (String place : places) {
            for (String right : new String[] {"x", "x1", "xyzabcd", "abcdefgh", "a1234567", "A9z0Z8b7", "extendsA"}) {
                sound(place.replace("#", right));
            }
            for (String wrong : new String[] {"abcdefghi", "a12345678", "classclas", "extendsAB", "abcdefghijklmnopqrst", "aaaaaaaaaaaaaaaa"}) {
                faultAtMark(place.replace("#", "#" + wrong));
            }
        }
        faultAtMark("class #" + "a".repeat(234));
        faultAtMark("#" + "a".repeat(240));
        faultAtMark("#classes{}");
        sound("class abcdefgh extends abcdefgh{}");
        EDGES.judged("class abcdefgh{abcdefgh a;<2>abcdefg b;<2>abcdefgH c;}");
    }

    private static void wordCharacters() {
        EDGES.sentence("a letter and then letters and digits");
        for (char code = 32; code <= 126; code++) {
            boolean letter = code >= 'a' && code <= 'z' || code >= 'A' && code <= 'Z';
            boolean digit = code >= '0' && code <= '9';
            String first = "class " + code + "a{}";
            String second = "class a" + code + "{}";
            if (letter) {
                EDGES.sound(first, 4);
            } else if (code == ' ') {
                EDGES.sound(first, 4);
            } else {
                EDGES.fault(first, 6, 1);
            }
            if (letter || digit || code == ' ') {
                EDGES.sound(second, 4);
            } else if (code == '{') {
                EDGES.fault(second, 8, 3);
            } else {
                EDGES.fault(second, 7, 2);
            }
        }
    }

    private static void numberLength() {
        EDGES.sentence("a NUMBER: 1 to 6 digits (more are a fault)");
        for (String place : OPERAND_PLACES) {
            for (String right : new String[] {"0", "9", "12", "12345", "123456", "000000", "999999"}) {
                sound(place.replace("#", right));
            }
            for (String wrong : new String[] {"1234567", "0000000", "9999999", "12345678", "123456789012"}) {
                faultAtMark(place.replace("#", "#" + wrong));
            }
        }
        faultAtMark(inMethod("#1234567a;"));
        faultAtMark(inMethod("123456 #123456;"));
        faultAtMark("class A{int f(){1#");
        faultAtMark("class A{int f(){#" + "1".repeat(200));
    }

    private static void signs() {
        EDGES.sentence("one of { } ( ) ; , . = + . Any other character is a fault");
        sound(inMethod("a.b=f(1,2)+(3);"));
        for (char code = 32; code <= 126; code++) {
            boolean sign = "{}();,.=+".indexOf(code) >= 0;
            if (sign || code == ' ' || Character.isLetterOrDigit(code)) {
                continue;
            }
            EDGES.fault("" + code, 0, 0);
            EDGES.fault("class A{}" + code, 9, 4);
            EDGES.fault("class A" + code + "{}", 7, 2);
            EDGES.fault(inMethod("a" + code + "a;"), 22, 11);
            EDGES.fault(inMethod("a=1" + code + ";"), 24, 13);
        }
    }

    private static void wordsThatAreNoNames() {
        EDGES.sentence("The words class, extends, int, return, new and this are no NAMES; all others are");
        for (String word : WORDS) {
            for (String place : NAME_PLACES) {
                faultAtMark(place.replace("#", "#" + word));
            }
            for (String place : TYPE_PLACES) {
                if (!word.equals("int")) {
                    faultAtMark(place.replace("#", "#" + word));
                }
            }
            for (String place : OPERAND_PLACES) {
                if (!word.equals("this") && !word.equals("new")) {
                    faultAtMark(place.replace("#", "#" + word));
                }
            }
        }
        String[] others = {"clas", "classs", "Class", "CLASS", "class1", "extend", "extends1", "Extends", "in", "ints", "Int", "iNt",
            "int0", "retur", "returns", "Return", "ne", "news", "New", "neW", "thi", "thiss", "This", "this0", "super", "void", "if"};
        for (String other : others) {
            for (String place : NAME_PLACES) {
                sound(place.replace("#", other));
            }
            for (String place : TYPE_PLACES) {
                sound(place.replace("#", other));
            }
            for (String place : OPERAND_PLACES) {
                sound(place.replace("#", other));
            }
        }
    }

    private static void placeOfToken() {
        EDGES.sentence("The place of a token is that of its first character");
        EDGES.judged("class A{}class   <1>A{}");
        EDGES.judged("class Abcdefgh extends  <2>Xyz  {}");
        EDGES.judged("class A  <0>1234567 {}");
        EDGES.judged("class  <0>abcdefghi {}");
        EDGES.gives("a definition", "class  Abc {}", 7, s -> s.definition(9));
    }

    private static void tokenLimit() {
        EDGES.sentence("Of at most 120 tokens; a 121st is a fault");
        // 8 tokens before the statements, 2 in each, and 2 behind them
        String open = "class A{int f(){" + "1;".repeat(55);
        String full = open + "}}";
        EDGES.sound(open.substring(0, open.length() - 2) + "}}", 118);
        EDGES.sound(full, 120);
        EDGES.sound(full + " ".repeat(240 - full.length()), 120);
        EDGES.sound("class A extends B{" + "A a;".repeat(38) + "}", 120);
        String sum = "class A{int f(){return 1" + "+1".repeat(53);
        EDGES.sound(sum + ";}}", 119);
        EDGES.fault(sum + "+1;}}", sum.length() + 4, 120);
        String[] ones = {"class", "A", "abcdefghi", "1", "1234567", "{", "}", "(", ";", "+", "$", "#", "class A{}"};
        for (String one : ones) {
            EDGES.fault(full + one, full.length(), 120);
            EDGES.fault(full + "  " + one, full.length() + 2, 120);
            EDGES.fault(open + "1;" + one, open.length() + 2, 120);
        }
        EDGES.fault(open + "1;}}", open.length() + 2, 120);
        EDGES.fault(open + "1;", open.length() + 2, 120);
        EDGES.fault(open + "1;  ", open.length() + 2, 120);
        EDGES.fault(open + "1;   }", open.length() + 5, 120);
        EDGES.fault("class A{int f(){" + "1+".repeat(112), 16 + 112, 120);
        EDGES.fault("class A{int f(){" + "a.".repeat(112), 16 + 112, 120);
        // a fault before it is the first one
        EDGES.fault(open + "}$", open.length() + 1, 119);
        EDGES.fault(open + "}};", open.length() + 2, 120);
        EDGES.fault(open + "};};;;;", open.length() + 1, 119);
        EDGES.fault("{".repeat(240), 0, 0);
        EDGES.fault("class A{" + ";".repeat(232), 8, 3);
    }

    private static void oneOrNone() {
        EDGES.sentence("[ ] one or none");
        sound("class A{}");
        sound("class A extends B{}");
        faultAtMark("class A extends B #extends C{}");
        faultAtMark("class A extends #extends B{}");
        faultAtMark("class A extends B#,C{}");
        faultAtMark("class A extends #{}");
        sound("class A{int f(){}}");
        sound("class A{int f(int a){}}");
        sound("class A{int f(int a,int b){}}");
        faultAtMark("class A{int f(#,int a){}}");
        faultAtMark("class A{int f(int a,#){}}");
        faultAtMark("class A{int f(int a #int b){}}");
        faultAtMark("class A{int f(int a,#,int b){}}");
        faultAtMark("class A{int f(){}#(){}}");
        sound(inMethod("1=2;"));
        faultAtMark(inMethod("1=2#=3;"));
        faultAtMark(inMethod("int b=1#=2;"));
        faultAtMark(inMethod("return 1#=2;"));
        faultAtMark(inMethod("1;int b=1#=2;"));
        faultAtMark(inMethod("1;return 1#=2;"));
        faultAtMark(inMethod("1=2;1=2#=3;"));
        faultAtMark(inMethod("(1#=2);"));
        faultAtMark(inMethod("f(1#=2);"));
    }

    private static void anyNumber() {
        EDGES.sentence("* any number; ARGUMENTS: none, or EXPRESSIONs parted by ,");
        for (int n = 0; n <= 26; n++) {
            sound("class A{}".repeat(n));
            sound("class A{" + "A a;".repeat(n) + "}");
            sound("class A{" + "A a(){}".repeat(n / 2) + "}");
            sound("class A{int f(){" + "a;".repeat(n) + "}}");
            sound("class A{int f(){a" + "+1".repeat(n) + ";}}");
            sound("class A{int f(){a" + ".b".repeat(n) + ";}}");
            sound("class A{int f(){a" + ".b()".repeat(n) + ";}}");
            sound("class A{int f(){f(" + "1,".repeat(n) + "1);}}");
            sound("class A{int f(A a" + ",A a".repeat(n) + "){}}");
        }
        sound(inMethod("f();"));
        faultAtMark(inMethod("f(1,#);"));
        faultAtMark(inMethod("f(#,1);"));
        faultAtMark(inMethod("f(1 #1);"));
        faultAtMark(inMethod("(#);"));
        faultAtMark(inMethod("(1#,2);"));
        faultAtMark(inMethod("f((1#,2));"));
        faultAtMark(inMethod("1#,2;"));
        faultAtMark(inMethod("f(1)#,2;"));
        faultAtMark(inMethod("1+#;"));
        faultAtMark(inMethod("1+#+1;"));
        faultAtMark(inMethod("a.#;"));
        faultAtMark(inMethod("a.#.b;"));
        faultAtMark(inMethod("#;"));
        faultAtMark("class A{#;}");
    }

    private static void locals() {
        EDGES.sentence("A STATEMENT that begins with int, or with two NAMES, is a LOCAL");
        sound(inMethod("int b=1;"));
        sound(inMethod("A b=1;"));
        sound(inMethod("b b=b;"));
        faultAtMark(inMethod("int b#;"));
        faultAtMark(inMethod("A b#;"));
        faultAtMark(inMethod("A b#.c=1;"));
        faultAtMark(inMethod("A b#();"));
        faultAtMark(inMethod("A b#+1;"));
        faultAtMark(inMethod("A b #c=1;"));
        faultAtMark(inMethod("int #int=1;"));
        faultAtMark(inMethod("int#;"));
        faultAtMark(inMethod("int#.a;"));
        faultAtMark(inMethod("return A #b=1;"));
        faultAtMark(inMethod("A.b #c=1;"));
        faultAtMark(inMethod("this #b=1;"));
        faultAtMark(inMethod("A #int=1;"));
        faultAtMark(inMethod("A #1=1;"));
        faultAtMark("class A{int f(){A#");
        faultAtMark("class A{int f(){A b#");
    }

    private static void depth() {
        EDGES.sentence("Brackets and arguments stand at most 8 deep in one another; a 9th is a fault");
        String[] openings = {"(", "f(", "this.f(", "f(1,", "(1+", "1+f(2+", "new A.f("};
        String[] statements = {"#;", "#=1;", "1=#;", "a.b=#;", "return #;", "int b=#;", "A b=#;", "1+#;", "((1))+#;", "f(((2))).g+#;"};
        for (String opening : openings) {
            for (String statement : statements) {
                sound(inMethod(statement.replace("#", nested(opening, 7))));
                sound(inMethod(statement.replace("#", nested(opening, 8))));
                faultAtMark(inMethod(statement.replace("#", withMarkAtTheNinth(opening, 9))));
                faultAtMark(inMethod(statement.replace("#", withMarkAtTheNinth(opening, 10))));
            }
        }
        sound(inMethod("(f((f((f((f(1))))))));"));
        faultAtMark(inMethod("(f((f((f((f(#(1)))))))));"));
        faultAtMark(inMethod("(f((f((f((f(g#(1)))))))));"));
        sound(inMethod("((((((((a))))))));"));
        faultAtMark(inMethod("((((((((a#()))))))));"));
        faultAtMark(inMethod("((((((((this.a#()))))))));"));
        sound(inMethod("f(f(f(f(f(f(f(f()))))))) ;"));
        faultAtMark(inMethod("f(f(f(f(f(f(f(f(f#())))))))) ;"));
        faultAtMark(inMethod("((((((((1))))))))#);"));
        faultAtMark(inMethod("((((((((1)))))))#;"));
        faultAtMark(inMethod("1#);"));
        faultAtMark("class A{int f(){((((((((#(");
        faultAtMark("class A{int f(){((((((((#");
    }

    private static String nested(String opening, int times) {
        return opening.repeat(times) + "1" + ")".repeat(times);
    }

    private static String withMarkAtTheNinth(String opening, int times) {
        String before = opening.repeat(8);
        int bracket = opening.indexOf('(');
        return before + opening.substring(0, bracket) + "#" + opening.substring(bracket)
                + opening.repeat(times - 9) + "1" + ")".repeat(times);
    }

    private static void notInOneAnother() {
        EDGES.sentence("Brackets and arguments stand at most 8 deep in one another, but any number beside one another");
        sound(inMethod("f(1,2,3,4,5,6,7,8,9,10,11,12);"));
        sound(inMethod("(1)" + "+(1)".repeat(20) + ";"));
        sound(inMethod("f(1)" + ".f(1)".repeat(20) + ";"));
        sound(inMethod("f(((1)),((2)),((3)),((4)),((5)));"));
        sound(inMethod(nested("(", 8) + "+" + nested("(", 8) + ";" + nested("f(", 8) + ";"));
        sound(inMethod("f(" + nested("(", 7) + "," + nested("f(", 7) + ");"));
        faultAtMark(inMethod("f(" + nested("(", 7) + "," + withMarkAtTheNinth("(", 9).substring(1) + ";"));
        sound("class A{int f(A a){" + nested("(", 8) + ";}int g(){" + nested("(", 8) + ";}}");
    }

    private static void placeOfFault() {
        EDGES.sentence("THE FAULT is at the first token (or the place behind the last token's end, if a token lacks) that cannot stand there");
        List<String> tokens = tokensOf(SOUND);
        EDGES.sound(SOUND, tokens.size());
        StringBuilder text = new StringBuilder();
        int open = 0;
        for (int i = 0; i < tokens.size(); i++) {
            String token = tokens.get(i);
            text.append(i == 0 ? "" : " ").append(token);
            open += token.equals("{") ? 1 : token.equals("}") ? -1 : 0;
            if (open == 0 && token.equals("}")) {
                EDGES.sound(text + "   ", i + 1);
            } else {
                EDGES.fault(text.toString(), text.length(), i + 1);
                EDGES.fault(text + "   ", text.length(), i + 1);
            }
        }
    }

    private static void firstFault() {
        EDGES.sentence("a fault of a character counts when it is come to as a token");
        List<String> tokens = tokensOf(SOUND);
        String last = "";
        for (int i = 0; i < tokens.size(); i++) {
            String before = String.join(" ", tokens.subList(0, i)) + (i == 0 ? "" : " ");
            String behind = " " + String.join(" ", tokens.subList(i, tokens.size()));
            for (String bad : new String[] {"$", "abcdefghi", "1234567", "\"", "$ $", "$ class", "$ abcdefghi"}) {
                EDGES.fault(cutTo240(before + bad + behind), before.length(), i);
            }
            // extends may stand behind class NAME alone, wherever another fault comes then
            if (!last.equals("A") && !last.equals("B")) {
                EDGES.fault(cutTo240(before + "extends" + behind), before.length(), i);
                EDGES.fault(cutTo240(before + "extends $" + behind), before.length(), i);
                EDGES.fault(cutTo240(before + "extends" + behind + "$"), before.length(), i);
            }
            last = tokens.get(i);
        }
        EDGES.judged("class A{int a<0>} $");
        EDGES.judged("class A{int <0>$} ; ; abcdefghijk");
        EDGES.judged("class A{int a;}<0>%");
    }

    private static String cutTo240(String text) {
        return text.substring(0, Math.min(240, text.length()));
    }

    private static void aloneAndWithoutClasses() {
        EDGES.sentence("With a fault there are no classes, and it is the only diagnostic, of kind 0");
        String judged = "class A extends X{int a;int a;int f(Y b){return c;}}class A{}";
        EDGES.gives("without a fault", judged, 5, LanguageServer::diagnostics);
        EDGES.gives("without a fault, classes", judged, 2, s -> s.count(0));
        for (String fault : new String[] {"$", "}", "class", "abcdefghi", "1"}) {
            String text = judged + fault;
            EDGES.gives("diagnostics", text, 1, LanguageServer::diagnostics);
            EDGES.gives("kind", text, 0, s -> s.diagnostic(0, 0));
            EDGES.gives("classes", text, 0, s -> s.count(0));
            EDGES.refuses("a second diagnostic", text, Check.NONE, s -> s.diagnostic(1, 0));
            EDGES.refuses("members", text, Check.NONE, s -> s.members(0));
            EDGES.refuses("member", text, Check.NONE, s -> s.member(0, 0));
            EDGES.meansNothing(text, 6);
        }
        EDGES.gives("without it again", judged + "$", 5, s -> {
            s.diagnostics();
            s.delete(judged.length(), 1);
            return s.diagnostics();
        });
    }

    private static void diagnosticIndices() {
        EDGES.sentence("Of the diagnostic at the index (from 0): its kind (0), its place (1). There is none: NoSuchElementException. "
                + "Another what: IllegalArgumentException");
        String three = "class A{X a;int a;}class A{}";
        EDGES.gives("three", three, 3, LanguageServer::diagnostics);
        EDGES.gives("kind of the first", three, 2, s -> s.diagnostic(0, 0));
        EDGES.gives("place of the first", three, 8, s -> s.diagnostic(0, 1));
        EDGES.gives("kind of the last", three, 1, s -> s.diagnostic(2, 0));
        EDGES.gives("place of the last", three, 25, s -> s.diagnostic(2, 1));
        refusesIndices("", 0);
        refusesIndices("class A{}", 0);
        refusesIndices("class", 1);
        refusesIndices(three, 3);
    }

    private static void refusesIndices(String text, int diagnostics) {
        int[] far = {-1, Integer.MIN_VALUE, Integer.MAX_VALUE, diagnostics, diagnostics + 1, 256};
        for (int index : far) {
            for (int what : new int[] {0, 1, 2, -1}) {
                EDGES.refuses("index " + index + ", what " + what, text, Check.NONE, s -> s.diagnostic(index, what));
            }
        }
        for (int i = 0; i < diagnostics; i++) {
            int index = i;
            for (int what : new int[] {-1, 2, 3, 256, Integer.MIN_VALUE, Integer.MAX_VALUE}) {
                EDGES.refuses("index " + index + ", what " + what, text, Check.ARGUMENT, s -> s.diagnostic(index, what));
            }
        }
    }
}
