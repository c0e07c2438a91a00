import java.util.ArrayList;
import java.util.List;

/** The sentences that name a boundary of meanings, references and members: promises 8 to 13. */
final class NameEdgeTest {
    private static final Edges EDGES = new Edges();
    private static final int[] FAR = {-1, Integer.MIN_VALUE, Integer.MIN_VALUE + 1, 240, 241, Integer.MAX_VALUE - 1, Integer.MAX_VALUE};

    public static void main(String[] args) {
        declared();
        named();
        kindsWithoutMeaning();
        kindsWithMeaning();
        behindUnknown();
        withAFault();
        textAsItIs();
        nothingOfAnEarlierText();
        placesOfAName();
        noSuchName();
        types();
        howManyReferences();
        referencesByPlace();
        referenceIndices();
        howManyMembers();
        noSuchClass();
        memberOrder();
        noSuchMember();
        EDGES.close("NameEdgeTest");
    }

    private static void declared() {
        EDGES.sentence("the class, member, parameter or local that it declares");
        EDGES.means("class ^!A{}");
        EDGES.means("class A{int ^!a;}");
        EDGES.means("class A{int ^!f(){}}");
        EDGES.means("class A{int f(int ^!a){}}");
        EDGES.means("class A{int f(int a,A ^!b){}}");
        EDGES.means("class A{int f(){int ^!a=1;}}");
        EDGES.means("class A{int f(){A ^!a=this;}}");
        EDGES.means("class ^!abcdefgh{}");
    }

    private static void named() {
        EDGES.sentence("the class, member, parameter or local that it names; Its DEFINITION is the place of the name where that is declared");
        EDGES.means("class !A{}class B extends ^A{}");
        EDGES.means("class B extends ^A{}class !A{}");
        EDGES.means("class !A{^A a;}");
        EDGES.means("class !A{^A f(){}}");
        EDGES.means("class !A{int f(^A a){}}");
        EDGES.means("class !A{int f(){^A a=1;}}");
        EDGES.means("class !A{int f(){new ^A;}}");
        EDGES.means("class A{int !a;int f(){^a;}}");
        EDGES.means("class A{int !a;int f(){this.^a;}}");
        EDGES.means("class A{int !f(){^f();}}");
        EDGES.means("class A{int !f(){this.^f();}}");
        EDGES.means("class A{int f(int !a){^a;}}");
        EDGES.means("class A{int f(){int !a=1;^a;}}");
        EDGES.means("class A{A !a;int f(A b){b.a.^a=1;}}");
        EDGES.means("class A{A f(){}A !g(){f().^g().f();}}");
        // one name for a class, a field, a method's parameter and a local
        EDGES.means("class A{A A;A f(A !A){return ^A.A;}}");
        EDGES.means("class A{A !A;A f(A A){return A.^A;}}");
        EDGES.means("class !A{A A;A f(^A A){return A.A;}}");
    }

    private static void kindsWithoutMeaning() {
        EDGES.sentence("none for one with a diagnostic of kind 1 to 7");
        EDGES.meansNothing("class A{}class ^A{}");
        EDGES.meansNothing("class A{^X a;}");
        EDGES.meansNothing("class A extends ^X{}");
        EDGES.meansNothing("class A{int f(){new ^X;}}");
        EDGES.meansNothing("class A extends ^A{}");
        EDGES.meansNothing("class A extends B{}class B extends ^A{}");
        EDGES.meansNothing("class A{int a;int ^a;}");
        EDGES.meansNothing("class A{int a;int ^a(){}}");
        EDGES.meansNothing("class A{int f(int a,int ^a){}}");
        EDGES.meansNothing("class A{int f(int a){int ^a=1;}}");
        EDGES.meansNothing("class A{int f(){^x;}}");
        EDGES.meansNothing("class A{int f(){^x();}}");
        EDGES.meansNothing("class A{int f(){^f;}}");
        EDGES.meansNothing("class A{int f(){this.^x;}}");
        EDGES.meansNothing("class A{int f(){this.^x();}}");
        EDGES.meansNothing("class A{int f(){1.^f();}}");
        // a name that leads back is none of the class's names, and the others are
        EDGES.gives("names of a class that leads back", "class A extends A{A a;}", 2, s -> s.references(6));
        EDGES.gives("names of a class that is there twice", "class A{A a;}class A{A b;}", 3, s -> s.references(6));
        EDGES.gives("names of a field that is there twice", "class A{int a;int a;int f(){a;}}", 2, s -> s.references(12));
    }

    private static void kindsWithMeaning() {
        EDGES.sentence("kind 1 to 7: those of kind 8, 9 and 10 have a meaning");
        EDGES.means("class A{int !f(){^f(1);}}");
        EDGES.means("class A{int !f(int a){this.^f();}}");
        EDGES.means("class A{A !n;int f(){return ^n;}}");
        EDGES.means("class A{int f(A !n){^n+1;}}");
        EDGES.means("class A{int !a;int f(){^a+1=2;}}");
        EDGES.means("class A{int !f(){^f()=1;}}");
        EDGES.means("class A{A !f(){^f(1)+1=2;}}");
    }

    private static void behindUnknown() {
        EDGES.sentence("behind an UNKNOWN");
        EDGES.meansNothing("class A{int a;int f(){x.^a;}}");
        EDGES.meansNothing("class A{int f(){x.^f();}}");
        EDGES.meansNothing("class A{X x;int f(){x.^x;}}");
        EDGES.meansNothing("class A{X x;int f(){x.y.^x;}}");
        EDGES.meansNothing("class A{int a;int f(){new X.^a;}}");
        EDGES.meansNothing("class A{int a;int f(){(x).^a;}}");
        EDGES.means("class A{int a;int !f(){x.a(^f());}}");
        EDGES.means("class A{X !x;int f(){^x.x;}}");
    }

    private static void withAFault() {
        EDGES.sentence("or with a fault");
        EDGES.meansNothing("class ^A{int a;}}");
        EDGES.meansNothing("class ^A{int a;}$");
        EDGES.meansNothing("class A{int ^a;");
        EDGES.meansNothing("class A{int a;}class ^A");
        EDGES.meansNothing("$class ^A{}");
        EDGES.meansNothing("class ^abcdefghi{}");
        EDGES.meansNothing("class ^A{int f(){" + "1;".repeat(56) + "}}");
        EDGES.means("class ^!A{int f(){" + "1;".repeat(55) + "}}");
    }

    private static void textAsItIs() {
        EDGES.sentence("Everything is of the text as it is");
        String text = "class A{int a;int f(){return a;}}";
        EDGES.gives("before", text, 12, s -> s.definition(29));
        EDGES.gives("after a character before it", text, 13, s -> {
            s.definition(29);
            s.insert(0, ' ');
            return s.definition(30);
        });
        EDGES.gives("after its declaration got another name, a diagnostic", text, 1, s -> {
            s.diagnostics();
            s.insert(13, 'b');
            return s.diagnostics();
        });
        EDGES.gives("after one was taken out and put in again", text, 12, s -> {
            s.delete(12, 1);
            s.diagnostics();
            s.insert(12, 'a');
            return s.definition(29);
        });
        EDGES.gives("after one more was put behind it", text, 2, s -> {
            s.count(0);
            s.append(Check.bytes("class"), 5);
            s.count(0);
            s.append(Check.bytes(" B{}"), 4);
            return s.count(0);
        });
    }

    private static void nothingOfAnEarlierText() {
        EDGES.sentence("Everything is of the text as it is, and nothing of one that was");
        String[] texts = {"", "class A{int f(){f(f(1,2),((((((1", "class A{int f(){((((((((1))))))));}}",
            "class A{int f(int a,A b){f(a,b);a=b;}}class B extends A{}", "class B extends A{int f;}class A extends B{int f(){f();}}",
            "class A{int a;int f(){a=1", "class A{int a;int f(){return a=1;}}", "class A{}".repeat(26),
            "class A{int f(){" + "1;".repeat(55) + "}}", "class A{int f(){" + "1;".repeat(56) + "}}", "$",
            "class A{int f(){f();}}", "class A{int f(){f(1,2,3);}}", "class A{int f(int a){f(a);}}"};
        for (String before : texts) {
            for (String after : texts) {
                EDGES.changes("all out, and <" + after + "> in", before, after.length(), after, s -> {
                    s.diagnostics();
                    s.delete(0, before.length());
                    return put(s, after);
                });
            }
        }
    }

    /** Puts a text behind the one that is there; answers the new length. */
    private static int put(LanguageServer server, String text) {
        for (int i = 0; i < text.length(); i += 8) {
            String part = text.substring(i, Math.min(i + 8, text.length()));
            server.append(Check.bytes(part), part.length());
        }
        return server.count(2);
    }

    private static void placesOfAName() {
        EDGES.sentence("A token has a place that is one of its characters'");
        String text = " class Abcdefgh { int x1 ; } ";
        for (int place = 7; place <= 14; place++) {
            int p = place;
            EDGES.gives("place " + p, text, 7, s -> s.definition(p));
            EDGES.gives("references of place " + p, text, 1, s -> s.references(p));
        }
        EDGES.gives("first of two", text, 22, s -> s.definition(22));
        EDGES.gives("last of two", text, 22, s -> s.definition(23));
        for (int place : new int[] {0, 6, 15, 16, 17, 21, 24, 25, 26, 27, 28, 29}) {
            EDGES.meansNothing(text, place);
        }
        EDGES.gives("next to signs", "class A{int f(){f();}}", 12, s -> s.definition(16));
        EDGES.meansNothing("class A{int f(){f^();}}");
        EDGES.meansNothing("class A^{int f(){f();}}");
        EDGES.gives("a name at the end of a full text", " ".repeat(230) + "class A{} ", 236, s -> s.definition(236));
        EDGES.gives("a class at the end of a full text", " ".repeat(231) + "class A{}", 237, s -> s.definition(237));
    }

    private static void noSuchName() {
        EDGES.sentence("There is no such name: NoSuchElementException");
        for (int place : new int[] {0, 4, 5, 7, 8, 10, 11, 13}) {
            EDGES.meansNothing("class A{int a;}", place);
        }
        EDGES.meansNothing("class A{int f(){return ^this;}}");
        EDGES.meansNothing("class A{int f(){^return this;}}");
        EDGES.meansNothing("class A{int f(){^new A;}}");
        EDGES.meansNothing("class A{int f(){^1;}}");
        EDGES.meansNothing("class A ^extends B{}class B{}");
        for (String text : new String[] {"", "   ", "class A{}", "class A{int a;}" + " ".repeat(225)}) {
            EDGES.meansNothing(text, text.length());
            EDGES.meansNothing(text, text.length() + 1);
            for (int place : FAR) {
                EDGES.meansNothing(text, place);
            }
        }
    }

    private static void types() {
        EDGES.sentence("The type of what that name means: of a class itself, of a method what it gives: a class's number, INT or UNKNOWN");
        String text = "class A{B b;int i;X x;B f(X p,int q,A r){A s=b;}int g(){}X h(){}}class B extends A{}class A{}";
        typeOf(text, "A{B", 0);
        typeOf(text, "B extends", 1);
        typeOf(text, "B b", 1);
        typeOf(text, "b;", 1);
        typeOf(text, "i;", LanguageServer.INT);
        typeOf(text, "x;", LanguageServer.UNKNOWN);
        typeOf(text, "f(X", 1);
        typeOf(text, "p,", LanguageServer.UNKNOWN);
        typeOf(text, "q,", LanguageServer.INT);
        typeOf(text, "r)", 0);
        typeOf(text, "s=", 0);
        typeOf(text, "b;}", 1);
        typeOf(text, "g()", LanguageServer.INT);
        typeOf(text, "h()", LanguageServer.UNKNOWN);
        EDGES.refuses("a class of a name that was there", text, Check.NONE, s -> s.type(text.lastIndexOf('A')));
        EDGES.refuses("a type that no class has", text, Check.NONE, s -> s.type(text.indexOf('X')));
        EDGES.refuses("int", text, Check.NONE, s -> s.type(text.indexOf("int")));
        EDGES.gives("of a superclass that leads nowhere", "class A extends X{A a;}", 0, s -> s.type(20));
        EDGES.gives("of the first of two", "class A{int a;A a;int f(){a;}}", LanguageServer.INT, s -> s.type(26));
    }

    private static void typeOf(String text, String at, int due) {
        EDGES.gives("type at " + at, text, due, s -> s.type(text.indexOf(at)));
    }

    private static void howManyReferences() {
        EDGES.sentence("How many name tokens have the same meaning as that name, it among them");
        EDGES.gives("it alone", "class A{int a;}", 1, s -> s.references(12));
        EDGES.gives("two, at the declaration", "class A{int a;int f(){a;}}", 2, s -> s.references(12));
        EDGES.gives("two, at the use", "class A{int a;int f(){a;}}", 2, s -> s.references(22));
        String many = "class A{int a;int f(){a;" + "a=a;".repeat(24) + "}}";
        EDGES.gives("50", many, 50, s -> s.references(12));
        EDGES.gives("the last of 50", many, many.length() - 4, s -> s.reference(12, 49));
        EDGES.gives("none of another with the name", "class A{int a;int f(int a){a;this.a;}}", 2, s -> s.references(12));
        EDGES.gives("none of it with a diagnostic", "class A{int a;int f(){a;x.a;1.a;}}", 2, s -> s.references(12));
        EDGES.gives("those of inherited ones", "class A{int a;}class B extends A{int f(){a;this.a;}}", 3, s -> s.references(12));
    }

    private static void referencesByPlace() {
        EDGES.sentence("The place of the one at the index (from 0, by rising place) of these");
        String text = "class B extends A{A b;A f(A a){A c=new A;}}class A{}";
        List<Integer> due = new ArrayList<>();
        for (int i = text.indexOf('A'); i >= 0; i = text.indexOf('A', i + 1)) {
            due.add(i);
        }
        for (int place : due) {
            EDGES.gives("all", text, due.size(), s -> s.references(place));
            for (int i = 0; i < due.size(); i++) {
                int index = i;
                EDGES.gives("index " + i + " at " + place, text, due.get(i), s -> s.reference(place, index));
            }
            EDGES.gives("definition", text, due.get(due.size() - 1), s -> s.definition(place));
        }
    }

    private static void referenceIndices() {
        EDGES.sentence("reference: NoSuchElementException as before, or there is none at the index");
        String text = "class A{int a;int f(){a;}}";
        EDGES.gives("index 0", text, 12, s -> s.reference(12, 0));
        EDGES.gives("the last index", text, 22, s -> s.reference(12, 1));
        EDGES.refuses("behind the last index", text, Check.NONE, s -> s.reference(12, 2));
        EDGES.refuses("index 1 of one", text, Check.NONE, s -> s.reference(6, 1));
        for (int index : FAR) {
            EDGES.refuses("index " + index, text, Check.NONE, s -> s.reference(12, index));
            EDGES.refuses("index " + index + ", no name", text, Check.NONE, s -> s.reference(7, index));
        }
        EDGES.refuses("index 0, no name", text, Check.NONE, s -> s.reference(7, 0));
    }

    private static void howManyMembers() {
        EDGES.sentence("How many members a class has, inherited ones too");
        String text = "class A{int a;int b(){}}class B extends A{int b;int c;}class C{}";
        EDGES.gives("its own", text, 2, s -> s.members(0));
        EDGES.gives("inherited ones", text, 3, s -> s.members(1));
        EDGES.gives("none", text, 0, s -> s.members(2));
        String most = "class A{" + "A a;".repeat(38) + "}";
        EDGES.gives("38 of one name", most, 1, s -> s.members(0));
        StringBuilder many = new StringBuilder("class A{");
        for (int i = 0; i < 38; i++) {
            many.append("A ").append((char) (i < 26 ? 'a' + i : 'A' + i - 26)).append(';');
        }
        many.append("}");
        EDGES.gives("38", many.toString(), 38, s -> s.members(0));
        EDGES.gives("the last of 38", many.toString(), 8 + 4 * 25 + 2, s -> s.member(0, 37));
        EDGES.refuses("behind the last of 38", many.toString(), Check.NONE, s -> s.member(0, 38));
    }

    private static void noSuchClass() {
        EDGES.sentence("There is no such class: NoSuchElementException");
        for (String text : new String[] {"", "class A{int a;}", "class A{int a;}class B extends A{}", "class A{int a;}$"}) {
            int classes = Check.server(text).count(0);
            EDGES.refuses("class " + classes, text, Check.NONE, s -> s.members(classes));
            EDGES.refuses("a member of class " + classes, text, Check.NONE, s -> s.member(classes, 0));
            EDGES.refuses("UNKNOWN", text, Check.NONE, s -> s.members(LanguageServer.UNKNOWN));
            for (int number : FAR) {
                EDGES.refuses("class " + number, text, Check.NONE, s -> s.members(number));
                EDGES.refuses("a member of class " + number, text, Check.NONE, s -> s.member(number, 0));
                EDGES.refuses("no member of class " + number, text, Check.NONE, s -> s.member(number, -1));
            }
        }
    }

    private static void memberOrder() {
        EDGES.sentence("The definition of the member of a class at the index (from 0) by the order of their names, by characters, "
                + "a name before its longer continuations");
        inOrder("A", "B", "Z", "a", "b", "z");
        inOrder("a", "aa", "ab", "b");
        inOrder("a", "a0", "a9", "aA", "aZ", "aa", "az");
        inOrder("a", "ab", "abc", "abcd", "abcde", "abcdef", "abcdefg", "abcdefgh");
        inOrder("abcdefg0", "abcdefg9", "abcdefgA", "abcdefga", "abcdefgz");
        inOrder("Z", "Za", "a", "aZ", "b");
        inOrder("A1", "A10", "A2", "A9");
        inOrder("Zzzzzzzz", "a", "azzzzzzz", "b");
        EDGES.gives("of the class and its superclass together", "class A{int b;int d;}class B extends A{int a;int c;}", 18, s -> s.member(1, 3));
        EDGES.gives("of the class and its superclass together, first", "class A{int b;int d;}class B extends A{int a;int c;}", 43, s -> s.member(1, 0));
        EDGES.gives("fields and methods together", "class A{int b;int a(){}}", 18, s -> s.member(0, 0));
    }

    /** Members with these names, declared from the last to the first and then from the first to the last. */
    private static void inOrder(String... names) {
        StringBuilder falling = new StringBuilder("class A{");
        StringBuilder rising = new StringBuilder("class A{");
        for (int i = 0; i < names.length; i++) {
            falling.append("int ").append(names[names.length - 1 - i]).append(';');
            rising.append("int ").append(names[i]).append(';');
        }
        for (String text : new String[] {falling.append('}').toString(), rising.append('}').toString()}) {
            for (int i = 0; i < names.length; i++) {
                int index = i;
                EDGES.gives("member " + i, text, text.indexOf("int " + names[i] + ";") + 4, s -> s.member(0, index));
            }
        }
    }

    private static void noSuchMember() {
        EDGES.sentence("member: NoSuchElementException: no such class or member");
        String text = "class A{int b;int a;}class B extends A{int c;}class C{}";
        EDGES.gives("index 0", text, 18, s -> s.member(0, 0));
        EDGES.gives("the last index", text, 12, s -> s.member(0, 1));
        EDGES.refuses("behind the last index", text, Check.NONE, s -> s.member(0, 2));
        EDGES.gives("the last index with inherited ones", text, 43, s -> s.member(1, 2));
        EDGES.refuses("behind the last index with inherited ones", text, Check.NONE, s -> s.member(1, 3));
        EDGES.refuses("of none", text, Check.NONE, s -> s.member(2, 0));
        for (int number = 0; number < 3; number++) {
            int c = number;
            for (int index : FAR) {
                EDGES.refuses("index " + index + " of class " + c, text, Check.NONE, s -> s.member(c, index));
            }
        }
    }
}
