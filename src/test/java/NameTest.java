import java.util.ArrayList;
import java.util.List;
import java.util.Map;
import java.util.TreeMap;

/**
 * Promises 8 to 13: definition, type, references, reference, members and member. In the texts here names
 * with one meaning have the same number before them, as in <1>; <1!> is the one that declares it.
 */
final class NameTest {
    private static final Check CHECK = new Check();

    public static void main(String[] args) {
        meanings();
        places();
        types();
        referenceIndices();
        faults();
        members();
        memberOrder();
        atOnceAfterEdits();
        CHECK.close("NameTest");
    }

    private static void due(String marked) {
        StringBuilder text = new StringBuilder();
        Map<Integer, Integer> numberAt = new TreeMap<>();
        Map<Integer, Integer> declaredAt = new TreeMap<>();
        Map<Integer, List<Integer>> places = new TreeMap<>();
        for (int i = 0; i < marked.length(); i++) {
            if (marked.charAt(i) != '<') {
                text.append(marked.charAt(i));
                continue;
            }
            int end = marked.indexOf('>', i);
            String mark = marked.substring(i + 1, end);
            int number = Integer.parseInt(mark.replace("!", ""));
            if (mark.endsWith("!")) {
                declaredAt.put(number, text.length());
            }
            numberAt.put(text.length(), number);
            places.computeIfAbsent(number, n -> new ArrayList<>()).add(text.length());
            i = end;
        }
        LanguageServer server = Check.server(text.toString());
        Integer inside = null;
        for (int place = 0; place < text.length(); place++) {
            if (!Character.isLetterOrDigit(text.charAt(place)) || numberAt.containsKey(place)) {
                inside = null;
            }
            inside = numberAt.getOrDefault(place, inside);
            int p = place;
            String at = marked + " at " + place;
            if (inside == null) {
                CHECK.fails(at + ": definition", Check.NONE, () -> server.definition(p));
                CHECK.fails(at + ": type", Check.NONE, () -> server.type(p));
                CHECK.fails(at + ": references", Check.NONE, () -> server.references(p));
                CHECK.fails(at + ": reference", Check.NONE, () -> server.reference(p, 0));
                CHECK.fails(at + ": rename", Check.NONE, () -> Check.rename(server, p, "zzz"));
                continue;
            }
            CHECK.gives(at + ": definition", declaredAt.get(inside), () -> server.definition(p));
            List<Integer> same = places.get(inside);
            CHECK.gives(at + ": references", same.size(), () -> server.references(p));
            for (int i = 0; i < same.size(); i++) {
                int index = i;
                CHECK.gives(at + ": reference " + i, same.get(i), () -> server.reference(p, index));
            }
        }
    }

    private static void meanings() {
        due("class <1!>A{int <2!>a;<1>A <3!>f(<1>A <4!>b){<1>A <5!>c=new <1>A;<5>c.<2>a=<4>b.<2>a+<2>a;return <3>f(<5>c);}}");
        due("class <1!>A{int <2!>a;}class <3!>B extends <1>A{int <4!>f(){this.<2>a=<2>a;new <3>B.<4>f().a;}}");
        // names before what they name
        due("class <1!>B extends <2>A{int <3!>f(){return <4>g();}}class <2!>A{int <4!>g(){}}");
        // kinds 1 to 7 take the meaning
        due("class <1!>A{}class A{<1>A <2!>a;}class <3!>B extends <1>A{}");
        due("class <1!>A extends X{X <2!>x;}");
        due("class <1!>A extends B{<1>A <2!>a;}class <3!>B extends A{int <4!>f(){new <3>B;}}");
        due("class <1!>A{int <2!>a;int a(){return <2>a;}}");
        due("class <1!>A{int <2!>f(int <3!>a,int a){int a=<3>a;return x+x();}}");
        due("class <1!>A{int <2!>f(){this.x;this.x();1.f();f;}}");
        // behind an UNKNOWN, too
        due("class <1!>A{X <2!>x;int <3!>f(){<2>x.x.f(<3>f());}}");
        // kinds 8 to 10 do not
        due("class <1!>A{int <2!>f(int <3!>a){<2>f();<2>f(<3>a,1)=<3>a;<1>A <4!>b=<3>a;<4>b+1=1;}}");
        // a local, a field and a method of the same name are not the same
        due("class <1!>A{int <2!>a;int <3!>f(){<2>a;int <4!>a=<2>a;<4>a=this.<2>a;}int <5!>g(int <6!>a){<6>a;}int <7!>h(){<2>a;}}");
        // a method that hides one of a superclass is another
        due("class <1!>A{int <2!>f(){<2>f();}}class <3!>B extends <1>A{int <4!>f(){<4>f();new <1>A.<2>f();}}");
        // a name may be that of a class, a field and a local at once
        due("class <1!>A{<1>A <2!>A;<1>A <3!>f(<1>A <4!>A){return <4>A.<2>A;}}");
        due("class <1!>A{int <2!>b;}class A{int <3!>b;int <4!>f(){<3>b;this.<3>b;new <1>A.<2>b;}}");
        due("class <1!>abcdefgh{<1>abcdefgh <2!>a1234567;}");
    }

    private static void places() {
        LanguageServer server = Check.server("class Ab { int xyz ; }");
        CHECK.gives("first character", 6, () -> server.definition(6));
        CHECK.gives("last character", 6, () -> server.definition(7));
        CHECK.fails("blank behind", Check.NONE, () -> server.definition(8));
        CHECK.fails("word that is no name", Check.NONE, () -> server.definition(0));
        CHECK.fails("int", Check.NONE, () -> server.definition(12));
        CHECK.gives("middle", 15, () -> server.definition(16));
        CHECK.fails("sign", Check.NONE, () -> server.definition(9));
        CHECK.fails("place -1", Check.NONE, () -> server.definition(-1));
        CHECK.fails("behind the text", Check.NONE, () -> server.definition(22));
        CHECK.fails("far off", Check.NONE, () -> server.type(Integer.MAX_VALUE));
        CHECK.fails("least", Check.NONE, () -> server.references(Integer.MIN_VALUE));
        CHECK.fails("reference far off", Check.NONE, () -> server.reference(99, 0));
    }

    private static void types() {
        String text = "class A{int a;X x;B b;B f(A p,int q){int l=1;A m=b;X n=x;b.f(m,l);}}class B extends A{}class B{}";
        LanguageServer server = Check.server(text);
        CHECK.gives("a class itself", 0, () -> server.type(text.indexOf("A{")));
        CHECK.gives("int field", LanguageServer.INT, () -> server.type(text.indexOf("a;")));
        CHECK.gives("field of an unknown type", LanguageServer.UNKNOWN, () -> server.type(text.indexOf("x;")));
        CHECK.fails("the unknown type", Check.NONE, () -> server.type(text.indexOf("X")));
        CHECK.gives("field of a class", 1, () -> server.type(text.indexOf("b;")));
        CHECK.gives("name of a type", 1, () -> server.type(text.indexOf("B b")));
        CHECK.gives("method", 1, () -> server.type(text.indexOf("f(A")));
        CHECK.gives("parameter", 0, () -> server.type(text.indexOf("p,")));
        CHECK.gives("int parameter", LanguageServer.INT, () -> server.type(text.indexOf("q)")));
        CHECK.gives("int local", LanguageServer.INT, () -> server.type(text.indexOf("l=")));
        CHECK.gives("local is of its type, not of its value's", 0, () -> server.type(text.indexOf("m=")));
        CHECK.gives("local of an unknown type", LanguageServer.UNKNOWN, () -> server.type(text.indexOf("n=")));
        CHECK.gives("called method", 1, () -> server.type(text.indexOf("f(m")));
        CHECK.gives("argument", 0, () -> server.type(text.indexOf("m,l")));
        CHECK.gives("behind extends", 0, () -> server.type(text.indexOf("A{}class")));
        CHECK.fails("a class that is there twice", Check.NONE, () -> server.type(text.lastIndexOf("B{")));
        LanguageServer second = Check.server("class A{}class B{B b;}");
        CHECK.gives("class 1", 1, () -> second.type(15));
        CHECK.gives("of class 1", 1, () -> second.type(19));
    }

    private static void referenceIndices() {
        LanguageServer server = Check.server("class A{A a;A f(A a){return a;}}");
        CHECK.gives("of A", 4, () -> server.references(8));
        CHECK.gives("first", 6, () -> server.reference(16, 0));
        CHECK.gives("last", 16, () -> server.reference(6, 3));
        CHECK.fails("behind the last", Check.NONE, () -> server.reference(6, 4));
        CHECK.fails("index -1", Check.NONE, () -> server.reference(6, -1));
        CHECK.fails("most", Check.NONE, () -> server.reference(6, Integer.MAX_VALUE));
        CHECK.gives("one alone", 1, () -> server.references(10));
        CHECK.gives("itself", 10, () -> server.reference(10, 0));
        CHECK.fails("no name", Check.NONE, () -> server.reference(7, 0));
    }

    private static void faults() {
        LanguageServer server = Check.server("class A{A a;}$");
        CHECK.fails("definition", Check.NONE, () -> server.definition(6));
        CHECK.fails("type", Check.NONE, () -> server.type(6));
        CHECK.fails("references", Check.NONE, () -> server.references(6));
        CHECK.fails("reference", Check.NONE, () -> server.reference(6, 0));
        CHECK.fails("members", Check.NONE, () -> server.members(0));
        CHECK.fails("member", Check.NONE, () -> server.member(0, 0));
        CHECK.fails("rename", Check.NONE, () -> Check.rename(server, 6, "B"));
        server.delete(13, 1);
        CHECK.gives("definition without the fault", 6, () -> server.definition(8));
        CHECK.gives("members without the fault", 1, () -> server.members(0));
    }

    private static void members() {
        String text = "class A{int a;int b(){}}class B extends A{int b;int c;int c(){}}class C extends B{A a;}class D{}";
        LanguageServer server = Check.server(text);
        CHECK.gives("own", 2, () -> server.members(0));
        CHECK.gives("own and inherited, each name once", 3, () -> server.members(1));
        CHECK.gives("inherited over two", 3, () -> server.members(2));
        CHECK.gives("none", 0, () -> server.members(3));
        CHECK.gives("a of B", text.indexOf("a;"), () -> server.member(1, 0));
        CHECK.gives("b of B hides that of A", text.indexOf("b;"), () -> server.member(1, 1));
        CHECK.gives("c of B is the first", text.indexOf("c;"), () -> server.member(1, 2));
        CHECK.gives("a of C", text.lastIndexOf("a;"), () -> server.member(2, 0));
        CHECK.gives("b of C", text.indexOf("b;"), () -> server.member(2, 1));
        CHECK.fails("index 3", Check.NONE, () -> server.member(1, 3));
        CHECK.fails("index -1", Check.NONE, () -> server.member(1, -1));
        CHECK.fails("of none", Check.NONE, () -> server.member(3, 0));
        CHECK.fails("class 4", Check.NONE, () -> server.members(4));
        CHECK.fails("class -1", Check.NONE, () -> server.members(-1));
        CHECK.fails("INT has no members", Check.NONE, () -> server.members(LanguageServer.INT));
        CHECK.fails("UNKNOWN has no members", Check.NONE, () -> server.members(LanguageServer.UNKNOWN));
        CHECK.fails("class 4, member 0", Check.NONE, () -> server.member(4, 0));
        CHECK.fails("far off", Check.NONE, () -> server.member(Integer.MAX_VALUE, 0));
        LanguageServer back = Check.server("class A extends B{int a;}class B extends A{int b;}class C extends A{int c;}");
        CHECK.gives("leads back", 1, () -> back.members(0));
        CHECK.gives("extends one that leads back", 2, () -> back.members(2));
        LanguageServer twice = Check.server("class A{int a;}class A extends A{int b;}class B extends A{}");
        CHECK.gives("the second of a name", 2, () -> twice.members(1));
        CHECK.gives("extends the first of a name", 1, () -> twice.members(2));
    }

    /** Each question is answered of the text as it is, whichever comes first after an edit. */
    private static void atOnceAfterEdits() {
        LanguageServer server = Check.server("class A{A a;}");
        server.insert(0, ' ');
        CHECK.gives("definition", 7, () -> server.definition(9));
        server.insert(0, ' ');
        CHECK.gives("type", 0, () -> server.type(12));
        server.insert(0, ' ');
        CHECK.gives("references", 2, () -> server.references(9));
        server.insert(0, ' ');
        CHECK.gives("reference", 12, () -> server.reference(10, 1));
        server.insert(14, 'b');
        CHECK.gives("members", 1, () -> server.members(0));
        server.insert(0, ' ');
        CHECK.gives("member", 15, () -> server.member(0, 0));
        server.insert(0, ' ');
        CHECK.gives("rename", 2, () -> Check.rename(server, 12, "B"));
        CHECK.same("text", Check.textOf(server), "      class B{B ba;}");
    }

    private static void memberOrder() {
        String text = "class A{int b;int ab;int a;int B;int a1;int aB;int abcdefgh;int abcdefg;int Z9;int z;}";
        String[] order = {"B", "Z9", "a", "a1", "aB", "ab", "abcdefg", "abcdefgh", "b", "z"};
        LanguageServer server = Check.server(text);
        CHECK.gives("all", order.length, () -> server.members(0));
        for (int i = 0; i < order.length; i++) {
            int index = i;
            int place = text.indexOf("int " + order[i] + ";") + 4;
            CHECK.gives("member " + order[i], place, () -> server.member(0, index));
        }
    }
}
