/** The sentences that name a boundary of classes, members, variables, diagnostics and types: promises 6, 7 and 12. */
final class JudgeEdgeTest {
    private static final Edges EDGES = new Edges();

    public static void main(String[] args) {
        numbers();
        firstClassSoCalled();
        leadsBack();
        leadsIntoACircle();
        unknownSuperclass();
        firstMember();
        inheritedMembers();
        firstVariable();
        localsBefore();
        fieldsBehind();
        order();
        onlyOnce();
        kind1();
        kind2();
        kind3();
        kind4();
        kind5();
        kind6();
        kind7();
        kind8();
        kind9();
        kind10();
        eightDeep();
        typesOfExpressions();
        unknownTypes();
        behindUnknown();
        sums();
        shouldBeLocal();
        shouldBeBehindEquals();
        shouldBeBehindReturn();
        shouldBeArguments();
        rightClasses();
        unknownIsRight();
        EDGES.close("JudgeEdgeTest");
    }

    private static String inMethod(String statements) {
        return "class A{int a;A n;int f(int b){" + statements + "}}class B extends A{}";
    }

    private static String name(int number) {
        return Character.toString((char) ('A' + number));
    }

    private static void numbers() {
        EDGES.sentence("CLASSES are numbered from 0 by place");
        String one = "class A{}";
        EDGES.gives("the first", one, 0, s -> s.type(6));
        EDGES.refuses("class 1 of one", one, Check.NONE, s -> s.members(1));
        StringBuilder text = new StringBuilder();
        for (int i = 25; i >= 0; i--) {
            text.append("class ").append(name(i)).append("{}");
        }
        for (int i = 0; i < 26; i++) {
            int number = i;
            EDGES.gives("class " + i, text.toString(), number, s -> s.type(6 + 9 * number));
            EDGES.gives("members of class " + i, text.toString(), 0, s -> s.members(number));
        }
        EDGES.refuses("class 26 of 26", text.toString(), Check.NONE, s -> s.members(26));
        EDGES.refuses("class -1", text.toString(), Check.NONE, s -> s.members(-1));
        EDGES.gives("behind one of the same name", "class A{}class A{}class B{}", 2, s -> s.type(24));
    }

    private static void firstClassSoCalled() {
        EDGES.sentence("A NAME as TYPE, behind extends or new names the first class so called");
        EDGES.means("class !A{}class A{}class B{^A a;}");
        EDGES.means("class !A{}class A{^A f(){}}");
        EDGES.means("class !A{}class A{int f(^A a){}}");
        EDGES.means("class !A{}class A{int f(){^A a=1;}}");
        EDGES.means("class !A{}class A{int f(){new ^A;}}");
        EDGES.means("class !A{}class A{}class B extends ^A{}");
        EDGES.means("class B extends ^A{}class !A{}class A{}");
        EDGES.means("class !A{}class A extends ^A{}");
        EDGES.gives("the type of such a name", "class A{}class A{}class B{A a;}", 0, s -> s.type(26));
        EDGES.judged("class A{int a;}class <1>A{int b;}class B{int f(){new A.a;new A.<7>b;}}");
        EDGES.judged("class A{int a;}class <1>A{int b;}class B extends A{int f(){a;<6>b;}}");
    }

    private static void leadsBack() {
        EDGES.sentence("A class whose extends leads, from class to class, back to itself has no superclass");
        for (int n = 1; n <= 12; n++) {
            StringBuilder circle = new StringBuilder();
            StringBuilder chain = new StringBuilder();
            for (int i = 0; i < n; i++) {
                String next = name((i + 1) % n);
                circle.append("class ").append(name(i)).append(" extends <3>").append(next).append("{}");
                chain.append("class ").append(name(i)).append(i == n - 1 ? "" : " extends " + next).append("{}");
            }
            EDGES.judged(circle.toString());
            EDGES.judged(chain.toString());
        }
        String two = "class A extends B{int a;}class B extends A{int b;}";
        EDGES.gives("members of the first", two, 1, s -> s.members(0));
        EDGES.gives("members of the second", two, 1, s -> s.members(1));
        EDGES.gives("the member of the first", two, 22, s -> s.member(0, 0));
        EDGES.gives("the member of the second", two, 47, s -> s.member(1, 0));
        EDGES.gives("one alone", "class A extends A{int a;}", 1, s -> s.members(0));
        EDGES.judged("class A extends <3>B{B b;A f(){return <9>b;}}class B extends <3>A{}");
        // of two classes with one name, only the first is come back to
        EDGES.judged("class A{}class <1>A extends A{}");
        EDGES.judged("class A extends <3>A{}class <1>A extends A{}");
        EDGES.judged("class A{}class B extends A{}class <1>A extends B{}");
        EDGES.judged("class A extends <3>B{}class B extends <3>A{}class <1>A extends B{}class <1>B extends A{}");
    }

    private static void leadsIntoACircle() {
        EDGES.sentence("back to itself: one that leads into a circle of others keeps its superclass");
        String text = "class A extends B{int a;}class B extends C{int b;}class C extends D{int c;}class D extends C{int d;}";
        EDGES.judged("class A extends B{int a;}class B extends C{int b;}class C extends <3>D{int c;}class D extends <3>C{int d;}");
        EDGES.gives("A has its own, that of B and that of C", text, 3, s -> s.members(0));
        EDGES.gives("B has its own and that of C", text, 2, s -> s.members(1));
        EDGES.gives("C has its own", text, 1, s -> s.members(2));
        EDGES.gives("D has its own", text, 1, s -> s.members(3));
        EDGES.judged("class A extends B{}class B extends <3>B{}");
        EDGES.judged("class A extends B{int f(){return b;}}class B extends <3>B{int b;}");
    }

    private static void unknownSuperclass() {
        EDGES.sentence("nor has one that extends an unknown class");
        EDGES.judged("class A extends <2>X{int f(){<6>a;this.<7>a;f();<6>g();}}");
        EDGES.gives("its members are its own", "class A extends X{int a;}", 1, s -> s.members(0));
        EDGES.judged("class A extends <2>X{}class B extends A{A f(){return this;}}class C{A f(){return <9>this;}}");
        EDGES.judged("class A extends <2>x{}class X{}");
        EDGES.judged("class A extends <2>X1{}class X{}");
        EDGES.judged("class A extends X{}class X{}");
    }

    private static void firstMember() {
        EDGES.sentence("MEMBERS of a class are those of it, but of several with one name (fields and methods alike) only the first");
        EDGES.gives("none", "class A{}", 0, s -> s.members(0));
        EDGES.gives("one", "class A{int a;}", 1, s -> s.members(0));
        EDGES.gives("two fields", "class A{int a;A a;}", 1, s -> s.members(0));
        EDGES.gives("two methods", "class A{int a(){}A a(int b){}}", 1, s -> s.members(0));
        EDGES.gives("a field and a method", "class A{int a;int a(){}}", 1, s -> s.members(0));
        EDGES.gives("a method and a field", "class A{int a(){}int a;}", 1, s -> s.members(0));
        EDGES.gives("the first of them", "class A{int a(){}int a;}", 12, s -> s.member(0, 0));
        EDGES.gives("of two names", "class A{int a;int b;int a;int b;}", 2, s -> s.members(0));
        EDGES.judged("class A{int a;A <4>a;int f(){a.<7>a;return a;}}");
        EDGES.judged("class A{int a;int <4>a(){}int f(){a;<6>a();this.a;this.<7>a();}}");
        EDGES.judged("class A{int a(){}int <4>a;int f(){<6>a;a();this.<7>a;this.a();}}");
        EDGES.judged("class A{int a(){}int <4>a(int b){}int f(){a();<8>a(1);}}");
    }

    private static void inheritedMembers() {
        EDGES.sentence("then those of its superclass and so on, but none of a name that there was before");
        StringBuilder chain = new StringBuilder();
        for (int i = 0; i < 9; i++) {
            chain.append("class ").append(name(i)).append(" extends ").append(name(i + 1)).append("{A ").append(name(i)).append(";}");
        }
        chain.append("class J{A J;}");
        for (int i = 0; i < 10; i++) {
            int number = i;
            EDGES.gives("class " + i + " of a chain", chain.toString(), 10 - i, s -> s.members(number));
        }
        EDGES.gives("the same name", "class A{int a;}class B extends A{A a;}", 1, s -> s.members(1));
        EDGES.gives("its own is before", "class A{int a;}class B extends A{A a;}", 35, s -> s.member(1, 0));
        EDGES.gives("a field before a method", "class A{int a(){}}class B extends A{A a;}", 1, s -> s.members(1));
        EDGES.gives("two of one name there", "class A{int a;int a;}class B extends A{}", 1, s -> s.members(1));
        EDGES.gives("the first of those", "class A{int a;int a;}class B extends A{}", 12, s -> s.member(1, 0));
        EDGES.judged("class A{int a(){}}class B extends A{int a;int f(){a;<6>a();}}");
        EDGES.judged("class A{int a;}class B extends A{int a(){}int f(){<6>a;a();}}");
        EDGES.judged("class A{A a;}class B extends A{int a;}class C extends B{int f(){return a;}}");
        EDGES.judged("class A{int a;}class B{int f(){<6>a;}}");
        EDGES.judged("class A{int f(){<6>b;}}class B extends A{int b;}");
    }

    private static void firstVariable() {
        EDGES.sentence("VARIABLES of a statement are the parameters of its method and the locals, of several with one name only the first");
        EDGES.judged("class A{int f(int b,A <5>b){return b;}}");
        EDGES.judged("class A{int f(A b,int <5>b){return <9>b;}}");
        EDGES.judged("class A{int f(int b){A <5>b=this;return b;}}");
        EDGES.judged("class A{int f(A b){int <5>b=1;return <9>b;}}");
        EDGES.judged("class A{int f(){int b=1;A <5>b=this;return b;}}");
        EDGES.means("class A{int f(int !b,int b){^b;}}");
        EDGES.means("class A{int f(int !b){int b=1;^b;}}");
        EDGES.means("class A{int f(){int !b=1;int b=2;^b;}}");
        EDGES.judged("class A{int f(int b){}int g(){<6>b;}}");
        EDGES.judged("class A{int g(){<6>b;}int f(int b){}}");
    }

    private static void localsBefore() {
        EDGES.sentence("the locals of the statements before it");
        EDGES.judged("class A{int f(){int b=<6>b;}}");
        EDGES.judged("class A{int f(){int b=1;b;}}");
        EDGES.judged("class A{int f(){<6>b;int b=1;b;}}");
        EDGES.judged("class A{int f(){int b=1;int c=b+<6>c;}}");
        EDGES.judged("class A{int f(){int b=<8>f(<6>b);}int g(int b){}int h(){int b=1;}int i(){<6>b;}}");
        EDGES.means("class A{int !b;int f(){int b=^b;}}");
        EDGES.means("class A{int b;int f(){int !b=b;^b;}}");
        EDGES.means("class A{int f(int !b){int b=^b;}}");
    }

    private static void fieldsBehind() {
        EDGES.sentence("and, behind these, the fields among the members of its class");
        EDGES.means("class A{int !a;int f(int b){^a;}}");
        EDGES.means("class A{int a;int f(int !a){^a;}}");
        EDGES.means("class A{int a;int f(){int !a=1;^a;}}");
        EDGES.means("class A{int f(){^a;}int !a;}");
        EDGES.means("class A{int !a;}class B extends A{int f(){^a;}}");
        EDGES.means("class A{int a;}class B extends A{int !a;int f(){^a;}}");
        EDGES.judged("class A{int f(){<6>f;}}");
        EDGES.judged("class A{int a(){}int f(){<6>a;}}");
        EDGES.judged("class A{int a(){}int f(int a){a;a();}}");
    }

    private static void order() {
        EDGES.sentence("DIAGNOSTICS, each with a kind and the place of a token, by rising place, then kind");
        EDGES.judged("class A extends <2>X{int a;int <4>a;int f(<2>Y b,int <5>b){return <6>c;}}class <1>A{}");
        EDGES.judged(inMethod("<9,10>n+1=2;"));
        EDGES.judged(inMethod("<6,10>x()=1;"));
        EDGES.judged(inMethod("<8,10>f()=1;"));
        EDGES.judged(inMethod("n=<8,9>f();"));
        EDGES.judged("class A{A f(){<8,9,10>f(1)+1=2;}}");
        EDGES.gives("the lower kind first", "class A{A f(){f(1)+1=2;}}", 8, s -> s.diagnostic(0, 0));
        EDGES.gives("then the next", "class A{A f(){f(1)+1=2;}}", 9, s -> s.diagnostic(1, 0));
        EDGES.gives("then the highest", "class A{A f(){f(1)+1=2;}}", 10, s -> s.diagnostic(2, 0));
    }

    private static void onlyOnce() {
        EDGES.sentence("(one of the same kind and place only once)");
        // the first term and the whole expression both have a wrong type
        EDGES.judged(inMethod("n=<9>n+1;"));
        EDGES.judged("class A{int f(A a){f(<9>a+1);}}");
        EDGES.judged(inMethod("n=<9>(<9>n+1);"));
        EDGES.judged("class A{A f(){return <9>this+1;}}");
        // of the same kind at two places
        EDGES.judged(inMethod("<6>x+<6>x;"));
        EDGES.judged("class A{}class <1>A{}class <1>A{}");
    }

    private static void kind1() {
        EDGES.sentence("1 the name of a class that an earlier one has");
        EDGES.judged("class A{}");
        EDGES.judged("class A{}class B{}");
        EDGES.judged("class A{}class a{}class A1{}class AA{}");
        EDGES.judged("class A{}class <1>A{}");
        EDGES.judged("class A{}class B{}class <1>A{}class <1>B{}");
        EDGES.judged("class abcdefgh{}class abcdefg{}class <1>abcdefgh{}");
        EDGES.judged("class A{int A;int f(A A){}}");
    }

    private static void kind2() {
        EDGES.sentence("2 a name of a type, behind extends or new that no class has");
        EDGES.judged("class A{A a;A f(A b){A c=new A;}}");
        EDGES.judged("class A extends B{}class B{}");
        EDGES.judged("class A{<2>X a;}");
        EDGES.judged("class A{<2>X f(){}}");
        EDGES.judged("class A{int f(<2>X b){}}");
        EDGES.judged("class A{int f(){<2>X c=1;}}");
        EDGES.judged("class A{int f(){new <2>X;}}");
        EDGES.judged("class A extends <2>X{}");
        EDGES.judged("class A{int b;int c(){}<2>b d;<2>c e;}");
        EDGES.judged("class A{B a;}class B{}");
    }

    private static void kind3() {
        EDGES.sentence("3 the name behind extends of a class that leads back to itself");
        EDGES.judged("class A extends <3>A{}");
        EDGES.judged("class A extends <3>B{}class B extends <3>A{}");
        EDGES.judged("class A extends B{}class B extends <3>B{}");
        EDGES.judged("class A extends B{}class B extends <2>C{}");
        EDGES.judged("class A extends B{}class B{}");
    }

    private static void kind4() {
        EDGES.sentence("4 the name of a member that an earlier one of the same class has");
        EDGES.judged("class A{int a;int b;int c(){}}");
        EDGES.judged("class A{int a;int <4>a;}");
        EDGES.judged("class A{int a;int <4>a(){}int <4>a;}");
        EDGES.judged("class A{int a;}class B{int a;}");
        EDGES.judged("class A{int a;}class B extends A{int a;}");
        EDGES.judged("class A{int a;}class <1>A{int a;}");
        EDGES.judged("class A{int A;int f(int f){int a=1;}int a;}");
    }

    private static void kind5() {
        EDGES.sentence("5 of a parameter or local that an earlier one of the same method has");
        EDGES.judged("class A{int f(int a,int b){int c=1;int d=2;}}");
        EDGES.judged("class A{int f(int a,int <5>a){}}");
        EDGES.judged("class A{int f(int a){int <5>a=1;}}");
        EDGES.judged("class A{int f(){int a=1;int <5>a=1;int <5>a=1;}}");
        EDGES.judged("class A{int f(int a){}int g(int a){}int h(){int a=1;}}");
        EDGES.judged("class A{int a;int f(int a){}int g(){int a=1;}}");
        EDGES.judged("class A{int f(int f){int A=1;}}");
    }

    private static void kind6() {
        EDGES.sentence("6 a PRIMARY's name without arguments that no variable has, or with arguments that no method among the members of the class has");
        EDGES.judged(inMethod("a;b;n;f(1);"));
        EDGES.judged(inMethod("<6>c;<6>f;<6>A;<6>B;"));
        EDGES.judged(inMethod("<6>c();<6>a();<6>b();<6>n();<6>A();"));
        EDGES.judged(inMethod("<6>c=1;<6>f=1;"));
        EDGES.judged(inMethod("f(<6>c)+(<6>c);"));
        EDGES.judged("class A{int f(){}}class B extends A{int g(){f();}}class C{int g(){<6>f();}}");
    }

    private static void kind7() {
        EDGES.sentence("7 a name behind . that is no field, or with arguments no method, among the members of the class that stands before it, or behind an INT");
        EDGES.judged(inMethod("n.a;n.n;n.f(1);this.a;new B.a;(n).a;n.n.n.a;"));
        EDGES.judged(inMethod("n.<7>c;n.<7>f;n.<7>b;n.<7>A;"));
        EDGES.judged(inMethod("n.<7>c();n.<7>a();n.<7>n();"));
        EDGES.judged(inMethod("a.<7>a;b.<7>f(1);1.<7>a;f(1).<7>a;n.a.<7>a;(1+a).<7>a;"));
        EDGES.judged("class A{int a;}class B extends A{int b;A f(){new A.<7>b;new B.a;return this.f().<7>b;}}");
    }

    private static void kind8() {
        EDGES.sentence("8 the name of a method that has another number of parameters than arguments stand there");
        for (int parameters = 0; parameters <= 4; parameters++) {
            for (int arguments = 0; arguments <= 5; arguments++) {
                String mark = parameters == arguments ? "" : "<8>";
                String head = "class A{int f(" + list("int a", parameters) + "){";
                EDGES.judged(head + mark + "f(" + list("1", arguments) + ");}}");
                EDGES.judged(head + "this." + mark + "f(" + list("1", arguments) + ");}}");
            }
        }
        // the arguments' own arguments and brackets are not counted
        EDGES.judged("class A{int f(int a,int b){f(f(1,2),f(f(3,4),5));<8>f(f(1,2));<8>f((1),2,3);}}");
        EDGES.judged("class A{int f(int a){}int g(){<8>f();}}class B extends A{int f(){}int g(){f();<8>f(1);}}");
    }

    /** The part again and again, parted by commas; a name in it gets the number of its part. */
    private static String list(String part, int times) {
        StringBuilder all = new StringBuilder();
        for (int i = 0; i < times; i++) {
            all.append(i == 0 ? "" : ",").append(part).append(i);
        }
        return all.toString();
    }

    private static void kind9() {
        EDGES.sentence("9 the first token of an expression that has not the type that it should");
        EDGES.judged(inMethod("a=b;a=<9>n;n=n;n=<9>b;"));
        EDGES.judged(inMethod("a=<9>this;a=<9>new A;a=<9>(n);a=<9>n.n;a=<9>n.n.n;"));
        EDGES.judged(inMethod("n=<9>f(1);n=<9>n.f(1);n=<9>(1);n=<9>1+1;n=<9>n.a;"));
        EDGES.judged(inMethod("a;n;this;new A;(n);f(1);1+1;"));
    }

    private static void kind10() {
        EDGES.sentence("10 the first token of an EXPRESSION before = that is not one TERM alone which is a NAME or ends with . NAME");
        EDGES.judged(inMethod("a=1;this.a=1;n.a=1;n.n.a=1;new A.a=1;(n).a=1;f(1).<7>a=1;n.f(1).<7>a=1;1.<7>a=1;"));
        EDGES.judged(inMethod("<10>1=1;"));
        EDGES.judged(inMethod("<10>this=n;"));
        EDGES.judged(inMethod("<10>new A=n;"));
        EDGES.judged(inMethod("<10>(a)=1;"));
        EDGES.judged(inMethod("<10>(n.a)=1;"));
        EDGES.judged(inMethod("<10>f(1)=1;"));
        EDGES.judged(inMethod("<10>n.f(1)=1;"));
        EDGES.judged(inMethod("<10>a+b=1;"));
        EDGES.judged(inMethod("<10>1+n.a=1;"));
        EDGES.judged(inMethod("<6,10>x+n.a=1;"));
        EDGES.judged(inMethod("<6>x=1;n.<7>x=1;<6>x.y=1;"));
        EDGES.judged(inMethod("1;(a);f(1);a+b;int c=1;return 1;"));
    }

    private static void eightDeep() {
        EDGES.sentence("Brackets and arguments stand at most 8 deep in one another, and there all is judged as elsewhere");
        for (int deep = 7; deep <= 8; deep++) {
            String open = "(".repeat(deep);
            String close = ")".repeat(deep);
            EDGES.judged(inMethod("a=" + open + "b+<9>n" + close + ";"));
            EDGES.judged(inMethod("a=<9>" + open + "n" + close + ";"));
            EDGES.judged(inMethod("n=<9>" + open + "b" + close + ";"));
            EDGES.judged(inMethod(open + "n" + close + ".<7>x;"));
            EDGES.judged(inMethod(open + "<6>x" + close + ".y;"));
            String calls = "f(".repeat(deep);
            EDGES.judged(inMethod(calls + "<9>n" + close + ";"));
            EDGES.judged(inMethod(calls + "<9>n+1" + close + ";"));
            EDGES.judged(inMethod(calls + "1+1" + close + ";"));
            EDGES.judged(inMethod(calls + "<6>x.y" + close + ";"));
            EDGES.judged(inMethod("f(".repeat(deep - 1) + "<8>f(n,<6>x)" + ")".repeat(deep - 1) + ";"));
        }
    }

    private static void typesOfExpressions() {
        EDGES.sentence("a NUMBER INT; this its class; new the class; brackets what is in them; a variable, field or method its own");
        String[] ints = {"1", "123456", "a", "b", "f(1)", "this.a", "n.a", "n.f(1)", "(1)", "((a))", "1+1", "(a+b)", "new B.f(1)"};
        String[] classes = {"this", "new A", "new B", "n", "this.n", "n.n", "(n)", "((new A))", "new B.n", "(n).n"};
        for (String one : ints) {
            EDGES.judged(inMethod("int c=" + one + ";"));
            EDGES.judged(inMethod("A c=<9>" + one + ";"));
        }
        for (String one : classes) {
            EDGES.judged(inMethod("int c=<9>" + one + ";"));
            EDGES.judged(inMethod("A c=" + one + ";"));
        }
        EDGES.judged("class A{}class <1>A{A f(){return <9>this;}}");
        EDGES.judged("class A{A f(){return <8>f(1);}int g(){return <8,9>f(1);}}");
    }

    private static void unknownTypes() {
        EDGES.sentence("with diagnostic 2, 6 or 7, or behind an UNKNOWN: UNKNOWN");
        String[] unknown = {"new <2>X", "<6>x", "<6>x()", "n.<7>x", "n.<7>x()", "1.<7>x", "<6>x.y", "<6>x.y()", "(<6>x)", "new <2>X.y.z",
            "<6>f", "n.<7>f", "a.<7>a"};
        for (String one : unknown) {
            EDGES.judged(inMethod("int c=" + one + ";A d=" + one + ";" + one + "+1;f(" + one + ");return " + one + ";"));
        }
        EDGES.judged("class A{<2>X x;<2>X f(<2>X y){<2>X z=x;int a=x;A b=y;a=z;b=f(z);return a;}}");
    }

    private static void behindUnknown() {
        EDGES.sentence("(behind an UNKNOWN names have no diagnostic; arguments are looked at all the same)");
        EDGES.judged(inMethod("<6>x.a.f.f().f(1,2,3).n;"));
        EDGES.judged(inMethod("<6>x.f(<6>y,n.<7>z,<9>n+1,<8>f(),new <2>Y);"));
        EDGES.judged(inMethod("<6>x(<6>y,n.<7>z,<9>n+1,<8>f(),new <2>Y);"));
        EDGES.judged(inMethod("n.<7>x(<6>y,n.<7>z);a.<7>x(<6>y);"));
        EDGES.judged(inMethod("<6>x.y(<6>z.y(<6>w));"));
        EDGES.judged("class A{<2>X x;int f(){x.a;x.f(<6>y);this.x.a.b=<6>z;}}");
        // arguments of another number are looked at, too
        EDGES.judged(inMethod("<8>f(<6>x,<9>n+1);"));
        EDGES.judged(inMethod("<8>f(n,n);"));
    }

    private static void sums() {
        EDGES.sentence("If there is a +, INT, and each TERM should be INT");
        EDGES.judged(inMethod("a+b;a+1+f(1)+n.a+(b);"));
        EDGES.judged(inMethod("<9>n+1;"));
        EDGES.judged(inMethod("1+<9>n;"));
        EDGES.judged(inMethod("<9>n+<9>n.n+1+<9>this+<9>new A+<9>(n);"));
        EDGES.judged(inMethod("a=<9>n+1;"));
        EDGES.judged(inMethod("n=<9>1+<9>n;"));
        EDGES.judged(inMethod("(<9>n+1).<7>a;"));
        EDGES.judged(inMethod("n;(n);"));
        EDGES.judged(inMethod("f(1+<9>n)+1;f(<9>n);f((1)+1);"));
    }

    private static void shouldBeLocal() {
        EDGES.sentence("Should be: the expression of a local what the local is");
        EDGES.judged(inMethod("int c=1;int d=<9>n;A e=n;A g=<9>1;B h=new B;B i=<9>n;"));
        EDGES.judged(inMethod("int <5>b=<9>n;A <5>b=n;A <5>b=<9>1;"));
    }

    private static void shouldBeBehindEquals() {
        EDGES.sentence("behind = what the one before = is");
        EDGES.judged(inMethod("a=1;a=<9>n;n=n;n=<9>1;n.n=new B;n.n.a=<9>n;new B.n=this;"));
        EDGES.judged(inMethod("<10>1=1;<10>1=<9>n;<10>this=n;<10>this=<9>1;<10>(n)=n;<10>(n)=<9>1;<10>f(1)=<9>n;<10>a+b=<9>n;"));
        EDGES.judged("class A{A f(){<10>f()=this;<10>f()=<9>1;<10>new B=<9>this;}}class B extends A{}");
    }

    private static void shouldBeBehindReturn() {
        EDGES.sentence("behind return what the method is");
        EDGES.judged("class A{int f(){return 1;return <9>this;}A g(){return this;return new B;return <9>1;}B h(){return <9>this;return new B;}}class B extends A{}");
        EDGES.judged("class A{int f;A <4>f(){return this;return <9>1;}}");
        EDGES.judged("class A{A f(){return new B;}int g(){return <9>f();}}class B extends A{}");
    }

    private static void shouldBeArguments() {
        EDGES.sentence("arguments, if there are as many as parameters, what these are");
        EDGES.judged("class A{int f(int a,A b,B c){f(1,this,new B);f(<9>this,<9>1,<9>this);f(1,c,<9>b);}}class B extends A{}");
        EDGES.judged("class A{int f(int a,A b){<8>f(b);<8>f(b,a,b);<8>f();f(<9>b,<9>a);this.f(<9>b,<9>a);}}");
        EDGES.judged("class A{int f(int a,A <5>a){f(1,this);f(<9>this,<9>1);}}");
        EDGES.judged("class A{int f(<2>X a,int b){f(1,2);f(this,<9>this);}}");
        EDGES.judged("class A{int f(int a){return f(f(f(<9>this)));}}");
        EDGES.judged("class A{A f(int a){return f(<9>f(<9>f(1)));}}");
    }

    private static void rightClasses() {
        EDGES.sentence("INT is INT, a class is itself or one of its superclasses, in turn");
        StringBuilder chain = new StringBuilder("class A{int f(){");
        String[] extended = {"A", "B", "C", "D", "E"};
        for (int i = 0; i < extended.length; i++) {
            chain.append("A ").append(name(i)).append("=new ").append(extended[i]).append(";");
            chain.append("E e").append(i).append(i == 4 ? "=" : "=<9>").append("new ").append(extended[i]).append(";");
        }
        chain.append("}}");
        for (int i = 1; i < extended.length; i++) {
            chain.append("class ").append(extended[i]).append(" extends ").append(extended[i - 1]).append("{}");
        }
        EDGES.judged(chain.toString());
        EDGES.judged("class A{B f(){return <9>new C;}}class B extends A{}class C extends A{}");
        EDGES.judged("class A{int f(){int a=1;int b=<9>this;A c=<9>1;A d=this;}}");
    }

    private static void unknownIsRight() {
        EDGES.sentence("UNKNOWN, or what should be UNKNOWN, is always right");
        EDGES.judged("class A{int f(int a,A b){a=<6>x;b=<6>x;f(<6>x,<6>x);int c=<6>x;A d=<6>x;return <6>x;}}");
        EDGES.judged("class A{<2>X f(<2>X a){a=1;a=this;f(1);f(this);<2>X b=1;<2>X c=this;<6>x=1;<6>x=this;return 1;}}");
        EDGES.judged("class A{<2>X f(){return this;return 1+1;return <6>x;}}");
    }
}
