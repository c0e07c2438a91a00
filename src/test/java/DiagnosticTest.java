/**
 * Promises 6 and 7: the diagnostics. In the texts here <7> before a token (and behind the last token) tells
 * that a diagnostic of kind 7 is due there; <9,10> tells of two.
 */
final class DiagnosticTest {
    private static final Check CHECK = new Check();

    public static void main(String[] args) {
        tokens();
        tokenLimit();
        grammarOfClasses();
        grammarOfStatements();
        grammarOfExpressions();
        depth();
        classNames();
        memberAndVariableNames();
        usedNames();
        calls();
        types();
        targets();
        orderAndOnce();
        indices();
        afterEdits();
        readAnew();
        CHECK.close("DiagnosticTest");
    }

    private static void due(String marked) {
        StringBuilder text = new StringBuilder();
        StringBuilder due = new StringBuilder();
        for (int i = 0; i < marked.length(); i++) {
            if (marked.charAt(i) != '<') {
                text.append(marked.charAt(i));
                continue;
            }
            int end = marked.indexOf('>', i);
            for (String kind : marked.substring(i + 1, end).split(",")) {
                due.append(due.length() == 0 ? "" : " ").append(kind).append('@').append(text.length());
            }
            i = end;
        }
        CHECK.same(marked, Check.diagnosticsOf(Check.server(text.toString())), due.toString());
    }

    private static String inMethod(String statements) {
        return "class A{int a;A n;int f(int b){" + statements + "}}class B extends A{}";
    }

    private static void tokens() {
        due("");
        due("    ");
        due("class A{}");
        due("  class   A  {  }  ");
        due("class abcdefgh{}");
        due("class <0>abcdefghi{}");
        due("class a2345678{}");
        due("class <0>a23456789{}");
        due("<0>classA{}");
        due("class classA{}");
        due("class Int{int int1;int tHis;}");
        due("class <0>1A{}");
        due("class A<0>$ {}");
        due("<0>$");
        due("<0>_");
        due("<0>~class A{}");
        due("class A{}<0>[");
        due("class <0>int{}");
        due("class <0>this{}");
        due("class <0>new{}");
        due("class <0>return{}");
        due("class <0>extends{}");
        due("class <0>class{}");
        due(inMethod("b=123456;"));
        due(inMethod("b=<0>1234567;"));
        due(inMethod("b=000000;"));
        due(inMethod("b=1<0>a;"));
        due(inMethod("b=1 <0>2;"));
        due(inMethod("a=b<0>-1;"));
        // the first fault counts, and a bad character only when it is come to
        due("class <0>{int $;}");
        due("class A{int a<0>} $");
        due("class A{int <0>$ abcdefghijk;}");
    }

    private static void tokenLimit() {
        // 8 tokens open the method, each 1; has 2, and the two that close make 120
        String most = "class A{int f(){" + "1;".repeat(55);
        due(most + "}}");
        due(most + "}}   ");
        due(most + "}}  <0>class B{}");
        due(most + "1;<0>}}");
        due(most + "1;<0> ");
        due(most + "1<0> ");
        due(most + "<0>$}}");
        due("class A{<0>;" + "1;".repeat(70));
        CHECK.same("120 tokens", Check.server(most + "}}").count(1), 120);
        CHECK.same("tokens before the 121st", Check.server(most + "1;}}").count(1), 120);
        CHECK.same("26 classes", Check.server("class A{}".repeat(26)).count(0), 26);
    }

    private static void grammarOfClasses() {
        due("<0>A");
        due("<0>{");
        due("class<0>");
        due("class<0>   ");
        due("class <0>{}");
        due("class A<0>");
        due("class A <0>B{}");
        due("class A <0>;");
        due("class A extends<0>");
        due("class A extends <0>{}");
        due("class A extends <0>int{}");
        due("class A extends B<0>");
        due("class A extends B <0>extends C{}");
        due("class A{<0>");
        due("class A{}<0>}");
        due("class A{}<0>;");
        due("class A{} <0>int a;");
        due("class A{<0>class B{}}");
        due("class A{int<0>");
        due("class A{int <0>;}");
        due("class A{int <0>int;}");
        due("class A{int <0>(){}}");
        due("class A{a<0>;}");
        due("class A{a b<0>");
        due("class A{int a<0>,b;}");
        due("class A{int a<0>=1;}");
        due("class A{int f(<0>");
        due("class A{int f(<0>,){}}");
        due("class A{int f(int<0>){}}");
        due("class A{int f(int a<0>;){}}");
        due("class A{int f(int a,<0>){}}");
        due("class A{int f(int a<0> ");
        due("class A{int f(A a,A b,int c){}}");
        due("class A{int f()<0>;}");
        due("class A{int f()<0>");
        due("class A{int f(){<0>");
        due("class A{int f(){}<0>");
        due("class A{int f(){}<0>;}");
    }

    private static void grammarOfStatements() {
        due(inMethod(""));
        due(inMethod("<0>;"));
        due(inMethod("int c=1;A d=n;"));
        due(inMethod("int <0>=1;"));
        due(inMethod("int c<0>;"));
        due(inMethod("A c<0>;"));
        due(inMethod("A c<0>.d=1;"));
        due(inMethod("A c=<0>;"));
        due(inMethod("int c=1<0>=2;"));
        due(inMethod("a=1<0>=2;"));
        due(inMethod("return 1<0>=2;"));
        due(inMethod("return <0>;"));
        due(inMethod("return <0>return 1;"));
        due(inMethod("return <0>class;"));
        due(inMethod("<0>=1;"));
        due(inMethod("a<0>"));
        due(inMethod("int<0>.a=1;"));
        due(inMethod("a <0>int c=1;"));
        due(inMethod("a <0>1;"));
        due(inMethod("n <0>this;"));
        due(inMethod("<0>class"));
        due(inMethod("<0>,"));
        due(inMethod("<0>)"));
    }

    private static void grammarOfExpressions() {
        due(inMethod("a+b+1+(a);"));
        due(inMethod("a+<0>;"));
        due(inMethod("<0>+a;"));
        due(inMethod("a+b <0>c;"));
        due(inMethod("a.<0>;"));
        due(inMethod("n.<0>1;"));
        due(inMethod("n.<0>this;"));
        due(inMethod("n.<0>(a);"));
        due(inMethod("<0>.a;"));
        due(inMethod("new <0>;"));
        due(inMethod("new <0>int;"));
        due(inMethod("new A<0>();"));
        due(inMethod("new A.a=1;"));
        due(inMethod("this<0>();"));
        due(inMethod("1<0>(2);"));
        due(inMethod("(<0>);"));
        due(inMethod("(a<0>;"));
        due(inMethod("(a<0>,b);"));
        due(inMethod("(a<0>=b);"));
        due(inMethod("a<0>);"));
        due(inMethod("a<0>,b;"));
        due(inMethod("(a)<0>(b);"));
        due(inMethod("f(1)<0>(b);"));
        due(inMethod("f(<0>,1);"));
        due(inMethod("f(1,<0>);"));
        due(inMethod("f(1<0>;"));
        due(inMethod("f(1<0>=2);"));
        due(inMethod("f(1 <0>2);"));
        due(inMethod("f(<0>int).a;"));
        due(inMethod("n.f(n.f(1)+f(2)).<7>f(3);"));
    }

    private static void depth() {
        due(inMethod("((((((((1))))))));"));
        due(inMethod("((((((((<0>(1)))))))));"));
        due(inMethod("f(f(f(f(f(f(f(f(1))))))));"));
        due(inMethod("f(f(f(f(f(f(f(f(f<0>(1)))))))));"));
        due(inMethod("n.f((f((f((n.f((1))))))));"));
        due(inMethod("((((((((f<0>()))))))));"));
        due(inMethod("((((((((n.f<0>(1)))))))));"));
        due(inMethod("((((((((n.a))))))));"));
        due(inMethod("((((1))))+((((((((2))))))))+((((3))));"));
        // the parameters' brackets do not count, and each statement begins anew
        due("class A{int f(int a){((((((((a))))))));((((((((1))))))));}}");
    }

    private static void classNames() {
        due("class A{}class <1>A{}class <1>A{}");
        due("class A extends <2>B{}");
        due("class A extends B{}class B{}");
        due("class A extends <3>A{}");
        due("class A extends <3>B{}class B extends <3>A{}");
        due("class A extends B{}class B extends <3>C{}class C extends <3>B{}");
        // the second A names the first one, which leads nowhere
        due("class A{}class <1>A extends A{}");
        due("class A extends <3>B{}class B extends <3>A{}class <1>A extends B{}");
        due("class A{<2>B b;<2>C f(<2>D d){<2>E e=new <2>F;}}");
        due("class A{B b;}class B{A f(B b){A a=<9>new B;}}");
        due("class A{A A;A f(A A){A B=A;}}");
    }

    private static void memberAndVariableNames() {
        due("class A{int a;A <4>a;}");
        due("class A{int a;int <4>a(){}int <4>a;}");
        due("class A{int a(){}int <4>a(int b){}}");
        due("class A{int a;}class B extends A{int a;}");
        due("class A{int f(int a,A <5>a){}}");
        due("class A{int f(int a){int <5>a=1;A <5>a=this;}}");
        due("class A{int f(int f){}int g(int f){int g=f;}}");
        due("class A{int a;int f(int a){}}");
        // a local of another method is another one, but one of the same method is not, wherever
        due("class A{int f(){int a=1;}int g(){int a=1;int <5>a=2;}}");
        // a member that is there twice still has a body that is judged
        due("class A{int a;int <4>a(){return <6>x;}}");
        due("class A{}class <1>A{int f(){return <6>x;}}");
    }

    private static void usedNames() {
        due(inMethod("<6>x;"));
        due(inMethod("<6>x();"));
        due(inMethod("<6>f;"));
        due(inMethod("<6>a();"));
        due(inMethod("<6>b();"));
        due(inMethod("<6>A;"));
        due(inMethod("<6>A();"));
        due(inMethod("n.<7>x;"));
        due(inMethod("n.<7>x();"));
        due(inMethod("n.<7>f;"));
        due(inMethod("n.<7>a();"));
        due(inMethod("n.<7>b;"));
        due(inMethod("b.<7>a;"));
        due(inMethod("1.<7>f(2);"));
        due(inMethod("(a+b).<7>a;"));
        due(inMethod("n.a.<7>a;"));
        due(inMethod("n.n.n.a;"));
        due(inMethod("this.a=new B.n.a;"));
        due(inMethod("new B.f(1);"));
        // a local is there only behind its own statement
        due(inMethod("int c=<6>c;c=c;"));
        due(inMethod("<6>c=1;int c=2;"));
        due("class A{int f(){int c=1;}int g(){<6>c;}}");
        // behind an UNKNOWN nothing is said, but of arguments
        due(inMethod("<6>x.y.z(<6>w,b).v=n;"));
        due(inMethod("new <2>X.y(<6>w);"));
        due(inMethod("<6>x(<6>y,1+<9>n);"));
        due("class A{<2>X x;int f(){x.y=1;return x.z(<6>w);}}");
        // the first of two parameters or locals counts
        due("class A{int f(int a,A <5>a){a.<7>f;a=1;}}");
        // locals before fields, first members before later ones and before those of a superclass
        due("class A{A a;int f(int a){a.<7>a;}}");
        due("class A{int x;}class B extends A{int x(){}int g(){<6>x;x();this.<7>x;this.x();}}");
        due("class A{int x(){}}class B extends A{int x;int g(){x;<6>x();this.<7>x();}}");
        due("class A{int x;int <4>x(){}int g(){x=1;<6>x();}}");
        // inherited ones, over two classes
        due("class C extends B{int g(){return f(a)+this.f(this.a);}}class B extends A{}class A{int a;int f(int b){}}");
        // of a class that leads back nothing is inherited
        due("class A extends <3>B{int a;int f(){a;<6>b;}}class B extends <3>A{int b;}");
        // this is the class where it stands, although its name is another's
        due("class A{int a;}class <1>A{int b;int f(){return this.b+this.<7>a;}}");
    }

    private static void calls() {
        due(inMethod("<8>f();"));
        due(inMethod("f(1);"));
        due(inMethod("<8>f(1,2);"));
        due(inMethod("n.<8>f();"));
        due(inMethod("n.<8>f(n,n);"));
        due(inMethod("<8>f(<6>x,<6>y);"));
        due(inMethod("f(<9>n);"));
        due(inMethod("n.f(<9>this);"));
        due(inMethod("n.f(<9>(this));"));
        due(inMethod("<8>f(n,1)+1;"));
        due("class A{int f(A a,int b,B c){f(this,1,new B);f(new B,<9>c,<9>a);f(<9>1,<9>this,<9>new A);}}class B extends A{}");
        due("class A{int f(<2>X x){f(1);f(this);}}");
        // a parameter that is there twice still has its own type
        due("class A{int f(int a,A <5>a){f(1,this);f(1,<9>2);}}");
    }

    private static void types() {
        due(inMethod("int c=b;int d=<9>n;A e=n;A g=<9>1;"));
        due(inMethod("A c=new B;B d=<9>new A;B e=new B;"));
        due(inMethod("n=this;n=new B;n=<9>1;n.n.a=<9>n;b=<9>this;"));
        due(inMethod("return <9>n;"));
        due(inMethod("return (n.f(1));"));
        due(inMethod("return <9>(n);"));
        due(inMethod("<9>n+1;"));
        due(inMethod("1+<9>n+b+<9>(n);"));
        due(inMethod("n=<9>1+b;"));
        due(inMethod("n=<9>n+b;"));
        due(inMethod("b=<9>n+b;"));
        due(inMethod("b=(1+<9>n)+1;"));
        due(inMethod("b=<6>x+1;"));
        due(inMethod("(a+<9>n.n).<7>a;"));
        due(inMethod("b=1+(<9>n+<9>n.n);"));
        due(inMethod("f((1)+<9>n);f(((1)+1)+b);"));
        due(inMethod("1+1;n=n;f(f(1)+1);n=n.n;"));
        due(inMethod("((((((((<6>x+<9>n))))))));"));
        due(inMethod("f(f(f(f(f(f(f(f(<9>n))))))));"));
        due(inMethod("f(f(f(f(f(f(f(n.<8>f(n,n))))))));"));
        due(inMethod("n=<9>(<6>x+1);"));
        due(inMethod("n=<6>x;b=<6>x;<6>x=n;<6>x=1;"));
        due("class A{<2>X f(){return 1;}A g(){return f();}int h(){return this.f()+1;}}");
        due("class A{<2>X x;int f(){x=this;x=1;int a=x;A b=x;<2>Y c=this;}}");
        due("class A{A f(){return this;return new B;return new C;}B g(){return <9>this;return new C;}}class B extends A{}class C extends B{}");
        // what extends an unknown class, or leads back, has no superclass to be taken for
        due("class A extends <3>B{int f(){A a=<9>new B;}}class B extends <3>A{}");
        due("class A{}class B extends <2>C{A f(){return <9>this;}}");
        // a local that is there twice still has its own type
        due("class A{int f(){int a=1;A <5>a=<9>2;A <5>a=this;a=3;}}");
    }

    private static void targets() {
        due(inMethod("a=1;n.a=1;this.a=1;n.n.n.a=1;new A.a=1;(n).a=1;n.f(1).<7>a=1;"));
        due(inMethod("<10>1=1;"));
        due(inMethod("<10>this=n;"));
        due(inMethod("<10>new A=n;"));
        due(inMethod("<10>(a)=1;"));
        due(inMethod("<10>f(1)=1;"));
        due(inMethod("<10>n.f(1)=1;"));
        due(inMethod("<10>a+b=1;"));
        due(inMethod("<10>a+n.a=1;"));
        due(inMethod("<10>1=<9>n;"));
        due(inMethod("<10>a+b=<9>n;"));
        due(inMethod("<10>(n)=<9>1;"));
        due(inMethod("<9,10>n+1=1;"));
        due(inMethod("<6,10>x()=n;"));
        due(inMethod("<6>x=n;n.<7>x=n;"));
        due(inMethod("(a);a+b;f(1);"));
    }

    private static void orderAndOnce() {
        due("class A{int f(){int a=<9>this+1;A b=<9>this+1;}int <4>f;}class <1>A extends <2>B{}");
        due("class A{int f(){return <6>x+<6>x;}int g(){<8,10>f(<6>y)=1;}}");
        due("class A{A f(){return <9>f()+<9>f();}}");
    }

    private static void indices() {
        LanguageServer server = Check.server("class A{int a;int a;int a;}");
        CHECK.gives("diagnostics", 2, server::diagnostics);
        CHECK.gives("kind of the first", 4, () -> server.diagnostic(0, 0));
        CHECK.gives("place of the first", 18, () -> server.diagnostic(0, 1));
        CHECK.gives("kind of the second", 4, () -> server.diagnostic(1, 0));
        CHECK.gives("place of the second", 24, () -> server.diagnostic(1, 1));
        CHECK.fails("index 2", Check.NONE, () -> server.diagnostic(2, 0));
        CHECK.fails("index -1", Check.NONE, () -> server.diagnostic(-1, 0));
        CHECK.fails("most", Check.NONE, () -> server.diagnostic(Integer.MAX_VALUE, 1));
        CHECK.fails("what 2", Check.ARGUMENT, () -> server.diagnostic(0, 2));
        CHECK.fails("what -1", Check.ARGUMENT, () -> server.diagnostic(1, -1));
        CHECK.fails("neither", Check.NONE, () -> server.diagnostic(2, 2));
        LanguageServer fault = Check.server("class A{int a;int a;int}");
        CHECK.gives("a fault is alone", 1, fault::diagnostics);
        CHECK.gives("kind of a fault", 0, () -> fault.diagnostic(0, 0));
        CHECK.gives("place of a fault", 23, () -> fault.diagnostic(0, 1));
        CHECK.fails("nothing beside a fault", Check.NONE, () -> fault.diagnostic(1, 0));
        CHECK.fails("what 2 of a fault", Check.ARGUMENT, () -> fault.diagnostic(0, 2));
    }

    private static void afterEdits() {
        LanguageServer server = Check.server("class A{int a;int b;}");
        CHECK.same("sound", Check.diagnosticsOf(server), "");
        server.delete(18, 1);
        CHECK.same("a name lacks", Check.diagnosticsOf(server), "0@18");
        server.insert(18, 'a');
        CHECK.same("a name is there twice", Check.diagnosticsOf(server), "4@18");
        server.insert(19, '2');
        CHECK.same("sound again", Check.diagnosticsOf(server), "");
        server.append(Check.bytes("class A{"), 8);
        CHECK.same("one more begins", Check.diagnosticsOf(server), "0@30");
        CHECK.gives("no class", 0, () -> server.count(0));
        server.append('}', 1);
        CHECK.gives("kind at once", 1, () -> server.diagnostic(0, 0));
        server.insert(0, ' ');
        CHECK.gives("place at once", 29, () -> server.diagnostic(0, 1));
        server.delete(0, 32);
        CHECK.gives("nothing is left", 0, server::diagnostics);
        CHECK.gives("no tokens are left", 0, () -> server.count(1));
    }

    /** Nothing of what was read before may be left in what is read now. */
    private static void readAnew() {
        LanguageServer server = Check.server("class A{int f(){f(1,2);}}");
        CHECK.same("two arguments", Check.diagnosticsOf(server), "8@16");
        server.delete(19, 2);
        CHECK.same("one argument", Check.diagnosticsOf(server), "8@16");
        server.delete(18, 1);
        CHECK.same("no argument", Check.diagnosticsOf(server), "");
        server.delete(18, 1);
        CHECK.same("open", Check.diagnosticsOf(server), "0@18");
        server.delete(17, 1);
        CHECK.same("a variable", Check.diagnosticsOf(server), "6@16");
        server.delete(13, 2);
        CHECK.same("a field would end", Check.diagnosticsOf(server), "0@13");
        server.delete(13, 4);
        server.insert(13, ';');
        CHECK.same("what is left", Check.textOf(server), "class A{int f;}");
        CHECK.same("a field alone", Check.diagnosticsOf(server), "");
        CHECK.gives("its definition", 12, () -> server.definition(12));
        LanguageServer deep = Check.server("class A{int f(){((((((((");
        CHECK.same("eight are open", Check.diagnosticsOf(deep), "0@24");
        deep.delete(16, 8);
        for (char code : "((((((((1))))))));}}".toCharArray()) {
            deep.insert(deep.count(2), code);
        }
        CHECK.same("eight are closed", Check.diagnosticsOf(deep), "");
    }
}
