/** Promise 14: rename. */
final class RenameTest {
    private static final Check CHECK = new Check();

    public static void main(String[] args) {
        everywhere();
        names();
        tooLong();
        otherDiagnostics();
        otherMeaning();
        order();
        CHECK.close("RenameTest");
    }

    /** Renames the name at the mark ^ and compares what comes of it, where the same name is marked. */
    private static void due(String marked, String name, int changed, String markedAfter) {
        LanguageServer server = Check.server(marked.replace("^", ""));
        String text = markedAfter.replace("^", "");
        CHECK.gives(marked + " to " + name, changed, () -> Check.rename(server, marked.indexOf('^'), name));
        CHECK.same(marked + " to " + name, Check.textOf(server), text);
        CHECK.gives(markedAfter + ": references", changed, () -> server.references(markedAfter.indexOf('^')));
        CHECK.gives(markedAfter + ": characters", text.length(), () -> server.count(2));
    }

    private static void refused(String marked, String name, String exception) {
        int place = marked.indexOf('^');
        String text = marked.replace("^", "");
        LanguageServer server = Check.server(text);
        String before = Check.diagnosticsOf(server);
        CHECK.fails(marked + " to " + name, exception, () -> Check.rename(server, place, name));
        CHECK.same(marked + " stays", Check.textOf(server), text);
        CHECK.same(marked + " is judged as before", Check.diagnosticsOf(server), before);
    }

    private static void everywhere() {
        due("class ^A{A a;A f(A b){return new A;}}class B extends A{}", "Cc", 6,
                "class ^Cc{Cc a;Cc f(Cc b){return new Cc;}}class B extends Cc{}");
        due("class Long{Long a;}class B extends ^Long{}", "S", 3, "class S{S a;}class B extends ^S{}");
        due("class A{int a;int f(){a=this.^a;int a=a;a=1;}}", "xyz", 4,
                "class A{int xyz;int f(){xyz=this.^xyz;int a=xyz;a=1;}}");
        due("class A{int a;int f(){a=1;int ^a=a;a=a+1;}}", "b", 3, "class A{int a;int f(){a=1;int ^b=a;b=b+1;}}");
        due("class A{int f(int p){return f(^p)+p;}}", "q", 3, "class A{int f(int q){return f(^q)+q;}}");
        due("class A{int f(){return this.f()+^f();}}", "g2", 3, "class A{int g2(){return this.g2()+^g2();}}");
        due("class A{int abc;}class B extends A{int f(){return ab^c;}}", "d", 2,
                "class A{int d;}class B extends A{int f(){return ^d;}}");
        // the name that it has
        due("class A{int ^a;int f(){a=1;}}", "a", 2, "class A{int ^a;int f(){a=1;}}");
        // a name that something else has where they do not meet
        due("class A{int ^a;}", "A", 1, "class A{int ^A;}");
        due("class A{int f(int p){}int g(int ^q){return q;}}", "p", 2, "class A{int f(int p){}int g(int ^p){return p;}}");
        // with diagnostics that stay as many
        due("class A{int ^a;int f(){x=a;x.a=this.a;}}", "b", 3, "class A{int ^b;int f(){x=b;x.a=this.b;}}");
    }

    private static void names() {
        LanguageServer server = Check.server("class A{int a;}");
        String[] wrong = {"class", "extends", "int", "return", "new", "this", "1", "1a", "a b", "a_", " ", "a.", "{", "a$"};
        for (String name : wrong) {
            CHECK.fails("to " + name, Check.ARGUMENT, () -> Check.rename(server, 12, name));
        }
        CHECK.fails("n 0", Check.ARGUMENT, () -> server.rename(12, 'b', 0));
        CHECK.fails("n -1", Check.ARGUMENT, () -> server.rename(12, 'b', -1));
        CHECK.fails("n 9", Check.ARGUMENT, () -> server.rename(12, Check.bytes("bbbbbbbb"), 9));
        CHECK.fails("most n", Check.ARGUMENT, () -> server.rename(12, 'b', Integer.MAX_VALUE));
        CHECK.fails("a zero byte above", Check.ARGUMENT, () -> server.rename(12, 'b', 2));
        CHECK.fails("a byte over 127", Check.ARGUMENT, () -> server.rename(12, 'b' << 8 | 200, 2));
        CHECK.same("text stays", Check.textOf(server), "class A{int a;}");
        CHECK.gives("bytes above the n lowest do not matter", 1, () -> server.rename(12, Check.bytes("+{$ inte"), 4));
        CHECK.same("inte", Check.textOf(server), "class A{int inte;}");
        CHECK.gives("eight", 1, () -> Check.rename(server, 12, "Classes9"));
        CHECK.gives("another case", 1, () -> Check.rename(server, 12, "Int"));
        CHECK.same("Int", Check.textOf(server), "class A{int Int;}");
    }

    private static void tooLong() {
        String head = "class A{int a;int f(){a=a;";
        String text = head + " ".repeat(240 - 6 - head.length() - 2) + "}}";
        LanguageServer server = Check.server(text);
        CHECK.gives("234 characters", 234, () -> server.count(2));
        CHECK.fails("243 would be there", Check.STATE, () -> Check.rename(server, 12, "abcd"));
        CHECK.same("text stays", Check.textOf(server), text);
        CHECK.gives("240 are there", 3, () -> Check.rename(server, 12, "abc"));
        CHECK.gives("240", 240, () -> server.count(2));
        CHECK.fails("243 again", Check.STATE, () -> Check.rename(server, 12, "abcd"));
        CHECK.gives("shorter in a full text", 3, () -> Check.rename(server, 12, "b"));
        CHECK.same("shorter", Check.textOf(server), text.replace("int a;", "int b;").replace("a=a", "b=b"));
    }

    private static void otherDiagnostics() {
        refused("class ^A{}class B{}", "B", Check.STATE);
        refused("class A{int ^a;int b;}", "b", Check.STATE);
        refused("class A{int f(int ^a,int b){}}", "b", Check.STATE);
        refused("class A{int f(int a){int ^b=a;}}", "a", Check.STATE);
        // it would mend a diagnostic
        refused("class A{int ^a;int f(){return x;}}", "x", Check.STATE);
        refused("class ^A{X x;}", "X", Check.STATE);
        // the field would hide an inherited method
        refused("class A{int f(){}}class B extends A{int ^a;int g(){f();}}", "f", Check.STATE);
    }

    private static void otherMeaning() {
        // the field's use would then be one of the local, and no diagnostic tells
        refused("class A{int ^a;int f(int b){return a;}}", "b", Check.STATE);
        refused("class A{int a;int f(int ^b){return a+b;}}", "a", Check.STATE);
        refused("class A{int a;}class B extends A{int ^b;int f(){return a;}}", "a", Check.STATE);
        refused("class A{int a;int f(){a=1;int ^b=a;a=b;}}", "a", Check.STATE);
    }

    private static void order() {
        LanguageServer server = Check.server("class A{int a;int b;}");
        CHECK.fails("no name, and to no name", Check.NONE, () -> Check.rename(server, 7, "int"));
        CHECK.fails("place -1", Check.NONE, () -> Check.rename(server, -1, "b"));
        CHECK.fails("no name, and n 0", Check.NONE, () -> server.rename(99, 'b', 0));
        CHECK.fails("int", Check.NONE, () -> Check.rename(server, 8, "b"));
        CHECK.gives("then it goes", 1, () -> Check.rename(server, 12, "c"));
        CHECK.gives("and back", 1, () -> Check.rename(server, 12, "a"));
        server.insert(13, 'x');
        CHECK.gives("after an edit", 1, () -> Check.rename(server, 12, "y"));
        CHECK.same("after all", Check.textOf(server), "class A{int y;int b;}");
        CHECK.same("fault", Check.diagnosticsOf(Check.server("class A{int a")), "0@13");
    }
}
