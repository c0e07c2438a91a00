/** Promises 1 to 5 and 15: a new object, insert, append, delete, text and count. */
final class EditTest {
    private static final Check CHECK = new Check();

    public static void main(String[] args) {
        newObject();
        insert();
        append();
        delete();
        text();
        count();
        failedCallsChangeNothing();
        manyCalls();
        CHECK.close("EditTest");
    }

    private static void newObject() {
        LanguageServer server = new LanguageServer();
        CHECK.gives("new: characters", 0, () -> server.count(2));
        CHECK.gives("new: tokens", 0, () -> server.count(1));
        CHECK.gives("new: classes", 0, () -> server.count(0));
        CHECK.gives("new: diagnostics", 0, server::diagnostics);
        CHECK.fails("new: text", Check.NONE, () -> server.text(0));
        CHECK.fails("new: diagnostic", Check.NONE, () -> server.diagnostic(0, 0));
        CHECK.fails("new: definition", Check.NONE, () -> server.definition(0));
        CHECK.fails("new: members", Check.NONE, () -> server.members(0));
        CHECK.fails("new: member", Check.NONE, () -> server.member(0, 0));
        CHECK.gives("new: nothing to delete", 0, () -> server.delete(0, 0));
        LanguageServer other = Check.server("class A{}");
        CHECK.gives("objects share nothing", 0, () -> server.count(2));
        CHECK.gives("the other has its own text", 9, () -> other.count(2));
    }

    private static void insert() {
        LanguageServer server = new LanguageServer();
        CHECK.gives("insert first", 1, () -> server.insert(0, 'b'));
        CHECK.gives("insert before", 2, () -> server.insert(0, 'a'));
        CHECK.gives("insert behind", 3, () -> server.insert(2, 'd'));
        CHECK.gives("insert between", 4, () -> server.insert(2, 'c'));
        CHECK.same("insert", Check.textOf(server), "abcd");
        CHECK.gives("lowest code", 5, () -> server.insert(4, 32));
        CHECK.gives("highest code", 6, () -> server.insert(5, 126));
        CHECK.fails("place -1", Check.ARGUMENT, () -> server.insert(-1, 'a'));
        CHECK.fails("place behind the end", Check.ARGUMENT, () -> server.insert(7, 'a'));
        CHECK.fails("place far off", Check.ARGUMENT, () -> server.insert(Integer.MAX_VALUE, 'a'));
        CHECK.fails("least place", Check.ARGUMENT, () -> server.insert(Integer.MIN_VALUE, 'a'));
        CHECK.fails("code 31", Check.ARGUMENT, () -> server.insert(0, 31));
        CHECK.fails("code 127", Check.ARGUMENT, () -> server.insert(0, 127));
        CHECK.fails("code -1", Check.ARGUMENT, () -> server.insert(0, -1));
        CHECK.same("text after wrong inserts", Check.textOf(server), "abcd ~");
        LanguageServer full = Check.server("a".repeat(239));
        CHECK.gives("the 240th", 240, () -> full.insert(0, 'b'));
        CHECK.fails("the 241st", Check.STATE, () -> full.insert(0, 'c'));
        CHECK.fails("the 241st at the end", Check.STATE, () -> full.insert(240, 'c'));
        CHECK.fails("wrong code in a full text", Check.ARGUMENT, () -> full.insert(0, 31));
        CHECK.fails("wrong place in a full text", Check.ARGUMENT, () -> full.insert(241, 'c'));
        CHECK.gives("full text stays", 'b', () -> full.text(0));
    }

    private static void append() {
        LanguageServer server = new LanguageServer();
        CHECK.gives("one byte", 1, () -> server.append('a', 1));
        CHECK.gives("eight bytes", 9, () -> server.append(Check.bytes("bcdefghi"), 8));
        CHECK.gives("bytes above the n lowest do not matter", 11, () -> server.append(Check.bytes("ZYXWVUjk") | 1L << 63, 2));
        CHECK.same("append", Check.textOf(server), "abcdefghijk");
        CHECK.fails("n 0", Check.ARGUMENT, () -> server.append('a', 0));
        CHECK.fails("n -1", Check.ARGUMENT, () -> server.append('a', -1));
        CHECK.fails("n 9", Check.ARGUMENT, () -> server.append(Check.bytes("aaaaaaaa"), 9));
        CHECK.fails("least n", Check.ARGUMENT, () -> server.append('a', Integer.MIN_VALUE));
        CHECK.fails("a zero byte above", Check.ARGUMENT, () -> server.append('a', 2));
        CHECK.fails("code 31", Check.ARGUMENT, () -> server.append('a' << 8 | 31, 2));
        CHECK.fails("code 127", Check.ARGUMENT, () -> server.append(127 << 8 | 'a', 2));
        CHECK.fails("all bits", Check.ARGUMENT, () -> server.append(-1L, 8));
        CHECK.same("text after wrong appends", Check.textOf(server), "abcdefghijk");
        LanguageServer full = Check.server(" ".repeat(234));
        CHECK.fails("241 would be there", Check.STATE, () -> full.append(Check.bytes("aaaaaaa"), 7));
        CHECK.gives("nothing was added", 234, () -> full.count(2));
        CHECK.gives("240 are there", 240, () -> full.append(Check.bytes("bbbbbb"), 6));
        CHECK.fails("full", Check.STATE, () -> full.append('a', 1));
        CHECK.fails("full, and a wrong code", Check.ARGUMENT, () -> full.append(31, 1));
        CHECK.fails("full, and a wrong n", Check.ARGUMENT, () -> full.append('a', 9));
    }

    private static void delete() {
        LanguageServer server = Check.server("abcdefgh");
        CHECK.gives("nothing", 8, () -> server.delete(3, 0));
        CHECK.gives("nothing at the end", 8, () -> server.delete(8, 0));
        CHECK.gives("in the middle", 6, () -> server.delete(2, 2));
        CHECK.same("delete", Check.textOf(server), "abefgh");
        CHECK.gives("the last", 5, () -> server.delete(5, 1));
        CHECK.gives("the first", 4, () -> server.delete(0, 1));
        CHECK.same("delete at the ends", Check.textOf(server), "befg");
        CHECK.fails("n -1", Check.ARGUMENT, () -> server.delete(1, -1));
        CHECK.fails("place -1", Check.ARGUMENT, () -> server.delete(-1, 1));
        CHECK.fails("too many", Check.ARGUMENT, () -> server.delete(1, 4));
        CHECK.fails("behind the end", Check.ARGUMENT, () -> server.delete(5, 0));
        CHECK.fails("one at the end", Check.ARGUMENT, () -> server.delete(4, 1));
        CHECK.fails("most", Check.ARGUMENT, () -> server.delete(1, Integer.MAX_VALUE));
        CHECK.fails("most place", Check.ARGUMENT, () -> server.delete(Integer.MAX_VALUE, Integer.MAX_VALUE));
        CHECK.same("text after wrong deletes", Check.textOf(server), "befg");
        CHECK.gives("all", 0, () -> server.delete(0, 4));
        CHECK.gives("no characters", 0, () -> server.count(2));
        LanguageServer full = Check.server("x".repeat(240));
        CHECK.gives("all of a full text", 0, () -> full.delete(0, 240));
    }

    private static void text() {
        LanguageServer server = Check.server("a ~");
        CHECK.gives("first", 'a', () -> server.text(0));
        CHECK.gives("blank", 32, () -> server.text(1));
        CHECK.gives("last", 126, () -> server.text(2));
        CHECK.fails("behind the last", Check.NONE, () -> server.text(3));
        CHECK.fails("place -1", Check.NONE, () -> server.text(-1));
        server.delete(2, 1);
        CHECK.fails("no longer there", Check.NONE, () -> server.text(2));
    }

    private static void count() {
        LanguageServer server = Check.server("class A{int a;}class B{} ");
        CHECK.gives("classes", 2, () -> server.count(0));
        CHECK.gives("tokens", 11, () -> server.count(1));
        CHECK.gives("characters", 25, () -> server.count(2));
        CHECK.fails("what 3", Check.ARGUMENT, () -> server.count(3));
        CHECK.fails("what -1", Check.ARGUMENT, () -> server.count(-1));
        server.insert(12, '.');
        CHECK.gives("classes with a fault", 0, () -> server.count(0));
        CHECK.gives("tokens before a fault", 4, () -> server.count(1));
        CHECK.gives("characters with a fault", 26, () -> server.count(2));
        LanguageServer open = Check.server("class A{ ");
        CHECK.gives("tokens before one that lacks", 3, () -> open.count(1));
        LanguageServer blank = Check.server("   ");
        CHECK.gives("tokens of blanks", 0, () -> blank.count(1));
        CHECK.gives("blanks are no fault", 0, blank::diagnostics);
    }

    private static void failedCallsChangeNothing() {
        LanguageServer server = Check.server("class A{int a;}");
        Check.outcome(() -> server.insert(99, 'a'));
        Check.outcome(() -> server.append(1, 1));
        Check.outcome(() -> server.delete(0, 99));
        Check.outcome(() -> Check.rename(server, 12, "int"));
        CHECK.same("text", Check.textOf(server), "class A{int a;}");
        CHECK.gives("diagnostics", 0, server::diagnostics);
        CHECK.gives("definition", 12, () -> server.definition(12));
    }

    private static void manyCalls() {
        LanguageServer server = Check.server("class A{int a;}");
        for (int i = 0; i < 240; i++) {
            server.insert(12, 'b');
            server.delete(12, 1);
        }
        CHECK.same("after many edits", Check.textOf(server), "class A{int a;}");
        CHECK.gives("a definition after many edits", 12, () -> server.definition(12));
    }
}
