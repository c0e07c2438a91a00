/** The sentences that name a boundary of the text, of its edits and of count: promises 1 to 5 and 15. */
final class EditEdgeTest {
    private static final Edges EDGES = new Edges();
    private static final String SOUND = "class A{int a;int f(int b){return a+b;}}";
    private static final String FULL = blanksTo(240);
    private static final String[] TEXTS = {"", "a", SOUND, FULL};

    public static void main(String[] args) {
        calls();
        lengthByInsert();
        lengthByAppend();
        codesByInsert();
        codesByAppend();
        newObject();
        insertPlaces();
        insertAnswers();
        insertOrder();
        appendBytes();
        appendOrderOfBytes();
        appendOrder();
        deleteRange();
        deleteWrapsNowhere();
        textPlaces();
        countClasses();
        countTokens();
        countCharacters();
        countOthers();
        EDGES.close("EditEdgeTest");
    }

    private static String blanksTo(int length) {
        return SOUND + " ".repeat(length - SOUND.length());
    }

    private static void calls() {
        EDGES.sentence("An object is used for at most 512 calls after it has been made");
        EDGES.gives("edits, the 512th", "", 1, s -> {
            for (int i = 0; i < 510; i += 2) {
                s.insert(0, 'a');
                s.delete(0, 1);
            }
            s.insert(0, 'a');
            return s.count(2);
        });
        EDGES.gives("refused calls, then the 512th", "", 1, s -> {
            for (int i = 0; i < 511; i++) {
                Check.outcome(() -> s.insert(1, 'a'));
            }
            return s.insert(0, 'a');
        });
        EDGES.gives("renames, the 512th", SOUND, 2, s -> {
            for (int i = 5; i < 511; i++) {
                Check.rename(s, 12, i % 2 == 0 ? "c" : "d");
            }
            return Check.rename(s, 12, "long");
        });
    }

    private static void lengthByInsert() {
        EDGES.sentence("THE TEXT has up to 240 characters; insert: 240 are there: IllegalStateException");
        String almost = blanksTo(239);
        for (int place : new int[] {0, 1, 12, 238, 239}) {
            String after = almost.substring(0, place) + ' ' + almost.substring(place);
            EDGES.changes("the 240th at " + place, almost, 240, after, s -> s.insert(place, ' '));
        }
        for (int place : new int[] {0, 1, 12, 239, 240}) {
            EDGES.refuses("a 241st at " + place, FULL, Check.STATE, s -> s.insert(place, 'a'));
        }
        EDGES.gives("one out, one in", FULL, 240, s -> {
            s.delete(239, 1);
            return s.insert(239, 'a');
        });
        EDGES.gives("the last place of a full text", FULL, ' ', s -> s.text(239));
        EDGES.refuses("behind the last place of a full text", FULL, Check.NONE, s -> s.text(240));
    }

    private static void lengthByAppend() {
        EDGES.sentence("append: More than 240 would be there: IllegalStateException");
        for (int i = 1; i <= 8; i++) {
            int n = i;
            long value = Check.bytes("        ");
            EDGES.changes(n + " up to 240", blanksTo(240 - n), 240, FULL, s -> s.append(value, n));
            EDGES.refuses(n + " up to 241", blanksTo(241 - n), Check.STATE, s -> s.append(value, n));
            EDGES.refuses(n + " behind 240", FULL, Check.STATE, s -> s.append(value, n));
        }
        EDGES.gives("all by append", "", 240, s -> {
            for (int i = 0; i < 29; i++) {
                s.append(Check.bytes("abcdefgh"), 8);
            }
            return s.append(Check.bytes("abcdefgh"), 8);
        });
    }

    private static void codesByInsert() {
        EDGES.sentence("insert: a code not 32 .. 126: IllegalArgumentException");
        for (int code : new int[] {32, 33, 125, 126}) {
            EDGES.gives("code " + code, "ab", 3, s -> s.insert(1, code));
            EDGES.gives("code " + code + " is there", "ab", code, s -> {
                s.insert(1, code);
                return s.text(1);
            });
        }
        int[] wrong = {31, 127, 0, -1, 10, 128, 255, 256 + 'a', 65536 + 'a', 'a' - 256, Integer.MIN_VALUE, Integer.MAX_VALUE};
        for (int code : wrong) {
            for (String text : TEXTS) {
                EDGES.refuses("code " + code, text, Check.ARGUMENT, s -> s.insert(0, code));
            }
        }
    }

    private static void codesByAppend() {
        EDGES.sentence("append: n or a code out of range: IllegalArgumentException");
        for (int i = 0; i < 8; i++) {
            int at = i;
            for (int code : new int[] {32, 33, 125, 126}) {
                long value = withByte(at, code);
                EDGES.gives("code " + code + " at byte " + at, "", 8, s -> s.append(value, 8));
                EDGES.gives("code " + code + " at byte " + at + " is there", "", code, s -> {
                    s.append(value, 8);
                    return s.text(7 - at);
                });
            }
            for (int code : new int[] {31, 127, 0, 128, 128 + 'a', 255}) {
                long value = withByte(at, code);
                EDGES.refuses("code " + code + " at byte " + at, "class A", Check.ARGUMENT, s -> s.append(value, 8));
                EDGES.refuses("code " + code + " at the uppermost of " + (at + 1), "class A", Check.ARGUMENT, s -> s.append(value, at + 1));
                EDGES.gives("code " + code + " above the " + at + " lowest", "12345678", 8 + at, s -> at == 0 ? 8 : s.append(value, at));
            }
        }
    }

    private static long withByte(int at, int code) {
        return Check.bytes("aaaaaaaa") & ~(255L << 8 * at) | (long) code << 8 * at;
    }

    private static void newObject() {
        EDGES.sentence("makes an object in the state that the terms give");
        for (int what = 0; what <= 2; what++) {
            int counted = what;
            EDGES.gives("count " + what, "", 0, s -> s.count(counted));
        }
        EDGES.gives("diagnostics", "", 0, LanguageServer::diagnostics);
        EDGES.gives("delete", "", 0, s -> s.delete(0, 0));
        EDGES.refuses("text", "", Check.NONE, s -> s.text(0));
        EDGES.refuses("diagnostic", "", Check.NONE, s -> s.diagnostic(0, 0));
        EDGES.meansNothing("", 0);
        EDGES.refuses("members", "", Check.NONE, s -> s.members(0));
        EDGES.refuses("member", "", Check.NONE, s -> s.member(0, 0));
        LanguageServer edited = Check.server(SOUND);
        EDGES.same("it has nothing of another object", Whole.of(LanguageServer::new), Whole.of(() -> Check.server("")));
        EDGES.same("nor has another one of it", Check.textOf(edited), SOUND);
    }

    private static void insertPlaces() {
        EDGES.sentence("Puts a character into the text before the one at the place (0 .. length)");
        EDGES.changes("place 0 of 0", "", 1, "x", s -> s.insert(0, 'x'));
        EDGES.changes("place 0", "ab", 3, "xab", s -> s.insert(0, 'x'));
        EDGES.changes("place 1", "ab", 3, "axb", s -> s.insert(1, 'x'));
        EDGES.changes("the length", "ab", 3, "abx", s -> s.insert(2, 'x'));
        EDGES.sentence("insert: Place out of range: IllegalArgumentException");
        for (String text : TEXTS) {
            for (int place : outside(text)) {
                EDGES.refuses("place " + place, text, Check.ARGUMENT, s -> s.insert(place, 'x'));
            }
        }
    }

    /** Places that are neither of a text nor just behind it. */
    private static int[] outside(String text) {
        return new int[] {-1, text.length() + 1, -text.length() - 1, 241, Integer.MIN_VALUE, Integer.MAX_VALUE};
    }

    private static void insertAnswers() {
        EDGES.sentence("insert: answers the new length");
        EDGES.gives("the first", "", 1, s -> s.insert(0, '{'));
        EDGES.gives("the last", blanksTo(239), 240, s -> s.insert(239, '{'));
    }

    private static void insertOrder() {
        EDGES.sentence("insert: the first of them that fits is thrown");
        EDGES.refuses("full, and a wrong code", FULL, Check.ARGUMENT, s -> s.insert(240, 127));
        EDGES.refuses("full, and a wrong place", FULL, Check.ARGUMENT, s -> s.insert(241, 'a'));
        EDGES.refuses("full, and both wrong", FULL, Check.ARGUMENT, s -> s.insert(-1, 31));
        EDGES.refuses("both wrong", SOUND, Check.ARGUMENT, s -> s.insert(-1, 31));
    }

    private static void appendBytes() {
        EDGES.sentence("Puts the n (1 .. 8) lowest bytes of a value");
        EDGES.changes("n 1", "ab", 3, "abh", s -> s.append(Check.bytes("abcdefgh"), 1));
        EDGES.changes("n 2", "ab", 4, "abgh", s -> s.append(Check.bytes("abcdefgh"), 2));
        EDGES.changes("n 7", "ab", 9, "abbcdefgh", s -> s.append(Check.bytes("abcdefgh"), 7));
        EDGES.changes("n 8", "ab", 10, "ababcdefgh", s -> s.append(Check.bytes("abcdefgh"), 8));
        EDGES.changes("the highest bit above them", "", 1, "a", s -> s.append(Long.MIN_VALUE | 'a', 1));
        EDGES.changes("all bits above them", "", 1, "a", s -> s.append(-1L << 8 | 'a', 1));
        for (int n : new int[] {0, -1, 9, 16, -8, 257, 256 + 8, Integer.MIN_VALUE, Integer.MAX_VALUE}) {
            for (String text : TEXTS) {
                EDGES.refuses("n " + n, text, Check.ARGUMENT, s -> s.append(Check.bytes("abcdefgh"), n));
            }
        }
    }

    private static void appendOrderOfBytes() {
        EDGES.sentence("the most significant first, behind the text; answers the new length");
        EDGES.changes("two", "", 2, "ab", s -> s.append('a' << 8 | 'b', 2));
        EDGES.changes("into a text", "class ", 9, "class A{}", s -> s.append(Check.bytes("A{}"), 3));
    }

    private static void appendOrder() {
        EDGES.sentence("append: the first of them that fits is thrown");
        EDGES.refuses("full, and n 0", FULL, Check.ARGUMENT, s -> s.append('a', 0));
        EDGES.refuses("full, and n 9", FULL, Check.ARGUMENT, s -> s.append('a', 9));
        EDGES.refuses("full, and a wrong code", FULL, Check.ARGUMENT, s -> s.append(127, 1));
        EDGES.refuses("almost full, and a wrong code", blanksTo(239), Check.ARGUMENT, s -> s.append('a', 2));
    }

    private static void deleteRange() {
        EDGES.sentence("Takes the n characters (0 or more) from the place on out of the text; answers the new length");
        EDGES.changes("none of none", "", 0, "", s -> s.delete(0, 0));
        EDGES.changes("none", "abc", 3, "abc", s -> s.delete(1, 0));
        EDGES.changes("none at the end", "abc", 3, "abc", s -> s.delete(3, 0));
        EDGES.changes("the first", "abc", 2, "bc", s -> s.delete(0, 1));
        EDGES.changes("the last", "abc", 2, "ab", s -> s.delete(2, 1));
        EDGES.changes("all but the first", "abc", 1, "a", s -> s.delete(1, 2));
        EDGES.changes("all", "abc", 0, "", s -> s.delete(0, 3));
        EDGES.changes("all of a full text", FULL, 0, "", s -> s.delete(0, 240));
        EDGES.changes("all but one of a full text", FULL, 1, "c", s -> s.delete(1, 239));
        EDGES.sentence("delete: Out of range: IllegalArgumentException");
        for (String text : TEXTS) {
            int length = text.length();
            EDGES.refuses("n -1", text, Check.ARGUMENT, s -> s.delete(0, -1));
            EDGES.refuses("n -1 at the end", text, Check.ARGUMENT, s -> s.delete(length, -1));
            EDGES.refuses("one more than all", text, Check.ARGUMENT, s -> s.delete(0, length + 1));
            EDGES.refuses("one at the end", text, Check.ARGUMENT, s -> s.delete(length, 1));
            EDGES.refuses("all from the second on, and one", text, Check.ARGUMENT, s -> s.delete(1, length));
            EDGES.refuses("none behind the end", text, Check.ARGUMENT, s -> s.delete(length + 1, 0));
            EDGES.refuses("back from behind the end", text, Check.ARGUMENT, s -> s.delete(length + 1, -1));
            EDGES.refuses("place -1", text, Check.ARGUMENT, s -> s.delete(-1, 1));
            EDGES.refuses("place -1, none", text, Check.ARGUMENT, s -> s.delete(-1, 0));
        }
    }

    private static void deleteWrapsNowhere() {
        EDGES.sentence("delete: Out of range: IllegalArgumentException, where place and n together wrap around");
        int[] far = {Integer.MIN_VALUE, Integer.MIN_VALUE + 1, Integer.MAX_VALUE - 1, Integer.MAX_VALUE};
        for (int one : far) {
            EDGES.refuses("n " + one, SOUND, Check.ARGUMENT, s -> s.delete(1, one));
            EDGES.refuses("n " + one + " at the end", SOUND, Check.ARGUMENT, s -> s.delete(SOUND.length(), one));
            EDGES.refuses("place " + one, SOUND, Check.ARGUMENT, s -> s.delete(one, 0));
            for (int other : far) {
                EDGES.refuses("place " + one + ", n " + other, SOUND, Check.ARGUMENT, s -> s.delete(one, other));
            }
        }
    }

    private static void textPlaces() {
        EDGES.sentence("The character at a place. There is none: NoSuchElementException");
        EDGES.gives("place 0", "abc", 'a', s -> s.text(0));
        EDGES.gives("the last", "abc", 'c', s -> s.text(2));
        EDGES.refuses("behind the last", "abc", Check.NONE, s -> s.text(3));
        for (String text : TEXTS) {
            EDGES.refuses("the length", text, Check.NONE, s -> s.text(text.length()));
            for (int place : outside(text)) {
                EDGES.refuses("place " + place, text, Check.NONE, s -> s.text(place));
            }
        }
        EDGES.gives("where one was taken out, the next", "abc", 'c', s -> {
            s.delete(1, 1);
            return s.text(1);
        });
        EDGES.same("where the last was taken out, none", Check.outcome(() -> {
            LanguageServer server = Check.server("abc");
            server.delete(2, 1);
            return server.text(2);
        }), Check.NONE);
    }

    private static void countClasses() {
        EDGES.sentence("The number of classes (0)");
        EDGES.gives("none", "", 0, s -> s.count(0));
        EDGES.gives("one", "class A{}", 1, s -> s.count(0));
        EDGES.gives("as many as there is room for", "class A{}".repeat(26), 26, s -> s.count(0));
        EDGES.gives("of one name, too", "class A{}class A{}", 2, s -> s.count(0));
        EDGES.gives("none with a fault", "class A{}class B{}class", 0, s -> s.count(0));
    }

    private static void countTokens() {
        EDGES.sentence("tokens (1; with a fault, those before it)");
        EDGES.gives("none", "  ", 0, s -> s.count(1));
        EDGES.gives("without a fault", SOUND, 20, s -> s.count(1));
        EDGES.gives("120", "class A{int f(){" + "1;".repeat(55) + "}}", 120, s -> s.count(1));
        EDGES.gives("before the 121st", "class A{int f(){" + "1;".repeat(56) + "}}", 120, s -> s.count(1));
        EDGES.gives("a fault at the first", "{class A{}", 0, s -> s.count(1));
        EDGES.gives("a fault at the second", "class{}", 1, s -> s.count(1));
        EDGES.gives("a fault at the last", "class A{};", 4, s -> s.count(1));
        EDGES.gives("a bad one", "class A{}$", 4, s -> s.count(1));
        EDGES.gives("one lacks", "class A{ ", 3, s -> s.count(1));
    }

    private static void countCharacters() {
        EDGES.sentence("characters (2)");
        EDGES.gives("none", "", 0, s -> s.count(2));
        EDGES.gives("all", FULL, 240, s -> s.count(2));
        EDGES.gives("with a fault, too", "class $ A", 9, s -> s.count(2));
    }

    private static void countOthers() {
        EDGES.sentence("count: Another what: IllegalArgumentException");
        for (String text : TEXTS) {
            for (int what : new int[] {-1, 3, 4, 256, -256, Integer.MIN_VALUE, Integer.MAX_VALUE}) {
                EDGES.refuses("what " + what, text, Check.ARGUMENT, s -> s.count(what));
            }
        }
    }
}
