/** The sentences that name a boundary of rename: promise 14. */
final class RenameEdgeTest {
    private static final Edges EDGES = new Edges();
    private static final String FIELD = "class A{int a;int f(){a;}}";

    public static void main(String[] args) {
        nameAndAllThatHaveTheSameMeaning();
        lowestBytes();
        mostSignificantFirst();
        howManyWereChanged();
        noSuchName();
        noName();
        noNameWords();
        tooLong();
        otherNumberOfDiagnostics();
        sameNumberOfDiagnostics();
        tokensOfOtherMeanings();
        tokensLost();
        firstThatFits();
        nothingIsChanged();
        EDGES.close("RenameEdgeTest");
    }

    /** The name at the mark ^ can be changed, and the text is then this one. */
    private static void renamed(String marked, String name, int changed, String after) {
        int place = marked.indexOf('^');
        EDGES.changes("rename to " + name, Edges.unmarked(marked), changed, after, s -> Check.rename(s, place, name));
    }

    private static void refused(String marked, String name, String exception) {
        int place = marked.indexOf('^');
        EDGES.refuses("rename to " + name, Edges.unmarked(marked), exception, s -> Check.rename(s, place, name));
    }

    private static void nameAndAllThatHaveTheSameMeaning() {
        EDGES.sentence("Changes that name, and all that have the same meaning");
        renamed("class A{int ^a;}", "b", 1, "class A{int b;}");
        renamed("class A{int ^a;int f(){a;}}", "b", 2, "class A{int b;int f(){b;}}");
        renamed("class A{int a;int f(){^a;}}", "b", 2, "class A{int b;int f(){b;}}");
        renamed("class A{int abc;int f(){ab^c;}}", "b", 2, "class A{int b;int f(){b;}}");
        renamed("class B extends A{A a;A f(A b){A c=new ^A;}}class A{}", "C", 7, "class B extends C{C a;C f(C b){C c=new C;}}class C{}");
        renamed("class A{A ^A;A f(A A){return A.A;}}", "a", 2, "class A{A a;A f(A A){return A.a;}}");
        renamed("class A{A A;A f(A ^A){return A.A;}}", "a", 2, "class A{A A;A f(A a){return a.A;}}");
        renamed("class ^A{A A;A f(A A){return A.A;}}", "B", 4, "class B{B A;B f(B A){return A.A;}}");
        renamed("class A{int f(){f();this.^f();}}", "long1234", 3, "class A{int long1234(){long1234();this.long1234();}}");
        renamed("class A{int longname;int f(){^longname;}}", "x", 2, "class A{int x;int f(){x;}}");
        renamed("class A{int a;int f(){a;int ^b=a;b;}}", "cc", 2, "class A{int a;int f(){a;int cc=a;cc;}}");
    }

    private static void lowestBytes() {
        EDGES.sentence("to the name of the n (1 .. 8) lowest bytes of a value");
        String all = "bcdefghi";
        for (int i = 1; i <= 8; i++) {
            int n = i;
            String name = all.substring(8 - n);
            EDGES.changes("n " + n, FIELD, 2, FIELD.replace("a;", name + ";"), s -> s.rename(12, Check.bytes(all), n));
        }
        EDGES.changes("other bytes above them", FIELD, 2, FIELD.replace("a;", "bc;"), s -> s.rename(12, Check.bytes("$ {}1;bc"), 2));
        EDGES.changes("all bits above them", FIELD, 2, FIELD.replace("a;", "b;"), s -> s.rename(12, -1L << 8 | 'b', 1));
        EDGES.changes("a word above them", FIELD, 2, FIELD.replace("a;", "nt;"), s -> s.rename(12, Check.bytes("int"), 2));
        for (int n : new int[] {0, -1, 9, 10, 16, 256 + 1, -8, Integer.MIN_VALUE, Integer.MAX_VALUE}) {
            EDGES.refuses("n " + n, FIELD, Check.ARGUMENT, s -> s.rename(12, Check.bytes(all), n));
            EDGES.refuses("n " + n + ", one byte", FIELD, Check.ARGUMENT, s -> s.rename(12, 'b', n));
        }
    }

    private static void mostSignificantFirst() {
        EDGES.sentence("rename: the most significant first");
        EDGES.changes("two", FIELD, 2, FIELD.replace("a;", "b1;"), s -> s.rename(12, 'b' << 8 | '1', 2));
        EDGES.refuses("two the other way round", FIELD, Check.ARGUMENT, s -> s.rename(12, '1' << 8 | 'b', 2));
    }

    private static void howManyWereChanged() {
        EDGES.sentence("answers how many tokens were changed");
        renamed("class ^A{}", "B", 1, "class B{}");
        String many = "class A{int a;int f(){a;" + "a=a;".repeat(24) + "}}";
        EDGES.changes("50", many, 50, many.replace("a;", "b;").replace("a=", "b="), s -> Check.rename(s, 12, "b"));
        renamed("class A{int ^a;int f(){a;}}", "a", 2, FIELD);
    }

    private static void noSuchName() {
        EDGES.sentence("rename: NoSuchElementException as before");
        for (int place : new int[] {-1, 0, 5, 7, 8, 13, 25, 26, 240, Integer.MIN_VALUE, Integer.MAX_VALUE}) {
            EDGES.refuses("place " + place, FIELD, Check.NONE, s -> Check.rename(s, place, "b"));
        }
        refused("class A{}class ^A{}", "B", Check.NONE);
        refused("class A{^X a;}", "B", Check.NONE);
        refused("class A extends ^A{}", "B", Check.NONE);
        refused("class A{int a;int ^a;}", "b", Check.NONE);
        refused("class A{int f(int a,int ^a){}}", "b", Check.NONE);
        refused("class A{int f(){^a;}}", "b", Check.NONE);
        refused("class A{int f(){this.^a;}}", "b", Check.NONE);
        refused("class A{int a;int f(){x.^a;}}", "b", Check.NONE);
        refused("class ^A{", "B", Check.NONE);
        EDGES.refuses("an empty text", "", Check.NONE, s -> Check.rename(s, 0, "b"));
    }

    private static void noName() {
        EDGES.sentence("It is no NAME: IllegalArgumentException");
        for (int i = 0; i <= 255; i++) {
            int code = i;
            boolean letter = code >= 'a' && code <= 'z' || code >= 'A' && code <= 'Z';
            boolean digit = code >= '0' && code <= '9';
            byteOfAName(letter, code, 1, code);
            byteOfAName(letter, code, 8, withByte(7, code));
            for (int at = 0; at < 7; at++) {
                byteOfAName(letter || digit, code, 8, withByte(at, code));
            }
        }
    }

    private static long withByte(int at, int code) {
        return Check.bytes("bbbbbbbb") & ~(255L << 8 * at) | (long) code << 8 * at;
    }

    private static void byteOfAName(boolean right, int code, int n, long value) {
        String what = "code " + code + " in a name of " + n;
        if (right) {
            EDGES.gives(what, "class A{int a;}", 1, s -> s.rename(12, value, n));
        } else {
            EDGES.refuses(what, "class A{int a;}", Check.ARGUMENT, s -> s.rename(12, value, n));
        }
    }

    private static void noNameWords() {
        EDGES.sentence("The words class, extends, int, return, new and this are no NAMES; all others are");
        for (String word : new String[] {"class", "extends", "int", "return", "new", "this"}) {
            refused("class A{int ^a;int f(){a;}}", word, Check.ARGUMENT);
            refused("class ^A{}", word, Check.ARGUMENT);
            String shorter = word.substring(1);
            renamed("class A{int ^a;int f(){a;}}", shorter, 2, FIELD.replace("a;", shorter + ";"));
            renamed("class A{int ^a;int f(){a;}}", word + "1", 2, FIELD.replace("a;", word + "1;"));
            String upper = word.toUpperCase();
            renamed("class A{int ^a;int f(){a;}}", upper, 2, FIELD.replace("a;", upper + ";"));
        }
    }

    private static void tooLong() {
        EDGES.sentence("The text would have more than 240 characters: IllegalStateException");
        for (int uses = 1; uses <= 5; uses++) {
            for (int growth = 1; growth <= 7; growth++) {
                String text = "class A{int a;int f(){" + "a;".repeat(uses - 1) + "}}";
                String name = "b".repeat(1 + growth);
                String fits = text + " ".repeat(240 - uses * growth - text.length());
                EDGES.changes("to 240 characters", fits, uses, fits.replace("a;", name + ";"), s -> Check.rename(s, 12, name));
                EDGES.refuses("to 241 characters", fits + " ", Check.STATE, s -> Check.rename(s, 12, name));
            }
        }
        String full = FIELD + " ".repeat(240 - FIELD.length());
        EDGES.changes("as long as before", full, 2, full.replace("a;", "b;"), s -> Check.rename(s, 12, "b"));
        EDGES.refuses("longer", full, Check.STATE, s -> Check.rename(s, 12, "bb"));
        String longer = full.replace("a;", "abc;").substring(0, 240);
        EDGES.changes("shorter", longer, 2, longer.replace("abc;", "b;"), s -> Check.rename(s, 12, "b"));
    }

    private static void otherNumberOfDiagnostics() {
        EDGES.sentence("the number of diagnostics would be another one: IllegalStateException");
        // one more
        refused("class ^A{}class B{}", "B", Check.STATE);
        refused("class A{}class ^B{}", "A", Check.STATE);
        refused("class A{int ^a;int b;}", "b", Check.STATE);
        refused("class A{int a;int ^b(){}}", "a", Check.STATE);
        refused("class A{int f(int ^a,int b){}}", "b", Check.STATE);
        refused("class A{int f(int a){int ^b=1;}}", "a", Check.STATE);
        refused("class A{int a;}class B extends A{int ^b(){}int f(){a;}}", "a", Check.STATE);
        // one less
        refused("class ^A{X a;}", "X", Check.STATE);
        refused("class ^A{}class A{}", "B", Check.STATE);
        refused("class A{int ^a;int a;}", "b", Check.STATE);
        refused("class A{int f(int ^a,int a){}}", "b", Check.STATE);
        refused("class A{int ^a;int f(){x;}}", "x", Check.STATE);
        refused("class A{int ^a;int f(){this.x;}}", "x", Check.STATE);
        // many less
        refused("class ^A{X a;X b;X c;}", "X", Check.STATE);
    }

    private static void sameNumberOfDiagnostics() {
        EDGES.sentence("the number of diagnostics: others, but as many, are no matter");
        // x is then a method, so its name has diagnostic 6, and what stands behind = has no longer diagnostic 9
        renamed("class P{int x;}class Q extends P{int ^y(){}int f(){x=this;}}", "x", 1,
                "class P{int x;}class Q extends P{int x(){}int f(){x=this;}}");
        renamed("class A{X x;int ^a;int f(){a;y;}}", "b", 2, "class A{X x;int b;int f(){b;y;}}");
        renamed("class A{int ^f(){return this;}}", "g", 1, "class A{int g(){return this;}}");
        renamed("class ^A{int f(){return this;}}", "B", 1, "class B{int f(){return this;}}");
        renamed("class ^A extends X{X a;}", "B", 1, "class B extends X{X a;}");
    }

    private static void tokensOfOtherMeanings() {
        EDGES.sentence("the tokens with the same meaning as that name would then not be just those that were changed: more of them");
        refused("class A{int a;int f(int ^b){a;b;}}", "a", Check.STATE);
        refused("class A{int a;int f(){int ^b=1;a;}}", "a", Check.STATE);
        refused("class A{int a;}class B extends A{int ^b;int f(){a;}}", "a", Check.STATE);
        refused("class A{int a(){}}class B extends A{int ^b(){}int f(){a();}}", "a", Check.STATE);
        // where none of them meets the other, it can be done
        renamed("class A{int a;int f(int ^b){b;}}", "a", 2, "class A{int a;int f(int a){a;}}");
        renamed("class A{int a;int f(){a;int ^b=a;b;}}", "a", 2, "class A{int a;int f(){a;int a=a;a;}}");
        renamed("class A{int a;}class B extends A{int ^b;int f(){b;}}", "a", 2, "class A{int a;}class B extends A{int a;int f(){a;}}");
        renamed("class A{int a;int f(){a;}int g(int ^b){b;}}", "a", 2, "class A{int a;int f(){a;}int g(int a){a;}}");
        renamed("class A{int f(int a){a;}int g(int ^b){b;}}", "a", 2, "class A{int f(int a){a;}int g(int a){a;}}");
        renamed("class A{int ^a;int f(){a;}}", "A", 2, "class A{int A;int f(){A;}}");
        renamed("class A{int f(int ^a){f(a);}}", "f", 2, "class A{int f(int f){f(f);}}");
        renamed("class ^A{int a;int f(){a;}}", "a", 1, "class a{int a;int f(){a;}}");
    }

    private static void tokensLost() {
        EDGES.sentence("the tokens with the same meaning as that name would then not be just those that were changed: fewer of them");
        refused("class A{int ^a;int f(int b){a;}}", "b", Check.STATE);
        refused("class A{int ^a;int f(){int b=1;a;}}", "b", Check.STATE);
        refused("class A{int ^a;}class B extends A{int b;int f(){a;}}", "b", Check.STATE);
        refused("class A{int ^a(){}}class B extends A{int b(){}int f(){a();}}", "b", Check.STATE);
        // the use before the local, and one behind this, would not be lost
        renamed("class A{int ^a;int f(){a;int b=1;b;}}", "b", 2, "class A{int b;int f(){b;int b=1;b;}}");
        renamed("class A{int ^a;int f(int b){this.a;}}", "b", 2, "class A{int b;int f(int b){this.b;}}");
        renamed("class A{int ^a;}class B extends A{int b;int f(){new A.a;}}", "b", 2, "class A{int b;}class B extends A{int b;int f(){new A.b;}}");
    }

    private static void firstThatFits() {
        EDGES.sentence("rename: the first of them that fits is thrown");
        String full = "class A{int a;int b;}" + " ".repeat(219);
        EDGES.refuses("no such name, no NAME, too long", full, Check.NONE, s -> Check.rename(s, 7, "1aaaaaaa"));
        EDGES.refuses("no such name, n 0", full, Check.NONE, s -> s.rename(240, 'b', 0));
        EDGES.refuses("no such name, n 9", full, Check.NONE, s -> s.rename(-1, 'b', 9));
        EDGES.refuses("no such name, too long", full, Check.NONE, s -> Check.rename(s, 8, "bb"));
        EDGES.refuses("no NAME, too long", full, Check.ARGUMENT, s -> Check.rename(s, 12, "1aaaaaaa"));
        EDGES.refuses("a word, too long", full, Check.ARGUMENT, s -> Check.rename(s, 12, "extends"));
        EDGES.refuses("n 0 in a full text", full, Check.ARGUMENT, s -> s.rename(12, 'b', 0));
        EDGES.refuses("n 9 in a full text", full, Check.ARGUMENT, s -> s.rename(12, Check.bytes("bbbbbbbb"), 9));
        EDGES.refuses("too long", full, Check.STATE, s -> Check.rename(s, 12, "cc"));
        EDGES.refuses("another diagnostic", full, Check.STATE, s -> Check.rename(s, 12, "b"));
        EDGES.changes("none of them", full, 1, full.replace("a;", "c;"), s -> Check.rename(s, 12, "c"));
    }

    private static void nothingIsChanged() {
        EDGES.sentence("nothing is changed by that");
        String text = "class A{int a;int b;int f(int c){a+b+c;}}";
        EDGES.changes("a rename after refused ones", text, 2, text.replace("a;", "d;").replace("a+", "d+"), s -> {
            Check.outcome(() -> Check.rename(s, 12, "b"));
            Check.outcome(() -> Check.rename(s, 12, "c"));
            Check.outcome(() -> Check.rename(s, 12, "int"));
            return Check.rename(s, 12, "d");
        });
        EDGES.changes("there and back", text, 2, text, s -> {
            Check.rename(s, 12, "longname");
            Check.outcome(() -> Check.rename(s, 12, "b"));
            return Check.rename(s, 12, "a");
        });
        EDGES.changes("an edit after a refused one", text, text.length() + 1, " " + text, s -> {
            Check.outcome(() -> Check.rename(s, 12, "b"));
            return s.insert(0, ' ');
        });
        EDGES.changes("an edit after one that was not refused", text, text.length() + 1, " " + text.replace("c){", "d){").replace("+c", "+d"), s -> {
            Check.rename(s, 30, "d");
            return s.insert(0, ' ');
        });
    }
}
