import java.util.ArrayList;
import java.util.HashMap;
import java.util.LinkedHashMap;
import java.util.List;
import java.util.Map;
import java.util.TreeMap;
import java.util.TreeSet;

/**
 * The document once more, for comparing: a text read by recursive descent into a tree, which is then judged.
 * It shares neither code nor way of working with the program.
 */
final class Model {
    static final int INT = -1;
    static final int UNKNOWN = -2;
    private static final List<String> WORDS = List.of("class", "extends", "int", "return", "new", "this");

    record Token(int start, int end, String word, char sort) {
        // sort: N a name, W another word, 9 a number, S a sign, ! a bad one
        boolean is(String wanted) {
            return sort != '!' && word.equals(wanted);
        }
    }

    static final class Decl {
        final Token name;
        final char kind; // C class, F field, M method, V parameter or local
        int type = UNKNOWN;
        Decl owner;
        Token typeToken;
        Token superToken;
        int superclass = -1;
        int number = -1;
        final List<Decl> members = new ArrayList<>();
        final List<Decl> parameters = new ArrayList<>();
        final List<Statement> statements = new ArrayList<>();

        Decl(Token name, char kind) {
            this.name = name;
            this.kind = kind;
        }
    }

    record Statement(Decl local, Expr left, Expr right, boolean returns) {
    }

    static final class Expr {
        final char kind; // + sum, 9 number, t this, n new, v variable, c call, f field, m method call, ( brackets
        final Token first;
        Token name;
        Expr left;
        final List<Expr> parts = new ArrayList<>();

        Expr(char kind, Token first) {
            this.kind = kind;
            this.first = first;
        }
    }

    private static final class Fault extends RuntimeException {
        private static final long serialVersionUID = 1L;
        final int place;
        final int before;

        Fault(int place, int before) {
            this.place = place;
            this.before = before;
        }
    }

    final String text;
    final List<Token> tokens = new ArrayList<>();
    final List<Decl> classes = new ArrayList<>();
    final Map<Token, Decl> meaning = new HashMap<>();
    /** Place, then kinds. */
    final TreeMap<Integer, TreeSet<Integer>> found = new TreeMap<>();
    int tokenCount;
    private final Map<String, Decl> classNames = new HashMap<>();
    private int at;

    Model(String text) {
        this.text = text;
        cut();
        try {
            while (at < tokens.size()) {
                parseClass();
            }
            tokenCount = tokens.size();
            resolve();
        } catch (Fault fault) {
            classes.clear();
            tokenCount = fault.before;
            complain(fault.place, 0);
        }
    }

    private void cut() {
        int i = 0;
        while (i < text.length()) {
            if (text.charAt(i) == ' ') {
                i++;
                continue;
            }
            int j = i + 1;
            char c = text.charAt(i);
            char sort = "{}();,.=+".indexOf(c) >= 0 ? 'S' : '!';
            if (letter(c)) {
                while (j < text.length() && (letter(text.charAt(j)) || digit(text.charAt(j)))) {
                    j++;
                }
                sort = j - i > 8 ? '!' : WORDS.contains(text.substring(i, j)) ? 'W' : 'N';
            } else if (digit(c)) {
                while (j < text.length() && digit(text.charAt(j))) {
                    j++;
                }
                sort = j - i > 6 ? '!' : '9';
            }
            tokens.add(new Token(i, j, text.substring(i, j), tokens.size() >= 120 ? '!' : sort));
            i = j;
        }
    }

    private static boolean letter(char c) {
        return c >= 'a' && c <= 'z' || c >= 'A' && c <= 'Z';
    }

    private static boolean digit(char c) {
        return c >= '0' && c <= '9';
    }

    // --- grammar

    private Fault fault() {
        return at < tokens.size() ? new Fault(tokens.get(at).start(), at)
                : new Fault(tokens.get(tokens.size() - 1).end(), tokens.size());
    }

    private boolean sees(String word) {
        return at < tokens.size() && tokens.get(at).is(word);
    }

    private boolean seesSort(int ahead, char sort) {
        return at + ahead < tokens.size() && tokens.get(at + ahead).sort() == sort;
    }

    private boolean accept(String word) {
        if (sees(word)) {
            at++;
            return true;
        }
        return false;
    }

    private void expect(String word) {
        if (!accept(word)) {
            throw fault();
        }
    }

    private Token name() {
        if (!seesSort(0, 'N')) {
            throw fault();
        }
        return tokens.get(at++);
    }

    private Token type() {
        if (sees("int")) {
            return tokens.get(at++);
        }
        return name();
    }

    private void parseClass() {
        expect("class");
        Decl made = new Decl(name(), 'C');
        made.number = classes.size();
        made.type = made.number;
        if (accept("extends")) {
            made.superToken = name();
        }
        expect("{");
        while (!accept("}")) {
            parseMember(made);
        }
        classes.add(made);
    }

    private void parseMember(Decl owner) {
        Token type = type();
        Token name = name();
        Decl made;
        if (accept(";")) {
            made = new Decl(name, 'F');
        } else {
            made = new Decl(name, 'M');
            expect("(");
            if (!accept(")")) {
                do {
                    Token parameterType = type();
                    Decl parameter = new Decl(name(), 'V');
                    parameter.typeToken = parameterType;
                    made.parameters.add(parameter);
                } while (accept(","));
                expect(")");
            }
            expect("{");
            while (!accept("}")) {
                made.statements.add(parseStatement());
            }
        }
        made.typeToken = type;
        made.owner = owner;
        owner.members.add(made);
    }

    private Statement parseStatement() {
        if (sees("int") || seesSort(0, 'N') && seesSort(1, 'N')) {
            Token type = type();
            Decl local = new Decl(name(), 'V');
            local.typeToken = type;
            expect("=");
            Expr value = parseExpression(0);
            expect(";");
            return new Statement(local, null, value, false);
        }
        if (accept("return")) {
            Expr value = parseExpression(0);
            expect(";");
            return new Statement(null, null, value, true);
        }
        Expr left = parseExpression(0);
        Expr right = accept("=") ? parseExpression(0) : null;
        expect(";");
        return new Statement(null, left, right, false);
    }

    private Expr parseExpression(int depth) {
        Expr first = parseTerm(depth);
        if (!sees("+")) {
            return first;
        }
        Expr sum = new Expr('+', first.first);
        sum.parts.add(first);
        while (accept("+")) {
            sum.parts.add(parseTerm(depth));
        }
        return sum;
    }

    private Expr parseTerm(int depth) {
        Expr term = parsePrimary(depth);
        while (accept(".")) {
            Token name = name();
            Expr outer = new Expr(sees("(") ? 'm' : 'f', term.first);
            outer.left = term;
            outer.name = name;
            if (sees("(")) {
                parseArguments(outer, depth);
            }
            term = outer;
        }
        return term;
    }

    private Expr parsePrimary(int depth) {
        Token first = at < tokens.size() ? tokens.get(at) : null;
        if (seesSort(0, 'N')) {
            at++;
            Expr made = new Expr(sees("(") ? 'c' : 'v', first);
            made.name = first;
            if (sees("(")) {
                parseArguments(made, depth);
            }
            return made;
        }
        if (seesSort(0, '9')) {
            at++;
            return new Expr('9', first);
        }
        if (accept("this")) {
            return new Expr('t', first);
        }
        if (accept("new")) {
            Expr made = new Expr('n', first);
            made.name = name();
            return made;
        }
        if (sees("(") && depth < 8) {
            at++;
            Expr made = new Expr('(', first);
            made.parts.add(parseExpression(depth + 1));
            expect(")");
            return made;
        }
        throw fault();
    }

    private void parseArguments(Expr call, int depth) {
        if (depth == 8) {
            throw fault();
        }
        expect("(");
        if (accept(")")) {
            return;
        }
        do {
            call.parts.add(parseExpression(depth + 1));
        } while (accept(","));
        expect(")");
    }

    // --- meaning

    private void complain(int place, int kind) {
        found.computeIfAbsent(place, p -> new TreeSet<>()).add(kind);
    }

    private void resolve() {
        for (Decl c : classes) {
            if (classNames.putIfAbsent(c.name.word(), c) == null) {
                meaning.put(c.name, c);
            } else {
                complain(c.name.start(), 1);
            }
        }
        int[] target = new int[classes.size()];
        for (Decl c : classes) {
            target[c.number] = c.superToken == null ? -1 : Math.max(-1, typeOf(c.superToken));
        }
        for (Decl c : classes) {
            List<Integer> seen = new ArrayList<>();
            int next = target[c.number];
            while (next >= 0 && !seen.contains(next)) {
                seen.add(next);
                next = target[next];
            }
            if (seen.contains(c.number)) {
                complain(c.superToken.start(), 3);
                meaning.remove(c.superToken);
            } else {
                c.superclass = target[c.number];
            }
        }
        for (Decl c : classes) {
            List<String> names = new ArrayList<>();
            for (Decl m : c.members) {
                m.type = typeOf(m.typeToken);
                declare(m, names, 4);
                List<String> variables = new ArrayList<>();
                for (Decl p : m.parameters) {
                    p.type = typeOf(p.typeToken);
                    declare(p, variables, 5);
                }
                for (Statement s : m.statements) {
                    if (s.local() != null) {
                        s.local().type = typeOf(s.local().typeToken);
                        declare(s.local(), variables, 5);
                    }
                }
            }
        }
        for (Decl c : classes) {
            for (Decl m : c.members) {
                judge(c, m);
            }
        }
    }

    private void declare(Decl made, List<String> before, int kind) {
        if (before.contains(made.name.word())) {
            complain(made.name.start(), kind);
        } else {
            before.add(made.name.word());
            meaning.put(made.name, made);
        }
    }

    private int typeOf(Token token) {
        if (token.is("int")) {
            return INT;
        }
        Decl named = classNames.get(token.word());
        if (named == null) {
            complain(token.start(), 2);
            return UNKNOWN;
        }
        meaning.put(token, named);
        return named.number;
    }

    Map<String, Decl> membersOf(int number) {
        Map<String, Decl> all = new TreeMap<>();
        for (int c = number; c >= 0; c = classes.get(c).superclass) {
            for (Decl m : classes.get(c).members) {
                all.putIfAbsent(m.name.word(), m);
            }
        }
        return all;
    }

    private void judge(Decl c, Decl m) {
        Map<String, Decl> variables = new LinkedHashMap<>();
        for (Decl p : m.parameters) {
            variables.putIfAbsent(p.name.word(), p);
        }
        for (Statement s : m.statements) {
            int should = UNKNOWN;
            if (s.returns()) {
                should = m.type;
            }
            if (s.left() != null) {
                int type = judge(s.left(), c, variables);
                if (s.right() != null) {
                    should = type;
                    if (s.left().kind != 'v' && s.left().kind != 'f') {
                        complain(s.left().first.start(), 10);
                    }
                }
            }
            if (s.local() != null) {
                should = s.local().type;
            }
            if (s.right() != null) {
                want(s.right(), judge(s.right(), c, variables), should);
            }
            if (s.local() != null) {
                variables.putIfAbsent(s.local().name.word(), s.local());
            }
        }
    }

    private void want(Expr e, int type, int should) {
        if (type == UNKNOWN || should == UNKNOWN || type == should) {
            return;
        }
        if (type >= 0 && should >= 0) {
            for (int c = type; c >= 0; c = classes.get(c).superclass) {
                if (c == should) {
                    return;
                }
            }
        }
        complain(e.first.start(), 9);
    }

    private int judge(Expr e, Decl c, Map<String, Decl> variables) {
        switch (e.kind) {
            case '9':
                return INT;
            case 't':
                return c.number;
            case 'n':
                return typeOf(e.name);
            case '(':
                return judge(e.parts.get(0), c, variables);
            case '+':
                for (Expr part : e.parts) {
                    want(part, judge(part, c, variables), INT);
                }
                return INT;
            default:
                return judgeName(e, c, variables);
        }
    }

    private int judgeName(Expr e, Decl c, Map<String, Decl> variables) {
        boolean behindDot = e.left != null;
        boolean call = e.kind == 'c' || e.kind == 'm';
        int before = behindDot ? judge(e.left, c, variables) : c.number;
        Decl named = null;
        if (e.kind == 'v') {
            named = variables.get(e.name.word());
        }
        if (named == null && before >= 0) {
            named = membersOf(before).get(e.name.word());
            if (named != null && named.kind != (call ? 'M' : 'F')) {
                named = null;
            }
        }
        if (named != null) {
            meaning.put(e.name, named);
        } else if (before != UNKNOWN) {
            complain(e.name.start(), behindDot ? 7 : 6);
        }
        boolean fits = named != null && call && named.parameters.size() == e.parts.size();
        if (named != null && call && !fits) {
            complain(e.name.start(), 8);
        }
        for (int i = 0; i < e.parts.size(); i++) {
            int type = judge(e.parts.get(i), c, variables);
            if (fits) {
                want(e.parts.get(i), type, named.parameters.get(i).type);
            }
        }
        return named == null ? UNKNOWN : named.type;
    }

    // --- questions

    String diagnostics() {
        StringBuilder all = new StringBuilder();
        for (Map.Entry<Integer, TreeSet<Integer>> entry : found.entrySet()) {
            for (int kind : entry.getValue()) {
                all.append(all.length() == 0 ? "" : " ").append(kind).append('@').append(entry.getKey());
            }
        }
        return all.toString();
    }

    int diagnosticCount() {
        int total = 0;
        for (TreeSet<Integer> kinds : found.values()) {
            total += kinds.size();
        }
        return total;
    }

    Decl meaningAt(int place) {
        for (Token token : tokens) {
            if (token.start() <= place && place < token.end()) {
                return meaning.get(token);
            }
        }
        return null;
    }

    boolean hasFault() {
        for (TreeSet<Integer> kinds : found.values()) {
            if (kinds.contains(0)) {
                return true;
            }
        }
        return false;
    }

    List<Integer> uses(Decl declaration) {
        List<Integer> indices = new ArrayList<>();
        for (int i = 0; i < tokens.size(); i++) {
            if (meaning.get(tokens.get(i)) == declaration) {
                indices.add(i);
            }
        }
        return indices;
    }

    /** The text after a rename, or the name of the exception that is due. */
    String renamed(int place, String name) {
        Decl declaration = meaningAt(place);
        if (declaration == null) {
            return Check.NONE;
        }
        if (!name.matches("[a-zA-Z][a-zA-Z0-9]{0,7}") || WORDS.contains(name)) {
            return Check.ARGUMENT;
        }
        List<Integer> uses = uses(declaration);
        StringBuilder made = new StringBuilder(text);
        for (int i = uses.size() - 1; i >= 0; i--) {
            made.replace(tokens.get(uses.get(i)).start(), tokens.get(uses.get(i)).end(), name);
        }
        if (made.length() > 240) {
            return Check.STATE;
        }
        Model then = new Model(made.toString());
        if (then.diagnosticCount() != diagnosticCount()) {
            return Check.STATE;
        }
        Decl newMeaning = then.meaning.get(then.tokens.get(uses.get(0)));
        if (newMeaning == null || !then.uses(newMeaning).equals(uses)) {
            return Check.STATE;
        }
        return made.toString();
    }
}
