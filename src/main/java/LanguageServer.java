import java.util.Arrays;
import java.util.NoSuchElementException;

/** The heart of a language server for a small language of classes. */
public final class LanguageServer {
    public static final int INT = -1;
    public static final int UNKNOWN = -2;

    private static final int MAX_TEXT = 240;
    private static final int MAX_TOKENS = 120;
    private static final int MAX_DEPTH = 8;
    private static final int MAX_BYTES = 8;
    private static final int LOWEST_CODE = 32;
    private static final int HIGHEST_CODE = 126;
    /** No token, no class or no place. */
    private static final int NONE = -1;

    private Reading shown;
    private Reading trial;

    public LanguageServer() {
        shown = new Reading();
        trial = new Reading();
    }

    public int insert(int place, int code) throws IllegalArgumentException, IllegalStateException {
        Text source = shown.source;
        if (place < 0 || place > source.length || !isCode(code)) {
            throw new IllegalArgumentException("no such place or code");
        }
        if (source.length >= MAX_TEXT) {
            throw new IllegalStateException("the text is full");
        }
        source.put(place, code);
        shown.touch();
        return source.length;
    }

    public int append(long value, int n) throws IllegalArgumentException, IllegalStateException {
        Text source = shown.source;
        if (n < 1 || n > MAX_BYTES || !areCodes(value, n)) {
            throw new IllegalArgumentException("no such number of bytes or code");
        }
        if (source.length + n > MAX_TEXT) {
            throw new IllegalStateException("the text would be too long");
        }
        source.addBytes(value, n);
        shown.touch();
        return source.length;
    }

    public int delete(int place, int n) throws IllegalArgumentException {
        Text source = shown.source;
        if (place < 0 || place > source.length || n < 0 || n > source.length - place) {
            throw new IllegalArgumentException("not all of these places are in the text");
        }
        source.take(place, n);
        shown.touch();
        return source.length;
    }

    public int text(int place) throws NoSuchElementException {
        if (place < 0 || place >= shown.source.length) {
            throw new NoSuchElementException("no character at this place");
        }
        return shown.source.codes[place];
    }

    public int diagnostics() {
        shown.refresh();
        return shown.complaints.total();
    }

    public int diagnostic(int index, int what) throws NoSuchElementException, IllegalArgumentException {
        shown.refresh();
        if (index < 0 || index >= shown.complaints.total()) {
            throw new NoSuchElementException("no diagnostic at this index");
        }
        if (what == 0) {
            return shown.complaints.kindAt(index);
        }
        if (what == 1) {
            return shown.complaints.placeAt(index, shown.tokens);
        }
        throw new IllegalArgumentException("a diagnostic has a kind (0) and a place (1)");
    }

    public int definition(int place) throws NoSuchElementException {
        shown.refresh();
        return shown.tokens.start[declarationFor(place)];
    }

    public int type(int place) throws NoSuchElementException {
        shown.refresh();
        return shown.outline.typeOf[declarationFor(place)];
    }

    public int references(int place) throws NoSuchElementException {
        shown.refresh();
        return shown.uses(declarationFor(place));
    }

    public int reference(int place, int index) throws NoSuchElementException {
        shown.refresh();
        int token = shown.useAt(declarationFor(place), index);
        if (token == NONE) {
            throw new NoSuchElementException("no reference at this index");
        }
        return shown.tokens.start[token];
    }

    public int members(int number) throws NoSuchElementException {
        shown.refresh();
        if (!shown.outline.isClass(number)) {
            throw new NoSuchElementException("no such class");
        }
        return shown.outline.listMembers(number);
    }

    public int member(int number, int index) throws NoSuchElementException {
        shown.refresh();
        if (!shown.outline.isClass(number)) {
            throw new NoSuchElementException("no such class");
        }
        if (index < 0 || index >= shown.outline.listMembers(number)) {
            throw new NoSuchElementException("no member at this index");
        }
        return shown.tokens.start[shown.outline.listed[index]];
    }

    public int rename(int place, long value, int n)
            throws NoSuchElementException, IllegalArgumentException, IllegalStateException {
        shown.refresh();
        int declaration = declarationFor(place);
        if (n < 1 || n > Tokens.MAX_WORD || !Tokens.isName(value, n)) {
            throw new IllegalArgumentException("this is no name");
        }
        int changed = shown.uses(declaration);
        int growth = n - (shown.tokens.end[declaration] - shown.tokens.start[declaration]);
        if (shown.source.length + changed * growth > MAX_TEXT) {
            throw new IllegalStateException("the text would be too long");
        }
        trial.takeRenamed(shown, declaration, value, n);
        trial.refresh();
        if (!trial.agreesWith(shown, declaration)) {
            throw new IllegalStateException("the name would mean something else");
        }
        Reading before = shown;
        shown = trial;
        trial = before;
        return changed;
    }

    public int count(int what) throws IllegalArgumentException {
        shown.refresh();
        if (what == 0) {
            return shown.outline.classes;
        }
        if (what == 1) {
            return shown.outline.size;
        }
        if (what == 2) {
            return shown.source.length;
        }
        throw new IllegalArgumentException("classes (0), tokens (1) and characters (2) are counted");
    }

    /** The token that declares what the name at a place means; the text has been read before. */
    private int declarationFor(int place) {
        int declaration = shown.declarationAt(place);
        if (declaration == NONE) {
            throw new NoSuchElementException("no name with a meaning at this place");
        }
        return declaration;
    }

    private static boolean isCode(int code) {
        return code >= LOWEST_CODE && code <= HIGHEST_CODE;
    }

    private static boolean areCodes(long value, int n) {
        for (int i = 0; i < n; i++) {
            if (!isCode(byteAt(value, i))) {
                return false;
            }
        }
        return true;
    }

    /** The byte at an index counted from the lowest one. */
    private static int byteAt(long value, int index) {
        return (int) (value >>> (8 * index)) & 255;
    }

    /** The characters as they are. Its callers look at places and lengths. */
    private static final class Text {
        final int[] codes = new int[MAX_TEXT];
        int length;

        void put(int place, int code) {
            System.arraycopy(codes, place, codes, place + 1, length - place);
            codes[place] = code;
            length++;
        }

        void add(int code) {
            if (length < MAX_TEXT) {
                codes[length] = code;
                length++;
            }
        }

        /** Adds the n lowest bytes of a value, the most significant first. */
        void addBytes(long value, int n) {
            for (int i = n - 1; i >= 0; i--) {
                add(byteAt(value, i));
            }
        }

        void addPart(Text other, int from, int to) {
            for (int place = from; place < to; place++) {
                add(other.codes[place]);
            }
        }

        void take(int place, int n) {
            System.arraycopy(codes, place + n, codes, place, length - place - n);
            length -= n;
        }
    }

    /** What a token is; a sign is of the sort of its own character. */
    private static final class Sort {
        static final int BAD = 0;
        static final int NAME = 1;
        static final int NUMBER = 2;
        static final int CLASS = 3;
        static final int EXTENDS = 4;
        static final int INT_WORD = 5;
        static final int RETURN = 6;
        static final int NEW = 7;
        static final int THIS = 8;
    }

    /** The tokens of a text, up to the first that is bad in itself. */
    private static final class Tokens {
        static final int MAX_WORD = 8;
        private static final int MAX_DIGITS = 6;
        /** The 121st token has a row too, as a bad one. */
        static final int ROWS = MAX_TOKENS + 1;

        // The spellings of class, extends, int, return, new and this, which are no names.
        private static final long CLASS_WORD = 0x636C617373000000L;
        private static final long EXTENDS_WORD = 0x657874656E647300L;
        private static final long INT_WORD = 0x696E740000000000L;
        private static final long RETURN_WORD = 0x72657475726E0000L;
        private static final long NEW_WORD = 0x6E65770000000000L;
        private static final long THIS_WORD = 0x7468697300000000L;

        final int[] start = new int[ROWS];
        final int[] end = new int[ROWS];
        final int[] sort = new int[ROWS];
        /** The first eight characters, the first uppermost, zeros behind: names are ordered as these numbers are. */
        final long[] spelling = new long[ROWS];
        int size;

        void cut(Text source) {
            size = 0;
            int place = 0;
            for (int t = 0; t < ROWS; t++) {
                place = skipBlanks(source, place);
                if (place >= source.length) {
                    return;
                }
                start[t] = place;
                end[t] = endOfToken(source, place);
                spelling[t] = spell(source, place, end[t]);
                sort[t] = t < MAX_TOKENS ? sortOf(source.codes[place], t) : Sort.BAD;
                size = t + 1;
                if (sort[t] == Sort.BAD) {
                    return;
                }
                place = end[t];
            }
        }

        private static int skipBlanks(Text source, int from) {
            for (int place = from; place < source.length; place++) {
                if (source.codes[place] != ' ') {
                    return place;
                }
            }
            return source.length;
        }

        private static int endOfToken(Text source, int from) {
            boolean word = isLetter(source.codes[from]);
            if (!word && !isDigit(source.codes[from])) {
                return from + 1;
            }
            for (int place = from + 1; place < source.length; place++) {
                int code = source.codes[place];
                if (!isDigit(code) && !(word && isLetter(code))) {
                    return place;
                }
            }
            return source.length;
        }

        private static long spell(Text source, int from, int to) {
            long spelled = 0;
            for (int i = 0; i < MAX_WORD; i++) {
                int code = from + i < to ? source.codes[from + i] : 0;
                spelled = (spelled << 8) | code;
            }
            return spelled;
        }

        private int sortOf(int code, int t) {
            int length = end[t] - start[t];
            if (isLetter(code)) {
                return length > MAX_WORD ? Sort.BAD : sortOfWord(spelling[t]);
            }
            if (isDigit(code)) {
                return length > MAX_DIGITS ? Sort.BAD : Sort.NUMBER;
            }
            return isSign(code) ? code : Sort.BAD;
        }

        private static int sortOfWord(long word) {
            if (word == CLASS_WORD) {
                return Sort.CLASS;
            }
            if (word == EXTENDS_WORD) {
                return Sort.EXTENDS;
            }
            if (word == INT_WORD) {
                return Sort.INT_WORD;
            }
            if (word == RETURN_WORD) {
                return Sort.RETURN;
            }
            if (word == NEW_WORD) {
                return Sort.NEW;
            }
            return word == THIS_WORD ? Sort.THIS : Sort.NAME;
        }

        /** Whether the n (1 .. 8) lowest bytes of a value, the most significant first, are a name. */
        static boolean isName(long value, int n) {
            for (int i = 0; i < n; i++) {
                int code = byteAt(value, i);
                boolean first = i == n - 1;
                if (!isLetter(code) && (first || !isDigit(code))) {
                    return false;
                }
            }
            return sortOfWord(value << (8 * (MAX_WORD - n))) == Sort.NAME;
        }

        private static boolean isLetter(int code) {
            return (code >= 'a' && code <= 'z') || (code >= 'A' && code <= 'Z');
        }

        private static boolean isDigit(int code) {
            return code >= '0' && code <= '9';
        }

        private static boolean isSign(int code) {
            switch (code) {
                case '{':
                case '}':
                case '(':
                case ')':
                case ';':
                case ',':
                case '.':
                case '=':
                case '+':
                    return true;
                default:
                    return false;
            }
        }
    }

    /**
     * What a token does where it stands. The parser tells it, and all that comes after the parser goes by it;
     * the judge takes each group of roles together, so their order matters.
     */
    private static final class Role {
        static final int NOTHING = 0;
        // names that declare
        static final int CLASS = 1;
        static final int FIELD = 2;
        static final int METHOD = 3;
        static final int PARAMETER = 4;
        static final int LOCAL = 5;
        // names of classes
        static final int SUPER = 6;
        static final int TYPE = 7;
        static final int NEW = 8;
        // operands: names with arguments (CALL) or without, and others
        static final int VARIABLE = 9;
        static final int CALL = 10;
        static final int DOT_FIELD = 11;
        static final int DOT_CALL = 12;
        static final int NUMBER = 13;
        static final int THIS = 14;
        // tokens between which an expression of a statement stands
        static final int BODY = 15;
        static final int RETURN = 16;
        static final int LOCAL_EQUALS = 17;
        static final int EQUALS = 18;
        static final int END = 19;
        // signs inside expressions
        static final int PLUS = 20;
        static final int BRACKET = 21;
        static final int ARGUMENTS = 22;
        static final int COMMA = 23;
        static final int CLOSE = 24;

        // sets of roles, as bits
        static final int CLASSES = 1 << CLASS;
        static final int MEMBERS = 1 << FIELD | 1 << METHOD;
        static final int VARIABLES = 1 << PARAMETER | 1 << LOCAL;
    }

    /** What is known of the tokens before the fault; a declaration is known by the token of its name. */
    private static final class Outline {
        /** class NAME { } are four tokens. */
        static final int MAX_CLASSES = MAX_TOKENS / 4;

        private final Tokens tokens;
        final int[] role = new int[Tokens.ROWS];
        /** How many parameters a method has, or how many arguments stand behind a name. */
        final int[] arity = new int[Tokens.ROWS];
        final int[] meaning = new int[Tokens.ROWS];
        /** The type of what a token declares; of a class its number. */
        final int[] typeOf = new int[Tokens.ROWS];
        /** The tokens of the classes' names, and behind them the end of the last class. */
        final int[] classAt = new int[MAX_CLASSES + 1];
        final int[] superOf = new int[MAX_CLASSES];
        final int[] listed = new int[Tokens.ROWS];
        int size;
        int classes;

        Outline(Tokens tokens) {
            this.tokens = tokens;
        }

        void clear() {
            Arrays.fill(role, Role.NOTHING);
            Arrays.fill(arity, 0);
            Arrays.fill(meaning, NONE);
            Arrays.fill(typeOf, UNKNOWN);
            Arrays.fill(superOf, NONE);
            size = 0;
            classes = 0;
        }

        void addClass(int token) {
            if (classes < MAX_CLASSES) {
                typeOf[token] = classes;
                classAt[classes] = token;
                classes++;
            }
        }

        void finish(int tokenCount) {
            size = tokenCount;
            classAt[classes] = tokenCount;
        }

        void giveUp(int tokensBefore) {
            size = tokensBefore;
            classes = 0;
        }

        boolean isClass(int number) {
            return number >= 0 && number < classes;
        }

        /** The first token of some roles with a spelling, from a token on and before another. */
        int find(int from, int to, long spelling, int roles) {
            for (int t = Math.max(from, 0); t < to && t < size; t++) {
                if ((roles >> role[t] & 1) == 1 && tokens.spelling[t] == spelling) {
                    return t;
                }
            }
            return NONE;
        }

        /** The member with a spelling; none, too, of what is no class. */
        int findMember(int number, long spelling) {
            int owner = number;
            for (int i = 0; i < classes && isClass(owner); i++) {
                int found = find(classAt[owner], classAt[owner + 1], spelling, Role.MEMBERS);
                if (found != NONE) {
                    return found;
                }
                owner = superOf[owner];
            }
            return NONE;
        }

        /** Puts the members of a class into the row listed, by the order of their names; answers how many. */
        int listMembers(int number) {
            int found = 0;
            int owner = number;
            for (int i = 0; i < classes && isClass(owner); i++) {
                for (int t = classAt[owner]; t < classAt[owner + 1] && t < size; t++) {
                    boolean declares = (Role.MEMBERS >> role[t] & 1) == 1;
                    if (declares && findMember(number, tokens.spelling[t]) == t) {
                        list(t, found);
                        found++;
                    }
                }
                owner = superOf[owner];
            }
            return found;
        }

        private void list(int token, int listedBefore) {
            int at = Math.min(listedBefore, listed.length - 1);
            for (; at > 0 && tokens.spelling[listed[at - 1]] > tokens.spelling[token]; at--) {
                listed[at] = listed[at - 1];
            }
            listed[at] = token;
        }

        /** The type of what a name means. */
        int typeNamed(int token) {
            return meaning[token] == NONE ? UNKNOWN : typeOf[meaning[token]];
        }

        /** The grammar leaves a method's parameters only these places: NAME ( TYPE NAME , TYPE NAME .. */
        int parameterType(int method, int index) {
            int token = method + 3 + 3 * index;
            return token >= 0 && token < size ? typeOf[token] : UNKNOWN;
        }

        boolean isRight(int type, int should) {
            if (type == UNKNOWN || should == UNKNOWN || type == should) {
                return true;
            }
            int owner = type;
            for (int i = 0; i < classes && owner >= 0 && owner < classes; i++) {
                if (owner == should) {
                    return true;
                }
                owner = superOf[owner];
            }
            return false;
        }
    }

    /** The diagnostics: either the fault alone, or those of the tokens. */
    private static final class Complaints {
        static final int CLASS_TWICE = 1;
        static final int NO_CLASS = 2;
        static final int LEADS_BACK = 3;
        static final int MEMBER_TWICE = 4;
        static final int VARIABLE_TWICE = 5;
        static final int NOT_FOUND = 6;
        static final int NOT_FOUND_BEHIND_DOT = 7;
        static final int OTHER_ARITY = 8;
        static final int OTHER_TYPE = 9;
        static final int NO_TARGET = 10;
        private static final int KINDS = 11;

        /** The kinds of the diagnostics of each token, as bits: so they are in order, and each is there once. */
        private final int[] marks = new int[Tokens.ROWS];
        private int fault = NONE;

        void clear() {
            Arrays.fill(marks, 0);
            fault = NONE;
        }

        void setFault(int place) {
            fault = place;
        }

        boolean hasFault() {
            return fault != NONE;
        }

        void mark(int token, int kind) {
            marks[token] |= 1 << kind;
        }

        int total() {
            if (hasFault()) {
                return 1;
            }
            int found = 0;
            for (int t = 0; t < Tokens.ROWS; t++) {
                found += Integer.bitCount(marks[t]);
            }
            return found;
        }

        int kindAt(int index) {
            return hasFault() ? 0 : entryAt(index) % KINDS;
        }

        int placeAt(int index, Tokens tokens) {
            return hasFault() ? fault : tokens.start[entryAt(index) / KINDS];
        }

        /** The token times KINDS, and the kind, of the diagnostic at an index below the total. */
        private int entryAt(int index) {
            int found = 0;
            for (int entry = 0; entry < Tokens.ROWS * KINDS; entry++) {
                if ((marks[entry / KINDS] >> entry % KINDS & 1) == 1) {
                    if (found == index) {
                        return entry;
                    }
                    found++;
                }
            }
            return 0;
        }
    }

    /**
     * Reads the tokens by the grammar, one after the other, as a machine of states: each state is what may
     * come next, so the first token that a state refuses is the fault. A state is named after what comes, and
     * each group of states has a method of its own, so their order matters.
     */
    private static final class Parser {
        private static final int FAULT = 0;
        // in a class, outside its methods
        private static final int FILE = 1;
        private static final int CLASS_NAME = 2;
        private static final int CLASS_HEAD = 3;
        private static final int SUPER_NAME = 4;
        private static final int CLASS_OPEN = 5;
        private static final int MEMBER = 6;
        private static final int MEMBER_NAME = 7;
        private static final int MEMBER_TAIL = 8;
        // in the head of a method
        private static final int FIRST_PARAMETER = 9;
        private static final int PARAMETER = 10;
        private static final int PARAMETER_NAME = 11;
        private static final int PARAMETER_TAIL = 12;
        private static final int BODY_OPEN = 13;
        // in the body of a method, before an expression
        private static final int STATEMENT = 14;
        private static final int LOCAL_NAME = 15;
        private static final int LOCAL_EQUALS = 16;
        // in an expression
        private static final int OPERAND = 17;
        private static final int NEW_NAME = 18;
        private static final int DOT_NAME = 19;
        private static final int NAME_TAIL = 20;
        private static final int FIRST_ARGUMENT = 21;
        private static final int TAIL = 22;

        private final Tokens tokens;
        private final Outline outline;
        private final Complaints complaints;
        /** Of each open bracket the name whose arguments it holds, or none. */
        private final int[] opener = new int[MAX_DEPTH];
        private int depth;
        private int state;
        private int method;
        private boolean equalsMayCome;

        Parser(Tokens tokens, Outline outline, Complaints complaints) {
            this.tokens = tokens;
            this.outline = outline;
            this.complaints = complaints;
        }

        void parse() {
            outline.clear();
            complaints.clear();
            depth = 0;
            state = FILE;
            for (int t = 0; t < tokens.size; t++) {
                int sort = tokens.sort[t];
                if (state <= MEMBER_TAIL) {
                    state = nextInClass(t, sort);
                } else if (state <= BODY_OPEN) {
                    state = nextInHead(t, sort);
                } else if (state <= LOCAL_EQUALS) {
                    state = nextInBody(t, sort);
                } else {
                    state = nextInExpression(t, sort);
                }
                if (state == FAULT) {
                    outline.giveUp(t);
                    complaints.setFault(tokens.start[t]);
                    return;
                }
            }
            if (state != FILE && tokens.size > 0) {
                outline.giveUp(tokens.size);
                complaints.setFault(tokens.end[tokens.size - 1]);
                return;
            }
            outline.finish(tokens.size);
        }

        private int nextInClass(int t, int sort) {
            switch (state) {
                case FILE:
                    return sort == Sort.CLASS ? CLASS_NAME : FAULT;
                case CLASS_NAME:
                    return className(t, sort);
                case CLASS_HEAD:
                    return sort == Sort.EXTENDS ? SUPER_NAME : only(sort, '{', MEMBER);
                case SUPER_NAME:
                    return name(t, sort, Role.SUPER, CLASS_OPEN);
                case CLASS_OPEN:
                    return only(sort, '{', MEMBER);
                case MEMBER:
                    return sort == '}' ? FILE : typeName(t, sort, MEMBER_NAME);
                case MEMBER_NAME:
                    method = t;
                    return name(t, sort, Role.FIELD, MEMBER_TAIL);
                default:
                    return memberTail(sort);
            }
        }

        private int className(int t, int sort) {
            if (sort == Sort.NAME) {
                outline.addClass(t);
            }
            return name(t, sort, Role.CLASS, CLASS_HEAD);
        }

        private int memberTail(int sort) {
            if (sort != '(') {
                return only(sort, ';', MEMBER);
            }
            outline.role[method] = Role.METHOD;
            return FIRST_PARAMETER;
        }

        private int nextInHead(int t, int sort) {
            switch (state) {
                case FIRST_PARAMETER:
                    return sort == ')' ? BODY_OPEN : typeName(t, sort, PARAMETER_NAME);
                case PARAMETER:
                    return typeName(t, sort, PARAMETER_NAME);
                case PARAMETER_NAME:
                    outline.arity[method]++;
                    return name(t, sort, Role.PARAMETER, PARAMETER_TAIL);
                case PARAMETER_TAIL:
                    return sort == ',' ? PARAMETER : only(sort, ')', BODY_OPEN);
                default:
                    return sort == '{' ? assign(t, Role.BODY, STATEMENT) : FAULT;
            }
        }

        private int nextInBody(int t, int sort) {
            switch (state) {
                case STATEMENT:
                    return statement(t, sort);
                case LOCAL_NAME:
                    return name(t, sort, Role.LOCAL, LOCAL_EQUALS);
                default:
                    return sort == '=' ? assign(t, Role.LOCAL_EQUALS, OPERAND) : FAULT;
            }
        }

        private int statement(int t, int sort) {
            boolean twoNames = sort == Sort.NAME && t + 1 < tokens.size && tokens.sort[t + 1] == Sort.NAME;
            equalsMayCome = false;
            if (sort == '}') {
                return MEMBER;
            }
            if (sort == Sort.INT_WORD || twoNames) {
                return typeName(t, sort, LOCAL_NAME);
            }
            if (sort == Sort.RETURN) {
                return assign(t, Role.RETURN, OPERAND);
            }
            equalsMayCome = true;
            return operand(t, sort);
        }

        private int nextInExpression(int t, int sort) {
            switch (state) {
                case OPERAND:
                    return operand(t, sort);
                case NEW_NAME:
                    return name(t, sort, Role.NEW, TAIL);
                case DOT_NAME:
                    return name(t, sort, Role.DOT_FIELD, NAME_TAIL);
                case NAME_TAIL:
                    return sort == '(' ? openArguments(t) : tail(t, sort);
                case FIRST_ARGUMENT:
                    return firstArgument(t, sort);
                default:
                    return tail(t, sort);
            }
        }

        private int operand(int t, int sort) {
            switch (sort) {
                case Sort.NAME:
                    return assign(t, Role.VARIABLE, NAME_TAIL);
                case Sort.NUMBER:
                    return assign(t, Role.NUMBER, TAIL);
                case Sort.THIS:
                    return assign(t, Role.THIS, TAIL);
                case Sort.NEW:
                    return NEW_NAME;
                case '(':
                    outline.role[t] = Role.BRACKET;
                    return open(NONE, OPERAND);
                default:
                    return FAULT;
            }
        }

        private int openArguments(int t) {
            int called = t - 1;
            if (called < 0) {
                return FAULT;
            }
            outline.role[called] = outline.role[called] == Role.VARIABLE ? Role.CALL : Role.DOT_CALL;
            outline.role[t] = Role.ARGUMENTS;
            return open(called, FIRST_ARGUMENT);
        }

        private int firstArgument(int t, int sort) {
            if (sort == ')') {
                return close(t);
            }
            countArgument();
            return operand(t, sort);
        }

        private int tail(int t, int sort) {
            switch (sort) {
                case '.':
                    return DOT_NAME;
                case '+':
                    return assign(t, Role.PLUS, OPERAND);
                case ',':
                    return countArgument() ? assign(t, Role.COMMA, OPERAND) : FAULT;
                case ')':
                    return close(t);
                case '=':
                    return equalsSign(t);
                case ';':
                    return depth == 0 ? assign(t, Role.END, STATEMENT) : FAULT;
                default:
                    return FAULT;
            }
        }

        private int equalsSign(int t) {
            if (depth != 0 || !equalsMayCome) {
                return FAULT;
            }
            equalsMayCome = false;
            return assign(t, Role.EQUALS, OPERAND);
        }

        private int open(int called, int then) {
            if (depth >= MAX_DEPTH) {
                return FAULT;
            }
            opener[depth] = called;
            depth++;
            return then;
        }

        private int close(int t) {
            if (depth == 0) {
                return FAULT;
            }
            depth--;
            return assign(t, Role.CLOSE, TAIL);
        }

        /** Counts an argument of the innermost call; answers whether the innermost bracket is one of a call. */
        private boolean countArgument() {
            int called = depth == 0 ? NONE : opener[depth - 1];
            if (called == NONE) {
                return false;
            }
            outline.arity[called]++;
            return true;
        }

        private int name(int t, int sort, int role, int then) {
            return sort == Sort.NAME ? assign(t, role, then) : FAULT;
        }

        private int typeName(int t, int sort, int then) {
            if (sort == Sort.INT_WORD) {
                return then;
            }
            return sort == Sort.NAME ? assign(t, Role.TYPE, then) : FAULT;
        }

        private int assign(int t, int role, int then) {
            outline.role[t] = role;
            return then;
        }

        private static int only(int sort, int wanted, int then) {
            return sort == wanted ? then : FAULT;
        }
    }

    /** Ties declared names and names of classes to their meanings, and classes to their superclasses. */
    private static final class Declarer {
        private final Tokens tokens;
        private final Outline outline;
        private final Complaints complaints;
        /** The classes behind extends, before those that lead back are cut off. */
        private final int[] extended = new int[Outline.MAX_CLASSES];
        private int owner;
        private int method;

        Declarer(Tokens tokens, Outline outline, Complaints complaints) {
            this.tokens = tokens;
            this.outline = outline;
            this.complaints = complaints;
        }

        void declare() {
            for (int t = 0; t < outline.size; t++) {
                switch (outline.role[t]) {
                    case Role.CLASS:
                        owner = t;
                        tell(t, 0, Role.CLASSES, Complaints.CLASS_TWICE);
                        break;
                    case Role.SUPER:
                    case Role.TYPE:
                    case Role.NEW:
                        nameClass(t);
                        break;
                    case Role.FIELD:
                    case Role.METHOD:
                        method = t;
                        outline.typeOf[t] = typeBefore(t);
                        tell(t, owner, Role.MEMBERS, Complaints.MEMBER_TWICE);
                        break;
                    case Role.PARAMETER:
                    case Role.LOCAL:
                        outline.typeOf[t] = typeBefore(t);
                        tell(t, method, Role.VARIABLES, Complaints.VARIABLE_TWICE);
                        break;
                    default:
                        break;
                }
            }
            tieSuperclasses();
        }

        /** A declaring name means itself, if no earlier one of its like has the name. */
        private void tell(int t, int from, int roles, int kind) {
            if (outline.find(from, t, tokens.spelling[t], roles) == NONE) {
                outline.meaning[t] = t;
            } else {
                complaints.mark(t, kind);
            }
        }

        private void nameClass(int t) {
            outline.meaning[t] = outline.find(0, outline.size, tokens.spelling[t], Role.CLASSES);
            if (outline.meaning[t] == NONE) {
                complaints.mark(t, Complaints.NO_CLASS);
            }
        }

        private int typeBefore(int t) {
            if (t < 1) {
                return UNKNOWN;
            }
            return tokens.sort[t - 1] == Sort.INT_WORD ? INT : outline.typeNamed(t - 1);
        }

        private void tieSuperclasses() {
            for (int number = 0; number < outline.classes; number++) {
                int named = superName(number);
                extended[number] = named == NONE || outline.meaning[named] == NONE ? NONE : outline.typeNamed(named);
            }
            for (int number = 0; number < outline.classes; number++) {
                int named = superName(number);
                if (named != NONE && leadsBack(number)) {
                    outline.meaning[named] = NONE;
                    complaints.mark(named, Complaints.LEADS_BACK);
                } else {
                    outline.superOf[number] = extended[number];
                }
            }
        }

        /** The token behind extends: in class NAME extends NAME it is the second behind the first name. */
        private int superName(int number) {
            int token = outline.classAt[number] + 2;
            return token < outline.size && outline.role[token] == Role.SUPER ? token : NONE;
        }

        private boolean leadsBack(int number) {
            int at = extended[number];
            for (int i = 0; i < outline.classes && outline.isClass(at); i++) {
                if (at == number) {
                    return true;
                }
                at = extended[at];
            }
            return false;
        }
    }

    /**
     * Judges the statements of all methods in one walk over their tokens. An expression that stands in
     * brackets or arguments is a level above the one round it, which waits there until it is closed.
     */
    private static final class Judge {
        private static final int LEVELS = MAX_DEPTH + 1;

        private final Tokens tokens;
        private final Outline outline;
        private final Complaints complaints;
        /** Of each level the name whose arguments stand there, or none. */
        private final int[] called = new int[LEVELS];
        private final int[] argument = new int[LEVELS];
        private final int[] firstToken = new int[LEVELS];
        private final int[] termToken = new int[LEVELS];
        private final int[] termType = new int[LEVELS];
        private final boolean[] summed = new boolean[LEVELS];
        private int level;
        private int owner;
        private int method;
        private int local;
        private int statement;
        private int should;

        Judge(Tokens tokens, Outline outline, Complaints complaints) {
            this.tokens = tokens;
            this.outline = outline;
            this.complaints = complaints;
        }

        void judge() {
            level = 0;
            called[level] = NONE;
            for (int t = 0; t < outline.size; t++) {
                int role = outline.role[t];
                if (role < Role.VARIABLE) {
                    enter(t, role);
                } else if (role < Role.BODY) {
                    takeOperand(t, role);
                } else if (role < Role.PLUS) {
                    takeStatementSign(t, role);
                } else {
                    takeSign(t, role);
                }
            }
        }

        private void enter(int t, int role) {
            switch (role) {
                case Role.CLASS:
                    owner = outline.typeOf[t];
                    break;
                case Role.METHOD:
                    method = t;
                    break;
                case Role.LOCAL:
                    local = t;
                    break;
                case Role.NEW:
                    termType[level] = outline.typeNamed(t);
                    break;
                default:
                    break;
            }
        }

        private void takeOperand(int t, int role) {
            switch (role) {
                case Role.NUMBER:
                    termType[level] = INT;
                    return;
                case Role.THIS:
                    termType[level] = owner;
                    return;
                case Role.VARIABLE:
                    if (!useVariable(t)) {
                        useMember(t, owner, Role.FIELD, Complaints.NOT_FOUND);
                    }
                    break;
                case Role.CALL:
                    useMember(t, owner, Role.METHOD, Complaints.NOT_FOUND);
                    break;
                case Role.DOT_FIELD:
                    useMember(t, termType[level], Role.FIELD, Complaints.NOT_FOUND_BEHIND_DOT);
                    break;
                default:
                    useMember(t, termType[level], Role.METHOD, Complaints.NOT_FOUND_BEHIND_DOT);
                    break;
            }
            termType[level] = outline.typeNamed(t);
        }

        /** Looks among the parameters and the locals of the statements before. */
        private boolean useVariable(int t) {
            outline.meaning[t] = outline.find(method, statement, tokens.spelling[t], Role.VARIABLES);
            return outline.meaning[t] != NONE;
        }

        /** Looks among the members of what stands before: an INT has none, and those of an UNKNOWN nobody knows. */
        private void useMember(int t, int before, int wanted, int kind) {
            if (before == UNKNOWN) {
                return;
            }
            int found = outline.findMember(before, tokens.spelling[t]);
            if (found == NONE || outline.role[found] != wanted) {
                complaints.mark(t, kind);
                return;
            }
            outline.meaning[t] = found;
            if (wanted == Role.METHOD && outline.arity[found] != outline.arity[t]) {
                complaints.mark(t, Complaints.OTHER_ARITY);
            }
        }

        private void takeStatementSign(int t, int role) {
            switch (role) {
                case Role.BODY:
                    beginStatement(t + 1);
                    break;
                case Role.RETURN:
                    should = outline.typeOf[method];
                    begin(t + 1);
                    break;
                case Role.LOCAL_EQUALS:
                    should = outline.typeOf[local];
                    begin(t + 1);
                    break;
                case Role.EQUALS:
                    checkTarget(t);
                    should = endExpression();
                    begin(t + 1);
                    break;
                default:
                    want(firstToken[level], endExpression(), should);
                    beginStatement(t + 1);
                    break;
            }
        }

        private void beginStatement(int t) {
            statement = t;
            should = UNKNOWN;
            begin(t);
        }

        /** Looks at the token before = : only a term that may stand there ends with one of these roles. */
        private void checkTarget(int t) {
            int role = t > 0 ? outline.role[t - 1] : Role.NOTHING;
            if (summed[level] || (role != Role.VARIABLE && role != Role.DOT_FIELD)) {
                complaints.mark(firstToken[level], Complaints.NO_TARGET);
            }
        }

        private void takeSign(int t, int role) {
            switch (role) {
                case Role.PLUS:
                    want(termToken[level], termType[level], INT);
                    summed[level] = true;
                    termToken[level] = t + 1;
                    break;
                case Role.BRACKET:
                    open(NONE, t + 1);
                    break;
                case Role.ARGUMENTS:
                    open(t - 1, t + 1);
                    break;
                case Role.COMMA:
                    checkArgument(endExpression());
                    begin(t + 1);
                    break;
                default:
                    int type = endExpression();
                    checkArgument(type);
                    close(type);
                    break;
            }
        }

        private void open(int name, int t) {
            if (level + 1 < LEVELS) {
                level++;
                called[level] = name;
                argument[level] = 0;
                begin(t);
            }
        }

        private void close(int type) {
            if (level > 0) {
                boolean brackets = called[level] == NONE;
                level--;
                if (brackets) {
                    termType[level] = type;
                }
            }
        }

        private void begin(int t) {
            firstToken[level] = t;
            termToken[level] = t;
            summed[level] = false;
        }

        private int endExpression() {
            if (!summed[level]) {
                return termType[level];
            }
            want(termToken[level], termType[level], INT);
            return INT;
        }

        private void checkArgument(int type) {
            int name = called[level];
            if (name == NONE || outline.arity[name] == 0) {
                return;
            }
            int target = outline.meaning[name];
            if (target != NONE && outline.arity[target] == outline.arity[name]) {
                want(firstToken[level], type, outline.parameterType(target, argument[level]));
            }
            argument[level]++;
        }

        private void want(int t, int type, int wanted) {
            if (!outline.isRight(type, wanted)) {
                complaints.mark(t, Complaints.OTHER_TYPE);
            }
        }
    }

    /** One text and all that is read out of it. */
    private static final class Reading {
        final Text source = new Text();
        final Tokens tokens = new Tokens();
        final Outline outline = new Outline(tokens);
        final Complaints complaints = new Complaints();
        private final Parser parser = new Parser(tokens, outline, complaints);
        private final Declarer declarer = new Declarer(tokens, outline, complaints);
        private final Judge judge = new Judge(tokens, outline, complaints);
        /** Whether the text was changed since it was read. */
        private boolean stale;

        void touch() {
            stale = true;
        }

        void refresh() {
            if (!stale) {
                return;
            }
            stale = false;
            tokens.cut(source);
            parser.parse();
            if (!complaints.hasFault()) {
                declarer.declare();
                judge.judge();
            }
        }

        /** The token that declares what the name at a place means, or none. */
        int declarationAt(int place) {
            for (int t = 0; t < outline.size; t++) {
                if (tokens.start[t] <= place && place < tokens.end[t]) {
                    return outline.meaning[t];
                }
            }
            return NONE;
        }

        int uses(int declaration) {
            int found = 0;
            for (int t = 0; t < outline.size; t++) {
                if (outline.meaning[t] == declaration) {
                    found++;
                }
            }
            return found;
        }

        /** The token of the use at an index, or none. */
        int useAt(int declaration, int index) {
            int found = 0;
            for (int t = 0; t < outline.size; t++) {
                if (outline.meaning[t] == declaration) {
                    if (found == index) {
                        return t;
                    }
                    found++;
                }
            }
            return NONE;
        }

        /** Takes over another text with all uses of a declaration changed; the caller has looked at the length. */
        void takeRenamed(Reading other, int declaration, long value, int n) {
            source.length = 0;
            int place = 0;
            for (int t = 0; t < other.outline.size; t++) {
                if (other.outline.meaning[t] == declaration) {
                    source.addPart(other.source, place, other.tokens.start[t]);
                    source.addBytes(value, n);
                    place = other.tokens.end[t];
                }
            }
            source.addPart(other.source, place, other.source.length);
            touch();
        }

        /** Whether a declaration has just the uses that it has in another reading, with as many diagnostics. */
        boolean agreesWith(Reading other, int declaration) {
            int here = outline.meaning[declaration];
            if (here == NONE || complaints.total() != other.complaints.total()) {
                return false;
            }
            for (int t = 0; t < outline.size; t++) {
                if ((outline.meaning[t] == here) != (other.outline.meaning[t] == declaration)) {
                    return false;
                }
            }
            return true;
        }
    }
}
