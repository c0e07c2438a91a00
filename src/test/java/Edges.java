import java.util.HashMap;
import java.util.Map;

/** Checks of one sentence of the document after the other; each is made on new objects. */
final class Edges {
    interface Ask {
        int of(LanguageServer server);
    }

    private final Check check = new Check();
    private final Map<String, String> wholes = new HashMap<>();
    private String sentence = "";

    /** The checks that follow are of this sentence of the document. */
    void sentence(String words) {
        sentence = "'" + words + "': ";
    }

    void same(String what, String got, String due) {
        check.same(sentence + what, got, due);
    }

    /** A call on a new object with a text gives an answer. */
    void gives(String what, String text, int due, Ask ask) {
        LanguageServer server = Check.server(text);
        check.gives(sentence + what + " in <" + text + ">", due, () -> ask.of(server));
    }

    /** A call on a new object with a text gives an answer, and all is then as with another text from the first. */
    void changes(String what, String text, int due, String textAfter, Ask ask) {
        gives(what, text, due, ask);
        String after = Whole.of(() -> asked(text, ask));
        same(what + " in <" + text + ">, what comes of it", after, whole(textAfter));
    }

    /** A call on a new object with a text throws, and nothing is changed by that. */
    void refuses(String what, String text, String exception, Ask ask) {
        String at = what + " in <" + text + ">";
        LanguageServer server = Check.server(text);
        check.fails(sentence + at, exception, () -> ask.of(server));
        same(at + ", afterwards", Whole.of(() -> asked(text, ask)), whole(text));
        same(at + ", after it was read", Whole.of(() -> askedWhenRead(text, ask)), whole(text));
        if (!text.isEmpty()) {
            String shorter = text.substring(0, text.length() - 1);
            same(at + ", and an edit", Whole.of(() -> askedThenCut(text, ask)), whole(shorter));
        }
    }

    private String whole(String text) {
        return wholes.computeIfAbsent(text, t -> Whole.of(() -> Check.server(t)));
    }

    private static LanguageServer asked(String text, Ask ask) {
        LanguageServer server = Check.server(text);
        Check.outcome(() -> ask.of(server));
        return server;
    }

    private static LanguageServer askedWhenRead(String text, Ask ask) {
        LanguageServer server = Check.server(text);
        server.diagnostics();
        Check.outcome(() -> ask.of(server));
        return server;
    }

    private static LanguageServer askedThenCut(String text, Ask ask) {
        LanguageServer server = asked(text, ask);
        server.delete(text.length() - 1, 1);
        return server;
    }

    /** The text has these diagnostics: <7> tells of one of kind 7 at the token behind it, <9,10> of two. */
    void judged(String marked) {
        StringBuilder text = new StringBuilder();
        StringBuilder due = new StringBuilder();
        for (int i = 0; i < marked.length(); i++) {
            if (marked.charAt(i) != '<') {
                text.append(marked.charAt(i));
                continue;
            }
            int end = marked.indexOf('>', i);
            for (String kind : marked.substring(i + 1, end).split(",")) {
                due.append(due.length() == 0 ? "" : " ").append(kind).append('@').append(text.length());
            }
            i = end;
        }
        same(marked, Check.diagnosticsOf(Check.server(text.toString())), due.toString());
    }

    /** The text has a fault at a place, with so many tokens before it. */
    void fault(String text, int place, int tokensBefore) {
        LanguageServer server = Check.server(text);
        same("<" + text + "> has a fault", Check.diagnosticsOf(server), "0@" + place);
        same("<" + text + "> tokens before it", server.count(1) + "", tokensBefore + "");
        same("<" + text + "> classes", server.count(0) + "", "0");
    }

    /** The text has no fault, whatever other diagnostics it has, and so many tokens. */
    void sound(String text, int tokens) {
        LanguageServer server = Check.server(text);
        String all = Check.diagnosticsOf(server);
        same("<" + text + "> has no fault", all.startsWith("0@") ? all : "none", "none");
        same("<" + text + "> tokens", server.count(1) + "", tokens + "");
    }

    /** The name at the mark ^ is defined at the mark !. */
    void means(String marked) {
        int place = marked.replace("!", "").indexOf('^');
        int due = marked.replace("^", "").indexOf('!');
        gives("definition of the marked name, " + marked, unmarked(marked), due, s -> s.definition(place));
        gives("a reference of the marked name, " + marked, unmarked(marked), 1, s -> hasReference(s, due, place) ? 1 : 0);
    }

    private static boolean hasReference(LanguageServer server, int definition, int place) {
        int total = server.references(definition);
        for (int i = 0; i < total; i++) {
            if (server.reference(definition, i) == place) {
                return true;
            }
        }
        return false;
    }

    /** There is no name with a meaning at the mark ^. */
    void meansNothing(String marked) {
        meansNothing(unmarked(marked), marked.indexOf('^'));
    }

    void meansNothing(String text, int place) {
        String at = " at " + place;
        refuses("definition" + at, text, Check.NONE, s -> s.definition(place));
        refuses("type" + at, text, Check.NONE, s -> s.type(place));
        refuses("references" + at, text, Check.NONE, s -> s.references(place));
        refuses("reference" + at, text, Check.NONE, s -> s.reference(place, 0));
        refuses("rename" + at, text, Check.NONE, s -> Check.rename(s, place, "zzz"));
    }

    static String unmarked(String marked) {
        return marked.replace("^", "").replace("!", "");
    }

    void close(String title) {
        check.close(title);
    }
}
