import java.util.NoSuchElementException;

/** What the tests share: servers with a text, and calls whose answers are compared with what is due. */
final class Check {
    interface Call {
        int answer();
    }

    static final String NONE = "NoSuchElementException";
    static final String ARGUMENT = "IllegalArgumentException";
    static final String STATE = "IllegalStateException";

    private int passed;
    private int failed;

    static LanguageServer server(String text) {
        LanguageServer server = new LanguageServer();
        for (int i = 0; i < text.length(); i += 8) {
            String part = text.substring(i, Math.min(i + 8, text.length()));
            server.append(bytes(part), part.length());
        }
        return server;
    }

    static long bytes(String part) {
        long value = 0;
        for (int i = 0; i < part.length(); i++) {
            value = value << 8 | part.charAt(i);
        }
        return value;
    }

    static int rename(LanguageServer server, int place, String name) {
        return server.rename(place, bytes(name), name.length());
    }

    static String textOf(LanguageServer server) {
        StringBuilder text = new StringBuilder();
        int length = server.count(2);
        for (int i = 0; i < length; i++) {
            text.append((char) server.text(i));
        }
        return text.toString();
    }

    /** All diagnostics as kind@place, parted by blanks. */
    static String diagnosticsOf(LanguageServer server) {
        StringBuilder all = new StringBuilder();
        int total = server.diagnostics();
        for (int i = 0; i < total; i++) {
            all.append(i == 0 ? "" : " ").append(server.diagnostic(i, 0)).append('@').append(server.diagnostic(i, 1));
        }
        return all.toString();
    }

    /** What a call answers, or the name of what it throws. */
    static String outcome(Call call) {
        try {
            return Integer.toString(call.answer());
        } catch (NoSuchElementException | IllegalArgumentException | IllegalStateException e) {
            return e.getClass().getSimpleName();
        }
    }

    void same(String what, String got, String due) {
        if (got.equals(due)) {
            passed++;
        } else {
            failed++;
            System.out.println(what + ": got " + got + ", due is " + due);
        }
    }

    void same(String what, int got, int due) {
        same(what, Integer.toString(got), Integer.toString(due));
    }

    void gives(String what, int due, Call call) {
        same(what, outcome(call), Integer.toString(due));
    }

    void fails(String what, String due, Call call) {
        same(what, outcome(call), due);
    }

    boolean hasFailed() {
        return failed != 0;
    }

    void close(String title) {
        System.out.println(title + ": " + passed + " checks right, " + failed + " wrong");
        if (failed != 0) {
            System.exit(1);
        }
    }
}
