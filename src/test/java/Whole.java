/** All that objects of one state answer, as one text, so that two states can be compared. */
final class Whole {
    interface Maker {
        LanguageServer make();
    }

    private Whole() {
    }

    /** Asks a new object for each kind of question: one alone could not answer all in its 512 calls. */
    static String of(Maker maker) {
        return String.join("\n",
                "text " + Check.textOf(maker.make()),
                "diagnostics " + Check.diagnosticsOf(maker.make()),
                "counts " + counts(maker.make()),
                "definitions " + definitions(maker.make()),
                "types " + types(maker.make()),
                "references " + references(maker.make()),
                "places of references " + placesOfReferences(maker.make()),
                "members " + members(maker.make()));
    }

    private static String counts(LanguageServer server) {
        return server.count(0) + " " + server.count(1) + " " + server.count(2);
    }

    private static String definitions(LanguageServer server) {
        return atEachPlace(server, LanguageServer::definition);
    }

    private static String types(LanguageServer server) {
        return atEachPlace(server, LanguageServer::type);
    }

    private static String references(LanguageServer server) {
        return atEachPlace(server, LanguageServer::references);
    }

    private interface Question {
        int at(LanguageServer server, int place);
    }

    private static String atEachPlace(LanguageServer server, Question question) {
        StringBuilder all = new StringBuilder();
        int length = server.count(2);
        for (int i = 0; i < length; i++) {
            int place = i;
            all.append(' ').append(Check.outcome(() -> question.at(server, place)));
        }
        return all.toString();
    }

    private static String placesOfReferences(LanguageServer server) {
        StringBuilder all = new StringBuilder();
        int length = server.count(2);
        for (int i = 0; i < length; i++) {
            int place = i;
            if (!Check.outcome(() -> server.definition(place)).equals(Integer.toString(place))) {
                continue;
            }
            int total = server.references(place);
            all.append(' ').append(place).append(':');
            for (int index = 0; index < total; index++) {
                all.append(server.reference(place, index)).append(',');
            }
        }
        return all.toString();
    }

    private static String members(LanguageServer server) {
        StringBuilder all = new StringBuilder();
        int classes = server.count(0);
        for (int number = 0; number < classes; number++) {
            int total = server.members(number);
            all.append(' ').append(number).append(':');
            for (int index = 0; index < total; index++) {
                all.append(server.member(number, index)).append(',');
            }
        }
        return all.toString();
    }
}
