import java.util.ArrayList;
import java.util.List;
import java.util.Map;
import java.util.Random;

/** Compares the program with the model over many made-up texts, from a fixed seed. */
final class ModelTest {
    private static final String[] CLASSES = {"A", "B", "C", "A1"};
    private static final String[] NAMES = {"a", "b", "f", "g", "ab", "A", "x"};
    private static final String[] NEW_NAMES = {"a", "b", "f", "A", "B", "z", "zz", "longname", "Z9", "int", "this", "9a", "toolonga", "_a", "ab", "g"};
    private static final int TEXTS = 6000;

    private final Random random = new Random(20261115);
    private final Check check = new Check();
    private StringBuilder made;

    public static void main(String[] args) {
        new ModelTest().run();
    }

    private void run() {
        int sound = 0;
        for (int i = 0; i < TEXTS && !check.hasFailed(); i++) {
            String text = makeText();
            LanguageServer server = Check.server(text);
            compare(server, text);
            text = edit(server, text);
            compare(server, text);
            compareRenames(server, text);
            if (!new Model(text).hasFault()) {
                sound++;
            }
        }
        System.out.println(sound + " of " + TEXTS + " texts were without a fault");
        check.close("ModelTest");
    }

    private void compare(LanguageServer server, String text) {
        Model model = new Model(text);
        String at = "<" + text + "> ";
        check.same(at + "text", Check.textOf(server), text);
        check.same(at + "diagnostics", Check.diagnosticsOf(server), model.diagnostics());
        check.same(at + "classes", server.count(0), model.classes.size());
        check.same(at + "tokens", server.count(1), model.tokenCount);
        StringBuilder got = new StringBuilder();
        StringBuilder due = new StringBuilder();
        for (int place = -1; place <= text.length(); place++) {
            int p = place;
            got.append(' ').append(Check.outcome(() -> server.definition(p)));
            got.append(' ').append(Check.outcome(() -> server.type(p)));
            got.append(' ').append(Check.outcome(() -> server.references(p)));
            Model.Decl meaning = model.meaningAt(place);
            if (meaning == null) {
                due.append((' ' + Check.NONE).repeat(3));
                continue;
            }
            List<Integer> uses = model.uses(meaning);
            due.append(' ').append(meaning.name.start()).append(' ').append(meaning.type).append(' ').append(uses.size());
            for (int i = -1; i <= uses.size(); i++) {
                int index = i;
                got.append(',').append(Check.outcome(() -> server.reference(p, index)));
                due.append(',').append(i < 0 || i == uses.size() ? Check.NONE : model.tokens.get(uses.get(i)).start() + "");
            }
        }
        check.same(at + "names", got.toString(), due.toString());
        compareMembers(server, model, at);
    }

    private void compareMembers(LanguageServer server, Model model, String at) {
        StringBuilder got = new StringBuilder();
        StringBuilder due = new StringBuilder();
        for (int c = -1; c <= model.classes.size(); c++) {
            int number = c;
            got.append(' ').append(Check.outcome(() -> server.members(number)));
            got.append(' ').append(Check.outcome(() -> server.member(number, 0)));
            if (c < 0 || c == model.classes.size()) {
                due.append(' ').append(Check.NONE).append(' ').append(Check.NONE);
                continue;
            }
            Map<String, Model.Decl> members = model.membersOf(c);
            due.append(' ').append(members.size());
            due.append(' ').append(members.isEmpty() ? Check.NONE : members.values().iterator().next().name.start() + "");
            int i = 0;
            for (Model.Decl member : members.values()) {
                int index = i++;
                got.append(',').append(Check.outcome(() -> server.member(number, index)));
                due.append(',').append(member.name.start());
            }
        }
        check.same(at + "members", got.toString(), due.toString());
    }

    private void compareRenames(LanguageServer server, String text) {
        String now = text;
        for (int i = 0; i < 6; i++) {
            int place = random.nextInt(now.length() + 1);
            String name = pick(NEW_NAMES);
            Model model = new Model(now);
            Model.Decl meaning = model.meaningAt(place);
            String due = model.renamed(place, name);
            String got = Check.outcome(() -> Check.rename(server, place, name));
            String at = "<" + now + "> rename " + place + " to " + name;
            if (due.endsWith("Exception")) {
                check.same(at, got, due);
            } else {
                check.same(at, got, Integer.toString(model.uses(meaning).size()));
                now = due;
            }
            compare(server, now);
        }
    }

    /** Changes the text by a few single characters, as somebody who types does. */
    private String edit(LanguageServer server, String text) {
        StringBuilder now = new StringBuilder(text);
        int edits = random.nextInt(4);
        String typed = "{}();,.=+ aAfx1$";
        for (int i = 0; i < edits; i++) {
            if (random.nextBoolean() && now.length() < 240) {
                int place = random.nextInt(now.length() + 1);
                char code = typed.charAt(random.nextInt(typed.length()));
                now.insert(place, code);
                check.same("insert", server.insert(place, code), now.length());
            } else {
                int place = random.nextInt(now.length() + 1);
                int n = Math.min(random.nextInt(3), now.length() - place);
                now.delete(place, place + n);
                check.same("delete", server.delete(place, n), now.length());
            }
        }
        return now.toString();
    }

    private String makeText() {
        String best = "";
        int tries = 1 + random.nextInt(4);
        List<String> parts = new ArrayList<>();
        for (int i = 0; i < tries; i++) {
            made = new StringBuilder();
            makeClass();
            parts.add(made.toString());
        }
        for (String part : parts) {
            if (best.length() + part.length() <= 240) {
                best = best + part;
            } else if (random.nextInt(10) == 0) {
                best = (best + part).substring(0, 240);
            }
        }
        return best;
    }

    private void makeClass() {
        made.append("class ").append(pick(CLASSES));
        if (random.nextInt(2) == 0) {
            made.append(" extends ").append(pick(CLASSES));
        }
        made.append('{');
        int members = random.nextInt(5);
        for (int i = 0; i < members; i++) {
            makeTypeAndName();
            if (random.nextInt(3) == 0) {
                made.append(';');
            } else {
                makeMethodTail();
            }
        }
        made.append('}');
    }

    private void makeMethodTail() {
        made.append('(');
        int parameters = random.nextInt(3);
        for (int i = 0; i < parameters; i++) {
            made.append(i == 0 ? "" : ",");
            makeTypeAndName();
        }
        made.append("){");
        int statements = random.nextInt(4);
        for (int i = 0; i < statements; i++) {
            int way = random.nextInt(5);
            if (way == 0) {
                makeTypeAndName();
                made.append('=');
            } else if (way == 1) {
                made.append("return ");
            } else if (way <= 3) {
                makeExpression(0);
                made.append(random.nextInt(4) == 0 ? " = " : "=");
            }
            makeExpression(0);
            made.append(';');
        }
        made.append('}');
    }

    private void makeTypeAndName() {
        made.append(random.nextInt(5) < 2 ? "int" : pick(CLASSES)).append(' ').append(pick(NAMES));
    }

    private void makeExpression(int depth) {
        makeTerm(depth);
        for (int i = 0; i < 3 && random.nextInt(6) == 0; i++) {
            made.append('+');
            makeTerm(depth);
        }
    }

    private void makeTerm(int depth) {
        int way = random.nextInt(depth > 8 ? 6 : 8);
        if (way < 3) {
            made.append(pick(NAMES));
        } else if (way == 3) {
            made.append(random.nextInt(20));
        } else if (way == 4) {
            made.append("this");
        } else if (way == 5) {
            made.append("new ").append(pick(CLASSES));
        } else if (way == 6) {
            made.append(pick(NAMES));
            makeArguments(depth);
        } else {
            made.append('(');
            makeExpression(depth + 1);
            made.append(')');
        }
        for (int i = 0; i < 4 && random.nextInt(3) == 0; i++) {
            made.append('.').append(pick(NAMES));
            if (random.nextBoolean()) {
                makeArguments(depth);
            }
        }
    }

    private void makeArguments(int depth) {
        made.append('(');
        int arguments = depth > 8 ? 0 : random.nextInt(3);
        for (int i = 0; i < arguments; i++) {
            made.append(i == 0 ? "" : ",");
            makeExpression(depth + 1);
        }
        made.append(')');
    }

    private String pick(String[] from) {
        return from[random.nextInt(from.length)];
    }
}
