import java.util.List;

/** A mail read by the class and by the model: every answer that differs is told. */
final class Compare {
    private final Check check;

    Compare(Check check) {
        this.check = check;
    }

    /** All calls for all ENTITIES; the name is looked for, and the BODIES are taken from byte k on. */
    void all(MailParts x, String mail, String name, int k) {
        Check.readAnew(x, mail);
        Model model = new Model(mail);
        String of = " of <" + mail.replace("\r", "\\r").replace("\n", "\\n") + ">";
        counts(x, model, of);
        for (int entity = -1; entity <= model.parts.size(); entity++) {
            Model.Part part = entity < 0 || entity >= model.parts.size() ? null : model.parts.get(entity);
            for (int what = -1; what <= 10; what++) {
                check.due("entity(" + entity + ", " + what + ")" + of, x.entity(entity, what), part == null ? -1 : part.number(what));
            }
            for (int what = -1; what <= 3; what++) {
                check.due("word(" + entity + ", " + what + ")" + of, Check.word(x, entity, what), part == null ? "NONE" : part.word(what));
            }
            tape(x, part, entity, name, of);
            body(x, part, entity, k, of);
        }
    }

    private void counts(MailParts x, Model model, String of) {
        List<Model.Part> texts = model.parts.get(0).texts();
        List<Model.Part> hanging = model.hanging();
        int[] counts = {model.parts.size(), texts.size(), hanging.size(), model.lost, model.lines.size()};
        for (int what = 0; what < counts.length; what++) {
            check.due("count(" + what + ")" + of, x.count(what), counts[what]);
        }
        check.due("TEXTS" + of, Check.list(x, false), numbers(texts));
        check.due("HANGING" + of, Check.list(x, true), numbers(hanging));
    }

    private void tape(MailParts x, Model.Part part, int entity, String name, String of) {
        String value = part == null ? null : part.fields.get(Model.low(name));
        check.due("field " + name + " " + entity + of, Check.fieldOf(x, entity, name), sized(value));
        value = part == null ? null : part.parameters("content-type").get(Model.low(name));
        check.due("parameter " + name + " " + entity + of, Check.parameterOf(x, entity, name), sized(value));
    }

    private void body(MailParts x, Model.Part part, int entity, int k, String of) {
        String body = part == null ? "" : part.body();
        for (int from : new int[] {-1, 0, k, body.length(), body.length() + 1}) {
            boolean there = part != null && from >= 0 && from <= body.length();
            check.due("body(" + entity + ", " + from + ")" + of, Check.bodyOf(x, entity, from), sized(there ? body.substring(from) : null));
        }
    }

    private static String sized(String text) {
        return text == null ? "NONE" : text.length() + ":" + text;
    }

    private static String numbers(List<Model.Part> parts) {
        StringBuilder text = new StringBuilder();
        for (Model.Part part : parts) {
            text.append(text.length() == 0 ? "" : " ").append(part.number);
        }
        return text.toString();
    }
}
