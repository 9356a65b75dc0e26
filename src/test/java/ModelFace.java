import java.util.List;

/** The document's face over again, with the model for the MAIL: what each call of a run would answer. */
final class ModelFace {
    private static final int NONE = -1;
    private int[] ready = new int[20];
    String tape = "";
    /** Null until the first read. */
    private Model mail = null;

    void feed(int... words) {
        for (int i = 0; i < 20; i++) {
            ready[i] = words[i / 4] >>> 24 - i % 4 * 8 & 255;
        }
    }

    int end(int n) {
        if (n < 0 || n > 20 || (long) tape.length() + n > 1500) {
            return NONE;
        }
        StringBuilder text = new StringBuilder(tape);
        for (int i = 0; i < n; i++) {
            text.append((char) ready[i]);
        }
        tape = text.toString();
        ready = new int[20];
        return tape.length();
    }

    int read() {
        mail = new Model(tape);
        tape = "";
        return mail.parts.size();
    }

    private Model.Part find(int entity) {
        return mail != null && entity >= 0 && entity < mail.parts.size() ? mail.parts.get(entity) : null;
    }

    int entity(int entity, int what) {
        Model.Part part = find(entity);
        return part == null ? NONE : part.number(what);
    }

    private String word(int entity, int what) {
        Model.Part part = find(entity);
        return part == null || what < 0 || what > 2 ? null : part.word(what);
    }

    int length(int entity, int what) {
        String word = word(entity, what);
        return word == null ? NONE : word.length();
    }

    int at(int entity, int what, int k) {
        String word = word(entity, what);
        return word == null || k < 0 || k >= word.length() ? NONE : word.charAt(k);
    }

    int field(int entity) {
        Model.Part part = find(entity);
        return found(part == null ? null : part.fields.get(Model.low(tape)));
    }

    int parameter(int entity) {
        Model.Part part = find(entity);
        return found(part == null ? null : part.parameters("content-type").get(Model.low(tape)));
    }

    private int found(String value) {
        tape = value == null ? "" : value;
        return value == null ? NONE : value.length();
    }

    int byteAt(int k) {
        return k < 0 || k >= tape.length() ? NONE : tape.charAt(k);
    }

    int text(boolean hanging, int k) {
        List<Model.Part> parts = mail == null ? List.of() : hanging ? mail.hanging() : mail.parts.get(0).texts();
        return k < 0 || k >= parts.size() ? NONE : parts.get(k).number;
    }

    int body(int entity, int k) {
        Model.Part part = find(entity);
        if (part == null || k < 0 || k > part.body().length()) {
            return NONE;
        }
        tape = part.body().substring(k);
        return tape.length();
    }

    int count(int what) {
        if (mail == null) {
            return what >= 0 && what <= 4 ? 0 : NONE;
        }
        return switch (what) {
            case 0 -> mail.parts.size();
            case 1 -> mail.parts.get(0).texts().size();
            case 2 -> mail.hanging().size();
            case 3 -> mail.lost;
            case 4 -> mail.lines.size();
            default -> NONE;
        };
    }
}
