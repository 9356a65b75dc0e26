import java.util.ArrayList;
import java.util.LinkedHashMap;
import java.util.List;
import java.util.Map;

/** The document's terms over again, word by word and with the Java library, to compare with. */
final class Model {
    /** A line without its end, and the byte of the MAIL at which it begins. */
    record Line(int start, String text) { }

    final String mail;
    final List<Line> lines = new ArrayList<>();
    final List<Part> parts = new ArrayList<>();
    int lost = 0;

    Model(String mail) {
        this.mail = mail;
        int start = 0;
        while (start < mail.length()) {
            int stop = mail.indexOf('\n', start);
            if (stop < 0) {
                lines.add(new Line(start, mail.substring(start)));
                break;
            }
            String text = mail.substring(start, stop);
            lines.add(new Line(start, text.endsWith("\r") ? text.substring(0, text.length() - 1) : text));
            start = stop + 1;
        }
        make(0, lines.size(), null);
    }

    final class Part {
        final int number;
        final Part in;
        final int deep;
        final int from;
        final int to;
        int headLines = 0;
        int bodyFrom;
        final Map<String, String> fields = new LinkedHashMap<>();
        final List<Part> inside = new ArrayList<>();
        final int kind;

        Part(int number, int from, int to, Part in) {
            this.number = number;
            this.in = in;
            this.deep = in == null ? 0 : in.deep + 1;
            this.from = from;
            this.to = to;
            readHead();
            kind = readKind();
        }

        private void readHead() {
            String name = null;
            StringBuilder value = new StringBuilder();
            int line = from;
            for (; line < to; line++) {
                String text = lines.get(line).text();
                if (text.matches("(?s)[A-Za-z0-9-]+:.*")) {
                    keepField(name, value);
                    name = text.substring(0, text.indexOf(':')).toLowerCase();
                    value = new StringBuilder(text.substring(text.indexOf(':') + 1));
                } else if (name != null && (text.startsWith(" ") || text.startsWith("\t"))) {
                    value.append(text);
                } else {
                    break;
                }
                headLines++;
            }
            keepField(name, value);
            bodyFrom = line < to && lines.get(line).text().isEmpty() ? line + 1 : line;
        }

        private void keepField(String name, StringBuilder value) {
            if (name != null) {
                fields.putIfAbsent(name, value.toString());
            }
        }

        private int readKind() {
            String boundary = parameters("content-type").get("boundary");
            if (deep >= 8) {
                return 0;
            }
            if (type().startsWith("multipart/") && boundary != null && !boundary.isEmpty() && boundary.length() <= 70) {
                return 1;
            }
            boolean open = List.of("", "7bit", "8bit", "binary").contains(coding());
            return type().equals("message/rfc822") && open ? 2 : 0;
        }

        List<String> items(String field) {
            List<String> items = new ArrayList<>();
            for (String item : cut(fields.getOrDefault(field, ""), ';')) {
                items.add(trim(item));
            }
            return items;
        }

        Map<String, String> parameters(String field) {
            Map<String, String> found = new LinkedHashMap<>();
            List<String> items = items(field);
            for (String item : items.subList(1, items.size())) {
                List<String> sides = cut(item, '=');
                if (sides.size() > 1) {
                    found.putIfAbsent(low(trim(sides.get(0))), plain(trim(item.substring(sides.get(0).length() + 1))));
                }
            }
            return found;
        }

        String type() {
            String type = low(items("content-type").get(0));
            if (type.matches("(?s).+/.+") && !type.contains(" ") && !type.contains("\t")) {
                return type;
            }
            return in != null && in.type().equals("multipart/digest") ? "message/rfc822" : "text/plain";
        }

        String coding() {
            return low(items("content-transfer-encoding").get(0));
        }

        String name() {
            String other = parameters("content-type").getOrDefault("name", "");
            return parameters("content-disposition").getOrDefault("filename", other);
        }

        boolean hung() {
            return low(items("content-disposition").get(0)).equals("attachment");
        }

        String body() {
            List<String> texts = new ArrayList<>();
            for (Line line : lines.subList(bodyFrom, to)) {
                texts.add(line.text());
            }
            return String.join("\n", texts);
        }

        List<Part> texts() {
            List<Part> found = new ArrayList<>();
            if (kind == 0) {
                if (!hung() && type().startsWith("text/")) {
                    found.add(this);
                }
                return found;
            }
            if (!type().equals("multipart/alternative")) {
                for (Part part : inside) {
                    found.addAll(part.texts());
                }
                return found;
            }
            for (Part part : inside) {
                if (!part.texts().isEmpty()) {
                    found = part.texts();
                }
            }
            for (Part part : inside) {
                List<Part> own = part.texts();
                if (!own.isEmpty() && own.stream().noneMatch(leaf -> leaf.type().equals("text/html"))) {
                    found = own;
                }
            }
            return found;
        }

        int number(int what) {
            return switch (what) {
                case 0 -> kind;
                case 1 -> in == null ? -1 : in.number;
                case 2 -> deep;
                case 3 -> hung() ? 1 : 0;
                case 4 -> from < lines.size() ? lines.get(from).start() : mail.length();
                case 5 -> bodyFrom < to ? lines.get(bodyFrom).start() : mail.length();
                case 6 -> headLines;
                case 7 -> to - bodyFrom;
                case 8 -> inside.size();
                case 9 -> fields.size();
                default -> -1;
            };
        }

        String word(int what) {
            return switch (what) {
                case 0 -> type();
                case 1 -> coding();
                case 2 -> name();
                default -> "NONE";
            };
        }
    }

    List<Part> hanging() {
        List<Part> found = new ArrayList<>();
        for (Part part : parts) {
            if (part.kind == 0 && (part.hung() || !part.type().startsWith("text/"))) {
                found.add(part);
            }
        }
        return found;
    }

    private void make(int from, int to, Part in) {
        if (parts.size() == 60) {
            lost++;
            return;
        }
        Part part = new Part(parts.size(), from, to, in);
        parts.add(part);
        if (in != null) {
            in.inside.add(part);
        }
        if (part.kind == 2) {
            make(part.bodyFrom, to, part);
        }
        if (part.kind == 1) {
            makeParts(part);
        }
    }

    private void makeParts(Part part) {
        String mark = "--" + part.parameters("content-type").get("boundary");
        List<Integer> cuts = new ArrayList<>();
        boolean closed = false;
        for (int line = part.bodyFrom; line < part.to && !closed; line++) {
            String text = lines.get(line).text();
            if (text.startsWith(mark)) {
                String rest = text.substring(mark.length());
                closed = rest.matches("--[ \t]*");
                if (closed || rest.matches("[ \t]*")) {
                    cuts.add(line);
                }
            }
        }
        if (!closed) {
            cuts.add(part.to);
        }
        for (int i = 0; i + 1 < cuts.size(); i++) {
            make(cuts.get(i) + 1, cuts.get(i + 1), part);
        }
    }

    /** The pieces between those bytes that stand outside of quotation marks. */
    private static List<String> cut(String text, char between) {
        List<String> pieces = new ArrayList<>();
        StringBuilder piece = new StringBuilder();
        boolean quoted = false;
        for (int i = 0; i < text.length(); i++) {
            char c = text.charAt(i);
            if (quoted && c == '\\' && i + 1 < text.length()) {
                piece.append(c).append(text.charAt(i + 1));
                i++;
            } else if (!quoted && c == between) {
                pieces.add(piece.toString());
                piece = new StringBuilder();
            } else {
                quoted ^= c == '"';
                piece.append(c);
            }
        }
        pieces.add(piece.toString());
        return pieces;
    }

    private static String trim(String text) {
        return text.replaceAll("\\A[ \t]+", "").replaceAll("[ \t]+\\z", "");
    }

    static String low(String text) {
        StringBuilder out = new StringBuilder();
        for (char c : text.toCharArray()) {
            out.append(c >= 'A' && c <= 'Z' ? (char) (c + 32) : c);
        }
        return out.toString();
    }

    private static String plain(String value) {
        if (!value.startsWith("\"")) {
            return value;
        }
        StringBuilder out = new StringBuilder();
        for (int i = 1; i < value.length(); i++) {
            if (value.charAt(i) == '"') {
                return out.toString();
            }
            if (value.charAt(i) == '\\') {
                i++;
            }
            out.append(i < value.length() ? value.charAt(i) : '\\');
        }
        return value;
    }
}
