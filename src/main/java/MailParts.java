/**
 * The parts of a mail, read from any bytes: heads and bodies, boundaries in boundaries, messages in
 * messages, what is to be shown, what hangs on, and what a part was called.
 *
 * <p>All rows are made in the constructor and used again, so that no call makes an object.
 */
public final class MailParts {
    public static final int NONE = -1;

    private static final int MOST_BYTES = 1500;
    private static final int MOST_READY = 20;
    private static final int MOST_ENTITIES = 60;
    private static final int MOST_DEEP = 8;
    private static final int MOST_BOUNDARY = 70;

    private static final int LEAF = 0;
    private static final int MULTI = 1;
    private static final int ENCLOSED = 2;

    private static final int PLAIN_LINE = 0;
    private static final int BEGINS_PART = 1;
    private static final int ENDS_PARTS = 2;

    private static final String MESSAGE = "message/rfc822";

    private final Row ready;
    private final Row tape;
    private final Mail mail;
    /** Where each look into a HEAD or a BODY leaves what it found. */
    private final Value value;
    private final Row typeField;
    private final Row codingField;
    private final Row dispositionField;
    private final Row boundaryName;
    private final Row filenameName;
    private final Row nameName;
    private final Entity[] entities;
    /** A row for each depth at which a MULTI can be: the one that is being cut into parts there. */
    private final Row[] boundaries;
    private final Row textLeaves;
    private final Row hangingLeaves;
    private int made;
    private int lost;

    public MailParts() {
        ready = new Row(MOST_READY);
        tape = new Row(MOST_BYTES);
        mail = new Mail();
        value = new Value();
        typeField = rowOf("content-type");
        codingField = rowOf("content-transfer-encoding");
        dispositionField = rowOf("content-disposition");
        boundaryName = rowOf("boundary");
        filenameName = rowOf("filename");
        nameName = rowOf("name");
        entities = new Entity[MOST_ENTITIES];
        for (int i = 0; i < MOST_ENTITIES; i++) {
            entities[i] = new Entity();
        }
        boundaries = new Row[MOST_DEEP];
        for (int i = 0; i < MOST_DEEP; i++) {
            boundaries[i] = new Row(MOST_BOUNDARY);
        }
        textLeaves = new Row(MOST_ENTITIES);
        hangingLeaves = new Row(MOST_ENTITIES);
        made = 0;
        lost = 0;
    }

    public void feed(int a, int b, int c, int d, int e) {
        ready.clear();
        addWord(a);
        addWord(b);
        addWord(c);
        addWord(d);
        addWord(e);
    }

    public int end(int n) {
        if (n < 0 || n > MOST_READY || tape.size + n > MOST_BYTES) {
            return NONE;
        }
        for (int i = 0; i < n; i++) {
            // Nothing is ready at first and behind an end: the bytes are 0 then.
            tape.add(Math.max(ready.get(i), 0));
        }
        ready.clear();
        return tape.size;
    }

    public int read() {
        mail.take(tape);
        tape.clear();
        made = 0;
        lost = 0;
        openEntity(0, mail.lines, NONE, 0);
        chooseTexts();
        listLeaves();
        return made;
    }

    public int entity(int entity, int what) {
        Entity e = find(entity);
        if (e == null) {
            return NONE;
        }
        switch (what) {
            case 0:
                return e.kind;
            case 1:
                return e.in;
            case 2:
                return e.deep;
            case 3:
                return e.hung ? 1 : 0;
            case 4:
                return mail.startOf(e.from);
            case 5:
                return e.bodyFrom < e.to ? mail.startOf(e.bodyFrom) : mail.bytes.size;
            case 6:
                return e.headTo - e.from;
            case 7:
                return e.to - e.bodyFrom;
            case 8:
                return e.parts;
            case 9:
                return countFields(e);
            default:
                return NONE;
        }
    }

    public int length(int entity, int what) {
        return loadWord(entity, what) ? value.bytes.size : NONE;
    }

    public int at(int entity, int what, int k) {
        return loadWord(entity, what) ? value.bytes.get(k) : NONE;
    }

    public int field(int entity) {
        Entity e = find(entity);
        boolean found = e != null && loadField(e, tape);
        return answerOnTape(found);
    }

    public int parameter(int entity) {
        Entity e = find(entity);
        boolean found = e != null && loadField(e, typeField) && value.keepParameter(tape);
        return answerOnTape(found);
    }

    public int byteAt(int k) {
        return tape.get(k);
    }

    public int text(boolean hanging, int k) {
        return hanging ? hangingLeaves.get(k) : textLeaves.get(k);
    }

    public int body(int entity, int k) {
        Entity e = find(entity);
        if (e == null) {
            return NONE;
        }
        mail.copyLines(e.bodyFrom, e.to, value.bytes);
        if (k < 0 || k > value.bytes.size) {
            return NONE;
        }
        tape.clear();
        tape.addRange(value.bytes, k, value.bytes.size);
        return tape.size;
    }

    public int count(int what) {
        switch (what) {
            case 0:
                return made;
            case 1:
                return textLeaves.size;
            case 2:
                return hangingLeaves.size;
            case 3:
                return lost;
            case 4:
                return mail.lines;
            default:
                return NONE;
        }
    }

    private void addWord(int word) {
        ready.add(word >>> 24 & 255);
        ready.add(word >>> 16 & 255);
        ready.add(word >>> 8 & 255);
        ready.add(word & 255);
    }

    private Entity find(int entity) {
        return entity >= 0 && entity < made && entity < entities.length ? entities[entity] : null;
    }

    /** The name on the tape has been looked for: it goes, and what was found comes in its place. */
    private int answerOnTape(boolean found) {
        tape.clear();
        if (!found) {
            return NONE;
        }
        tape.addRange(value.bytes, 0, value.bytes.size);
        return tape.size;
    }

    /** Counted when it is asked for first, since each name is looked for in the whole HEAD. */
    private int countFields(Entity e) {
        if (e.fields != NONE) {
            return e.fields;
        }
        int fields = 0;
        for (int line = e.from; line < e.headTo; line++) {
            int colon = mail.colonOf(line);
            if (colon != NONE) {
                value.bytes.clear();
                value.bytes.addRange(mail.bytes, mail.startOf(line), colon);
                // Only the first FIELD of a name is found by it.
                fields += mail.fieldLine(e.from, e.headTo, value.bytes) == line ? 1 : 0;
            }
        }
        e.fields = fields;
        return fields;
    }

    /** Makes the lines an ENTITY, and then all that is in them: so they are numbered as they begin. */
    private void openEntity(int from, int to, int in, int deep) {
        if (made >= entities.length || deep > MOST_DEEP) {
            lost++;
            return;
        }
        int me = made;
        made++;
        Entity e = entities[me];
        e.in = in;
        e.deep = deep;
        e.from = from;
        e.to = to;
        e.parts = 0;
        e.fields = NONE;
        e.headTo = mail.headStop(from, to);
        e.bodyFrom = e.headTo < to && mail.isEmptyLine(e.headTo) ? e.headTo + 1 : e.headTo;
        Entity around = find(in);
        if (around != null) {
            around.parts++;
        }
        describe(e);
        if (e.kind == MULTI) {
            openParts(e, me, deep);
        } else if (e.kind == ENCLOSED) {
            openEntity(e.bodyFrom, to, me, deep + 1);
        }
    }

    private void openParts(Entity e, int me, int deep) {
        if (deep < 0 || deep >= boundaries.length) {
            return;
        }
        Row boundary = boundaries[deep];
        int begun = NONE;
        for (int line = e.bodyFrom; line < e.to; line++) {
            int mark = mail.markOf(line, boundary);
            if (mark != PLAIN_LINE) {
                if (begun != NONE) {
                    openEntity(begun, line, me, deep + 1);
                }
                if (mark == ENDS_PARTS) {
                    return;
                }
                begun = line + 1;
            }
        }
        if (begun != NONE) {
            openEntity(begun, e.to, me, deep + 1);
        }
    }

    /** Says of an ENTITY what its TYPE, CODING and disposition make of it. */
    private void describe(Entity e) {
        loadType(e);
        boolean text = value.bytes.begins("text/");
        boolean html = value.bytes.is("text/html");
        boolean multi = value.bytes.begins("multipart/");
        boolean message = value.bytes.is(MESSAGE);
        e.alternative = value.bytes.is("multipart/alternative");
        e.digest = value.bytes.is("multipart/digest");
        loadField(e, dispositionField);
        value.keepFirstItem();
        e.hung = value.bytes.is("attachment");
        e.kind = LEAF;
        if (e.deep < MOST_DEEP) {
            if (multi && hasBoundary(e)) {
                e.kind = MULTI;
            } else if (message && isOpenCoding(e)) {
                e.kind = ENCLOSED;
            }
        }
        e.hasTexts = e.kind == LEAF && text && !e.hung;
        e.hasHtml = e.hasTexts && html;
        e.hangs = e.kind == LEAF && (e.hung || !text);
        e.chosen = NONE;
    }

    private boolean hasBoundary(Entity e) {
        loadField(e, typeField);
        value.keepParameter(boundaryName);
        int size = value.bytes.size;
        if (size < 1 || size > MOST_BOUNDARY || e.deep < 0 || e.deep >= boundaries.length) {
            return false;
        }
        boundaries[e.deep].clear();
        boundaries[e.deep].addRange(value.bytes, 0, size);
        return true;
    }

    private boolean isOpenCoding(Entity e) {
        loadField(e, codingField);
        value.keepFirstItem();
        Row coding = value.bytes;
        return coding.size == 0 || coding.is("7bit") || coding.is("8bit") || coding.is("binary");
    }

    /**
     * Tells each ENTITY, the last one first, what TEXTS it would give. So the parts of an
     * alternative come from its last on, and all that is in a part comes ahead of the part.
     */
    private void chooseTexts() {
        for (int me = made - 1; me >= 0; me--) {
            Entity e = find(me);
            Entity around = e == null ? null : find(e.in);
            if (around != null && e.hasTexts) {
                if (!around.alternative) {
                    around.hasHtml = around.hasHtml || e.hasHtml;
                    around.hasTexts = true;
                } else if (!around.hasTexts || around.hasHtml && !e.hasHtml) {
                    around.hasHtml = e.hasHtml;
                    around.hasTexts = true;
                    around.chosen = me;
                }
            }
        }
    }

    private void listLeaves() {
        textLeaves.clear();
        hangingLeaves.clear();
        for (int me = 0; me < made; me++) {
            Entity e = find(me);
            if (e != null) {
                Entity around = find(e.in);
                e.taken = around == null
                        || around.taken && (!around.alternative || around.chosen == me);
                if (e.kind == LEAF && e.taken && e.hasTexts) {
                    textLeaves.add(me);
                }
                if (e.hangs) {
                    hangingLeaves.add(me);
                }
            }
        }
    }

    /** TYPE (0), CODING (1) or NAME (2) of an ENTITY; false if there is none such. */
    private boolean loadWord(int entity, int what) {
        Entity e = find(entity);
        if (e == null) {
            return false;
        }
        switch (what) {
            case 0:
                loadType(e);
                return true;
            case 1:
                loadField(e, codingField);
                value.keepFirstItem();
                return true;
            case 2:
                loadName(e);
                return true;
            default:
                return false;
        }
    }

    private void loadType(Entity e) {
        loadField(e, typeField);
        value.keepFirstItem();
        if (!value.isType()) {
            Entity around = find(e.in);
            value.bytes.put(around != null && around.digest ? MESSAGE : "text/plain");
        }
    }

    private void loadName(Entity e) {
        loadField(e, dispositionField);
        if (!value.keepParameter(filenameName)) {
            loadField(e, typeField);
            value.keepParameter(nameName);
        }
    }

    /** Leaves nothing, which reads as an empty VALUE, if there is no such FIELD. */
    private boolean loadField(Entity e, Row name) {
        int line = mail.fieldLine(e.from, e.headTo, name);
        value.bytes.clear();
        if (line == NONE) {
            return false;
        }
        mail.copyValue(line, e.headTo, value.bytes);
        return true;
    }

    private static Row rowOf(String word) {
        Row row = new Row(word.length());
        row.put(word);
        return row;
    }

    private static boolean isBlank(int b) {
        return b == ' ' || b == '\t';
    }

    private static boolean isNameByte(int b) {
        return b >= 'a' && b <= 'z' || b >= 'A' && b <= 'Z' || b >= '0' && b <= '9' || b == '-';
    }

    private static int small(int b) {
        return b >= 'A' && b <= 'Z' ? b + 32 : b;
    }

    /** A row of numbers that has room for so many; what would be more does not come to it. */
    private static final class Row {
        private final int[] numbers;
        private int size;

        Row(int room) {
            numbers = new int[Math.max(room, 0)];
            size = 0;
        }

        int get(int k) {
            return k >= 0 && k < size && k < numbers.length ? numbers[k] : NONE;
        }

        void clear() {
            size = 0;
        }

        void add(int number) {
            if (size >= 0 && size < numbers.length) {
                numbers[size] = number;
                size++;
            }
        }

        void set(int k, int number) {
            if (k >= 0 && k < size && k < numbers.length) {
                numbers[k] = number;
            }
        }

        void shorten(int newSize) {
            size = Math.max(0, Math.min(size, newSize));
        }

        void addRange(Row other, int from, int to) {
            for (int i = from; i < to; i++) {
                add(other.get(i));
            }
        }

        void put(String word) {
            clear();
            for (int i = 0; i < word.length(); i++) {
                add(word.charAt(i));
            }
        }

        boolean begins(String word) {
            if (size < word.length()) {
                return false;
            }
            for (int i = 0; i < word.length(); i++) {
                if (get(i) != word.charAt(i)) {
                    return false;
                }
            }
            return true;
        }

        boolean is(String word) {
            return size == word.length() && begins(word);
        }

        /** Whether that name stands here, great and small letters alike. */
        boolean hasName(int from, Row name) {
            for (int i = 0; i < name.size; i++) {
                if (small(get(from + i)) != small(name.get(i))) {
                    return false;
                }
            }
            return true;
        }
    }

    /** The MAIL and its LINES; a line that there isn't would begin at the MAIL's end. */
    private static final class Mail {
        private final Row bytes;
        private final int[] starts;
        private final int[] stops;
        private int lines;

        Mail() {
            bytes = new Row(MOST_BYTES);
            starts = new int[MOST_BYTES];
            stops = new int[MOST_BYTES];
            lines = 0;
        }

        void take(Row tape) {
            bytes.clear();
            bytes.addRange(tape, 0, tape.size);
            lines = 0;
            int start = 0;
            for (int i = 0; i < bytes.size; i++) {
                if (bytes.get(i) == '\n') {
                    addLine(start, i > start && bytes.get(i - 1) == '\r' ? i - 1 : i);
                    start = i + 1;
                }
            }
            if (start < bytes.size) {
                addLine(start, bytes.size);
            }
        }

        private void addLine(int start, int stop) {
            if (lines >= 0 && lines < starts.length && lines < stops.length) {
                starts[lines] = start;
                stops[lines] = stop;
                lines++;
            }
        }

        int startOf(int line) {
            return line >= 0 && line < lines && line < starts.length ? starts[line] : bytes.size;
        }

        int stopOf(int line) {
            return line >= 0 && line < lines && line < stops.length ? stops[line] : bytes.size;
        }

        boolean isEmptyLine(int line) {
            return startOf(line) >= stopOf(line);
        }

        boolean beginsBlank(int line) {
            // An empty line has a byte 13 or 10 here, or none.
            return isBlank(bytes.get(startOf(line)));
        }

        /** Where the : behind a FIELD's name is; NONE if the line does not begin a FIELD. */
        int colonOf(int line) {
            int start = startOf(line);
            int stop = stopOf(line);
            for (int i = start; i < stop; i++) {
                int b = bytes.get(i);
                if (b == ':') {
                    return i > start ? i : NONE;
                }
                if (!isNameByte(b)) {
                    return NONE;
                }
            }
            return NONE;
        }

        int headStop(int from, int to) {
            for (int line = from; line < to; line++) {
                // Behind the first line of a HEAD there is always a FIELD ahead.
                boolean goesOn = line > from && beginsBlank(line);
                if (!goesOn && colonOf(line) == NONE) {
                    return line;
                }
            }
            return to;
        }

        int fieldLine(int from, int to, Row name) {
            for (int line = from; line < to; line++) {
                int start = startOf(line);
                int colon = start + name.size;
                // The cheap look at one byte goes first: a HEAD may have hundreds of lines.
                if (bytes.get(colon) == ':' && bytes.hasName(start, name) && colonOf(line) == colon) {
                    return line;
                }
            }
            return NONE;
        }

        /** The VALUE of the FIELD that begins with that line of a HEAD. */
        void copyValue(int line, int headTo, Row out) {
            out.clear();
            out.addRange(bytes, colonOf(line) + 1, stopOf(line));
            for (int next = line + 1; next < headTo && beginsBlank(next); next++) {
                out.addRange(bytes, startOf(next), stopOf(next));
            }
        }

        void copyLines(int from, int to, Row out) {
            out.clear();
            for (int line = from; line < to; line++) {
                if (line > from) {
                    out.add('\n');
                }
                out.addRange(bytes, startOf(line), stopOf(line));
            }
        }

        /** What the line is to a MULTI of that boundary. */
        int markOf(int line, Row boundary) {
            int stop = stopOf(line);
            int i = startOf(line);
            if (!hasDashes(i, stop)) {
                return PLAIN_LINE;
            }
            i += 2;
            if (stop - i < boundary.size) {
                return PLAIN_LINE;
            }
            for (int k = 0; k < boundary.size; k++) {
                if (bytes.get(i + k) != boundary.get(k)) {
                    return PLAIN_LINE;
                }
            }
            i += boundary.size;
            boolean ends = hasDashes(i, stop);
            for (int k = ends ? i + 2 : i; k < stop; k++) {
                if (!isBlank(bytes.get(k))) {
                    return PLAIN_LINE;
                }
            }
            return ends ? ENDS_PARTS : BEGINS_PART;
        }

        private boolean hasDashes(int i, int stop) {
            return i + 1 < stop && bytes.get(i) == '-' && bytes.get(i + 1) == '-';
        }
    }

    /** A VALUE, of which an ITEM or a PARAMETER's value can be kept, and the rest goes. */
    private static final class Value {
        private final Row bytes;

        Value() {
            bytes = new Row(MOST_BYTES);
        }

        void keepFirstItem() {
            keep(0, find(';', 0, bytes.size));
            for (int i = 0; i < bytes.size; i++) {
                bytes.set(i, small(bytes.get(i)));
            }
        }

        /** Nothing is kept, and false, if there is no PARAMETER of that name. */
        boolean keepParameter(Row name) {
            int size = bytes.size;
            int to = find(';', 0, size);
            // There are no more ITEMS behind the first one than bytes, since a ; is ahead of each.
            for (int item = 1; item <= size && to < size; item++) {
                int from = to + 1;
                to = find(';', from, size);
                int equal = find('=', from, to);
                if (equal < to && isNamed(from, equal, name)) {
                    keep(equal + 1, to);
                    unquote();
                    return true;
                }
            }
            bytes.clear();
            return false;
        }

        boolean isType() {
            boolean slash = false;
            for (int i = 0; i < bytes.size; i++) {
                int b = bytes.get(i);
                if (isBlank(b)) {
                    return false;
                }
                slash = slash || b == '/' && i > 0 && i < bytes.size - 1;
            }
            return slash;
        }

        /** Where that byte stands first, outside of quotation marks; to if it doesn't. */
        private int find(int wanted, int from, int to) {
            boolean quoted = false;
            for (int i = from; i < to; i++) {
                int b = bytes.get(i);
                if (b == wanted && !quoted) {
                    return i;
                }
                if (b == '"') {
                    quoted = !quoted;
                } else if (b == '\\' && quoted) {
                    i++;
                }
            }
            return to;
        }

        private boolean isNamed(int from, int to, Row name) {
            int start = behindBlanks(from, to);
            return aheadOfBlanks(start, to) - start == name.size && bytes.hasName(start, name);
        }

        private int behindBlanks(int from, int to) {
            int start = from;
            while (start < to && isBlank(bytes.get(start))) {
                start++;
            }
            return start;
        }

        private int aheadOfBlanks(int from, int to) {
            int stop = to;
            while (stop > from && isBlank(bytes.get(stop - 1))) {
                stop--;
            }
            return stop;
        }

        /** Keeps what stands from .. to, without BLANKS at both ends. */
        private void keep(int from, int to) {
            int start = behindBlanks(from, to);
            int stop = aheadOfBlanks(start, to);
            for (int i = start; i < stop; i++) {
                bytes.set(i - start, bytes.get(i));
            }
            bytes.shorten(stop - start);
        }

        /** Of what begins with a ", what stands up to the next one; it stays if there is none. */
        private void unquote() {
            int stop = bytes.get(0) == '"' ? closing() : NONE;
            if (stop == NONE) {
                return;
            }
            int size = 0;
            for (int i = 1; i < stop; i++) {
                if (bytes.get(i) == '\\') {
                    // The " at stop is not taken, so the byte behind is ahead of it.
                    i++;
                }
                bytes.set(size, bytes.get(i));
                size++;
            }
            bytes.shorten(size);
        }

        private int closing() {
            for (int i = 1; i < bytes.size; i++) {
                int b = bytes.get(i);
                if (b == '"') {
                    return i;
                }
                if (b == '\\') {
                    i++;
                }
            }
            return NONE;
        }
    }

    /** An ENTITY: its lines by their numbers, and what it is. */
    private static final class Entity {
        private int kind;
        private int in;
        private int deep;
        private boolean hung;
        private int from;
        private int headTo;
        private int bodyFrom;
        private int to;
        private int parts;
        /** How many, if they have been counted; else NONE. */
        private int fields;
        private boolean alternative;
        private boolean digest;
        /** Of a LEAF: whether it hangs on the MAIL. */
        private boolean hangs;
        /** Whether it has TEXTS, and text/html among them. */
        private boolean hasTexts;
        private boolean hasHtml;
        /** Of an alternative: the part whose TEXTS are its own. */
        private int chosen;
        /** Whether its TEXTS are the MAIL's. */
        private boolean taken;
    }
}
