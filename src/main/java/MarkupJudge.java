/**
 * Judges small marked-up documents with their own grammar, and gives out what it found as a row of
 * events. A document goes through four steps: Source decodes it, Grammar reads what it declares,
 * Tree turns its elements into events, and Faults holds the events against the grammar.
 */
public final class MarkupJudge {
    public static final int NONE = -1;

    private static final int MOST_BYTES = 360;
    private static final int MOST_LIMIT = 2000;
    private static final int MOST_NESTED = 16;
    private static final int MOST_EVENTS = 200;
    private static final int MOST_CHARACTERS = 2000;
    private static final int MOST_PLACES = 30;
    private static final int MOST_GROUPS = 8;
    /** The shortest declaration of an attribute takes eight of the bytes. */
    private static final int MOST_ATTRIBUTES = MOST_BYTES / 8;
    /** Values hold characters of the document and of texts of entities, which the limit bounds. */
    private static final int MOST_IN_VALUES = MOST_BYTES + MOST_LIMIT;
    private static final int LETTERS = 26;
    /** No loop over a document comes near this. */
    private static final int MANY = 1000000;

    private static final int BEGIN = 1;
    private static final int ATTRIBUTE = 2;
    private static final int TEXT = 3;
    private static final int END = 4;

    private final int[] given;
    private int size;
    private int shown;
    private int valid;
    private int faulty;
    private int thrown;
    private final Source source;
    private final Nest nest;
    private final Grammar grammar;
    private final Events found;
    private final Tree tree;
    private final Faults faults;

    public MarkupJudge() {
        given = new int[MOST_BYTES];
        source = new Source();
        nest = new Nest(source);
        Values values = new Values(source, nest);
        grammar = new Grammar(source, nest, values);
        found = new Events();
        tree = new Tree(source, nest, values, grammar.attributes, found);
        faults = new Faults(source, grammar, found);
    }

    public int bytes(long eight, int n) throws IllegalArgumentException, IllegalStateException {
        if (n < 1 || n > 8) {
            throw new IllegalArgumentException();
        }
        if (size + n > MOST_BYTES) {
            throw new IllegalStateException();
        }
        for (int k = 0; k < n; k++) {
            given[size + k] = (int) (eight >> (8 * k)) & 255;
        }
        size += n;
        return size;
    }

    public int clear() {
        int before = size;
        size = 0;
        return before;
    }

    public int judge(int limit)
            throws IllegalArgumentException, IllegalStateException, UnsupportedOperationException {
        shown = 0;
        nest.start(limit);
        if (limit < 0 || limit > MOST_LIMIT) {
            throw new IllegalArgumentException();
        }
        // A throw further down leaves from there, so the document counts as thrown until it is through.
        thrown++;
        source.load(given, size);
        grammar.read();
        tree.read();
        int bits = faults.find();
        thrown--;
        shown = found.size;
        if (bits == 0) {
            valid++;
        } else {
            faulty++;
        }
        return bits;
    }

    public int events() {
        return shown;
    }

    public int event(int i, int what) throws IndexOutOfBoundsException {
        if (i < 0 || i >= shown || what < 0 || what > 2) {
            throw new IndexOutOfBoundsException();
        }
        if (what == 0) {
            return found.kinds[i];
        }
        return what == 1 ? found.names[i] : found.lengths[i];
    }

    public int character(int i, int k) throws IndexOutOfBoundsException {
        if (i < 0 || i >= shown || k < 0 || k >= found.lengths[i]) {
            throw new IndexOutOfBoundsException();
        }
        return found.characters[found.starts[i] + k];
    }

    public int cost() {
        return nest.spent;
    }

    public int count(int what) {
        switch (what) {
            case 0:
                return valid;
            case 1:
                return faulty;
            case 2:
                return thrown;
            default:
                return NONE;
        }
    }

    private static boolean isCharacter(int c) {
        return c == 9 || c == 10 || c == 13 || (c >= 32 && c <= 55295) || (c >= 57344 && c <= 65533);
    }

    private static boolean isBlank(int c) {
        return c == 32 || c == 9 || c == 10 || c == 13;
    }

    private static boolean isName(int c) {
        return c >= 'a' && c <= 'z';
    }

    private static boolean isDigit(int c) {
        return c >= '0' && c <= '9';
    }

    private static boolean isInToken(int c) {
        return (c >= 'a' && c <= 'z') || (c >= '0' && c <= '9');
    }

    /** The characters of the document, the texts of its entities behind them, and the place of reading. */
    private static final class Source {
        /** All texts together are no longer than the document that they stand in. */
        private final int[] text = new int[2 * MOST_BYTES];
        private int filled;
        private int at;
        private int end;

        void load(int[] bytes, int size) {
            filled = 0;
            int before = NONE;
            int i = 0;
            while (i < size) {
                int width = widthOf(bytes[i]);
                int c = decoded(bytes, i, width, size);
                if (!isCharacter(c)) {
                    throw new IllegalArgumentException();
                }
                if (c != 10 || before != 13) {
                    append(c == 13 ? 10 : c);
                }
                before = c;
                i += width;
            }
            at = 0;
            end = filled;
        }

        private static int widthOf(int first) {
            if (first < 128) {
                return 1;
            }
            return first < 224 ? 2 : 3;
        }

        private static int decoded(int[] bytes, int i, int width, int size) {
            int first = bytes[i];
            if (width == 1) {
                return first;
            }
            if (first < 194 || first > 239 || i + width > size) {
                throw new IllegalArgumentException();
            }
            int c = first - (width == 2 ? 192 : 224);
            for (int k = 1; k < width; k++) {
                int follower = bytes[i + k];
                if (follower < 128 || follower > 191) {
                    throw new IllegalArgumentException();
                }
                c = 64 * c + (follower - 128);
            }
            if (width == 3 && c < 2048) {
                throw new IllegalArgumentException();
            }
            return c;
        }

        void append(int c) {
            if (filled >= text.length) {
                throw new IllegalStateException();
            }
            text[filled] = c;
            filled++;
        }

        int peek() {
            return at < end ? text[at] : NONE;
        }

        int take() {
            if (at >= end) {
                throw new IllegalArgumentException();
            }
            int c = text[at];
            at++;
            return c;
        }

        void pass(int c) {
            if (at >= end || text[at] != c) {
                throw new IllegalArgumentException();
            }
            at++;
        }

        int takeName() {
            if (at >= end || !isName(text[at])) {
                throw new IllegalArgumentException();
            }
            int name = text[at];
            at++;
            return name;
        }

        boolean looksAt(String words) {
            if (words.length() > end - at) {
                return false;
            }
            for (int k = 0; k < words.length(); k++) {
                if (text[at + k] != words.charAt(k)) {
                    return false;
                }
            }
            return true;
        }

        boolean skip(String words) {
            boolean there = looksAt(words);
            if (there) {
                at += words.length();
            }
            return there;
        }

        boolean skipBlanks() {
            int from = at;
            while (at < end && isBlank(text[at])) {
                at++;
            }
            return at > from;
        }

        void needBlanks() {
            if (!skipBlanks()) {
                throw new IllegalArgumentException();
            }
        }

        void needToken() {
            int from = at;
            while (at < end && isInToken(text[at])) {
                at++;
            }
            if (at == from) {
                throw new IllegalArgumentException();
            }
        }

        boolean skipComment() {
            if (!skip("<!--")) {
                return false;
            }
            for (int turn = 0; turn < MANY && !skip("-->"); turn++) {
                // The first dash of "--->" is still the comment's: what it ends has no "--" in it.
                if (looksAt("--") && !looksAt("--->")) {
                    throw new IllegalArgumentException();
                }
                take();
            }
            return true;
        }

        void skipBlanksAndComments() {
            boolean more = true;
            for (int turn = 0; turn < MANY && more; turn++) {
                more = skipBlanks() || skipComment();
            }
        }

        /** The character that a reference stands for, or NONE when it is to a name, which is then next. */
        int takeReference() {
            if (skip("&#")) {
                return takeNumber();
            }
            if (skip("&lt;")) {
                return '<';
            }
            if (skip("&amp;")) {
                return '&';
            }
            pass('&');
            return NONE;
        }

        /** What stands behind "&#" of a reference. */
        int takeNumber() {
            int from = at;
            int number = 0;
            while (at < end && at - from < 6 && isDigit(text[at])) {
                number = 10 * number + (text[at] - '0');
                at++;
            }
            if (at == from || !isCharacter(number)) {
                throw new IllegalArgumentException();
            }
            pass(';');
            return number;
        }
    }

    /**
     * The elements and the texts of entities that are being read, one within another. They share one
     * pile, so that neither can end what was begun in the other.
     */
    private static final class Nest {
        private final Source source;
        private final int[] textStarts = new int[LETTERS];
        private final int[] textEnds = new int[LETTERS];
        /** An element's name, or a text's name made negative. */
        private final int[] marks = new int[MOST_NESTED];
        private final int[] backAt = new int[MOST_NESTED];
        private final int[] backEnd = new int[MOST_NESTED];
        private int depth;
        private int limit;
        private int spent;

        Nest(Source source) {
            this.source = source;
        }

        void start(int newLimit) {
            limit = newLimit;
            spent = 0;
            depth = 0;
            for (int letter = 0; letter < LETTERS; letter++) {
                textStarts[letter] = NONE;
                textEnds[letter] = NONE;
            }
        }

        /** The text begins at from and is the last that the source holds; only a name's first one counts. */
        void declareText(int name, int from) {
            int letter = name - 'a';
            if (textStarts[letter] == NONE) {
                textStarts[letter] = from;
                textEnds[letter] = source.filled;
            }
        }

        void openElement(int name) {
            push(name);
        }

        void closeElement(int name) {
            if (depth == 0 || marks[depth - 1] != name) {
                throw new IllegalArgumentException();
            }
            depth--;
        }

        /** At the name of a reference: on to the entity's text. */
        void enterText() {
            int name = source.takeName();
            source.pass(';');
            int letter = name - 'a';
            if (textStarts[letter] == NONE || isBeingRead(name)) {
                throw new IllegalArgumentException();
            }
            spent += textEnds[letter] - textStarts[letter] + 1;
            if (spent > limit) {
                throw new IllegalStateException();
            }
            push(-name);
            source.at = textStarts[letter];
            source.end = textEnds[letter];
        }

        /** At the end of what is read: back behind the reference, if that end is a text's. */
        void leaveText() {
            if (depth == 0 || marks[depth - 1] > 0) {
                throw new IllegalArgumentException();
            }
            depth--;
            source.at = backAt[depth];
            source.end = backEnd[depth];
        }

        private void push(int mark) {
            if (depth >= MOST_NESTED) {
                throw new IllegalStateException();
            }
            marks[depth] = mark;
            backAt[depth] = source.at;
            backEnd[depth] = source.end;
            depth++;
        }

        private boolean isBeingRead(int name) {
            for (int k = 0; k < depth; k++) {
                if (marks[k] == -name) {
                    return true;
                }
            }
            return false;
        }
    }

    /** Reads quoted values of attributes, one at a time. */
    private static final class Values {
        private final Source source;
        private final Nest nest;
        private final int[] value = new int[MOST_IN_VALUES];
        private int length;

        Values(Source source, Nest nest) {
            this.source = source;
            this.nest = nest;
        }

        void read(boolean collapsed) {
            length = 0;
            source.pass('"');
            int outside = nest.depth;
            // A quote that comes from an entity's text does not end the value.
            for (int turn = 0; turn < MANY && (nest.depth > outside || source.peek() != '"'); turn++) {
                int c = source.peek();
                if (c == NONE) {
                    nest.leaveText();
                } else if (c == '<') {
                    throw new IllegalArgumentException();
                } else if (c != '&') {
                    source.take();
                    add(isBlank(c) ? 32 : c);
                } else {
                    int meant = source.takeReference();
                    if (meant == NONE) {
                        nest.enterText();
                    } else {
                        add(meant);
                    }
                }
            }
            source.pass('"');
            if (collapsed) {
                collapse();
            }
        }

        private void add(int c) {
            if (length >= value.length) {
                throw new IllegalStateException();
            }
            value[length] = c;
            length++;
        }

        /** No 32 at the ends, and never two in a row. */
        private void collapse() {
            int kept = 0;
            for (int k = 0; k < length; k++) {
                if (value[k] != 32 || (kept > 0 && value[kept - 1] != 32)) {
                    value[kept] = value[k];
                    kept++;
                }
            }
            if (kept > 0 && value[kept - 1] == 32) {
                kept--;
            }
            length = kept;
        }
    }

    /**
     * What an element may hold. A group is kept as its places: each name in it is one (1 and on), and
     * place 0 is where the content begins. Sets of places are bits; a state is the set of places where
     * the content read so far may end, and no place at all when it is not as the model says.
     */
    private static final class Model {
        private static final int UNDECLARED = 0;
        private static final int EMPTY = 1;
        private static final int ANY = 2;
        private static final int MIXED = 3;
        private static final int GROUP = 4;
        private static final int START = 1;

        private int kind;
        private int mixed;
        private int places;
        private final int[] names = new int[MOST_PLACES + 1];
        private final int[] behind = new int[MOST_PLACES + 1];
        private int ends;

        void start(int newKind) {
            kind = newKind;
            mixed = 0;
            places = 0;
            behind[0] = 0;
            ends = START;
        }

        int addPlace(int name) {
            if (places >= MOST_PLACES) {
                throw new IllegalStateException();
            }
            places++;
            names[places] = name;
            behind[places] = 0;
            return 1 << places;
        }

        void link(int from, int to) {
            for (int p = 0; p <= places; p++) {
                if ((from >> p & 1) != 0) {
                    behind[p] |= to;
                }
            }
        }

        boolean isPlain() {
            for (int p = 0; p <= places; p++) {
                if (!areDifferent(behind[p])) {
                    return false;
                }
            }
            return true;
        }

        private boolean areDifferent(int set) {
            int seen = 0;
            for (int p = 1; p <= places; p++) {
                int bit = 1 << (names[p] - 'a');
                if ((set >> p & 1) != 0) {
                    if ((seen & bit) != 0) {
                        return false;
                    }
                    seen |= bit;
                }
            }
            return true;
        }

        int withElement(int state, int name) {
            switch (kind) {
                case EMPTY:
                    return 0;
                case MIXED:
                    return (mixed >> (name - 'a') & 1) != 0 ? state : 0;
                case GROUP:
                    return withPlace(state, name);
                default:
                    return state;
            }
        }

        private int withPlace(int state, int name) {
            int reached = 0;
            for (int p = 0; p <= places; p++) {
                if ((state >> p & 1) != 0) {
                    reached |= behind[p];
                }
            }
            int alike = 0;
            for (int p = 1; p <= places; p++) {
                if (names[p] == name) {
                    alike |= 1 << p;
                }
            }
            return reached & alike;
        }

        int withText(int state, boolean blank) {
            return kind == EMPTY || (kind == GROUP && !blank) ? 0 : state;
        }
    }

    /** Reads models; of the part that was read last it knows the places where it begins and ends. */
    private static final class ModelReader {
        private final Source source;
        private int firsts;
        private int lasts;
        private boolean canBeNothing;

        ModelReader(Source source) {
            this.source = source;
        }

        void read(Model model) {
            if (source.skip("EMPTY")) {
                model.start(Model.EMPTY);
            } else if (source.skip("ANY")) {
                model.start(Model.ANY);
            } else {
                source.pass('(');
                source.skipBlanks();
                if (source.skip("#PCDATA")) {
                    readMixed(model);
                } else {
                    model.start(Model.GROUP);
                    readGroup(model, 1);
                    readSign(model);
                    model.link(Model.START, firsts);
                    model.ends = canBeNothing ? lasts | Model.START : lasts;
                }
            }
        }

        private void readMixed(Model model) {
            model.start(Model.MIXED);
            boolean hasNames = false;
            source.skipBlanks();
            for (int turn = 0; turn < MANY && !source.skip(")"); turn++) {
                source.pass('|');
                source.skipBlanks();
                model.mixed |= 1 << (source.takeName() - 'a');
                hasNames = true;
                source.skipBlanks();
            }
            if (!source.skip("*") && hasNames) {
                throw new IllegalArgumentException();
            }
        }

        /** Begins behind the parenthesis. */
        private void readGroup(Model model, int depth) {
            if (depth > MOST_GROUPS) {
                throw new IllegalStateException();
            }
            source.skipBlanks();
            readPart(model, depth);
            source.skipBlanks();
            int mark = source.peek();
            if (mark != ',' && mark != '|' && mark != ')') {
                throw new IllegalArgumentException();
            }
            for (int turn = 0; turn < MANY && !source.skip(")"); turn++) {
                int firstsBefore = firsts;
                int lastsBefore = lasts;
                boolean couldBeNothing = canBeNothing;
                source.pass(mark);
                source.skipBlanks();
                readPart(model, depth);
                source.skipBlanks();
                if (mark == '|') {
                    firsts |= firstsBefore;
                    lasts |= lastsBefore;
                    canBeNothing |= couldBeNothing;
                } else {
                    model.link(lastsBefore, firsts);
                    firsts = couldBeNothing ? firstsBefore | firsts : firstsBefore;
                    lasts = canBeNothing ? lastsBefore | lasts : lasts;
                    canBeNothing &= couldBeNothing;
                }
            }
        }

        private void readPart(Model model, int depth) {
            if (source.skip("(")) {
                readGroup(model, depth + 1);
            } else {
                firsts = model.addPlace(source.takeName());
                lasts = firsts;
                canBeNothing = false;
            }
            readSign(model);
        }

        private void readSign(Model model) {
            int sign = source.peek();
            if (sign == '*' || sign == '+') {
                model.link(lasts, firsts);
            }
            if (sign == '*' || sign == '?') {
                canBeNothing = true;
            }
            if (sign == '*' || sign == '+' || sign == '?') {
                source.pass(sign);
            }
        }
    }

    /** The declarations of attributes that count, in their order. */
    private static final class Attributes {
        private static final int CDATA = 0;
        private static final int ID = 1;
        private static final int IDREF = 2;
        private static final int NMTOKEN = 3;
        private static final int TOKENS = 4;

        private static final int IMPLIED = 0;
        private static final int REQUIRED = 1;
        private static final int DEFAULT = 2;
        private static final int FIXED = 3;

        private final int[] elements = new int[MOST_ATTRIBUTES];
        private final int[] names = new int[MOST_ATTRIBUTES];
        private final int[] types = new int[MOST_ATTRIBUTES];
        private final int[] rules = new int[MOST_ATTRIBUTES];
        /** Where the source has the characters of the type. */
        private final int[] typeStarts = new int[MOST_ATTRIBUTES];
        private final int[] typeEnds = new int[MOST_ATTRIBUTES];
        private final int[] starts = new int[MOST_ATTRIBUTES];
        private final int[] lengths = new int[MOST_ATTRIBUTES];
        private final int[] characters = new int[MOST_IN_VALUES];
        private int size;
        private int filled;

        void start() {
            size = 0;
            filled = 0;
        }

        int find(int element, int name) {
            for (int a = 0; a < size; a++) {
                if (elements[a] == element && names[a] == name) {
                    return a;
                }
            }
            return NONE;
        }

        void add(int element, int name, int type, int rule) {
            if (size >= MOST_ATTRIBUTES) {
                throw new IllegalStateException();
            }
            elements[size] = element;
            names[size] = name;
            types[size] = type;
            rules[size] = rule;
            typeStarts[size] = 0;
            typeEnds[size] = 0;
            starts[size] = filled;
            lengths[size] = 0;
            size++;
        }

        /** Of the newest declaration. */
        void setTypePlace(int start, int end) {
            if (size > 0) {
                typeStarts[size - 1] = start;
                typeEnds[size - 1] = end;
            }
        }

        /** Of the newest declaration. */
        void setValue(int[] value, int length) {
            if (size == 0 || length > characters.length - filled) {
                throw new IllegalStateException();
            }
            System.arraycopy(value, 0, characters, filled, length);
            lengths[size - 1] = length;
            filled += length;
        }

        boolean hasValue(int a) {
            return rules[a] == DEFAULT || rules[a] == FIXED;
        }
    }

    /** Reads the grammar, and keeps what it declares. */
    private static final class Grammar {
        private final Source source;
        private final Nest nest;
        private final Values values;
        private final ModelReader modelReader;
        private final Model[] models = new Model[LETTERS];
        private final Model unused = new Model();
        private final Attributes attributes = new Attributes();
        /** The name that the outermost element should have, NONE without a grammar. */
        private int root;
        private boolean declaredTwice;

        Grammar(Source source, Nest nest, Values values) {
            this.source = source;
            this.nest = nest;
            this.values = values;
            modelReader = new ModelReader(source);
            for (int letter = 0; letter < LETTERS; letter++) {
                models[letter] = new Model();
            }
        }

        /** Everything before the outermost element. */
        void read() {
            forget();
            source.skipBlanksAndComments();
            if (!source.skip("<!DOCTYPE")) {
                return;
            }
            if (readHead()) {
                for (int turn = 0; turn < MANY && !source.skip("]"); turn++) {
                    if (source.skip("<!ELEMENT")) {
                        readElement();
                    } else if (source.skip("<!ATTLIST")) {
                        readAttributes();
                    } else if (source.skip("<!ENTITY")) {
                        readEntity();
                    } else if (!source.skipComment()) {
                        source.needBlanks();
                    }
                }
                source.skipBlanks();
            }
            source.pass('>');
            source.skipBlanksAndComments();
        }

        private void forget() {
            root = NONE;
            declaredTwice = false;
            attributes.start();
            for (int letter = 0; letter < LETTERS; letter++) {
                models[letter].start(Model.UNDECLARED);
            }
        }

        /** Whether declarations follow. */
        private boolean readHead() {
            source.needBlanks();
            root = source.takeName();
            source.skipBlanks();
            refuseElsewhere();
            return source.skip("[");
        }

        private void refuseElsewhere() {
            if (source.looksAt("SYSTEM") || source.looksAt("PUBLIC")) {
                throw new UnsupportedOperationException();
            }
        }

        private void readElement() {
            source.needBlanks();
            Model model = models[source.takeName() - 'a'];
            source.needBlanks();
            if (model.kind == Model.UNDECLARED) {
                modelReader.read(model);
            } else {
                modelReader.read(unused);
                declaredTwice = true;
            }
            readClose();
        }

        private void readEntity() {
            source.needBlanks();
            if (source.peek() == '%') {
                throw new UnsupportedOperationException();
            }
            int name = source.takeName();
            source.needBlanks();
            refuseElsewhere();
            int from = source.filled;
            source.pass('"');
            for (int turn = 0; turn < MANY && !source.skip("\""); turn++) {
                source.append(source.skip("&#") ? source.takeNumber() : source.take());
            }
            nest.declareText(name, from);
            readClose();
        }

        private void readAttributes() {
            source.needBlanks();
            int element = source.takeName();
            boolean parted = source.skipBlanks();
            for (int turn = 0; turn < MANY && parted && source.peek() != '>'; turn++) {
                readAttribute(element);
                parted = source.skipBlanks();
            }
            readClose();
        }

        private void readAttribute(int element) {
            int name = source.takeName();
            source.needBlanks();
            int typeStart = source.at;
            int type = readType();
            int typeEnd = source.at;
            source.needBlanks();
            int rule = readRule();
            if (rule == Attributes.FIXED) {
                source.needBlanks();
            }
            boolean first = attributes.find(element, name) == NONE;
            if (first) {
                attributes.add(element, name, type, rule);
                attributes.setTypePlace(typeStart, typeEnd);
            }
            if (rule == Attributes.FIXED || rule == Attributes.DEFAULT) {
                values.read(type != Attributes.CDATA);
                if (first) {
                    attributes.setValue(values.value, values.length);
                }
            }
        }

        private int readType() {
            if (source.skip("CDATA")) {
                return Attributes.CDATA;
            }
            if (source.skip("IDREF")) {
                return Attributes.IDREF;
            }
            if (source.skip("ID")) {
                return Attributes.ID;
            }
            if (source.skip("NMTOKEN")) {
                return Attributes.NMTOKEN;
            }
            readTokens();
            return Attributes.TOKENS;
        }

        private void readTokens() {
            source.pass('(');
            boolean more = true;
            for (int turn = 0; turn < MANY && more; turn++) {
                source.skipBlanks();
                source.needToken();
                source.skipBlanks();
                more = source.skip("|");
            }
            source.pass(')');
        }

        private int readRule() {
            if (source.skip("#REQUIRED")) {
                return Attributes.REQUIRED;
            }
            if (source.skip("#IMPLIED")) {
                return Attributes.IMPLIED;
            }
            return source.skip("#FIXED") ? Attributes.FIXED : Attributes.DEFAULT;
        }

        private void readClose() {
            source.skipBlanks();
            source.pass('>');
        }
    }

    /** What was found in the document, in its order. */
    private static final class Events {
        private final int[] kinds = new int[MOST_EVENTS];
        private final int[] names = new int[MOST_EVENTS];
        private final int[] starts = new int[MOST_EVENTS];
        private final int[] lengths = new int[MOST_EVENTS];
        /** Which declaration an attribute has, or NONE. */
        private final int[] declarations = new int[MOST_EVENTS];
        private final int[] characters = new int[MOST_CHARACTERS];
        private int size;
        private int filled;

        void start() {
            size = 0;
            filled = 0;
        }

        void add(int kind, int name) {
            if (size >= MOST_EVENTS) {
                throw new IllegalStateException();
            }
            kinds[size] = kind;
            names[size] = name;
            starts[size] = filled;
            lengths[size] = 0;
            declarations[size] = NONE;
            size++;
        }

        void addAttribute(int name, int declaration, int[] row, int from, int length) {
            add(ATTRIBUTE, name);
            if (length > MOST_CHARACTERS - filled) {
                throw new IllegalStateException();
            }
            System.arraycopy(row, from, characters, filled, length);
            filled += length;
            lengths[size - 1] = length;
            declarations[size - 1] = declaration;
        }

        void addText(int c) {
            if (size == 0 || kinds[size - 1] != TEXT) {
                add(TEXT, 0);
            }
            if (filled >= MOST_CHARACTERS) {
                throw new IllegalStateException();
            }
            characters[filled] = c;
            filled++;
            lengths[size - 1]++;
        }

        /** Whether event i's characters are just these of the row. */
        boolean holds(int i, int[] row, int from, int length) {
            if (lengths[i] != length) {
                return false;
            }
            for (int k = 0; k < length; k++) {
                if (characters[starts[i] + k] != row[from + k]) {
                    return false;
                }
            }
            return true;
        }

        boolean isOfBlanks(int i) {
            for (int k = 0; k < lengths[i]; k++) {
                if (!isBlank(characters[starts[i] + k])) {
                    return false;
                }
            }
            return true;
        }

        boolean isToken(int i) {
            for (int k = 0; k < lengths[i]; k++) {
                if (!isInToken(characters[starts[i] + k])) {
                    return false;
                }
            }
            return lengths[i] > 0;
        }

        boolean beginsWithName(int i) {
            return lengths[i] > 0 && isName(characters[starts[i]]);
        }
    }

    /** Reads the elements, and makes the events. */
    private static final class Tree {
        private final Source source;
        private final Nest nest;
        private final Values values;
        private final Attributes attributes;
        private final Events found;

        Tree(Source source, Nest nest, Values values, Attributes attributes, Events found) {
            this.source = source;
            this.nest = nest;
            this.values = values;
            this.attributes = attributes;
            this.found = found;
        }

        void read() {
            found.start();
            readTag();
            for (int turn = 0; turn < MANY && nest.depth > 0; turn++) {
                int c = source.peek();
                if (c == NONE) {
                    nest.leaveText();
                } else if (c == '&') {
                    readReference();
                } else if (c != '<') {
                    found.addText(source.take());
                } else if (source.skip("</")) {
                    readEndTag();
                } else if (!source.skipComment()) {
                    readTag();
                }
            }
            source.skipBlanksAndComments();
            if (source.peek() != NONE) {
                throw new IllegalArgumentException();
            }
        }

        private void readReference() {
            int c = source.takeReference();
            if (c == NONE) {
                nest.enterText();
            } else {
                found.addText(c);
            }
        }

        private void readTag() {
            source.pass('<');
            int name = source.takeName();
            nest.openElement(name);
            found.add(BEGIN, name);
            int standing = 0;
            boolean parted = source.skipBlanks();
            for (int turn = 0; turn < MANY && parted && isName(source.peek()); turn++) {
                standing = readAttribute(name, standing);
                parted = source.skipBlanks();
            }
            boolean empty = source.skip("/");
            source.pass('>');
            addDefaults(name, standing);
            if (empty) {
                endElement(name);
            }
        }

        /** The names that stand in the tag are bits; the answer has the one that was read, too. */
        private int readAttribute(int element, int standing) {
            int name = source.takeName();
            int bit = 1 << (name - 'a');
            if ((standing & bit) != 0) {
                throw new IllegalArgumentException();
            }
            source.skipBlanks();
            source.pass('=');
            source.skipBlanks();
            int declaration = attributes.find(element, name);
            values.read(declaration != NONE && attributes.types[declaration] != Attributes.CDATA);
            found.addAttribute(name, declaration, values.value, 0, values.length);
            return standing | bit;
        }

        private void addDefaults(int element, int standing) {
            for (int a = 0; a < attributes.size; a++) {
                int name = attributes.names[a];
                boolean missing = (standing >> (name - 'a') & 1) == 0;
                if (attributes.elements[a] == element && missing && attributes.hasValue(a)) {
                    found.addAttribute(name, a, attributes.characters, attributes.starts[a], attributes.lengths[a]);
                }
            }
        }

        private void readEndTag() {
            int name = source.takeName();
            source.skipBlanks();
            source.pass('>');
            endElement(name);
        }

        private void endElement(int name) {
            nest.closeElement(name);
            found.add(END, name);
        }
    }

    /** Holds the events against the grammar. */
    private static final class Faults {
        private static final int OTHER_ROOT = 1;
        private static final int ELEMENT_NOT_DECLARED = 2;
        private static final int OTHER_CONTENT = 4;
        private static final int ATTRIBUTE_NOT_DECLARED = 8;
        private static final int REQUIRED_MISSING = 16;
        private static final int OTHER_THAN_FIXED = 32;
        private static final int NO_TOKEN = 64;
        private static final int BAD_ID = 128;
        private static final int NO_SUCH_ID = 256;
        private static final int NOT_PLAIN = 512;
        private static final int DECLARED_TWICE = 1024;

        private final Source source;
        private final Grammar grammar;
        private final Attributes attributes;
        private final Events found;
        private final int[] openNames = new int[MOST_NESTED];
        private final int[] states = new int[MOST_NESTED];
        private int depth;
        private int bits;

        Faults(Source source, Grammar grammar, Events found) {
            this.source = source;
            this.grammar = grammar;
            this.attributes = grammar.attributes;
            this.found = found;
        }

        int find() {
            if (grammar.root == NONE) {
                return OTHER_ROOT;
            }
            bits = 0;
            depth = 0;
            lookAtModels();
            for (int i = 0; i < found.size; i++) {
                lookAtEvent(i);
            }
            return bits;
        }

        private void tell(int fault, boolean there) {
            if (there) {
                bits |= fault;
            }
        }

        private void lookAtModels() {
            tell(DECLARED_TWICE, grammar.declaredTwice);
            for (int letter = 0; letter < LETTERS; letter++) {
                tell(NOT_PLAIN, !grammar.models[letter].isPlain());
            }
        }

        private void lookAtEvent(int i) {
            switch (found.kinds[i]) {
                case BEGIN:
                    lookAtBegin(i);
                    break;
                case ATTRIBUTE:
                    lookAtAttribute(i, found.declarations[i]);
                    break;
                case TEXT:
                    lookAtText(i);
                    break;
                default:
                    lookAtEnd();
                    break;
            }
        }

        private Model modelOf(int name) {
            return grammar.models[name - 'a'];
        }

        private void lookAtBegin(int i) {
            int name = found.names[i];
            if (depth == 0) {
                tell(OTHER_ROOT, name != grammar.root);
            } else {
                states[depth - 1] = modelOf(openNames[depth - 1]).withElement(states[depth - 1], name);
            }
            tell(ELEMENT_NOT_DECLARED, modelOf(name).kind == Model.UNDECLARED);
            lookForRequired(i);
            if (depth < MOST_NESTED) {
                openNames[depth] = name;
                states[depth] = Model.START;
                depth++;
            }
        }

        private void lookAtText(int i) {
            if (depth > 0) {
                states[depth - 1] = modelOf(openNames[depth - 1]).withText(states[depth - 1], found.isOfBlanks(i));
            }
        }

        private void lookAtEnd() {
            if (depth > 0) {
                depth--;
                tell(OTHER_CONTENT, (states[depth] & modelOf(openNames[depth]).ends) == 0);
            }
        }

        private void lookForRequired(int begin) {
            for (int a = 0; a < attributes.size; a++) {
                if (attributes.elements[a] == found.names[begin] && attributes.rules[a] == Attributes.REQUIRED) {
                    tell(REQUIRED_MISSING, !hasAttribute(begin, a));
                }
            }
        }

        private boolean hasAttribute(int begin, int a) {
            for (int i = begin + 1; i < found.size && found.kinds[i] == ATTRIBUTE; i++) {
                if (found.declarations[i] == a) {
                    return true;
                }
            }
            return false;
        }

        private void lookAtAttribute(int i, int a) {
            if (a == NONE) {
                bits |= ATTRIBUTE_NOT_DECLARED;
                return;
            }
            if (attributes.rules[a] == Attributes.FIXED) {
                boolean same = found.holds(i, attributes.characters, attributes.starts[a], attributes.lengths[a]);
                tell(OTHER_THAN_FIXED, !same);
            }
            switch (attributes.types[a]) {
                case Attributes.TOKENS:
                    tell(NO_TOKEN, !isListed(i, attributes.typeStarts[a], attributes.typeEnds[a]));
                    break;
                case Attributes.NMTOKEN:
                    tell(NO_TOKEN, !found.isToken(i));
                    break;
                case Attributes.ID:
                    tell(BAD_ID, !found.isToken(i) || !found.beginsWithName(i) || isIdBefore(i, i));
                    break;
                case Attributes.IDREF:
                    tell(NO_SUCH_ID, !isIdBefore(found.size, i));
                    break;
                default:
                    break;
            }
        }

        /** The tokens still stand in the source: what parts them there is in no token. */
        private boolean isListed(int i, int typeStart, int typeEnd) {
            int from = typeStart;
            for (int k = typeStart; k < typeEnd; k++) {
                if (!isInToken(source.text[k])) {
                    if (k > from && found.holds(i, source.text, from, k - from)) {
                        return true;
                    }
                    from = k + 1;
                }
            }
            return false;
        }

        /** Whether one of the events before end is an ID with the value of event i. */
        private boolean isIdBefore(int end, int i) {
            for (int j = 0; j < end; j++) {
                int a = found.declarations[j];
                if (a != NONE && attributes.types[a] == Attributes.ID
                        && found.holds(j, found.characters, found.starts[i], found.lengths[i])) {
                    return true;
                }
            }
            return false;
        }
    }
}
