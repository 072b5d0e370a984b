import java.nio.ByteBuffer;
import java.nio.charset.CharacterCodingException;
import java.nio.charset.StandardCharsets;
import java.util.ArrayList;
import java.util.LinkedHashMap;
import java.util.LinkedHashSet;
import java.util.List;
import java.util.Map;
import java.util.Set;
import java.util.function.Function;
import java.util.regex.Matcher;
import java.util.regex.Pattern;

/**
 * A second judge, written from the document's words with the means of the Java library and unlike the program:
 * regular expressions, recursion, a tree of elements. Slow and plain; it is there to be compared with the program.
 */
final class PlainJudge {
    private static final String S = "[ \t\n\r]+";
    private static final String MAYBE_S = "[ \t\n\r]*";
    private static final Pattern SPACE = Pattern.compile(S);
    private static final Pattern ANY_SPACE = Pattern.compile(MAYBE_S);
    private static final Pattern COMMENT = Pattern.compile("<!--(?:-?[^-])*+-?-->");
    private static final Pattern NAME = Pattern.compile("[a-z]");
    private static final Pattern NUMBER = Pattern.compile("&#([0-9]{1,6});");
    private static final Pattern QUOTED = Pattern.compile("\"([^\"]*)\"");
    private static final Pattern TOKENS =
        Pattern.compile("\\(" + MAYBE_S + "[a-z0-9]+(?:" + MAYBE_S + "\\|" + MAYBE_S + "[a-z0-9]+)*" + MAYBE_S + "\\)");
    private static final Pattern MIXED = Pattern.compile("\\(" + MAYBE_S + "#PCDATA(?:(?:"
        + MAYBE_S + "\\|" + MAYBE_S + "[a-z])*" + MAYBE_S + "\\)\\*|" + MAYBE_S + "\\))");

    /** What reads a row of characters; the text of an entity has a reader of its own. */
    private static final class Reader {
        private final String row;
        private int at;

        Reader(String row) {
            this.row = row;
        }

        boolean ended() {
            return at == row.length();
        }

        /** What the pattern matches here is read, and given out; null when it does not match. */
        String maybe(Pattern pattern) {
            Matcher matcher = pattern.matcher(row).region(at, row.length());
            if (!matcher.lookingAt()) {
                return null;
            }
            at = matcher.end();
            return matcher.group();
        }

        String need(Pattern pattern) {
            String read = maybe(pattern);
            if (read == null) {
                throw new IllegalArgumentException();
            }
            return read;
        }

        boolean maybe(String words) {
            boolean there = row.startsWith(words, at);
            at += there ? words.length() : 0;
            return there;
        }

        void need(String words) {
            if (!maybe(words)) {
                throw new IllegalArgumentException();
            }
        }

        char name() {
            return need(NAME).charAt(0);
        }

        char next() {
            if (ended()) {
                throw new IllegalArgumentException();
            }
            return row.charAt(at++);
        }
    }

    private static final class Element {
        private final char name;
        private final Map<Character, String> attributes = new LinkedHashMap<>();
        private final List<Element> elements = new ArrayList<>();
        private final StringBuilder texts = new StringBuilder();

        Element(char name) {
            this.name = name;
        }

        String names() {
            StringBuilder names = new StringBuilder();
            elements.forEach(element -> names.append(element.name));
            return names.toString();
        }
    }

    private record Attribute(String type, String rule, String value) {
    }

    private final int limit;
    private int cost;
    private int within;
    private int characters;
    private int events;
    private boolean inText;
    private final StringBuilder line = new StringBuilder();
    private Character root;
    private boolean twice;
    private final Map<Character, String> texts = new LinkedHashMap<>();
    private final Set<Character> beingRead = new LinkedHashSet<>();
    private final Map<Character, Function<Element, Boolean>> models = new LinkedHashMap<>();
    private boolean plain = true;
    private final Map<Character, Map<Character, Attribute>> attributes = new LinkedHashMap<>();

    private PlainJudge(int limit) {
        this.limit = limit;
    }

    /** The answer, the cost and the events, as the tests write them. */
    static String judged(byte[] row, int limit) {
        PlainJudge judge = new PlainJudge(limit);
        try {
            int faults = judge.read(new Reader(decoded(row)));
            return faults + " " + judge.cost + " " + judge.line;
        } catch (IllegalArgumentException | IllegalStateException | UnsupportedOperationException e) {
            return "throws." + e.getClass().getSimpleName() + " " + judge.cost + " ";
        }
    }

    private static String decoded(byte[] row) {
        String text;
        try {
            text = StandardCharsets.UTF_8.newDecoder().decode(ByteBuffer.wrap(row)).toString();
        } catch (CharacterCodingException e) {
            throw new IllegalArgumentException(e);
        }
        text.chars().forEach(PlainJudge::needCharacter);
        return text.replace("\r\n", "\n").replace('\r', '\n');
    }

    private static void needCharacter(int c) {
        boolean good = "\t\n\r".indexOf(c) >= 0 || c >= 0x20 && c < 0xD800 || c >= 0xE000 && c < 0xFFFE;
        if (!good) {
            throw new IllegalArgumentException();
        }
    }

    private int read(Reader in) {
        around(in);
        if (in.maybe("<!DOCTYPE")) {
            grammar(in);
            around(in);
        }
        in.need("<");
        Element outermost = element(in);
        around(in);
        if (!in.ended()) {
            throw new IllegalArgumentException();
        }
        return root == null ? 1 : faults(outermost);
    }

    private static void around(Reader in) {
        while (in.maybe(SPACE) != null || in.maybe(COMMENT) != null) {
            continue;
        }
    }

    private void grammar(Reader in) {
        in.need(SPACE);
        root = in.name();
        in.need(ANY_SPACE);
        supported(in);
        if (in.maybe("[")) {
            around(in);
            while (!in.maybe("]")) {
                declaration(in);
                in.need(ANY_SPACE);
                in.need(">");
                around(in);
            }
            in.need(ANY_SPACE);
        }
        in.need(">");
    }

    private static void supported(Reader in) {
        if (in.maybe("SYSTEM") || in.maybe("PUBLIC")) {
            throw new UnsupportedOperationException();
        }
    }

    private void declaration(Reader in) {
        if (in.maybe("<!ELEMENT")) {
            in.need(SPACE);
            char name = in.name();
            in.need(SPACE);
            boolean plainBefore = plain;
            Function<Element, Boolean> model = model(in);
            if (models.putIfAbsent(name, model) != null) {
                twice = true;
                plain = plainBefore;
            }
        } else if (in.maybe("<!ATTLIST")) {
            in.need(SPACE);
            attributeList(in, in.name());
        } else {
            in.need("<!ENTITY");
            in.need(SPACE);
            if (in.maybe("%")) {
                throw new UnsupportedOperationException();
            }
            char name = in.name();
            in.need(SPACE);
            supported(in);
            texts.putIfAbsent(name, textOf(quoted(in)));
        }
    }

    private static String quoted(Reader in) {
        String read = in.need(QUOTED);
        return read.substring(1, read.length() - 1);
    }

    private static String textOf(String quoted) {
        Reader in = new Reader(quoted);
        StringBuilder text = new StringBuilder();
        while (!in.ended()) {
            text.append(in.row.startsWith("&#", in.at) ? number(in) : in.next());
        }
        return text.toString();
    }

    private static char number(Reader in) {
        String read = in.need(NUMBER);
        int c = Integer.parseInt(read.substring(2, read.length() - 1));
        needCharacter(c);
        return (char) c;
    }

    private void attributeList(Reader in, char element) {
        int before = in.at;
        while (in.maybe(SPACE) != null && !in.row.startsWith(">", in.at)) {
            char name = in.name();
            in.need(SPACE);
            String type = type(in);
            in.need(SPACE);
            String rule = rule(in);
            String value = rule.equals("#FIXED") || rule.isEmpty() ? value(in, !type.equals("CDATA")) : null;
            attributes.computeIfAbsent(element, key -> new LinkedHashMap<>()).putIfAbsent(name, new Attribute(type, rule, value));
            before = in.at;
        }
        in.at = before;
    }

    private static String type(Reader in) {
        for (String type : new String[] {"CDATA", "IDREF", "ID", "NMTOKEN"}) {
            if (in.maybe(type)) {
                return type;
            }
        }
        return in.need(TOKENS).replaceAll("[ \t\n]", "").replace('(', '|').replace(')', '|');
    }

    private static String rule(Reader in) {
        for (String rule : new String[] {"#REQUIRED", "#IMPLIED"}) {
            if (in.maybe(rule)) {
                return rule;
            }
        }
        if (in.maybe("#FIXED")) {
            in.need(SPACE);
            return "#FIXED";
        }
        return "";
    }

    private String value(Reader in, boolean inOne) {
        in.need("\"");
        StringBuilder value = new StringBuilder();
        while (!in.maybe("\"")) {
            valuePart(in, value);
        }
        String all = value.toString();
        return inOne ? all.replaceAll("\\A +| +\\z", "").replaceAll(" +", " ") : all;
    }

    private void valuePart(Reader in, StringBuilder value) {
        if (in.row.startsWith("&#", in.at)) {
            value.append(number(in));
        } else if (in.maybe("&lt;")) {
            value.append('<');
        } else if (in.maybe("&amp;")) {
            value.append('&');
        } else if (in.maybe("&")) {
            char name = in.name();
            for (Reader text = entered(in, name); !text.ended();) {
                valuePart(text, value);
            }
            left(name);
        } else {
            char c = in.next();
            if (c == '<') {
                throw new IllegalArgumentException();
            }
            value.append("\t\n\r".indexOf(c) >= 0 ? ' ' : c);
        }
    }

    private Reader entered(Reader in, char name) {
        in.need(";");
        String text = texts.get(name);
        if (text == null || !beingRead.add(name)) {
            throw new IllegalArgumentException();
        }
        cost += text.length() + 1;
        within++;
        if (cost > limit || within > 16) {
            throw new IllegalStateException();
        }
        return new Reader(text);
    }

    private void left(char name) {
        beingRead.remove(name);
        within--;
    }

    private void event(String words, String value) {
        events++;
        inText = false;
        line.append(line.length() == 0 ? "" : " ").append(words);
        if (value != null) {
            line.append('[');
            value.chars().forEach(this::shown);
            line.append(']');
            characters += value.length();
        }
        needRoom();
    }

    private void shown(int c) {
        line.append(c >= 32 && c <= 126 ? String.valueOf((char) c) : "{" + c + "}");
    }

    private void textEvent(Element element, char c) {
        element.texts.append(c);
        if (inText) {
            line.setLength(line.length() - 1);
        } else {
            event("[", null);
            inText = true;
        }
        shown(c);
        line.append(']');
        characters++;
        needRoom();
    }

    private void needRoom() {
        if (events > 200 || characters > 2000) {
            throw new IllegalStateException();
        }
    }

    /** From behind the < of its tag on. */
    private Element element(Reader in) {
        Element element = new Element(in.name());
        within++;
        if (within > 16) {
            throw new IllegalStateException();
        }
        event("+" + element.name, null);
        Map<Character, Attribute> declared = attributes.getOrDefault(element.name, Map.of());
        while (in.maybe(SPACE) != null && in.row.substring(in.at).matches("(?s)[a-z].*")) {
            attribute(in, element, declared);
        }
        boolean closed = in.maybe("/");
        in.need(">");
        declared.forEach((name, attribute) -> {
            if (attribute.value() != null && !element.attributes.containsKey(name)) {
                element.attributes.put(name, attribute.value());
                event(name.toString(), attribute.value());
            }
        });
        if (!closed) {
            content(in, element);
            in.need("</");
            in.need(String.valueOf(element.name));
            in.need(ANY_SPACE);
            in.need(">");
        }
        within--;
        event("-" + element.name, null);
        return element;
    }

    private void attribute(Reader in, Element element, Map<Character, Attribute> declared) {
        char name = in.name();
        if (element.attributes.containsKey(name)) {
            throw new IllegalArgumentException();
        }
        in.need(ANY_SPACE);
        in.need("=");
        in.need(ANY_SPACE);
        Attribute attribute = declared.get(name);
        String value = value(in, attribute != null && !attribute.type().equals("CDATA"));
        element.attributes.put(name, value);
        event(String.valueOf(name), value);
    }

    /** Up to what is no content. */
    private void content(Reader in, Element element) {
        while (!in.ended() && !in.row.startsWith("</", in.at)) {
            if (in.maybe(COMMENT) != null) {
                continue;
            }
            if (in.maybe("<")) {
                element.elements.add(element(in));
            } else if (in.row.startsWith("&#", in.at)) {
                textEvent(element, number(in));
            } else if (in.maybe("&lt;")) {
                textEvent(element, '<');
            } else if (in.maybe("&amp;")) {
                textEvent(element, '&');
            } else if (in.maybe("&")) {
                char name = in.name();
                Reader text = entered(in, name);
                content(text, element);
                if (!text.ended()) {
                    throw new IllegalArgumentException();
                }
                left(name);
            } else {
                textEvent(element, in.next());
            }
        }
    }

    private Function<Element, Boolean> model(Reader in) {
        if (in.maybe("EMPTY")) {
            return element -> element.elements.isEmpty() && element.texts.length() == 0;
        }
        if (in.maybe("ANY")) {
            return element -> true;
        }
        if (Pattern.compile("\\(" + MAYBE_S + "#").matcher(in.row).region(in.at, in.row.length()).lookingAt()) {
            String mixed = in.need(MIXED).replaceAll("#PCDATA|[^a-z]", "");
            return element -> element.names().chars().allMatch(name -> mixed.indexOf(name) >= 0);
        }
        PlainGroups groups = new PlainGroups(in.row, in.at);
        in.at = groups.end();
        plain &= groups.isPlain();
        return element -> element.texts.toString().matches("[ \t\n\r]*") && groups.describes(element.names());
    }

    private int faults(Element outermost) {
        List<String> ids = new ArrayList<>();
        List<String> references = new ArrayList<>();
        int faults = outermost.name == root ? 0 : 1;
        faults |= plain ? 0 : 512;
        faults |= twice ? 1024 : 0;
        faults |= faultsWithin(outermost, ids, references);
        faults |= ids.size() == Set.copyOf(ids).size() ? 0 : 128;
        return faults | (ids.containsAll(references) ? 0 : 256);
    }

    private int faultsWithin(Element element, List<String> ids, List<String> references) {
        int faults = 0;
        if (!models.containsKey(element.name)) {
            faults |= 2;
        } else if (!models.get(element.name).apply(element)) {
            faults |= 4;
        }
        Map<Character, Attribute> declared = attributes.getOrDefault(element.name, Map.of());
        for (Map.Entry<Character, Attribute> entry : declared.entrySet()) {
            boolean missing = !element.attributes.containsKey(entry.getKey());
            faults |= missing && entry.getValue().rule().equals("#REQUIRED") ? 16 : 0;
        }
        for (Map.Entry<Character, String> entry : element.attributes.entrySet()) {
            Attribute attribute = declared.get(entry.getKey());
            faults |= attribute == null ? 8 : faultsOf(attribute, entry.getValue(), ids, references);
        }
        for (Element inner : element.elements) {
            faults |= faultsWithin(inner, ids, references);
        }
        return faults;
    }

    private static int faultsOf(Attribute attribute, String value, List<String> ids, List<String> references) {
        int faults = attribute.rule().equals("#FIXED") && !value.equals(attribute.value()) ? 32 : 0;
        switch (attribute.type()) {
            case "CDATA" -> {
            }
            case "NMTOKEN" -> faults |= value.matches("[a-z0-9]+") ? 0 : 64;
            case "IDREF" -> references.add(value);
            case "ID" -> {
                ids.add(value);
                faults |= value.matches("[a-z][a-z0-9]*") ? 0 : 128;
            }
            default -> {
                boolean token = !value.contains("|") && !value.isEmpty() && attribute.type().contains("|" + value + "|");
                faults |= token ? 0 : 64;
            }
        }
        return faults;
    }
}
