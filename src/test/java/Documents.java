import java.nio.charset.StandardCharsets;
import java.util.Arrays;
import java.util.Map;
import java.util.Random;
import java.util.TreeMap;

/** Makes documents by chance, most of them not far from valid; the same seed makes the same ones. */
final class Documents {
    private static final int MOST_BYTES = 360;
    private static final String[] TYPES = {"CDATA", "ID", "IDREF", "NMTOKEN", "(p|q1)", "( p1 |\n2 | p)", "(p)"};
    private static final String[] ODD = {
        "<", ">", "/", "!", "-", "--", "[", "]", "(", ")", "|", ",", "?", "*", "+", "=", "\"", "&", ";", "#", "%", " ",
        "\t", "\n", "\r", "\r\n", "a", "b", "z", "0", "A", "&#", "&#13;", "&#65534;", "&#0;", "&lt;", "&amp;", "<!--", "-->",
        "<!", "</", "/>", "\u00e9", "\u20ac", "\ufffe", "\uffff", "\ud83d\ude00", "SYSTEM", "PUBLIC", "#PCDATA", "EMPTY",
        "<!ELEMENT a ANY>", "<!ATTLIST b x CDATA \"&e;\">", "<!ENTITY e \"<b>&f;</b>\">", "<!--a--->"};

    private final Random random;
    private final StringBuilder document = new StringBuilder();
    private final StringBuilder entities = new StringBuilder();
    private final StringBuilder elements = new StringBuilder();
    /** Of each element the names of the attributes that were declared. */
    private final Map<Character, String> attributes = new TreeMap<>();

    Documents(long seed) {
        random = new Random(seed);
    }

    /** One that is seldom reached, or one that often is. */
    int limit() {
        return random.nextInt(4) == 0 ? random.nextInt(60) : 2000;
    }

    byte[] next() {
        document.setLength(0);
        entities.setLength(0);
        elements.setLength(0);
        attributes.clear();
        switch (random.nextInt(16)) {
            case 0 -> manyWithin();
            case 1 -> manyEvents();
            case 2 -> manyCharacters();
            default -> anyDocument();
        }
        if (random.nextInt(4) == 0) {
            change();
        }
        byte[] row = document.toString().getBytes(StandardCharsets.UTF_8);
        if (row.length > 0 && random.nextInt(40) == 0) {
            row[random.nextInt(row.length)] = (byte) random.nextInt(256);
        }
        return row.length <= MOST_BYTES ? row : random.nextInt(8) == 0 ? Arrays.copyOf(row, MOST_BYTES) : next();
    }

    private void anyDocument() {
        around();
        if (random.nextInt(12) != 0) {
            grammar();
            around();
        }
        element(0, random.nextInt(12) == 0 ? name() : 'a');
        around();
    }

    /** Near 200 events. */
    private void manyEvents() {
        String unit = one("<b/>", "<b/>t", "<b>t</b>", "<b x=&#34;12&#34;/>");
        int repeats = 4 + random.nextInt(160 / unit.length() - 3);
        int eventsOfText = repeats * (unit.equals("<b/>") ? 2 : 3);
        int times = Math.min(190 / eventsOfText, 2000 / (repeats * unit.length() + 1));
        grammarWith(unit.repeat(repeats));
        add("<a>" + "&e;".repeat(times));
        int missing = 196 + random.nextInt(6) - times * eventsOfText;
        add("<b/>".repeat(missing / 2) + one("", "t", "<b/>"));
        add(one("</a>", "</a>", "</a>", "</b>", "<", "<b", "<b x", "<b z=\"\"", "<b z=\"<", "&f;", "t<", "t&"));
    }

    /** Near 2000 characters in the events. */
    private void manyCharacters() {
        int length = 60 + random.nextInt(100);
        int times = Math.min(1990 / length, 2000 / (length + 1));
        grammarWith("t".repeat(length));
        String all = "&e;".repeat(times) + "t".repeat(1996 + random.nextInt(7) - times * length);
        int half = 3 * random.nextInt(times + 1);
        add(switch (random.nextInt(4)) {
            case 0 -> "<a x=\"" + all + one("\"/>", "\"></a>", "", "<\"/>", "\"<");
            case 1 -> "<a x=\"" + all.substring(0, half) + "\">" + all.substring(half) + one("</a>", "", "<b z=\"1\"/></a>", "<b/>");
            default -> "<a>" + all + one("</a>", "<b/></a>", "<b x=\"1\"/></a>", "<b x=\"1\" x=\"\"/></a>", "<b x=\"&#0;\"/></a>", "<");
        });
    }

    private void grammarWith(String text) {
        add("<!DOCTYPE a[<!ENTITY e \"" + text + "\">");
        add(random.nextInt(4) == 0 ? "<!ATTLIST b z CDATA \"" + "d".repeat(random.nextInt(3)) + "\">" : "");
        add("]>");
    }

    /** Near 16 elements and texts within one another. */
    private void manyWithin() {
        int texts = random.nextInt(7);
        add("<!DOCTYPE a[");
        for (int k = 0; k < texts; k++) {
            char name = (char) ('e' + k);
            String next = k + 1 < texts ? "&" + (char) (name + 1) + ";" : one("", "t", "<b/>", "<b", "&e;", "&z;", "<b x=&#34;&e;&#34;/>");
            add("<!ENTITY " + name + " \"" + (random.nextInt(4) == 0 ? "<c>" + next + "</c>" : next) + "\">");
        }
        add(random.nextInt(4) == 0 ? "<!ATTLIST b x CDATA \"&e;\">" : "");
        add("]>");
        int deep = Math.max(1, 17 - texts - random.nextInt(4));
        add("<a>".repeat(deep));
        add(one("", "&e;", "&e;", "<b/>", "<b", "<b x=\"&e;\"/>", "<b x=\"&f;\"/>", "<b x=\"&e;&e\"/>", "</b>"));
        add("</a>".repeat(deep));
    }

    private void change() {
        for (int k = 1 + random.nextInt(2); k > 0; k--) {
            int at = random.nextInt(document.length() + 1);
            int end = Math.min(document.length(), at + random.nextInt(4));
            switch (random.nextInt(4)) {
                case 0 -> document.delete(at, end);
                case 1 -> document.insert(at, document.substring(at, Math.min(document.length(), at + random.nextInt(30))));
                case 2 -> document.replace(at, end, one(ODD));
                default -> document.insert(at, one(ODD));
            }
        }
    }

    private String one(String... of) {
        return of[random.nextInt(of.length)];
    }

    private char name() {
        return "aaabbbccd".charAt(random.nextInt(9));
    }

    private char entity() {
        return "eeeffghij".charAt(random.nextInt(9));
    }

    /** Mostly to one that was declared before. */
    private String reference() {
        if (entities.length() == 0 || random.nextInt(25) == 0) {
            return random.nextInt(5) == 0 ? "&" + entity() + ";" : "";
        }
        return "&" + entities.charAt(random.nextInt(entities.length())) + ";";
    }

    private void add(Object words) {
        document.append(words);
    }

    private void blanks() {
        add(random.nextInt(6) == 0 ? one(" ", "\n", "\t ", "\r\n", "\r") : "");
    }

    private void space() {
        add(random.nextInt(10) == 0 ? one("\n", "\t", "  ", "\r\n") : " ");
    }

    private void around() {
        if (random.nextInt(5) == 0) {
            add(one(" ", "\n", "<!---->", "<!-- - -->", " <!--&<a>-->"));
        }
    }

    private void grammar() {
        add("<!DOCTYPE");
        space();
        add(random.nextInt(15) == 0 ? name() : 'a');
        blanks();
        add(random.nextInt(80) == 0 ? one("SYSTEM \"x\"", "PUBLIC \"x\" \"y\"") : "");
        if (random.nextInt(25) != 0) {
            add("[");
            around();
            for (int k = random.nextInt(7); k >= 0; k--) {
                declaration();
                around();
            }
            add("]");
            blanks();
        }
        add(">");
    }

    private void declaration() {
        switch (random.nextInt(4)) {
            case 0, 3 -> {
                add("<!ELEMENT");
                space();
                add(newElement());
                space();
                model();
            }
            case 1 -> {
                add("<!ATTLIST");
                space();
                char element = name();
                add(element);
                for (int k = random.nextInt(4); k > 0; k--) {
                    attribute(element);
                }
            }
            default -> {
                add("<!ENTITY");
                space();
                char name = entity();
                add(random.nextInt(80) == 0 ? "%" : name);
                space();
                add(random.nextInt(80) == 0 ? one("SYSTEM", "PUBLIC") : "");
                entityText();
                entities.append(name);
            }
        }
        blanks();
        add(">");
    }

    /** Mostly one that was not declared before. */
    private char newElement() {
        char name = name();
        for (int k = 0; k < 5 && elements.indexOf(String.valueOf(name)) >= 0; k++) {
            name = name();
        }
        elements.append(name);
        return name;
    }

    private void model() {
        switch (random.nextInt(8)) {
            case 0 -> add("EMPTY");
            case 1, 2 -> add("ANY");
            case 3 -> add(one("(#PCDATA)", "( #PCDATA )", "(#PCDATA)*"));
            case 4 -> add(one("(#PCDATA|b)*", "(#PCDATA | b|c )*", "(#PCDATA|a|b|c|d)*"));
            default -> {
                group(random.nextInt(40) == 0 ? random.nextInt(10) : 0);
                sign();
            }
        }
    }

    /** So many more are put into one another. */
    private void group(int more) {
        add("(");
        String between = random.nextBoolean() ? "|" : ",";
        int parts = random.nextInt(60) == 0 ? random.nextInt(35) : 1 + random.nextInt(3);
        for (int k = 0; k < Math.max(1, parts); k++) {
            add(k == 0 ? "" : between);
            blanks();
            if (more > 0 && k == 0 || random.nextInt(5) == 0) {
                group(more - 1);
            } else {
                add(name());
            }
            sign();
            blanks();
        }
        add(")");
    }

    private void sign() {
        add(one("", "", "", "?", "*", "*", "+"));
    }

    private void attribute(char element) {
        space();
        String name = one("i", "r", "x", "x", "y");
        add(name);
        attributes.merge(element, name, String::concat);
        space();
        add(one(TYPES));
        space();
        switch (random.nextInt(6)) {
            case 0 -> add("#REQUIRED");
            case 1, 2 -> add("#IMPLIED");
            case 3 -> {
                add("#FIXED");
                space();
                value();
            }
            default -> value();
        }
    }

    private void value() {
        add("\"");
        add(one("", "", "", " "));
        for (int k = random.nextInt(3); k > 0; k--) {
            add(random.nextInt(6) != 0 ? one("p", "q", "1", "p1") : one(" ", "\n", "&lt;", "&amp;", "&#32;", "&#10;", "\u20ac", "'", ">"));
            add(random.nextInt(8) == 0 ? reference() : "");
        }
        add(one("", "", "", " "));
        add("\"");
    }

    private void entityText() {
        add("\"");
        for (int k = random.nextInt(4); k > 0; k--) {
            switch (random.nextInt(6)) {
                case 0 -> add(reference());
                case 1 -> add(one("<b/>", "<c/>", "<b>t</b>", "<c>&f;</c>", "<b x=&#34;p&#34;/>", "<!--c-->", "<a><b/></a>"));
                case 2 -> add(one("&#38;", "&#60;", "&#38;#60;", "&#38;#10;", "&#10;", "&#34;", "&lt;", "&amp;", "&#8364;", "&#60;b/>"));
                case 3 -> add(random.nextInt(8) == 0 ? one("<b>", "</b>", "<", "&", "<!--", "-->", "&e", "<b x=&#34;") : "p");
                default -> add(one("p", "1", " ", "\n", "text", "\u00e9"));
            }
        }
        add("\"");
    }

    private void element(int depth, char name) {
        add("<" + name);
        for (char attribute : standing(name).toCharArray()) {
            space();
            add(attribute);
            blanks();
            add("=");
            blanks();
            value();
        }
        blanks();
        if (random.nextInt(3) == 0) {
            add("/>");
            return;
        }
        add(">");
        for (int k = depth > 18 ? 0 : random.nextInt(4); k > 0; k--) {
            content(depth);
        }
        add("</" + name);
        blanks();
        add(">");
    }

    private String standing(char element) {
        if (random.nextInt(6) == 0) {
            return one("x", "i", "r", "y", "xi", "xy", "irx", "xx");
        }
        StringBuilder names = new StringBuilder();
        for (char name : attributes.getOrDefault(element, "").toCharArray()) {
            if (random.nextInt(3) != 0 && (names.indexOf(String.valueOf(name)) < 0 || random.nextInt(20) == 0)) {
                names.append(name);
            }
        }
        return names.toString();
    }

    private void content(int depth) {
        switch (random.nextInt(8)) {
            case 0 -> add(one("t", "text", " ", "\n", "]]>", "\u00e9\u20ac", "\"'"));
            case 1 -> add(one("&lt;", "&amp;", "&#65;", "&#13;", "&#8364;", "<!--c-->", " <!-- --> "));
            case 2, 3 -> add(reference().repeat(random.nextInt(10) == 0 ? 1 + random.nextInt(20) : 1));
            default -> element(depth + 1, name());
        }
    }
}
