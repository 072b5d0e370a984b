/** The term ENTITIES, sentence by sentence: texts and costs, and everything that is too much. */
public final class EntityBoundsTest {
    private static final Check CHECK = new Check();
    private static final String START = "<!DOCTYPE a [<!ELEMENT a ANY><!ATTLIST a x CDATA #IMPLIED>";
    private static final String HUNDRED = entity("e", "0123456789".repeat(10));

    public static void main(String[] args) {
        firstDeclaration();
        numbersInTexts();
        content();
        values();
        lessThan();
        notDeclared();
        beingRead();
        costs();
        limits();
        nestedElements();
        nestedTexts();
        nestedBoth();
        events();
        characters();
        charactersOfValues();
        charactersThatAreAdded();
        names();
        groups();
        firstWhenRead();
        defaultsWhenDeclared();
        CHECK.end();
    }

    private static String with(String declarations, String tree) {
        return START + declarations + "]>" + tree;
    }

    private static String entity(String name, String text) {
        return "<!ENTITY " + name + " \"" + text + "\">";
    }

    private static void firstDeclaration() {
        CHECK.says("The first declaration of a name counts");
        CHECK.found(with(entity("e", "1") + entity("e", "2"), "<a x=\"&e;\">&e;</a>"), 0, "+a x[1] [1] -a");
        CHECK.found(with(entity("e", "") + entity("e", "2") + entity("e", "3"), "<a>&e;</a>"), 0, "+a -a");
        CHECK.found(with(entity("e", "1") + entity("e", "22") + entity("f", "3"), "<a>&e;&f;</a>"), 0, "+a [13] -a");
        CHECK.costs(with(entity("e", "1") + entity("e", "22"), "<a>&e;</a>"), 2, 0, 2);
        CHECK.judged(with(entity("e", "1") + entity("e", "&#1;"), "<a/>"), Check.WRONG);
        CHECK.found(with(entity("z", "1") + entity("a", "2"), "<a>&z;&a;</a>"), 0, "+a [12] -a");
    }

    private static void numbersInTexts() {
        CHECK.says("in which \"&#\" references are replaced at once (other & stay; \"&#\" that is no reference is wrong)");
        CHECK.costs(with(entity("e", "&#65;"), "<a>&e;</a>"), 2000, 0, 2);
        CHECK.costs(with(entity("e", "&lt;"), "<a>&e;</a>"), 2000, 0, 5);
        CHECK.found(with(entity("e", "&#38;#65;"), "<a>&e;</a>"), 0, "+a [A] -a");
        CHECK.found(with(entity("e", "&#38;#38;#65;"), "<a>&e;</a>"), 0, "+a [&#65;] -a");
        CHECK.found(with(entity("e", "&#34;&#9;&#000013;"), "<a>&e;</a>"), 0, "+a [\"{9}{13}] -a");
        for (String stays : new String[] {"&", "&&", "&;", "& #65;", "&x;", "&e", "&lt", "&gt;", "&amp;", "&#38;#", "&#38;#x;", "%x;"}) {
            CHECK.judged(with(entity("e", stays), "<a/>"), 0);
        }
        for (String not : new String[] {"&#", "&#;", "&#65", "&#65&#65;", "&#x41;", "&# 65;", "&#8;", "&#11;", "&#14;", "&#31;", "&#55296;", "&#57343;", "&#65534;",
            "&#0000065;", "&&#;"}) {
            CHECK.judged(with(entity("e", not), "<a/>"), Check.WRONG);
        }
        for (String last : new String[] {"&#9;", "&#10;", "&#13;", "&#32;", "&#55295;", "&#57344;", "&#65533;", "&#000065;"}) {
            CHECK.costs(with(entity("e", last), "<a>&e;</a>"), 2, 0, 2);
        }
    }

    private static void content() {
        CHECK.says("A reference to a name in content stands for its text, which must be content as a whole (an element that begins in it ends in it)");
        CHECK.found(with(entity("e", "1<a>2</a>3"), "<a>0&e;4</a>"), 0, "+a [01] +a [2] -a [34] -a");
        CHECK.found(with(entity("e", "<a>&f;</a>") + entity("f", "<a/>"), "<a>&e;&f;</a>"), 0, "+a +a +a -a -a +a -a -a");
        String[][] parted = {{"<a>", "</a>"}, {"<a", "></a>"}, {"<a/", ">"}, {"<", "a/>"}, {"<a ", "x=&#34;&#34;/>"}, {"<a x=&#34;", "&#34;/>"}, {"&", "l;"}, {"&l", ";"},
            {"&#38;#6", "5;"}, {"&#38;#65", ";"}, {"<!--", "-->"}, {"<!--x-", "->"}, {"<!--x--", ">"}, {"<!-", "-x-->"}};
        for (String[] two : parted) {
            String letter = entity("l", "1");
            CHECK.judged(with(letter + entity("e", two[0] + two[1]), "<a>&e;</a>"), 0);
            CHECK.judged(with(letter + entity("e", two[0]) + entity("f", two[1]), "<a>&e;&f;</a>"), Check.WRONG);
            CHECK.judged(with(letter + entity("e", two[0]), "<a>&e;" + two[1].replace("&#34;", "\"") + "</a>"), Check.WRONG);
            CHECK.judged(with(letter + entity("f", two[1]), "<a>" + two[0].replace("&#34;", "\"").replace("&#38;", "&") + "&f;</a>"), Check.WRONG);
        }
        CHECK.judged(with(entity("e", "</a>"), "<a>&e;"), Check.WRONG);
        CHECK.judged(with(entity("e", "</a><a>"), "<a>&e;</a>"), Check.WRONG);
        CHECK.judged(with(entity("e", "<a/>"), "&e;"), Check.WRONG);
        CHECK.judged(with(entity("e", ""), "<a/>&e;"), Check.WRONG);
    }

    private static void values() {
        CHECK.says("in a quoted value of an attribute (also a default, when it is declared) its text is read as part of the value");
        CHECK.found(with(entity("e", "1&f;3") + entity("f", "2"), "<a x=\"0&e;4\"/>"), 0, "+a x[01234] -a");
        CHECK.found(with(entity("e", "&#34;'>"), "<a x=\"&e;\"/>"), 0, "+a x[\"'>] -a");
        CHECK.found(with(entity("e", "1") + "<!ATTLIST a y CDATA \"0&e;2\">", "<a/>"), 0, "+a y[012] -a");
        CHECK.found(with(entity("e", "&#34;"), "<a><a x=\"&e;\"/>&e;</a>"), 0, "+a +a x[\"] -a [\"] -a");
        CHECK.judged(with(entity("e", "1&#34;"), "<a x=\"&e;/>"), Check.WRONG);
        CHECK.judged(with(entity("e", "&#38;"), "<a x=\"&e;lt;\"/>"), Check.WRONG);
        CHECK.judged(with(entity("e", "&#38;l"), "<a x=\"&e;t;\"/>"), Check.WRONG);
        CHECK.judged(with(entity("e", "x"), "<a &e;=\"1\"/>"), Check.WRONG);
        // A default is read with what has been declared by then.
        CHECK.judged(with("<!ATTLIST a y CDATA \"&e;\">" + entity("e", "1"), "<a/>"), Check.WRONG);
    }

    private static void lessThan() {
        CHECK.says("A < that is read in a value, not by a number or &lt;, is wrong");
        for (String fits : new String[] {"&lt;", "&#60;", "&#060;"}) {
            CHECK.found(with("", "<a x=\"" + fits + "\"/>"), 0, "+a x[<] -a");
            CHECK.found(with("<!ATTLIST a y CDATA \"" + fits + "\">", "<a/>"), 0, "+a y[<] -a");
        }
        for (String fits : new String[] {"&lt;", "&#38;lt;", "&#38;#60;"}) {
            CHECK.found(with(entity("e", fits), "<a x=\"&e;\"/>"), 0, "+a x[<] -a");
            CHECK.found(with(entity("e", fits) + "<!ATTLIST a y CDATA \"&e;\">", "<a/>"), 0, "+a y[<] -a");
        }
        CHECK.judged(with("", "<a x=\"<\"/>"), Check.WRONG);
        CHECK.judged(with("", "<a x=\"<!---->\"/>"), Check.WRONG);
        CHECK.judged(with("<!ATTLIST b y CDATA \"<\">", "<a/>"), Check.WRONG);
        for (String not : new String[] {"<", "&#60;", "<a/>"}) {
            CHECK.judged(with(entity("e", not), "<a/>"), 0);
            CHECK.judged(with(entity("e", not), "<a x=\"&e;\"/>"), Check.WRONG);
            CHECK.judged(with(entity("e", not) + entity("f", "&e;"), "<a x=\"&f;\"/>"), Check.WRONG);
            CHECK.judged(with(entity("e", not) + "<!ATTLIST b y CDATA \"&e;\">", "<a/>"), Check.WRONG);
        }
    }

    private static void notDeclared() {
        CHECK.says("so is a reference to a name that is not declared");
        CHECK.costs(with(entity("e", ""), "<a>&e;</a>"), 2000, 0, 1);
        CHECK.costs(with(entity("e", ""), "<a>&f;</a>"), 2000, Check.WRONG, 0);
        CHECK.costs(with(entity("e", ""), "<a x=\"&d;\"/>"), 2000, Check.WRONG, 0);
        CHECK.costs(with(entity("e", "&f;"), "<a>&e;</a>"), 2000, Check.WRONG, 4);
        CHECK.costs(with(entity("e", "&f;"), "<a x=\"&e;\"/>"), 2000, Check.WRONG, 4);
        CHECK.judged(with(entity("e", "&f;"), "<a/>"), 0);
        CHECK.judged("<a>&a;</a>", Check.WRONG);
        // An entity of an earlier document is not declared in the next one.
        MarkupJudge judge = Check.fed(with(entity("e", ""), "<a>&e;</a>"));
        CHECK.call("judge(2000) of the first", () -> judge.judge(2000), 0);
        judge.clear();
        Check.feed(judge, with("", "<a>&e;</a>"));
        CHECK.call("judge(2000) of the next", () -> judge.judge(2000), Check.WRONG);
    }

    private static void beingRead() {
        CHECK.says("or whose text is just being read");
        CHECK.costs(with(entity("e", "1"), "<a>&e;&e;</a>"), 2000, 0, 4);
        CHECK.costs(with(entity("e", "&f;&f;") + entity("f", "1"), "<a>&e;&f;&e;</a>"), 2000, 0, 7 + 2 + 2 + 2 + 7 + 2 + 2);
        CHECK.costs(with(entity("e", "&e;"), "<a>&e;</a>"), 2000, Check.WRONG, 4);
        CHECK.costs(with(entity("e", "&e;"), "<a x=\"&e;\"/>"), 2000, Check.WRONG, 4);
        CHECK.costs(with(entity("e", "&f;") + entity("f", "&e;"), "<a>&e;</a>"), 2000, Check.WRONG, 8);
        CHECK.costs(with(entity("e", "&f;") + entity("f", "<a>&e;</a>"), "<a>&e;</a>"), 2000, Check.WRONG, 4 + 11);
        CHECK.costs(with(entity("e", "<a x=&#34;&f;&#34;/>") + entity("f", "&e;"), "<a>&e;</a>"), 2000, Check.WRONG, 13 + 4);
        CHECK.costs(with(entity("e", "&e;") + "<!ATTLIST b x CDATA \"&e;\">", "<a/>"), 2000, Check.WRONG, 4);
        CHECK.judged(with(entity("e", "&e;"), "<a/>"), 0);
        // It is not too much: the reference that is wrong costs nothing.
        CHECK.costs(with(entity("e", "&e;"), "<a>&e;</a>"), 4, Check.WRONG, 4);
    }

    private static void costs() {
        CHECK.says("Each reference to a name .. costs as many as its text has characters, and 1 more");
        CHECK.costs(with(entity("e", ""), "<a>&e;</a>"), 2000, 0, 1);
        CHECK.costs(with(entity("e", "1"), "<a>&e;</a>"), 2000, 0, 2);
        CHECK.costs(with(entity("e", "\u20ac\u20ac\r\n"), "<a>&e;</a>"), 2000, 0, 4);
        CHECK.costs(with(entity("e", "x".repeat(200)), "<a>&e;&e;</a>"), 2000, 0, 402);
        CHECK.costs(with(entity("e", "&f;&f;") + entity("f", "1"), "<a>&e;</a>"), 2000, 0, 7 + 2 * 2);
        CHECK.costs(with(entity("e", "1"), "<a>&lt;&amp;&#65;<!--&e;--></a>"), 2000, 0, 0);
        CHECK.costs(with(entity("e", "1") + entity("f", "&e;"), "<a/>"), 2000, 0, 0);
        CHECK.says("when its ; was read, it is declared and not being read");
        CHECK.costs(with(entity("e", "1"), "<a>&e"), 2000, Check.WRONG, 0);
        CHECK.costs(with(entity("e", "1"), "<a>&e;"), 2000, Check.WRONG, 2);
        CHECK.costs(with(entity("e", "1"), "<a>&e</a>"), 2000, Check.WRONG, 0);
        CHECK.costs(with(entity("e", "1"), "<a>&f;"), 2000, Check.WRONG, 0);
    }

    private static void limits() {
        CHECK.says("when all the costs are above the LIMIT .. it is TOO MUCH (cost() tells that cost, too)");
        String one = entity("e", "");
        CHECK.costs(with(one, "<a/>"), 0, 0, 0);
        CHECK.costs(with(one, "<a>&e;</a>"), 0, Check.TOO_MUCH, 1);
        CHECK.costs(with(one, "<a>&e;</a>"), 1, 0, 1);
        CHECK.costs(with(one, "<a>&e;&e;</a>"), 1, Check.TOO_MUCH, 2);
        CHECK.costs(with(one, "<a x=\"&e;\"><a x=\"&e;\"/></a>"), 1, Check.TOO_MUCH, 2);
        CHECK.costs(with(one, "<a x=\"&e;\"><a x=\"&e;\"/></a>"), 2, 0, 2);
        CHECK.costs(with(one + "<!ATTLIST a y CDATA \"&e;\">", "<a x=\"&e;\">&e;</a>"), 2, Check.TOO_MUCH, 3);
        CHECK.costs(with(one + "<!ATTLIST a y CDATA \"&e;\">", "<a x=\"&e;\">&e;</a>"), 3, 0, 3);
        CHECK.foundAt(with(entity("e", "1"), "<a>&e"), ";", 1, Check.TOO_MUCH);
        CHECK.foundAt(with(entity("e", "1"), "<a x=\"&e"), ";", 1, Check.TOO_MUCH);
        String big = entity("e", "x".repeat(99)) + entity("f", "");
        CHECK.costs(with(big, "<a>" + "&e;".repeat(20) + "</a>"), 2000, 0, 2000);
        CHECK.costs(with(big, "<a>" + "&e;".repeat(20) + "&f;</a>"), 2000, Check.TOO_MUCH, 2001);
        CHECK.costs(with(big, "<a>" + "&e;".repeat(20) + "</a>"), 1999, Check.TOO_MUCH, 2000);
        CHECK.costs(with(big, "<a>" + "&e;".repeat(19) + "&f;&e;</a>"), 2000, Check.TOO_MUCH, 2001);
        CHECK.costs(with(big, "<a>&f;" + "&e;".repeat(20) + "</a>"), 1999, Check.TOO_MUCH, 2001);
        // The next document has its own costs.
        MarkupJudge judge = Check.fed(with(one, "<a>&e;&e;</a>"));
        for (int turn = 0; turn < 3; turn++) {
            CHECK.call("judge(2)", () -> judge.judge(2), 0);
        }
    }

    private static String nested(int elements, String inside) {
        return "<a>".repeat(elements) + inside + "</a>".repeat(elements);
    }

    private static void nestedElements() {
        CHECK.says("or more than 16 elements (each from its name on) .. are within one another, it is TOO MUCH");
        CHECK.judged(with("", nested(16, "")), 0);
        CHECK.judged(with("", nested(17, "")), Check.TOO_MUCH);
        CHECK.judged(with("", nested(15, "<a/>")), 0);
        CHECK.judged(with("", nested(16, "<a/>")), Check.TOO_MUCH);
        CHECK.judged(with("", nested(15, "<a/><a></a><a/>")), 0);
        CHECK.judged("<a>" + "<b/>".repeat(20) + nested(15, "") + nested(15, "") + "</a>", 1);
        CHECK.foundAt("<a>".repeat(16) + "<", "a", Check.TOO_MUCH);
        CHECK.foundAt("<a>".repeat(15) + "<a x=\"\"><", "z", Check.TOO_MUCH);
        CHECK.judged("<a>".repeat(16) + "<A", Check.WRONG);
        CHECK.judged("<a>".repeat(16) + "</b", Check.WRONG);
        CHECK.judged("<a>".repeat(16) + "</a><a>", Check.WRONG);
        CHECK.judged("<a>".repeat(16) + "</a><a><a", Check.TOO_MUCH);
        CHECK.judged("<a>".repeat(15) + "<a/><a><a", Check.TOO_MUCH);
        CHECK.judged("<a>".repeat(15) + "<a/><a/><a/", Check.WRONG);
    }

    /** Entities from b on, each of them within the one before; the last one has this text. */
    private static String chain(int texts, String inside) {
        StringBuilder declarations = new StringBuilder();
        for (int k = 0; k < texts - 1; k++) {
            declarations.append(entity(String.valueOf((char) ('b' + k)), "&" + (char) ('c' + k) + ";"));
        }
        return declarations + entity(String.valueOf((char) ('a' + texts)), inside);
    }

    private static void nestedTexts() {
        CHECK.says("or more than 16 .. texts of entities are within one another: where no element is open");
        String start = "<!DOCTYPE a [";
        CHECK.costs(start + chain(16, "") + "<!ATTLIST a x CDATA \"&b;\">]><a/>", 2000, 2, 15 * 4 + 1);
        CHECK.costs(start + chain(17, "") + "<!ATTLIST a x CDATA \"&b;\">]><a/>", 2000, Check.TOO_MUCH, 16 * 4 + 1);
        CHECK.costs(start + chain(17, "") + "<!ATTLIST a x CDATA \"&c;&c;\">]><a/>", 2000, 2, 2 * (15 * 4 + 1));
        CHECK.costs(start + chain(16, "") + "]><a/>", 2000, 2, 0);
    }

    private static void nestedBoth() {
        CHECK.says("or more than 16 elements (each from its name on) and texts of entities are within one another");
        String start = "<!DOCTYPE a [";
        CHECK.costs(start + chain(15, "") + "]><a>&b;</a>", 2000, 2, 14 * 4 + 1);
        CHECK.costs(start + chain(16, "") + "]><a>&b;</a>", 2000, Check.TOO_MUCH, 15 * 4 + 1);
        CHECK.costs(start + chain(15, "") + "]><a x=\"&b;\"/>", 2000, 2 + 8, 14 * 4 + 1);
        CHECK.costs(start + chain(16, "") + "]><a x=\"&b;\"/>", 2000, Check.TOO_MUCH, 15 * 4 + 1);
        String text = entity("e", "");
        CHECK.costs(with(text, nested(15, "&e;&e;")), 2000, 0, 2);
        CHECK.costs(with(text, nested(16, "&e;")), 2000, Check.TOO_MUCH, 1);
        CHECK.costs(with(text, nested(14, "<a x=\"&e;\"/>")), 2000, 0, 1);
        CHECK.costs(with(text, nested(15, "<a x=\"&e;\"/>")), 2000, Check.TOO_MUCH, 1);
        String element = entity("e", "<a/>");
        CHECK.judged(with(element, nested(14, "&e;")), 0);
        CHECK.judged(with(element, nested(15, "&e;")), Check.TOO_MUCH);
        String both = entity("e", "<a x=&#34;&f;&#34;>&f;</a>") + entity("f", "");
        CHECK.judged(with(both, nested(13, "&e;")), 0);
        CHECK.judged(with(both, nested(14, "&e;")), Check.TOO_MUCH);
        CHECK.foundAt(with(text, "<a>".repeat(16) + "&e"), ";", Check.TOO_MUCH);
        // A wrong reference is not too much, however deep.
        CHECK.judged(with(text, nested(16, "&f;")), Check.WRONG);
    }

    /** The beginning of a document with as many events so far, 2 to 200 of them. */
    private static String begun(int events) {
        String root = events % 2 == 0 ? "<a x=\"\">" : "<a>";
        int elements = (events - 1) / 2;
        String ten = entity("e", "<a/>".repeat(10)) + "<!ATTLIST b y CDATA \"\">";
        return with(ten, root + "&e;".repeat(elements / 10) + "<a/>".repeat(elements % 10));
    }

    private static void events() {
        CHECK.says("also when there are more than 200 events");
        CHECK.judged(begun(199) + "</a>", 0);
        CHECK.foundAt(begun(200) + "</a", ">", Check.TOO_MUCH);
        CHECK.judged(begun(197) + "<a/></a>", 0);
        CHECK.foundAt(begun(200) + "<", "a", Check.TOO_MUCH);
        CHECK.foundAt(begun(199) + "<a/", ">", Check.TOO_MUCH);
        CHECK.judged(begun(198) + "<a/></a", Check.WRONG);
        CHECK.foundAt(begun(198) + "<a/></a", ">", Check.TOO_MUCH);
        CHECK.judged(begun(198) + "t</a>", 0);
        CHECK.foundAt(begun(200), "t", Check.TOO_MUCH);
        CHECK.foundAt(begun(200) + "&#65", ";", Check.TOO_MUCH);
        CHECK.foundAt(begun(200) + "&lt", ";", Check.TOO_MUCH);
        CHECK.foundAt(begun(199) + "t</a", ">", Check.TOO_MUCH);
        CHECK.judged(begun(198) + "t<!---->t</a>", 0);
        CHECK.judged(begun(196) + "<a x=\"\"/></a>", 0);
        CHECK.foundAt(begun(199) + "<a x=\"1", "\"", Check.TOO_MUCH);
        CHECK.foundAt(begun(198) + "<a x=\"1\" y=\"", "\"", Check.TOO_MUCH);
        CHECK.judged(begun(196) + "<b/></a>", 2);
        CHECK.foundAt(begun(199) + "<b", ">", Check.TOO_MUCH);
        CHECK.foundAt(begun(199) + "<b/", ">", Check.TOO_MUCH);
        CHECK.foundAt(begun(198) + "<b/", ">", Check.TOO_MUCH);
        CHECK.judged(begun(197) + "<b/></a", Check.WRONG);
        CHECK.judged(begun(199) + "<!----></a>", 0);
    }

    /** This many characters for a text or a value, 1900 to 2050. */
    private static String many(int characters) {
        return "&e;".repeat(19) + "x".repeat(characters - 1900);
    }

    private static void characters() {
        CHECK.says("or more than 2000 characters in them");
        CHECK.judged(with(HUNDRED, "<a>" + many(2000) + "</a>"), 0);
        CHECK.foundAt(with(HUNDRED, "<a>" + many(2000)), "x", Check.TOO_MUCH);
        CHECK.foundAt(with(HUNDRED, "<a>" + many(2000) + "&#65"), ";", Check.TOO_MUCH);
        CHECK.foundAt(with(HUNDRED, "<a>" + many(2000) + "<a/>"), "x", Check.TOO_MUCH);
        CHECK.foundAt(with(HUNDRED, "<a>" + many(1950) + "<a/>" + "x".repeat(50)), "x", Check.TOO_MUCH);
        CHECK.judged(with(HUNDRED, "<a>" + many(1950) + "<a/>" + "x".repeat(50) + "</a>"), 0);
        // Names, comments and what is replaced are not among them.
        CHECK.judged(with(HUNDRED, "<a>" + many(1999) + "&#65;<!--x--><a x=\"\"/></a>"), 0);
    }

    private static void charactersOfValues() {
        CHECK.says("or more than 2000 characters in them: of values, when they were read");
        CHECK.judged(with(HUNDRED, "<a x=\"" + many(2000) + "\"/>"), 0);
        CHECK.foundAt(with(HUNDRED, "<a x=\"" + many(2001)), "\"", Check.TOO_MUCH);
        CHECK.judged(with(HUNDRED, "<a x=\"" + many(2001) + "<"), Check.WRONG);
        CHECK.judged(with(HUNDRED, "<a x=\"" + many(1950) + "\">" + "x".repeat(50) + "</a>"), 0);
        CHECK.foundAt(with(HUNDRED, "<a x=\"" + many(1950) + "\">" + "x".repeat(50)), "x", Check.TOO_MUCH);
        CHECK.judged(with(HUNDRED, "<a>" + many(1950) + "<a x=\"" + "x".repeat(50) + "\"/></a>"), 0);
        CHECK.foundAt(with(HUNDRED, "<a>" + many(1950) + "<a x=\"" + "x".repeat(51)), "\"", Check.TOO_MUCH);
        // 32s that fall away are not in the value.
        String start = "<!DOCTYPE a [<!ATTLIST a x NMTOKEN #IMPLIED>" + HUNDRED + "]><a x=\"  " + many(1999);
        CHECK.judged(start + " ".repeat(10) + "\"/>", 2);
        CHECK.judged(start + " ".repeat(10) + "x\"/>", Check.TOO_MUCH);
        CHECK.judged(start + "x    \"/>", 2);
        CHECK.judged(start + "xx\"/>", Check.TOO_MUCH);
        CHECK.judged(start.replace("NMTOKEN", "CDATA").replace("  ", "") + "  \"/>", Check.TOO_MUCH);
        CHECK.judged(start.replace("NMTOKEN", "CDATA").replace("  ", "") + " \"/>", 2);
    }

    private static void charactersThatAreAdded() {
        CHECK.says("or more than 2000 characters in them: of values that are added, when the tag was read");
        String added = "<!ATTLIST b y CDATA \"" + "x".repeat(100) + "\">";
        CHECK.judged(with(added, "<a>" + "<b/>".repeat(20) + "</a>"), 2);
        CHECK.foundAt(with(added, "<a>" + "<b/>".repeat(20) + "<b/"), ">", Check.TOO_MUCH);
        CHECK.foundAt(with(added, "<a>" + "<b/>".repeat(20) + "<b"), ">", Check.TOO_MUCH);
        CHECK.judged(with(added, "<a>" + "<b/>".repeat(20) + "<b y=\"\"/></a>"), 2);
        CHECK.foundAt(with(added, "<a>" + "<b/>".repeat(20) + "<b y=\"1"), "\"", Check.TOO_MUCH);
        CHECK.foundAt(with(added, "<a>" + "<b/>".repeat(20)), "x", Check.TOO_MUCH);
        // A default alone is in no event, however long.
        String longest = "<!ATTLIST b y CDATA \"" + "&e;".repeat(19) + "x".repeat(81) + "\">";
        CHECK.judged("<!DOCTYPE a [" + HUNDRED + longest + "]><a/>", 2);
        CHECK.judged("<!DOCTYPE a [" + HUNDRED + longest + "]><a><b/></a>", 2);
        CHECK.judged("<!DOCTYPE a [" + HUNDRED + longest + "]><a>" + "x".repeat(19) + "<b/></a>", 2);
        CHECK.judged("<!DOCTYPE a [" + HUNDRED + longest + "]><a>" + "x".repeat(20) + "<b/></a>", Check.TOO_MUCH);
        String over = longest.replace("x\"", "x".repeat(21) + "\"");
        CHECK.judged("<!DOCTYPE a [" + HUNDRED + over + "]><a/>", 2);
        CHECK.judged("<!DOCTYPE a [" + HUNDRED + over + "]><a><b/></a>", Check.TOO_MUCH);
    }

    private static void names() {
        CHECK.says("when the groups of a model have a 31st name in all (found when that was read)");
        String start = "<!DOCTYPE a [<!ELEMENT a ";
        String thirty = "(" + "b?,".repeat(29) + "b?";
        CHECK.judged(start + thirty + ")>]><a/>", 512);
        CHECK.foundAt(start + thirty + ",", "c", Check.TOO_MUCH);
        CHECK.foundAt(start + thirty + ",(", "b", Check.TOO_MUCH);
        CHECK.foundAt(start + "(" + "b|".repeat(30), "b", Check.TOO_MUCH);
        CHECK.judged(start + thirty + ",C", Check.WRONG);
        CHECK.judged(start + thirty + ",()", Check.WRONG);
        String fifteen = "(" + "b,".repeat(14) + "b)";
        CHECK.judged(start + "(" + fifteen + "," + fifteen + ")?>]><a/>", 0);
        CHECK.judged(start + "(" + fifteen + "," + fifteen + ",c)?>]><a/>", Check.TOO_MUCH);
        CHECK.foundAt(start + "(" + fifteen + "|(c|" + fifteen.replace(",b)", ","), "b", Check.TOO_MUCH);
        // Each model has its own names, and one that is declared twice has as many as any.
        CHECK.judged(start + thirty.replace("?", "") + ")?><!ELEMENT b " + thirty.replace("?", "") + ")?><!ELEMENT c (d)>]><a/>", 0);
        CHECK.judged(start + thirty + ")><!ELEMENT a (b)>]><a/>", 512 + 1024);
        CHECK.foundAt(start + "ANY><!ELEMENT a " + thirty + ",", "c", Check.TOO_MUCH);
        CHECK.judged(start + "ANY><!ELEMENT a " + thirty + ")>]><a/>", 1024);
        // These are no groups.
        CHECK.judged(start + "(#PCDATA" + "|b".repeat(31) + ")*>]><a/>", 0);
        CHECK.judged(start + "ANY><!ATTLIST a x (" + "b|".repeat(31) + "b) #IMPLIED>]><a/>", 0);
        // All thirty of them are looked at.
        StringBuilder names = new StringBuilder();
        StringBuilder elements = new StringBuilder();
        for (int k = 0; k < 30; k++) {
            names.append(k == 0 ? "" : ",").append((char) ('b' + k % 25));
            elements.append('<').append((char) ('b' + k % 25)).append("/>");
        }
        CHECK.judged(start + "(" + names + ")>]><a>" + elements + "</a>", 2);
        CHECK.judged(start + "(" + names + ")>]><a>" + elements + "<b/></a>", 2 + 4);
        CHECK.judged(start + "(" + names + ")>]><a>" + elements.substring(0, elements.length() - 4) + "</a>", 2 + 4);
        CHECK.judged(start + "(" + names + ")>]><a>" + elements.substring(0, elements.length() - 4) + "<b/></a>", 2 + 4);
    }

    private static void groups() {
        CHECK.says("or a ninth group lies within eight (found at its parenthesis)");
        String start = "<!DOCTYPE a [<!ELEMENT a ";
        CHECK.judged(start + "(".repeat(8) + "b?" + ")".repeat(8) + ">]><a/>", 0);
        CHECK.judged(start + "(".repeat(9) + "b?" + ")".repeat(9) + ">]><a/>", Check.TOO_MUCH);
        CHECK.foundAt(start + "(".repeat(8), "(", Check.TOO_MUCH);
        CHECK.foundAt(start + "( ".repeat(8), "(", Check.TOO_MUCH);
        CHECK.foundAt(start + "(b,(c|".repeat(4), "(", Check.TOO_MUCH);
        CHECK.judged(start + "(".repeat(8) + "#PCDATA", Check.WRONG);
        CHECK.judged(start + "(".repeat(9) + "#PCDATA", Check.TOO_MUCH);
        CHECK.judged(start + "(".repeat(8) + "b" + ")?".repeat(8) + ">]><a/>", 0);
        CHECK.judged(start + "(" + "(b),".repeat(9) + "(b))?>]><a/>", 0);
        CHECK.judged(start + "(".repeat(7) + "(b),(b)" + ")".repeat(6) + ")?>]><a/>", 0);
        CHECK.foundAt(start + "(".repeat(8) + "b),(b,", "(", Check.TOO_MUCH);
        CHECK.foundAt(start + "ANY><!ELEMENT a " + "(".repeat(8), "(", Check.TOO_MUCH);
        CHECK.judged(start + "(".repeat(8) + "b" + ")".repeat(7) + ")?><!ELEMENT b " + "(".repeat(8) + "b" + ")".repeat(8) + ">]><a/>", 0);
    }

    private static void firstWhenRead() {
        CHECK.says("then what comes first when the document is read, character by character, counts");
        String tooMuch = with(entity("e", "1"), "<a>&e;");
        for (String behind : new String[] {"", "<", "</b>", "&", "</a>x"}) {
            CHECK.judged(tooMuch + behind, 1, Check.TOO_MUCH);
        }
        for (String before : new String[] {"<1", "</b>", "&;", "&f;", "&#0;", "</a>x", "<a x=\"<", "<a x=\"\" x", "<!x"}) {
            CHECK.judged(with(entity("e", "1"), "<a>" + before + "&e;"), 1, Check.WRONG);
        }
        // What a text of an entity holds is read where it is referred to.
        CHECK.judged(with(entity("e", "&f;<") + entity("f", "1"), "<a>&e;</a>"), 6, Check.TOO_MUCH);
        CHECK.judged(with(entity("e", "<&f;") + entity("f", "1"), "<a>&e;</a>"), 6, Check.WRONG);
        CHECK.judged(with(entity("e", "<") + entity("f", "1"), "<a>&f;&e;</a>"), 1, Check.TOO_MUCH);
        CHECK.judged(with(entity("e", "<") + entity("f", "1"), "<a>&e;&f;</a>"), 2, Check.WRONG);
        // Faults come behind all that.
        CHECK.judged("<!DOCTYPE b [<!ELEMENT a (b|b)><!ELEMENT a ANY>]><a><", Check.WRONG);
    }

    private static void defaultsWhenDeclared() {
        CHECK.says("Defaults are read when they are declared, all of them; costs count then");
        String e = entity("e", "1");
        CHECK.costs(with(e + "<!ATTLIST b x CDATA \"&e;\">", "<a/>"), 2, 0, 2);
        CHECK.foundAt(with(e, "").replace("]>", "") + "<!ATTLIST b x CDATA \"&e", ";", 1, Check.TOO_MUCH);
        CHECK.foundAt(with(e, "").replace("]>", "") + "<!ATTLIST b x CDATA #FIXED \"&e", ";", 1, Check.TOO_MUCH);
        CHECK.costs(with(e + "<!ATTLIST b x CDATA \"&e;\" x CDATA \"&e;\">", "<a/>"), 4, 0, 4);
        CHECK.costs(with(e + "<!ATTLIST b x CDATA \"&e;\" x CDATA \"&e;\">", "<a/>"), 3, Check.TOO_MUCH, 4);
        CHECK.costs(with(e + "<!ATTLIST b x CDATA #IMPLIED x CDATA #FIXED \"&e;\">", "<a/>"), 1, Check.TOO_MUCH, 2);
        CHECK.costs(with(e + "<!ATTLIST a y CDATA \"&e;\">", "<a><a/><a/></a>"), 2, 0, 2);
        CHECK.costs(with(e + "<!ATTLIST a y CDATA \"&e;\">", "<a y=\"&e;\"/>"), 4, 0, 4);
        CHECK.costs(with(e + "<!ATTLIST a y CDATA \"&e;\">", "<a y=\"&e;\"/>"), 3, Check.TOO_MUCH, 4);
        for (String wrong : new String[] {"<", "&", "&f;", "&#0;"}) {
            CHECK.judged(with(e + "<!ATTLIST b x CDATA \"" + wrong + "\">", "<a/>"), Check.WRONG);
            CHECK.judged(with(e + "<!ATTLIST b x CDATA #IMPLIED x CDATA \"" + wrong + "\">", "<a/>"), Check.WRONG);
        }
        CHECK.judged(with(e + "<!ATTLIST b x CDATA \"&e;\"><!ENTITY % ", ""), 1, Check.TOO_MUCH);
        CHECK.judged(with(e + "<!ATTLIST b x CDATA \"&e;\"><!ENTITY % ", ""), 2, Check.UNSUPPORTED);
    }
}
