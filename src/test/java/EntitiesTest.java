/** Promises 4 and 8 by the term ENTITIES: what references stand for, what they cost, and when it is too much. */
public final class EntitiesTest {
    private static final Check CHECK = new Check();

    public static void main(String[] args) {
        texts();
        textsInValues();
        wrongReferences();
        costs();
        nesting();
        events();
        characters();
        models();
        CHECK.end();
    }

    private static String with(String declarations, String tree) {
        return "<!DOCTYPE a [<!ELEMENT a ANY>" + declarations + "]>" + tree;
    }

    private static String entity(String name, String text) {
        return "<!ENTITY " + name + " \"" + text + "\">";
    }

    private static void texts() {
        CHECK.found(with(entity("e", "1") + entity("e", "2"), "<a>0&e;3</a>"), 0, "+a [013] -a");
        CHECK.found(with(entity("e", ""), "<a>&e;</a>"), 0, "+a -a");
        CHECK.found(with(entity("e", "&f;&lt;") + entity("f", "<a>1</a>"), "<a>0&e;</a>"), 0, "+a [0] +a [1] -a [<] -a");
        CHECK.found(with(entity("e", "<!--x-->1"), "<a>0&e;2</a>"), 0, "+a [012] -a");
        CHECK.found(with(entity("e", "&#60;a/>"), "<a>&e;</a>"), 0, "+a +a -a -a");
        CHECK.found(with(entity("e", "&#38;#60;a/>"), "<a>&e;</a>"), 0, "+a [<a/>] -a");
        CHECK.found(with(entity("e", "&#38;lt;"), "<a>&e;</a>"), 0, "+a [<] -a");
        CHECK.found(with(entity("e", "<b&#13;x=&#34;1&#34;/>"), "<a>&e;</a>"), 10, "+a +b x[1] -b -a");
        CHECK.found(with(entity("l", "1") + entity("a", "2"), "<a>&l;&a;&lt;</a>"), 0, "+a [12<] -a");
        CHECK.found(with(entity("e", "&#13;&#10;"), "<a>&e;</a>"), 0, "+a [{13}{10}] -a");
        CHECK.judged(with(entity("e", "&x;") + entity("f", "<") + entity("g", "&"), "<a/>"), 0);
    }

    private static void textsInValues() {
        CHECK.found(with(entity("e", "&f;&lt;\n") + entity("f", "'&#34;'"), "<a x=\"0&e;1\"/>"), 8, "+a x[0'\"'< 1] -a");
        CHECK.found(with(entity("e", "&#38;#60;"), "<a x=\"&e;\"/>"), 8, "+a x[<] -a");
        CHECK.judged(with(entity("e", "&#60;"), "<a x=\"&e;\"/>"), Check.WRONG);
        CHECK.judged(with(entity("e", "<a/>"), "<a x=\"&e;\"/>"), Check.WRONG);
        CHECK.judged(with(entity("e", "&f;") + entity("f", "<"), "<a x=\"&e;\"/>"), Check.WRONG);
        CHECK.judged(with(entity("e", "&#38;"), "<a x=\"&e;lt;\"/>"), Check.WRONG);
        CHECK.found(with(entity("e", "1") + "<!ATTLIST a x CDATA \"&e;2\">", "<a/>"), 0, "+a x[12] -a");
        CHECK.judged(with("<!ATTLIST a x CDATA \"&e;\">" + entity("e", "1"), "<a x=\"\"/>"), Check.WRONG);
        CHECK.judged(with(entity("e", "<") + "<!ATTLIST b x CDATA \"&e;\">", "<a/>"), Check.WRONG);
        CHECK.judged(with(entity("e", "&#60;a x=&#34;1"), "<a>&e;\"/></a>"), Check.WRONG);
    }

    private static void wrongReferences() {
        for (String text : new String[] {"<a>", "</a>", "</a><a>", "<a", "<!--", "-->&", "&", "&e", "&#38;#65", "<", "<a></b>", "&e;", "&f;", "&x;",
            "<a x=&#34;&e;&#34;/>", "<b>&e;</b>", "<a/", "&#60;!---"}) {
            CHECK.judged(with(entity("e", text) + entity("f", "&e;"), "<a>&e;</a>"), Check.WRONG);
        }
        CHECK.judged(with(entity("e", "<!--"), "<a>&e;--></a>"), Check.WRONG);
        CHECK.judged(with(entity("e", "<b>"), "<a>&e;</b></a>"), Check.WRONG);
        CHECK.judged(with(entity("e", "&#38;"), "<a>&e;lt;</a>"), Check.WRONG);
        // What one entity's text begins, the text of the next one declared does not end.
        String[][] parted = {{"<a/", ">"}, {"<", "a/>"}, {"<a></a", ">"}, {"<a>", "</a>"}, {"&", "l;"}, {"&l", ";"}, {"&", "lt;"}, {"&lt", ";"},
            {"&#38;#65", ";"}, {"&#38;#6", "5;"}, {"<!-", "-x-->"}, {"<!--", "-->"}, {"<!--x--", ">"}, {"<a ", "/>"}, {"<a", " />"}, {"<a x", "=&#34;1&#34;/>"},
            {"<a x=&#34;1", "&#34;/>"}};
        for (String[] two : parted) {
            CHECK.judged(with(entity("e", two[0]) + entity("f", two[1]) + entity("l", "x"), "<a>&e;</a>"), Check.WRONG);
        }
        CHECK.judged(with(entity("e", "&f;") + entity("f", "&e;"), "<a x=\"&e;\"/>"), Check.WRONG);
        CHECK.costs(with(entity("e", "&f;") + entity("f", "&e;"), "<a>&e;</a>"), 2000, Check.WRONG, 8);
        CHECK.costs(with(entity("e", "&f;") + entity("f", "&x;"), "<a>&e;</a>"), 2000, Check.WRONG, 8);
        CHECK.costs(with(entity("e", "1"), "<a>&e;&e"), 2000, Check.WRONG, 2);
    }

    private static void costs() {
        String three = entity("e", "&f;&f;") + entity("f", "&g;&g;") + entity("g", "xx");
        CHECK.costs(with(three, "<a>&e;</a>"), 33, 0, 33);
        CHECK.costs(with(three, "<a>&e;</a>"), 32, Check.TOO_MUCH, 33);
        CHECK.costs(with(three, "<a>&e;</a>"), 20, Check.TOO_MUCH, 27);
        CHECK.costs(with(entity("e", ""), "<a>&e;&e;</a>"), 2, 0, 2);
        CHECK.costs(with(entity("e", ""), "<a>&e;&e;</a>"), 1, Check.TOO_MUCH, 2);
        CHECK.costs(with(entity("e", "&#65;&#65;\u20ac"), "<a>&e;</a>"), 4, 0, 4);
        CHECK.costs(with("", "<a>&lt;&amp;&#65;</a>"), 0, 0, 0);
        String defaults = entity("e", "1") + "<!ATTLIST b x CDATA \"&e;\" x CDATA \"&e;\" y CDATA #FIXED \"&e;\">";
        CHECK.costs(with(defaults, "<a/>"), 6, 0, 6);
        CHECK.costs(with(defaults, "<a>&e;</a>"), 6, Check.TOO_MUCH, 8);
        CHECK.costs(with(entity("e", "1") + "<!ATTLIST a x CDATA \"&e;\">", "<a><a/><a/></a>"), 2, 0, 2);
        String wide = entity("e", "&f;&f;&f;&f;&f;&f;&f;&f;&f;") + entity("f", "&g;&g;&g;&g;&g;&g;&g;&g;&g;") + entity("g", "0123456789012345678");
        CHECK.costs(with(wide, "<a>&e;</a>"), 2000, 0, 28 + 9 * 28 + 81 * 20);
        CHECK.costs(with(wide, "<a>&e;</a>"), 1899, Check.TOO_MUCH, 1900);
    }

    private static String nested(int elements, String inside) {
        return "<a>".repeat(elements) + inside + "</a>".repeat(elements);
    }

    private static void nesting() {
        CHECK.judged(with("", nested(16, "")), 0);
        CHECK.judged(with("", nested(17, "")), Check.TOO_MUCH);
        CHECK.judged(with("", nested(15, "<a/>")), 0);
        CHECK.judged(with("", nested(16, "<a/>")), Check.TOO_MUCH);
        CHECK.judged("<a>".repeat(16) + "<", Check.WRONG);
        CHECK.judged("<a>".repeat(16) + "<a", Check.TOO_MUCH);
        CHECK.judged("<a>".repeat(16) + "<1", Check.WRONG);
        CHECK.judged(with(entity("e", "1"), nested(15, "&e;")), 0);
        CHECK.costs(with(entity("e", "1"), nested(16, "&e;")), 2000, Check.TOO_MUCH, 2);
        CHECK.judged(with(entity("e", ""), nested(16, "&e;")), Check.TOO_MUCH);
        CHECK.judged(with(entity("e", "<a/>"), nested(14, "&e;")), 0);
        CHECK.judged(with(entity("e", "<a/>"), nested(15, "&e;")), Check.TOO_MUCH);
        CHECK.judged(with(entity("e", "1"), nested(14, "<a x=\"&e;\"/>")), 8);
        CHECK.judged(with(entity("e", "1"), nested(15, "<a x=\"&e;\"/>")), Check.TOO_MUCH);
        StringBuilder chain = new StringBuilder();
        for (char name = 'b'; name < 'q'; name++) {
            chain.append(entity(String.valueOf(name), "&" + (char) (name + 1) + ";"));
        }
        // b to q are sixteen texts within one another, and the element makes seventeen.
        String declarations = chain + entity("q", "");
        CHECK.judged("<!DOCTYPE a [" + declarations + "]><a>&c;</a>", 2);
        CHECK.judged("<!DOCTYPE a [" + declarations + "]><a>&b;</a>", Check.TOO_MUCH);
        CHECK.judged("<!DOCTYPE a [" + declarations + "<!ATTLIST a x CDATA \"&b;\">]><a/>", 2);
        CHECK.judged("<!DOCTYPE a [" + declarations + entity("a", "&b;") + "<!ATTLIST a x CDATA \"&a;\">]><a/>", Check.TOO_MUCH);
    }

    private static void events() {
        String ten = entity("e", "<a/>".repeat(10));
        CHECK.judged(with(ten, "<a>" + "&e;".repeat(9) + "<a/>".repeat(9) + "</a>"), 0);
        CHECK.judged(with(ten, "<a>" + "&e;".repeat(9) + "<a/>".repeat(9) + "1</a>"), Check.TOO_MUCH);
        CHECK.judged(with(ten, "<a>" + "&e;".repeat(9) + "<a/>".repeat(10) + "1<"), Check.TOO_MUCH);
        CHECK.judged(with(ten, "<a>" + "&e;".repeat(9) + "<a/>".repeat(9) + "1<"), Check.WRONG);
        CHECK.judged(with(ten, "<a>" + "&e;".repeat(9) + "<a/>".repeat(9) + "<!---->" + "</a>"), 0);
        CHECK.judged(with(ten, "<a x=\"1\">" + "&e;".repeat(9) + "<a/>".repeat(9) + "</a>"), Check.TOO_MUCH);
        CHECK.judged(with("<!ATTLIST b x CDATA \"\">" + entity("e", "<b/>".repeat(10)), "<a>" + "&e;".repeat(6) + "<b/>".repeat(6) + "</a>"), 2);
        CHECK.judged(with("<!ATTLIST b x CDATA \"\">" + entity("e", "<b/>".repeat(10)), "<a>" + "&e;".repeat(6) + "<b/>".repeat(7) + "</a>"), Check.TOO_MUCH);
    }

    private static void characters() {
        String hundred = entity("e", "0123456789".repeat(10));
        CHECK.judged(with(hundred, "<a>" + "&e;".repeat(19) + "x".repeat(100) + "</a>"), 0);
        CHECK.judged(with(hundred, "<a>" + "&e;".repeat(19) + "x".repeat(101) + "</a>"), Check.TOO_MUCH);
        CHECK.judged(with(hundred, "<a>" + "&e;".repeat(19) + "x".repeat(101) + "<"), Check.TOO_MUCH);
        CHECK.judged(with(hundred, "<a>" + "&e;".repeat(19) + "x".repeat(100) + "<"), Check.WRONG);
        CHECK.judged(with(hundred, "<a x=\"" + "&e;".repeat(19) + "x".repeat(100) + "\"/>"), 8);
        CHECK.judged(with(hundred, "<a x=\"" + "&e;".repeat(19) + "x".repeat(101) + "\"/>"), Check.TOO_MUCH);
        // A value comes into its event when it was read.
        CHECK.judged(with(hundred, "<a x=\"" + "&e;".repeat(19) + "x".repeat(101) + "<"), Check.WRONG);
        CHECK.judged(with(hundred + "<!ATTLIST a x NMTOKEN #IMPLIED>", "<a x=\"" + "&e;".repeat(19) + "x".repeat(80) + " ".repeat(30) + "\"/>"), 0);
        String longDefault = "<!ATTLIST b x CDATA \"" + "x".repeat(100) + "\">";
        CHECK.judged(with(longDefault, "<a>" + "<b/>".repeat(20) + "</a>"), 2);
        CHECK.judged(with(longDefault, "<a>" + "<b/>".repeat(20) + "1</a>"), Check.TOO_MUCH);
        CHECK.judged(with(longDefault, "<a>" + "<b/>".repeat(21) + "</a>"), Check.TOO_MUCH);
    }

    private static void models() {
        String thirty = "(" + "b?,".repeat(29) + "b?";
        CHECK.judged("<!DOCTYPE a [<!ELEMENT a " + thirty + ")>]><a/>", 512);
        CHECK.judged("<!DOCTYPE a [<!ELEMENT a " + thirty + ",c)>]><a/>", Check.TOO_MUCH);
        CHECK.judged("<!DOCTYPE a [<!ELEMENT a " + thirty + ",c", Check.TOO_MUCH);
        CHECK.judged("<!DOCTYPE a [<!ELEMENT a " + thirty + ",", Check.WRONG);
        CHECK.judged("<!DOCTYPE a [<!ELEMENT a " + thirty + ",(", Check.WRONG);
        CHECK.judged("<!DOCTYPE a [<!ELEMENT a ((" + "b,".repeat(14) + "b)|(" + "c,".repeat(14) + "c)|d)>]><a/>", Check.TOO_MUCH);
        CHECK.judged("<!DOCTYPE a [<!ELEMENT a ((" + "b,".repeat(14) + "b)|(" + "c,".repeat(14) + "c))?>]><a/>", 0);
        CHECK.judged("<!DOCTYPE a [<!ELEMENT a ANY><!ELEMENT a " + thirty + ",c)>]><a/>", Check.TOO_MUCH);
        CHECK.judged("<!DOCTYPE a [<!ELEMENT a (#PCDATA" + "|b".repeat(40) + ")*>]><a/>", 0);
        CHECK.judged("<!DOCTYPE a [<!ELEMENT a ((((((((b?))))))))>]><a/>", 0);
        CHECK.judged("<!DOCTYPE a [<!ELEMENT a (((((((((b?)))))))))>]><a/>", Check.TOO_MUCH);
        CHECK.judged("<!DOCTYPE a [<!ELEMENT a (((((((((", Check.TOO_MUCH);
        CHECK.judged("<!DOCTYPE a [<!ELEMENT a ((((((((", Check.WRONG);
        CHECK.judged("<!DOCTYPE a [<!ELEMENT a ((b?),(b?),(b?),(b?),(b?),(b?),(b?),(b?),(c?))>]><a/>", 512);
    }
}
