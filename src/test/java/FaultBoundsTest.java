/** The terms ATTRIBUTES, EVENTS and FAULTS, sentence by sentence. */
public final class FaultBoundsTest {
    private static final Check CHECK = new Check();

    public static void main(String[] args) {
        firstDeclaration();
        blanksInValues();
        blanksByNumber();
        blanksThatFallAway();
        standsTwice();
        added();
        events();
        texts();
        root();
        notDeclared();
        emptyAndAny();
        mixed();
        textsInGroups();
        groups();
        attributeNotDeclared();
        required();
        fixed();
        tokens();
        ids();
        idrefs();
        notPlain();
        declaredTwice();
        ofAddedValues();
        withoutGrammar();
        CHECK.end();
    }

    private static String with(String declarations, String tree) {
        return "<!DOCTYPE a [<!ELEMENT a ANY>" + declarations + "]>" + tree;
    }

    private static void firstDeclaration() {
        CHECK.says("Of several declarations of an attribute of an element the first counts");
        CHECK.found(with("<!ATTLIST a x CDATA \"1\" x CDATA \"2\">", "<a/>"), 0, "+a x[1] -a");
        CHECK.found(with("<!ATTLIST a x CDATA \"1\"><!ATTLIST a x CDATA \"2\">", "<a/>"), 0, "+a x[1] -a");
        CHECK.found(with("<!ATTLIST a x CDATA #IMPLIED x CDATA \"2\">", "<a/>"), 0, "+a -a");
        CHECK.found(with("<!ATTLIST a x CDATA #IMPLIED x NMTOKEN #REQUIRED>", "<a/>"), 0, "+a -a");
        CHECK.judged(with("<!ATTLIST a x CDATA #REQUIRED x CDATA \"2\">", "<a/>"), 16);
        CHECK.found(with("<!ATTLIST a x CDATA #IMPLIED x NMTOKEN #IMPLIED>", "<a x=\" - \"/>"), 0, "+a x[ - ] -a");
        CHECK.found(with("<!ATTLIST a x NMTOKEN #IMPLIED x CDATA #IMPLIED>", "<a x=\" - \"/>"), 64, "+a x[-] -a");
        CHECK.judged(with("<!ATTLIST a x (b) #IMPLIED x (c) #IMPLIED>", "<a x=\"c\"/>"), 64);
        CHECK.judged(with("<!ATTLIST a x CDATA #FIXED \"1\" x CDATA #FIXED \"2\">", "<a x=\"2\"/>"), 32);
        // Another element's or another attribute's is none of them.
        CHECK.found(with("<!ATTLIST b x CDATA \"1\"><!ATTLIST a x CDATA \"2\" y CDATA \"3\">", "<a/>"), 0, "+a x[2] y[3] -a");
    }

    private static void blanksInValues() {
        CHECK.says("in which each blank .. is made a 32");
        CHECK.found("<a x=\" \"/>", 1, "+a x[ ] -a");
        CHECK.found("<a x=\"\t\"/>", 1, "+a x[ ] -a");
        CHECK.found("<a x=\"\n\"/>", 1, "+a x[ ] -a");
        CHECK.found("<a x=\"\r\"/>", 1, "+a x[ ] -a");
        CHECK.found("<a x=\"\r\n\t1 \n\"/>", 1, "+a x[  1  ] -a");
        CHECK.found("<a x=\"\u00a0\u2003\u0085\"/>", 1, "+a x[{160}{8195}{133}] -a");
        CHECK.found("<a>\t\n </a>", 1, "+a [{9}{10} ] -a");
        CHECK.found(with("<!ATTLIST a x CDATA \"\t\n\">", "<a/>"), 0, "+a x[  ] -a");
    }

    private static void blanksByNumber() {
        CHECK.says("but one by a number that stands in the value itself, or in an entity's TEXT when that is read");
        String list = "<!ATTLIST a x CDATA #IMPLIED>";
        for (int blank : new int[] {9, 10, 13}) {
            String number = "&#" + blank + ";";
            CHECK.found(with(list, "<a x=\"" + number + "\"/>"), 0, "+a x[{" + blank + "}] -a");
            CHECK.found(with("<!ATTLIST a x CDATA \"" + number + "\">", "<a/>"), 0, "+a x[{" + blank + "}] -a");
            // Replaced when the entity was declared, it is a blank of the text; replaced when the text is read, it stays.
            CHECK.found(with(list + "<!ENTITY e \"" + number + "\">", "<a x=\"&e;\"/>"), 0, "+a x[ ] -a");
            CHECK.found(with(list + "<!ENTITY e \"&#38;#" + blank + ";\">", "<a x=\"&e;\"/>"), 0, "+a x[{" + blank + "}] -a");
            CHECK.found(with("<!ENTITY e \"&#38;#" + blank + ";\"><!ATTLIST a x CDATA \"&e;\">", "<a/>"), 0, "+a x[{" + blank + "}] -a");
            CHECK.found(with(list + "<!ENTITY e \"&f;\"><!ENTITY f \"" + number + "\">", "<a x=\"&e;\"/>"), 0, "+a x[ ] -a");
        }
        CHECK.found(with(list + "<!ENTITY e \"\n\">", "<a x=\"&e;\"/>"), 0, "+a x[ ] -a");
        CHECK.found(with(list + "<!ENTITY e \"\n\">", "<a>&e;</a>"), 0, "+a [{10}] -a");
    }

    private static void blanksThatFallAway() {
        CHECK.says("if it is declared, but not as CDATA, 32s at both ends fall away, and several in a row become one");
        String[][] values = {{"", ""}, {" ", ""}, {"   ", ""}, {"1", "1"}, {" 1", "1"}, {"1 ", "1"}, {"  1  ", "1"}, {"1 2", "1 2"}, {"1  2", "1 2"},
            {" 1   2  3 ", "1 2 3"}, {"\t1\n\r\n2\r", "1 2"}, {"&#32;1&#32; 2&#32;", "1 2"}, {"&#9;1", "{9}1"}, {" &#10; ", "{10}"}, {"1 &#9; 2", "1 {9} 2"}};
        for (String type : new String[] {"ID", "IDREF", "NMTOKEN", "(q)"}) {
            for (String[] pair : values) {
                events(with("<!ATTLIST a x " + type + " #IMPLIED>", "<a x=\"" + pair[0] + "\"/>"), "+a x[" + pair[1] + "] -a");
                events(with("<!ATTLIST a x " + type + " \"" + pair[0] + "\">", "<a/>"), "+a x[" + pair[1] + "] -a");
                events(with("<!ATTLIST a x " + type + " #FIXED \"" + pair[0] + "\">", "<a/>"), "+a x[" + pair[1] + "] -a");
            }
            events(with("<!ENTITY e \" \"><!ATTLIST a x " + type + " #IMPLIED>", "<a x=\"&e; 1&e; &e;2&e;\"/>"), "+a x[1 2] -a");
        }
        for (String declared : new String[] {"", "<!ATTLIST a x CDATA #IMPLIED>", "<!ATTLIST b x ID #IMPLIED>", "<!ATTLIST a y ID #IMPLIED>"}) {
            events(with(declared, "<a x=\"  1  2  \"/>"), "+a x[  1  2  ] -a");
        }
        events("<a x=\"  1  2  \"/>", "+a x[  1  2  ] -a");
        events(with("<!ATTLIST a x CDATA \"  1  2  \">", "<a/>"), "+a x[  1  2  ] -a");
    }

    private static void events(String document, String due) {
        MarkupJudge judge = Check.fed(document);
        Check.answerOf(() -> judge.judge(2000));
        CHECK.same("the events of " + document, Check.eventsOf(judge), due);
    }

    private static void standsTwice() {
        CHECK.says("An attribute that stands twice in a tag is wrong (found at its name)");
        CHECK.judged("<a x=\"\" y=\"\"/>", 1);
        CHECK.judged("<a x=\"\" x=\"\"/>", Check.WRONG);
        CHECK.judged("<a x=\"\" y=\"\" x=\"\"/>", Check.WRONG);
        CHECK.judged("<a z=\"\" a=\"\" z=\"\"/>", Check.WRONG);
        CHECK.judged("<a x=\"\"><a x=\"\"/><b x=\"\"></b></a>", 1);
        CHECK.judged(with("<!ATTLIST a x CDATA \"\">", "<a x=\"\"/>"), 0);
        // What comes behind its name is not read any more.
        String e = "<!ENTITY e \"\">";
        CHECK.costs(with(e, "<a x=\"\" y=\"&e;\"/>"), 0, Check.TOO_MUCH, 1);
        CHECK.costs(with(e, "<a x=\"\" x=\"&e;\"/>"), 0, Check.WRONG, 0);
        CHECK.costs(with(e, "<a x=\"&e;\" x=\"\"/>"), 0, Check.TOO_MUCH, 1);
        StringBuilder all = new StringBuilder("<a");
        StringBuilder due = new StringBuilder("+a");
        for (char name = 'a'; name <= 'z'; name++) {
            all.append(' ').append(name).append("=\"\"");
            due.append(' ').append(name).append("[]");
        }
        CHECK.found(all + "/>", 1, due + " -a");
        CHECK.judged(all + " z=\"\"/>", Check.WRONG);
        CHECK.judged(all + " a=\"\"/>", Check.WRONG);
    }

    private static void added() {
        CHECK.says("Behind those that stand in a tag come those that are declared with a default (or FIXED) and do not stand there, in the order in which they were declared");
        String list = "<!ATTLIST a z CDATA \"1\" y CDATA #FIXED \"2\" x CDATA #IMPLIED w CDATA \"\"><!ATTLIST b v CDATA \"0\"><!ATTLIST a a CDATA \"4\" z CDATA \"5\">";
        CHECK.found(with(list, "<a/>"), 0, "+a z[1] y[2] w[] a[4] -a");
        CHECK.found(with(list, "<a></a>"), 0, "+a z[1] y[2] w[] a[4] -a");
        CHECK.found(with(list, "<a w=\"3\" z=\"6\"/>"), 0, "+a w[3] z[6] y[2] a[4] -a");
        CHECK.found(with(list, "<a a=\"\" x=\"\" w=\"\" y=\"2\" z=\"\"/>"), 0, "+a a[] x[] w[] y[2] z[] -a");
        CHECK.found(with(list, "<a v=\"\"/>"), 8, "+a v[] z[1] y[2] w[] a[4] -a");
        CHECK.found(with(list, "<a><b/>t<a/></a>"), 2, "+a z[1] y[2] w[] a[4] +b v[0] -b [t] +a z[1] y[2] w[] a[4] -a -a");
        CHECK.found(with("<!ATTLIST a x CDATA #REQUIRED y CDATA #IMPLIED>", "<a/>"), 16, "+a -a");
        // The shortest declarations of attributes, as many as there can be.
        StringBuilder most = new StringBuilder("<!DOCTYPE a [<!ATTLIST a");
        StringBuilder due = new StringBuilder("+a");
        for (char name = 'a'; name <= 'z'; name++) {
            most.append(' ').append(name).append(" ID \"\"");
            due.append(' ').append(name).append("[]");
        }
        CHECK.found(most + ">]><a/>", 2 + 128, due + " -a");
        StringBuilder more = new StringBuilder(most + "><!ATTLIST b");
        for (char name = 'a'; name <= 'm'; name++) {
            more.append(' ').append(name).append(" ID \"\"");
        }
        CHECK.found(more + ">]><b/>", 1 + 2 + 128, "+b a[] b[] c[] d[] e[] f[] g[] h[] i[] j[] k[] l[] m[] -b");
    }

    private static void events() {
        CHECK.says("BEGIN (1) of an element, when its name was read; ATTRIBUTE (2) for each of it .. ; TEXT (3) .. ; END (4)");
        CHECK.found("<a/>", 1, "+a -a");
        CHECK.found("<a></a>", 1, "+a -a");
        CHECK.found("<a x=\"1\" b=\"2\"><b/>t<c>u</c></a>", 1, "+a x[1] b[2] +b -b [t] +c [u] -c -a");
    }

    private static void texts() {
        CHECK.says("TEXT (3), as many characters as come without another event");
        CHECK.found("<a>1</a>", 1, "+a [1] -a");
        CHECK.found("<a>1&#50;&lt;&amp;</a>", 1, "+a [12<&] -a");
        CHECK.found("<a>1<b/>2</a>", 1, "+a [1] +b -b [2] -a");
        CHECK.found("<a> <b> </b> </a>", 1, "+a [ ] +b [ ] -b [ ] -a");
        CHECK.found(with("<!ENTITY e \"2\"><!ENTITY f \"\">", "<a>1&e;3&f;4</a>"), 0, "+a [1234] -a");
        CHECK.found(with("<!ENTITY f \"\">", "<a>&f;</a>"), 0, "+a -a");
        CHECK.says("Comments make none, and do not part a text");
        CHECK.found("<!--x--><a><!--x--></a><!--x-->", 1, "+a -a");
        CHECK.found("<a>1<!--x-->2<!--x--><!--x-->3</a>", 1, "+a [123] -a");
        CHECK.found("<a><!--x-->1<b/><!--x-->2<!--x--></a>", 1, "+a [1] +b -b [2] -a");
        CHECK.found(with("<!ENTITY e \"<!--x-->2<!--x-->\">", "<a>1&e;3</a>"), 0, "+a [123] -a");
    }

    private static void root() {
        CHECK.says("1 there is no grammar, or the outermost element has another name than it says");
        CHECK.judged("<a/>", 1);
        CHECK.judged("<!DOCTYPE a [<!ELEMENT a ANY><!ELEMENT b ANY>]><a><b/></a>", 0);
        CHECK.judged("<!DOCTYPE b [<!ELEMENT a ANY><!ELEMENT b ANY>]><a><b/></a>", 1);
        CHECK.judged("<!DOCTYPE z [<!ELEMENT z ANY>]><z/>", 0);
        CHECK.judged("<!DOCTYPE z [<!ELEMENT z ANY><!ELEMENT y ANY>]><y/>", 1);
    }

    private static void notDeclared() {
        CHECK.says("2 an element is not declared");
        CHECK.judged(with("", "<a/>"), 0);
        CHECK.judged(with("", "<a><b/></a>"), 2);
        CHECK.judged(with("<!ELEMENT b EMPTY>", "<a><b/></a>"), 0);
        CHECK.judged(with("<!ELEMENT b EMPTY>", "<a><b/><a><c/></a></a>"), 2);
        CHECK.judged(with("<!ATTLIST b x CDATA #IMPLIED>", "<a><b/></a>"), 2);
        CHECK.judged(with("<!ELEMENT b (c?)>", "<a><b/></a>"), 0);
        CHECK.judged("<!DOCTYPE a [<!ELEMENT a (b)>]><a><b/></a>", 2);
        // What it holds is as nothing says otherwise, but what is in it is looked at.
        CHECK.judged(with("", "<a><b>t<a/></b></a>"), 2);
        CHECK.judged(with("<!ELEMENT c EMPTY>", "<a><b><c>t</c></b></a>"), 2 + 4);
    }

    /** The contents of an r with the model; a, b and c are declared. */
    private static void content(String model, int due, String... contents) {
        for (String inside : contents) {
            CHECK.judged("<!DOCTYPE r [<!ELEMENT r " + model + "><!ELEMENT a EMPTY><!ELEMENT b EMPTY><!ELEMENT c EMPTY><!ENTITY e \"\"><!ENTITY f \" \">]><r>"
                + inside + "</r>", due);
        }
    }

    private static void emptyAndAny() {
        CHECK.says("EMPTY no texts or elements; ANY anything");
        content("EMPTY", 0, "", "<!---->", "<!-- x --><!---->", "&e;");
        content("EMPTY", 4, " ", "\n", "x", "&#32;", "&#65;", "&f;", "<a/>", "<!----> ", "<a/>x");
        content("ANY", 0, "", " ", "x", "<a/>", "<a/>x<b/> <r/>");
        content("ANY", 4, "<a> </a>", "<r><b>x</b></r>");
    }

    private static void mixed() {
        CHECK.says("#PCDATA texts, and only elements with the names");
        for (String model : new String[] {"(#PCDATA)", "(#PCDATA)*"}) {
            content(model, 0, "", " ", "x", "x<!---->y");
            content(model, 4, "<a/>", "x<a/>", "<r/>");
        }
        content("(#PCDATA|a)*", 0, "", "x", "<a/>", "<a/><a/>", "x<a/>y<a/>z");
        content("(#PCDATA|a)*", 4, "<b/>", "<a/><b/>", "<b/><a/>", "x<r/>");
        content("(#PCDATA|a|c)*", 0, "<c/><a/>", "<a/>x<c/>");
        content("(#PCDATA|a|c)*", 4, "<a/><b/><c/>");
        content("(#PCDATA|z|a)*", 4, "<b/>");
        content("(#PCDATA|z|a)*", 2, "<z/>");
    }

    private static void textsInGroups() {
        CHECK.says("a group: no texts but of blanks");
        content("(a?)", 0, "", " ", "\t\n\r", "&#9;&#10;&#13;&#32;", " <a/> ", "&f;<a/>&f;", "&e;", "<!--x--> ");
        content("(a?)", 4, "x", " x", "x ", "<a/>x", "x<a/>", "&#160;", "\u00a0", "\u2003", "&lt;", "0");
        content("(a,b)", 0, " <a/> <b/> ");
        content("(a,b)", 4, " <a/> x <b/> ");
    }

    /** Each word is a content: its letters are the elements, and - is none. */
    private static void group(String model, String fitting, String others) {
        for (String word : fitting.split(" ")) {
            content(model, 0, word.replaceAll("([a-c])", "<$1/>").replace("-", ""));
        }
        for (String word : others.split(" ")) {
            content(model, 4, word.replaceAll("([a-c])", "<$1/>").replace("-", ""));
        }
    }

    private static void groups() {
        CHECK.says("| one of, the comma one behind the other, ? once or not, * any number, + one or more of what is before it");
        group("(a)", "a", "- aa b ab ba");
        group("(a|b)", "a b", "- aa ab ba bb c");
        group("(a|b|c)", "a b c", "- ab bc ca");
        group("(a,b)", "ab", "- a b ba aab abb abab");
        group("(a,b,c)", "abc", "- ab bc ac abcc acb");
        group("(a?)", "- a", "aa b");
        group("(a)?", "- a", "aa b");
        group("(a*)", "- a aa aaaaaaaaaa", "b ab ba aab");
        group("(a)*", "- a aa aaaaaaaaaa", "b ab ba aab");
        group("(a+)", "a aa aaaaaaaaaa", "- b ab ba");
        group("(a)+", "a aa aaaaaaaaaa", "- b ab ba");
        group("(a|b)?", "- a b", "ab aa bb");
        group("(a|b)*", "- a b ab ba aabb bab", "c abc");
        group("(a|b)+", "a b ab ba", "- c bac");
        group("(a,b)?", "- ab", "a b abab");
        group("(a,b)*", "- ab abab ababab", "a ba aba abb");
        group("(a,b)+", "ab abab", "- a b aba");
        group("(a?,b)", "b ab", "- a aab ba");
        group("(a,b?)", "a ab", "- b abb ba");
        group("(a*,b)", "b ab aab", "- a ba");
        group("(a+,b)", "ab aab", "- b a");
        group("(a?|b)", "- a b", "ab aa");
        group("(a*|b)", "- a aa b", "ab bb");
        group("(a+|b)", "a aa b", "- ab bb");
        group("((a|b),c)", "ac bc", "- c a ab abc cc");
        group("((a,b)|c)", "ab c", "- a b abc ac");
        group("(a,(b|c)*)", "a ab ac abcb", "- b aa aba");
        group("((a,b?)+,c)", "ac abc aac abac", "- c bc ab abbc");
        group("((a?,b?)*,c)", "c ac bc bac abbac", "- ab ca");
        group("((a|b)+,(c,a)?)", "a ab abca", "- ca abc acaa");
        group("((((((((a))))))))", "a", "- aa");
        group("((((((((a)?)*)?)+)?)*)?)", "- a aa", "b ab");
        content("(r?)", 0, "<r/>", "<r><r/></r>", "<r> <r></r></r>");
        content("(r?)", 4, "<r/><r/>", "<r><r/><r/></r>", "<r>x</r>");
    }

    private static void attributeNotDeclared() {
        CHECK.says("8 an attribute is not declared for the element");
        CHECK.judged(with("<!ATTLIST a x CDATA #IMPLIED>", "<a x=\"\"/>"), 0);
        CHECK.judged(with("<!ATTLIST a x CDATA #IMPLIED>", "<a y=\"\"/>"), 8);
        CHECK.judged(with("<!ATTLIST a x CDATA #IMPLIED>", "<a x=\"\" y=\"\"/>"), 8);
        CHECK.judged(with("<!ATTLIST b x CDATA #IMPLIED>", "<a x=\"\"/>"), 8);
        CHECK.judged(with("<!ATTLIST a>", "<a x=\"\"/>"), 8);
        CHECK.judged(with("<!ATTLIST b x CDATA #IMPLIED>", "<a><b x=\"\"/></a>"), 2);
        CHECK.judged(with("", "<a><b x=\"\"/></a>"), 2 + 8);
    }

    private static void required() {
        CHECK.says("16 one that is REQUIRED is missing");
        String list = "<!ATTLIST a x CDATA #REQUIRED><!ATTLIST b y CDATA #REQUIRED><!ELEMENT b ANY>";
        CHECK.judged(with(list, "<a x=\"\"/>"), 0);
        CHECK.judged(with(list, "<a/>"), 16);
        CHECK.judged(with(list, "<a y=\"\"/>"), 8 + 16);
        CHECK.judged(with(list, "<a x=\"\"><b y=\"\"/></a>"), 0);
        CHECK.judged(with(list, "<a x=\"\"><b/></a>"), 16);
        CHECK.judged(with(list, "<a><b y=\"\"/></a>"), 16);
        CHECK.judged(with(list, "<a><a x=\"\"/></a>"), 16);
        CHECK.judged(with(list, "<a x=\"\"><a/></a>"), 16);
        CHECK.judged(with(list + "<!ATTLIST a z CDATA #REQUIRED>", "<a x=\"\"/>"), 16);
        CHECK.judged(with(list + "<!ATTLIST a z CDATA #REQUIRED>", "<a z=\"\" x=\"\"/>"), 0);
        CHECK.judged(with("<!ATTLIST c x CDATA #REQUIRED>", "<a><c/></a>"), 2 + 16);
        CHECK.judged(with("<!ATTLIST a x CDATA #IMPLIED y CDATA \"\" z CDATA #FIXED \"\">", "<a/>"), 0);
    }

    private static void fixed() {
        CHECK.says("32 one that is FIXED has another value");
        String list = "<!ATTLIST a x CDATA #FIXED \"12\" y CDATA #FIXED \"\" z NMTOKEN #FIXED \" 3 \">";
        CHECK.judged(with(list, "<a/>"), 0);
        CHECK.judged(with(list, "<a x=\"12\" y=\"\" z=\"3\"/>"), 0);
        CHECK.judged(with(list, "<a x=\"&#49;2\" z=\"  3\"/>"), 0);
        for (String other : new String[] {"", "1", "2", "21", "13", "22", "123", "012", "12 ", " 12", "1 2"}) {
            CHECK.judged(with(list, "<a x=\"" + other + "\"/>"), 32);
        }
        CHECK.judged(with(list, "<a y=\" \"/>"), 32);
        CHECK.judged(with(list, "<a z=\"4\"/>"), 32);
        CHECK.judged(with(list, "<a z=\"&#9;3\"/>"), 32 + 64);
        CHECK.judged(with("<!ATTLIST a x CDATA \"12\">", "<a x=\"13\"/>"), 0);
        CHECK.judged(with("<!ATTLIST b x CDATA #FIXED \"12\">", "<a><b x=\"13\"/></a>"), 2 + 32);
    }

    private static void tokens() {
        CHECK.says("64 a value is none of the tokens");
        String list = "<!ATTLIST a x (on|off|2) #IMPLIED y (up) #IMPLIED>";
        for (String fits : new String[] {"on", "off", "2", " on", "off\n", "&#50;"}) {
            CHECK.judged(with(list, "<a x=\"" + fits + "\"/>"), 0);
        }
        for (String not : new String[] {"", " ", "o", "n", "of", "ff", "offf", "on2", "22", "on off", "on|off", "|", "up", "x", "ON", "-", "&#9;on"}) {
            CHECK.judged(with(list, "<a x=\"" + not + "\"/>"), 64);
        }
        CHECK.judged(with(list, "<a y=\"up\"/>"), 0);
        CHECK.judged(with(list, "<a y=\"on\"/>"), 64);
        CHECK.says("or for NMTOKEN no token");
        for (String fits : new String[] {"a", "z", "0", "9", "az09", " a ", "0123456789"}) {
            CHECK.judged(with("<!ATTLIST a x NMTOKEN #IMPLIED>", "<a x=\"" + fits + "\"/>"), 0);
        }
        for (String not : new String[] {"", " ", "`", "{", "/", ":", "A", "Z", "-", ".", "_", "a b", "a-", "-a", "a-a", "&#9;", "a&#10;", "\u00e0", "\u0661"}) {
            CHECK.judged(with("<!ATTLIST a x NMTOKEN #IMPLIED>", "<a x=\"" + not + "\"/>"), 64);
        }
        CHECK.judged(with("<!ATTLIST a x CDATA #IMPLIED>", "<a x=\"-\"/>"), 0);
    }

    private static void ids() {
        CHECK.says("128 an ID is no token that begins with a .. z, or two IDs have the same value");
        String list = "<!ATTLIST a i ID #IMPLIED j ID #IMPLIED n NMTOKEN #IMPLIED><!ATTLIST b i ID #IMPLIED><!ELEMENT b ANY>";
        for (String fits : new String[] {"a", "z", "a0", "z9", "abc", " a "}) {
            CHECK.judged(with(list, "<a i=\"" + fits + "\"/>"), 0);
        }
        for (String not : new String[] {"", " ", "0", "9", "0a", "9z", "`", "{", "/", ":", "A", "Z", "a-", "-a", "a b", "a&#9;", "\u00e0"}) {
            CHECK.judged(with(list, "<a i=\"" + not + "\"/>"), 128);
        }
        CHECK.judged(with(list, "<a i=\"p\" j=\"q\"><a i=\"pp\" j=\"p1\"/></a>"), 0);
        CHECK.judged(with(list, "<a i=\"p\" j=\"p\"/>"), 128);
        CHECK.judged(with(list, "<a i=\"p\"><a i=\"p\"/></a>"), 128);
        CHECK.judged(with(list, "<a i=\"p\"><b i=\" p \"/></a>"), 128);
        CHECK.judged(with(list, "<a i=\"p\"><b i=\"q\"/><b i=\"r\"/><a j=\"q\"/></a>"), 128);
        CHECK.judged(with(list, "<a i=\"p\" n=\"p\"/>"), 0);
    }

    private static void idrefs() {
        CHECK.says("256 an IDREF has no value that some ID has");
        String list = "<!ATTLIST a i ID #IMPLIED r IDREF #IMPLIED n NMTOKEN #IMPLIED><!ATTLIST b i ID #IMPLIED r IDREF #IMPLIED><!ELEMENT b ANY>";
        CHECK.judged(with(list, "<a i=\"p\" r=\"p\"/>"), 0);
        CHECK.judged(with(list, "<a r=\"p\" i=\"p\"/>"), 0);
        CHECK.judged(with(list, "<a r=\"p\"><b/><b i=\"p\"/></a>"), 0);
        CHECK.judged(with(list, "<a i=\"p\"><b r=\"p\"/><b r=\" p \"/></a>"), 0);
        CHECK.judged(with(list, "<a r=\"p\"/>"), 256);
        CHECK.judged(with(list, "<a r=\"p\" n=\"p\"/>"), 256);
        CHECK.judged(with(list, "<a r=\"p\"><b r=\"p\"/></a>"), 256);
        for (String other : new String[] {"", "q", "pp", "p1", "P", "p p"}) {
            CHECK.judged(with(list, "<a i=\"p\" r=\"" + other + "\"/>"), 256);
        }
        CHECK.judged(with(list, "<a i=\"pq\" r=\"p\"/>"), 256);
        CHECK.judged(with(list, "<a i=\"p\" r=\"p\"><b i=\"q\" r=\"q\"/><b r=\"r\"/></a>"), 256);
        CHECK.judged(with("<!ATTLIST a i CDATA #IMPLIED r IDREF #IMPLIED>", "<a i=\"p\" r=\"p\"/>"), 256);
        CHECK.judged(with("", "<a i=\"p\"/>"), 8);
    }

    private static void plain(int due, String... models) {
        for (String model : models) {
            CHECK.judged(with("<!ELEMENT b " + model + ">", "<a/>"), due);
        }
    }

    private static void notPlain() {
        CHECK.says("512 a group is NOT PLAIN: two of its names at different places are alike, and both can come first");
        plain(0, "(c)", "(c|d)", "(c|(d,c))", "(c,c)", "((c,d)|(d,c))", "(c?,d)", "(c*,d,c)", "(c)*", "(c*)*", "((c+)+)+");
        plain(512, "(c|c)", "(c|d|c)", "(c|(c,d))", "((c,d)|(c,e))", "(c?,c)", "(c*,c)", "(c?,d?,c)", "((c|d)?,d)", "((d?,c)|c)", "((c?|d),c)", "((c)?,(c)?)");
        CHECK.says("or both next behind the same place");
        plain(0, "(c,d,c,d)", "(c,(d|e),c)", "(c,d?,e)", "(c,(d,c)*,e)", "(c,d)*", "((c|d)*,e)", "(c,d,(e,c)*)", "(c,(d|(e,d)))", "(c?,d?)*");
        plain(512, "(c,(d|d))", "(c,d?,d)", "(c,d*,d)", "(c,d+,d)", "(c+,c)", "(c,(d,e)*,d)", "(c,(d,c)*,d)", "(c,c?)*", "((c,d?)*,d)",
            "(d,c?,e?,c)", "((c|d)+,d)", "(c?,d,c?)*", "((c,d)|(d,c,c?))*", "(c,(d?,e?)*,d)", "(c,(c,d)+)+");
        CHECK.says("the names of the elements in order must be one of those that the group describes, plain or not");
        content("((a,b)|(a,c))", 512, "<a/><b/>", "<a/><c/>");
        content("((a,b)|(a,c))", 512 + 4, "", "<a/>", "<a/><a/>", "<a/><b/><c/>");
        content("((a|b)*,a,(a|b))", 512, "<a/><b/>", "<b/><a/><a/><a/><b/>", "<a/><a/><a/>");
        content("((a|b)*,a,(a|b))", 512 + 4, "<a/>", "<b/><b/>", "<b/><a/><b/><b/>");
        content("(a?,a)", 512, "<a/>", "<a/><a/>");
        content("(a?,a)", 512 + 4, "", "<a/><a/><a/>");
        CHECK.says("asked of models that count");
        CHECK.judged(with("<!ELEMENT b ANY><!ELEMENT b (c|c)>", "<a/>"), 1024);
        CHECK.judged(with("<!ELEMENT b (c|c)><!ELEMENT b ANY>", "<a/>"), 512 + 1024);
        CHECK.judged(with("<!ELEMENT b (#PCDATA|c|c)*>", "<a/>"), 0);
        CHECK.judged("<!DOCTYPE a [<!ELEMENT a (c|c)?>]><a/>", 512);
        CHECK.judged(with("<!ELEMENT z (c|c)>", "<a/>"), 512);
    }

    private static void declaredTwice() {
        CHECK.says("1024 an element's model is declared twice (the first counts)");
        CHECK.judged(with("<!ELEMENT b ANY>", "<a/>"), 0);
        CHECK.judged(with("<!ELEMENT a ANY>", "<a/>"), 1024);
        CHECK.judged(with("<!ELEMENT a EMPTY>", "<a>t</a>"), 1024);
        CHECK.judged("<!DOCTYPE a [<!ELEMENT a EMPTY><!ELEMENT a ANY>]><a>t</a>", 1024 + 4);
        CHECK.judged("<!DOCTYPE a [<!ELEMENT a EMPTY><!ELEMENT a ANY><!ELEMENT a ANY>]><a/>", 1024);
        CHECK.judged(with("<!ELEMENT z EMPTY><!ELEMENT z EMPTY>", "<a/>"), 1024);
        CHECK.judged(with("<!ATTLIST a x CDATA #IMPLIED><!ATTLIST a x CDATA #IMPLIED><!ENTITY e \"\"><!ENTITY e \"\">", "<a/>"), 0);
        // Nor is it in the next document, which declares it once.
        MarkupJudge judge = Check.fed(with("<!ELEMENT a EMPTY>", "<a/>"));
        CHECK.call("judge(0) of the first", () -> judge.judge(0), 1024);
        judge.clear();
        Check.feed(judge, "<!DOCTYPE a [<!ELEMENT a EMPTY>]><a/>");
        CHECK.call("judge(0) of the next", () -> judge.judge(0), 0);
    }

    private static void ofAddedValues() {
        CHECK.says("Faults 64, 128 and 256 are also those of values that were added");
        for (String rule : new String[] {"", "#FIXED "}) {
            CHECK.judged(with("<!ATTLIST a x (b) " + rule + "\"b\">", "<a/>"), 0);
            CHECK.judged(with("<!ATTLIST a x (b) " + rule + "\"c\">", "<a/>"), 64);
            CHECK.judged(with("<!ATTLIST a x NMTOKEN " + rule + "\"-\">", "<a/>"), 64);
            CHECK.judged(with("<!ATTLIST a x ID " + rule + "\"b\">", "<a/>"), 0);
            CHECK.judged(with("<!ATTLIST a x ID " + rule + "\"0\">", "<a/>"), 128);
            CHECK.judged(with("<!ATTLIST a x ID " + rule + "\"b\">", "<a><a/></a>"), 128);
            CHECK.judged(with("<!ATTLIST a x ID #IMPLIED y ID " + rule + "\"b\">", "<a x=\"b\"/>"), 128);
            CHECK.judged(with("<!ATTLIST a x IDREF " + rule + "\"b\">", "<a/>"), 256);
            CHECK.judged(with("<!ATTLIST a x IDREF " + rule + "\"b\" y ID " + rule + "\"b\">", "<a/>"), 0);
            CHECK.judged(with("<!ATTLIST a x IDREF #IMPLIED y ID " + rule + "\"b\">", "<a x=\"b\"/>"), 0);
        }
        // A default that is nowhere added is no value.
        CHECK.judged(with("<!ATTLIST a x (b) \"c\">", "<a x=\"b\"/>"), 0);
        CHECK.judged(with("<!ATTLIST b x NMTOKEN \"-\" y ID \"0\" z IDREF \"q\">", "<a/>"), 0);
        CHECK.judged(with("<!ATTLIST b y ID \"q\"><!ATTLIST a z IDREF #IMPLIED>", "<a z=\"q\"/>"), 256);
    }

    private static void withoutGrammar() {
        CHECK.says("Without a grammar only 1 is told");
        CHECK.judged("<a x=\"1\"><b>t</b></a>", 1);
        CHECK.judged("<!DOCTYPE a><a x=\"1\"><b>t</b></a>", 2 + 8);
        CHECK.judged("<!DOCTYPE b><a x=\"1\"><b>t</b></a>", 1 + 2 + 8);
        // Nor is anything of an earlier grammar.
        MarkupJudge judge = Check.fed("<!DOCTYPE z [<!ELEMENT a EMPTY><!ELEMENT a ANY><!ATTLIST a x CDATA \"1\">]><a>t</a>");
        CHECK.call("judge(0) with a grammar", () -> judge.judge(0), 1 + 4 + 1024);
        judge.clear();
        Check.feed(judge, "<a>t</a>");
        CHECK.call("judge(0) without", () -> judge.judge(0), 1);
        CHECK.same("the events without", Check.eventsOf(judge), "+a [t] -a");
    }
}
