/** Promises 4 to 7 by the terms ATTRIBUTES, EVENTS and FAULTS: what is found, and whether it is as declared. */
public final class FaultsTest {
    private static final Check CHECK = new Check();

    public static void main(String[] args) {
        events();
        values();
        defaults();
        noGrammar();
        names();
        simpleContent();
        groups();
        notPlain();
        declaredTwice();
        attributes();
        ids();
        severalAtOnce();
        CHECK.end();
    }

    private static String with(String declarations, String tree) {
        return "<!DOCTYPE a [<!ELEMENT a ANY>" + declarations + "]>" + tree;
    }

    private static void events() {
        CHECK.found("<a>1<!---->2<b/>3<!----></a>", 1, "+a [12] +b -b [3] -a");
        CHECK.found("<a x=\"1\" y=\"\"> <b></b>\n</a>", 1, "+a x[1] y[] [ ] +b -b [{10}] -a");
        CHECK.found("<a>&#65;\u00e9&lt;</a>", 1, "+a [A{233}<] -a");
        CHECK.found(" <!----> <a/> ", 1, "+a -a");
    }

    private static void values() {
        CHECK.found("<a x=\" \t\n1  2 \"/>", 1, "+a x[   1  2 ] -a");
        CHECK.found("<a x=\"&#9;&#10;&#13;&#32;\"/>", 1, "+a x[{9}{10}{13} ] -a");
        String entities = "<!ENTITY e \"&#10;\"><!ENTITY f \"&#38;#10;\"><!ENTITY g \"&#13;\n\">";
        CHECK.found(with(entities, "<a x=\"&e;&f;&g;\"/>"), 8, "+a x[ {10}  ] -a");
        CHECK.found(with("<!ATTLIST a x CDATA #IMPLIED>", "<a x=\" 1  2 \"/>"), 0, "+a x[ 1  2 ] -a");
        for (String type : new String[] {"NMTOKEN", "ID", "IDREF", "(t)"}) {
            String declared = "<!ATTLIST a x " + type + " #IMPLIED>";
            String document = with(declared, "<a x=\" &#32;\n1 \t 2&#32; \"/>");
            MarkupJudge judge = Check.fed(document);
            judge.judge(0);
            CHECK.same("the events of " + document, Check.eventsOf(judge), "+a x[1 2] -a");
        }
        CHECK.found(with("<!ATTLIST a x NMTOKEN #IMPLIED>", "<a x=\" &#10; 1&#9;\"/>"), 64, "+a x[{10} 1{9}] -a");
        CHECK.found(with("<!ATTLIST a x NMTOKEN #IMPLIED>", "<a x=\"  \"/>"), 64, "+a x[] -a");
        CHECK.found(with("<!ATTLIST b x NMTOKEN #IMPLIED>", "<a x=\" 1 \"/>"), 8, "+a x[ 1 ] -a");
    }

    private static void defaults() {
        String list = "<!ATTLIST a z CDATA \" 1 \" y NMTOKEN #FIXED \" 2 \" x CDATA #IMPLIED w CDATA \"3\">";
        CHECK.found(with(list, "<a/>"), 0, "+a z[ 1 ] y[2] w[3] -a");
        CHECK.found(with(list, "<a w=\"4\" x=\"5\">t</a>"), 0, "+a w[4] x[5] z[ 1 ] y[2] [t] -a");
        CHECK.found(with("<!ATTLIST a x CDATA #IMPLIED x CDATA \"1\">", "<a/>"), 0, "+a -a");
        CHECK.found(with("<!ATTLIST a x CDATA \"1\" y CDATA \"2\"><!ATTLIST a x CDATA \"3\" z CDATA \"4\">", "<a/>"), 0, "+a x[1] y[2] z[4] -a");
        CHECK.found(with("<!ATTLIST b x CDATA \"1\"><!ATTLIST a x CDATA \"2\">", "<a><b/></a>"), 2, "+a x[2] +b x[1] -b -a");
        CHECK.found(with("<!ATTLIST a x CDATA \"&lt;\n&#10;\">", "<a/>"), 0, "+a x[< {10}] -a");
    }

    private static void noGrammar() {
        CHECK.judged("<a x=\"1\"><b/>t</a>", 1);
        CHECK.judged("<!DOCTYPE a><a/>", 2);
        CHECK.judged("<!DOCTYPE b><a/>", 3);
        CHECK.judged("<!DOCTYPE a><a x=\"1\"/>", 10);
    }

    private static void names() {
        CHECK.judged(with("", "<a/>"), 0);
        CHECK.judged("<!DOCTYPE b [<!ELEMENT a ANY>]><a/>", 1);
        CHECK.judged("<!DOCTYPE b [<!ELEMENT a ANY><!ELEMENT b ANY>]><a><b/></a>", 1);
        CHECK.judged(with("", "<a><b/></a>"), 2);
        CHECK.judged(with("<!ATTLIST b x CDATA #IMPLIED>", "<a><b x=\"1\">t</b></a>"), 2);
        CHECK.judged(with("<!ELEMENT b (c)>", "<a/>"), 0);
    }

    private static void content(String model, String content, int due) {
        CHECK.judged("<!DOCTYPE r [<!ELEMENT r " + model + "><!ELEMENT a EMPTY><!ELEMENT b EMPTY><!ELEMENT c EMPTY><!ENTITY e \"\">]><r>" + content + "</r>", due);
    }

    private static void simpleContent() {
        for (String fits : new String[] {"", "<!--x-->", "&e;"}) {
            content("EMPTY", fits, 0);
        }
        for (String not : new String[] {" ", "t", "<a/>", "&#32;"}) {
            content("EMPTY", not, 4);
        }
        content("ANY", "t<a/><b/> <a/>", 0);
        content("(#PCDATA)", "t &amp;<!---->", 0);
        content("(#PCDATA)", "", 0);
        content("(#PCDATA)", "t<a/>", 4);
        content("(#PCDATA)*", "<a/>", 4);
        content("(#PCDATA|a|b)*", "<b/>t<a/><b/>", 0);
        content("(#PCDATA|a|b)*", "<b/><c/>", 4);
        content("(a)", " <a/>\n&#13;&#32;&e;<!--x-->", 0);
        content("(a)", "<a/>t", 4);
        content("(a)", "t<a/>", 4);
        content("(a?)", "t", 4);
    }

    /** Each word of the contents is one: its letters are the elements, and - is none. */
    private static void group(String model, String fitting, String others) {
        for (String word : fitting.split(" ")) {
            content(model, word.replaceAll("([a-c])", "<$1/>").replace("-", ""), 0);
        }
        for (String word : others.split(" ")) {
            content(model, word.replaceAll("([a-c])", "<$1/>").replace("-", ""), 4);
        }
    }

    private static void groups() {
        group("(a)", "a", "- b aa ab");
        group("(a?)", "- a", "aa b");
        group("(a*)", "- a aaa", "b ab");
        group("(a+)", "a aaa", "- b aab");
        group("(a,b)", "ab", "- a b ba abb");
        group("(a|b)", "a b", "- ab");
        group("(a|b)*", "- abba", "abc");
        group("(a|b)+", "ba b", "- c");
        group("(a,b)?", "- ab", "a abab");
        group("(a,b?,c)", "abc ac", "ab abbc bc");
        group("(a,(b|c)*,a?)", "a abcb aba aa", "- ba abab");
        group("((a,b)|(b,a))", "ab ba", "aa bb -");
        group("((a,b)+,c)", "abc ababc", "c ab abac");
        group("((a|b),c)*", "- ac bcac", "a cab acb");
        group("(a?,b?,c?)", "- a ac bc abc", "ba cb");
        group("((a?,b?)+,c)", "c ac bc abc bac bbac", "- ab ca");
        group("(((a)))", "a", "- aa");
        group("(a|b?)", "- a b", "ab");
        group("(a?|b)", "- a b", "ab");
        group("((a|b*),c)", "c ac bc bbc", "- a abc");
        CHECK.judged("<!DOCTYPE a [<!ELEMENT a (b)><!ELEMENT b (b?)>]><a><b><b/></b></a>", 0);
        CHECK.judged("<!DOCTYPE a [<!ELEMENT a (b)><!ELEMENT b (b?)>]><a><b><b/><b/></b></a>", 4);
    }

    private static void notPlain() {
        String[] plain = {"(b?,c,b?)", "(b,(c|d),b)", "(b,b)", "(b*,c)", "((b,c)|(c,b))", "(b?,c?)*", "((b|c)*,d)", "(b,b?)"};
        for (String model : plain) {
            CHECK.judged(with("<!ELEMENT c " + model + ">", "<a/>"), 0);
        }
        String[] not = {"(b|b)", "(b?,b)", "(b*,b)", "(b+,b)", "((b,c)|(b,d))", "(b,(c|c))", "(b?,c,b?)*", "(c,(b?,d?)*,b)", "((b|c)?,c)", "(b|(b,c))*",
            "((b)?,(b)?)", "(b?,c?,b)", "((b?|c?),b)"};
        for (String model : not) {
            CHECK.judged(with("<!ELEMENT c " + model + ">", "<a/>"), 512);
        }
        CHECK.judged(with("<!ELEMENT c ANY><!ELEMENT c (b|b)>", "<a/>"), 1024);
        CHECK.judged(with("<!ELEMENT c (#PCDATA|b|b)*>", "<a/>"), 0);
        content("((a,b)|(a,c))", "<a/><c/>", 512);
        content("((a,b)|(a,c))", "<a/><a/>", 516);
        content("((a|b)*,a,(a|b))", "<b/><a/><a/><a/><b/>", 512);
        content("((a|b)*,a,(a|b))", "<b/><a/><b/><b/>", 516);
    }

    private static void declaredTwice() {
        CHECK.judged("<!DOCTYPE a [<!ELEMENT a EMPTY><!ELEMENT a ANY>]><a/>", 1024);
        CHECK.judged("<!DOCTYPE a [<!ELEMENT a EMPTY><!ELEMENT a ANY>]><a>t</a>", 1028);
        CHECK.judged("<!DOCTYPE a [<!ELEMENT a ANY><!ELEMENT a EMPTY>]><a>t</a>", 1024);
        CHECK.judged(with("<!ATTLIST a x CDATA #IMPLIED><!ATTLIST a x CDATA #REQUIRED>", "<a/>"), 0);
    }

    private static void attributes() {
        CHECK.judged(with("", "<a x=\"1\"/>"), 8);
        CHECK.judged(with("<!ATTLIST b x CDATA #IMPLIED><!ATTLIST a y CDATA #IMPLIED>", "<a x=\"1\"/>"), 8);
        CHECK.judged(with("<!ATTLIST a x CDATA #REQUIRED>", "<a/>"), 16);
        CHECK.judged(with("<!ATTLIST a x CDATA #REQUIRED>", "<a x=\"\"/>"), 0);
        CHECK.judged(with("<!ATTLIST a x CDATA #REQUIRED>", "<a x=\"\"><a/></a>"), 16);
        CHECK.judged(with("<!ATTLIST a x CDATA #REQUIRED>", "<a><a x=\"\"/></a>"), 16);
        CHECK.judged(with("<!ATTLIST a x CDATA #REQUIRED><!ATTLIST b x CDATA #IMPLIED><!ELEMENT b ANY>", "<a><b x=\"\"/></a>"), 16);
        CHECK.judged(with("<!ATTLIST b x CDATA #REQUIRED>", "<a/>"), 0);
        CHECK.judged(with("<!ATTLIST a x CDATA #FIXED \"1\">", "<a x=\"1\"/>"), 0);
        CHECK.judged(with("<!ATTLIST a x CDATA #FIXED \"1\">", "<a x=\" 1\"/>"), 32);
        CHECK.judged(with("<!ATTLIST a x CDATA #FIXED \"1\">", "<a x=\"\"/>"), 32);
        CHECK.judged(with("<!ATTLIST a x CDATA #FIXED \"1\">", "<a x=\"12\"/>"), 32);
        CHECK.judged(with("<!ATTLIST a x NMTOKEN #FIXED \"1 \">", "<a x=\" 1\"/>"), 0);
        CHECK.judged(with("<!ATTLIST a x CDATA \"1\">", "<a x=\"2\"/>"), 0);
        String tokens = "<!ATTLIST a x ( on|off\n|2 ) #IMPLIED y (y) #IMPLIED>";
        for (String fits : new String[] {"on", " off ", "2", "&#111;n"}) {
            CHECK.judged(with(tokens, "<a x=\"" + fits + "\"/>"), 0);
        }
        for (String not : new String[] {"", "o", "onn", "of", "on off", "ON", "on|off", "|", "(", " ", "a", "x", "y"}) {
            CHECK.judged(with(tokens, "<a x=\"" + not + "\"/>"), 64);
        }
        for (String fits : new String[] {"a", "1", "a1z", " 09 "}) {
            CHECK.judged(with("<!ATTLIST a x NMTOKEN #IMPLIED>", "<a x=\"" + fits + "\"/>"), 0);
        }
        for (String not : new String[] {"", "A", "a b", "-", "a.", "\u00e9"}) {
            CHECK.judged(with("<!ATTLIST a x NMTOKEN #IMPLIED>", "<a x=\"" + not + "\"/>"), 64);
        }
        CHECK.judged(with("<!ATTLIST a x (p|q) \"r\">", "<a/>"), 64);
        CHECK.judged(with("<!ATTLIST a x (p|q) \"r\">", "<a x=\"q\"/>"), 0);
        CHECK.judged(with("<!ATTLIST b x NMTOKEN \"-\">", "<a/>"), 0);
        CHECK.judged(with("<!ATTLIST a x NMTOKEN #FIXED \"-\">", "<a x=\"+\"/>"), 96);
    }

    private static void ids() {
        String list = "<!ATTLIST a i ID #IMPLIED j ID #IMPLIED r IDREF #IMPLIED c CDATA #IMPLIED>";
        CHECK.judged(with(list, "<a i=\"p\"><a i=\"q1\"/></a>"), 0);
        CHECK.judged(with(list, "<a i=\"p\"><a i=\" p \"/></a>"), 128);
        CHECK.judged(with(list, "<a i=\"p\" j=\"p\"/>"), 128);
        CHECK.judged(with(list, "<a i=\"p\" c=\"p\"/>"), 0);
        for (String not : new String[] {"", "1", "1p", "P", "p q", "p-"}) {
            CHECK.judged(with(list, "<a i=\"" + not + "\"/>"), 128);
        }
        CHECK.judged(with(list, "<a r=\"p\"><a i=\"p\"/></a>"), 0);
        CHECK.judged(with(list, "<a i=\"p\"><a r=\" p\"/></a>"), 0);
        CHECK.judged(with(list, "<a r=\"p\" i=\"p\"/>"), 0);
        CHECK.judged(with(list, "<a r=\"p\"/>"), 256);
        CHECK.judged(with(list, "<a r=\"p\" c=\"p\" i=\"pp\"/>"), 256);
        CHECK.judged(with(list, "<a r=\"1\" i=\"1\"/>"), 128);
        CHECK.judged(with(list, "<a r=\"\"/>"), 256);
        CHECK.judged(with("<!ATTLIST a i ID \"p\">", "<a/>"), 0);
        CHECK.judged(with("<!ATTLIST a i ID \"p\">", "<a><a/></a>"), 128);
        CHECK.judged(with("<!ATTLIST a i ID \"1\">", "<a/>"), 128);
        CHECK.judged(with("<!ATTLIST a i ID \"1\">", "<a i=\"p\"/>"), 0);
        CHECK.judged(with("<!ATTLIST a i ID #IMPLIED r IDREF \"p\">", "<a/>"), 256);
        CHECK.judged(with("<!ATTLIST a i ID \"p\" r IDREF \"p\">", "<a/>"), 0);
    }

    private static void severalAtOnce() {
        String grammar = "<!DOCTYPE z [<!ELEMENT a (b|(b,c))*><!ELEMENT b EMPTY><!ELEMENT b ANY>"
            + "<!ATTLIST b i ID #IMPLIED r IDREF #IMPLIED n NMTOKEN \"-\" f CDATA #FIXED \"1\" q CDATA #REQUIRED>]>";
        CHECK.judged(grammar + "<a><b i=\"q1\"/><b r=\"q2\" i=\"q1\" x=\"\" f=\"2\"/><c/> t</a>", 2047);
    }
}
