/** Promise 4 by the terms CHARACTERS, FORM and UNSUPPORTED: what can be read, and what it is when not. */
public final class FormTest {
    private static final Check CHECK = new Check();

    public static void main(String[] args) {
        decoding();
        lineEnds();
        documents();
        comments();
        grammars();
        models();
        attributeLists();
        entityDeclarations();
        elements();
        references();
        unsupported();
        whatComesFirst();
        CHECK.end();
    }

    private static void decoded(Object due, int... inside) {
        byte[] row = new byte[inside.length + 7];
        System.arraycopy(new byte[] {'<', 'a', '>'}, 0, row, 0, 3);
        for (int k = 0; k < inside.length; k++) {
            row[3 + k] = (byte) inside[k];
        }
        System.arraycopy(new byte[] {'<', '/', 'a', '>'}, 0, row, 3 + inside.length, 4);
        MarkupJudge judge = new MarkupJudge();
        Check.feed(judge, row);
        String answer = Check.answerOf(() -> judge.judge(0));
        String what = "the bytes " + java.util.Arrays.toString(inside);
        if (due instanceof Integer) {
            CHECK.same(what, answer, 1);
            CHECK.same("the text of " + what, Check.answerOf(() -> judge.character(1, 0)), due);
            CHECK.same("the length of " + what, Check.answerOf(() -> judge.event(1, 2)), 1);
        } else {
            CHECK.same(what, answer, due);
        }
    }

    private static void decoding() {
        for (int c : new int[] {9, 10, 32, 127}) {
            decoded(c, c);
        }
        for (int c : new int[] {0, 8, 11, 12, 14, 31, 128, 191, 192, 193, 240, 244, 255}) {
            decoded(Check.WRONG, c);
            decoded(Check.WRONG, c, 128);
            decoded(Check.WRONG, c, 128, 128, 128);
        }
        decoded(128, 194, 128);
        decoded(233, 195, 169);
        decoded(2047, 223, 191);
        decoded(2048, 224, 160, 128);
        decoded(8364, 226, 130, 172);
        decoded(55295, 237, 159, 191);
        decoded(57344, 238, 128, 128);
        decoded(65533, 239, 191, 189);
        decoded(Check.WRONG, 194);
        decoded(Check.WRONG, 194, 127);
        decoded(Check.WRONG, 194, 192);
        decoded(Check.WRONG, 224, 159, 191);
        decoded(Check.WRONG, 226, 130);
        decoded(Check.WRONG, 226, 130, 65);
        decoded(Check.WRONG, 226, 65, 130);
        decoded(Check.WRONG, 237, 160, 128);
        decoded(Check.WRONG, 237, 191, 191);
        decoded(Check.WRONG, 239, 191, 190);
        decoded(Check.WRONG, 239, 191, 191);
    }

    private static void lineEnds() {
        CHECK.found("<a>1\r\n2\r3\n4\r\r\n5\n\r6\r</a>", 1, "+a [1{10}2{10}3{10}4{10}{10}5{10}{10}6{10}] -a");
        CHECK.found("<a>&#13;\n&#13;&#10;</a>", 1, "+a [{13}{10}{13}{10}] -a");
        CHECK.found("<a x=\"1\r\n2\"/>", 1, "+a x[1 2] -a");
    }

    private static void documents() {
        CHECK.judged("<a/>", 1);
        CHECK.judged(" \r\n\t<!-- 1 --> <a/> <!-- 2 -->\n", 1);
        CHECK.judged(" <!----><!DOCTYPE a> <!---->\n<a/>", 2);
        for (String wrong : new String[] {"", " ", "<!---->", "<!DOCTYPE a>", "x<a/>", "<a/>x", "<a/><a/>", "<a/>&#32;",
            "<!DOCTYPE a><!DOCTYPE a><a/>", "<a/><!DOCTYPE a>", "\uFEFF<a/>", "<?x?><a/>", "</a>", "<a/></a>", "\u00e9<a/>"}) {
            CHECK.judged(wrong, Check.WRONG);
        }
    }

    private static void comments() {
        for (String comment : new String[] {"<!---->", "<!-- -->", "<!-- - - -->", "<!--->-->", "<!--<a>&x;\"-->", "<!--a--->", "<!----->"}) {
            CHECK.found("<a>1" + comment + "2</a>", 1, "+a [12] -a");
            CHECK.judged(comment + "<a/>" + comment, 1);
            CHECK.judged("<!DOCTYPE a [" + comment + "]><a/>", 2);
        }
        for (String wrong : new String[] {"<!--->", "<!-->", "<!--a--b-->", "<!--a---->", "<!--a---b-->", "<!--", "<!-- --", "<!- -->", "< !---->"}) {
            CHECK.judged("<a>" + wrong + "</a>", Check.WRONG);
            CHECK.judged(wrong + "<a/>", Check.WRONG);
            CHECK.judged("<!DOCTYPE a [" + wrong + "]><a/>", Check.WRONG);
        }
        CHECK.found("<a><!--1--><!--2--></a>", 1, "+a -a");
    }

    private static void grammars() {
        for (String grammar : new String[] {"<!DOCTYPE a>", "<!DOCTYPE\n\ta >", "<!DOCTYPE a[]>", "<!DOCTYPE a [ \n<!---->] >"}) {
            CHECK.judged(grammar + "<a/>", 2);
        }
        for (String wrong : new String[] {"<!DOCTYPEa>", "<!DOCTYPE>", "<!DOCTYPE ab>", "<!DOCTYPE A>", "<!DOCTYPE 1>", "<!doctype a>",
            "< !DOCTYPE a>", "<!DOCTYPE a [>", "<!DOCTYPE a []", "<!DOCTYPE a ]>", "<!DOCTYPE a [x]>", "<!DOCTYPE a [%e;]>",
            "<!DOCTYPE a [<!NOTATION a>]>", "<!DOCTYPE a [<a/>]>", "<!DOCTYPE a [] x>", "<!DOCTYPE a [] SYSTEM>", "<!DOCTYPE a [] []>",
            "<!DOCTYPE a SYSTE>"}) {
            CHECK.judged(wrong + "<a/>", Check.WRONG);
        }
    }

    private static void model(String model, Object due) {
        CHECK.judged("<!DOCTYPE a [<!ELEMENT a " + model + ">]><a/>", due);
    }

    private static void models() {
        for (String fits : new String[] {"EMPTY", "ANY", "EMPTY ", "(#PCDATA)", "( #PCDATA\n)", "(#PCDATA)*", "( #PCDATA | b|c )*", "(#PCDATA|b|b)*",
            "(b?)", "(b)?", "(b)*", "( b? , c* )", "( b | c )?", "((b|c),(d|e)?)*", "(b?,c?,d?) ", "((((((((b?))))))))", "( ( b ) , ( ( c )? ) )?"}) {
            model(fits, 0);
        }
        for (String wrong : new String[] {"", "empty", "EMPT", "EMPTYx", "ANYx", "b", "()", "( )", "(b", "(b,)", "(,b)", "(b|)", "(b,c|d)", "(b|c,d)",
            "(b c)", "(b) ?", "(b ?)", "(b)??", "(b)**", "(b))", "((b)", "(#PCDATA", "(#PCDATA)+", "(#PCDATA)?", "(#PCDATA|b)", "(#PCDATA|b)+",
            "(#PCDATA|b) *", "(#PCDATA,b)*", "(#PCDATA|)*", "(b|#PCDATA)*", "((#PCDATA))", "(#PCDATA|(b))*", "(#PCDATA|b?)*", "(# PCDATA)", "(1)",
            "(B)", "(bc)", "EMPTY x", "(b)x"}) {
            model(wrong, Check.WRONG);
        }
        for (String wrong : new String[] {"<!ELEMENTa ANY>", "<!ELEMENT aANY>", "<!ELEMENT a>", "<!ELEMENT ANY>", "<!ELEMENT a ANY", "<! ELEMENT a ANY>",
            "<!ELEMENT a(b)>", "<!ELEMENT ab ANY>"}) {
            CHECK.judged("<!DOCTYPE a [" + wrong + "]><a/>", Check.WRONG);
        }
    }

    private static void attributeLists() {
        String start = "<!DOCTYPE a [<!ELEMENT a ANY><!ATTLIST ";
        for (String fits : new String[] {"a", "a ", "b x CDATA #IMPLIED", "a x CDATA \"\"", "a x CDATA #FIXED \"1\" ", "a\n\tx\nCDATA\n#FIXED\n\"1\"",
            "a x ID #IMPLIED y IDREF #IMPLIED z NMTOKEN #IMPLIED", "a x (1) \"1\"", "a x (a|b) \"a\"", "a x ( a1 | 2b\n|\tc ) \"2b\"", "a x (a|a) \"a\"",
            "b x CDATA #REQUIRED"}) {
            CHECK.judged(start + fits + ">]><a/>", 0);
        }
        for (String wrong : new String[] {"", "A", "ab", "a x", "a x CDATA", "a x CDATA #REQUIRE", "a x CDATA #FIXED", "a x CDATA #FIXED\"1\"", "a x CDATA 1",
            "a x CDATA '1'", "a x CDATA \"1", "a x CDATA\"1\"", "a xCDATA \"1\"", "a x cdata \"1\"", "a x IDS \"1\"", "a x IDREFS \"1\"", "a x NMTOKENS \"1\"",
            "a x ENTITY \"1\"", "a x () \"1\"", "a x (a \"a\"", "a x (a|) \"a\"", "a x (a,b) \"a\"", "a x (A) \"A\"", "a x (a b) \"a\"", "a x (a)\"a\"",
            "a x (a)? \"a\"", "a xy CDATA \"1\"", "a 1 CDATA \"1\"", "a x CDATA \"1\"y CDATA \"2\"", "a x CDATA #IMPLIED \"1\"", "a x CDATA \"<\"",
            "a x CDATA \"&\"", "a x CDATA \"&x;\"", "a x CDATA #REQUIREDy CDATA \"1\"", "ax CDATA \"1\""}) {
            CHECK.judged(start + wrong + ">]><a/>", Check.WRONG);
        }
        CHECK.judged("<!DOCTYPE a [<!ATTLISTa>]><a/>", Check.WRONG);
    }

    private static void entityDeclarations() {
        String start = "<!DOCTYPE a [<!ELEMENT a ANY><!ENTITY";
        for (String fits : new String[] {" e \"\"", "\ne\n\"x\"\n", " e \"<\"", " e \"&\"", " e \"& &x; &lt %\"", " e \"&#65;&#000065;\"", " e \"'\""}) {
            CHECK.judged(start + fits + ">]><a/>", 0);
        }
        for (String wrong : new String[] {"e \"\"", " e\"\"", " e", " \"x\"", " e x", " e 'x'", " e \"x", " ef \"x\"", " E \"x\"", " e \"x\" \"y\"", " e \"&#\"",
            " e \"&#;\"", " e \"&#x41;\"", " e \"&#65\"", " e \"&#0000065;\"", " e \"&#0;\"", " e \"&#65534;\"", " e \"&#55296;\"", " e \"&#999999;\"",
            " e SYSTE", " e \"\" SYSTEM"}) {
            CHECK.judged(start + wrong + ">]><a/>", Check.WRONG);
        }
    }

    private static void elements() {
        CHECK.found("<a\n/>", 1, "+a -a");
        CHECK.found("<a ></a\t>", 1, "+a -a");
        CHECK.found("<a x=\"1\"\ny\n=\n\"'\" />", 1, "+a x[1] y['] -a");
        CHECK.found("<a><b/><b>]]>\"</b></a>", 1, "+a +b -b +b []]>\"] -b -a");
        for (String wrong : new String[] {"<a>", "<a", "<", "<a/", "<a/ >", "<a / >", "<a></a", "<a></b>", "<a></ a>", "< a/>", "<A/>", "<ab/>", "<a></ab>",
            "<a></A>", "<a></>", "<a><b></a></b>", "<a></a></a>", "<a x/>", "<a x=/>", "<a x=1/>", "<a x='1'/>", "<a x=\"1/>", "<ax=\"1\"/>",
            "<a x=\"1\"y=\"2\"/>", "<a x=\"1\" x=\"2\"/>", "<a xy=\"1\"/>", "<a 1=\"1\"/>", "<a x \"1\"/>", "<a x==\"1\"/>", "<a x=\"<\"/>",
            "<a></a x=\"1\">", "<a><!DOCTYPE a></a>", "<a><![CDATA[x]]></a>", "<a><?x?></a>", "<a><!></a>", "<a>< /a>", "<a/ x=\"1\">"}) {
            CHECK.judged(wrong, Check.WRONG);
        }
    }

    private static void references() {
        CHECK.found("<a>&lt;&amp;&#60;&#38;&#9;&#000032;&#65533;</a>", 1, "+a [<&<&{9} {65533}] -a");
        CHECK.found("<a x=\"&lt;&amp;&#60;&#38;&#34;\"/>", 1, "+a x[<&<&\"] -a");
        CHECK.found("<a>&amp;lt;</a>", 1, "+a [&lt;] -a");
        for (String wrong : new String[] {"&", "&;", "&lt", "&gt;", "&quot;", "&a", "&ab;", "& a;", "&A;", "&1;", "&#;", "&#65", "&#x41;", "&# 65;", "&#6a;",
            "&#0;", "&#8;", "&#11;", "&#31;", "&#55296;", "&#57343;", "&#65534;", "&#65535;", "&#65536;", "&#999999;", "&#0000065;", "&#-1;", "&a;"}) {
            CHECK.judged("<a>" + wrong + "</a>", Check.WRONG);
            CHECK.judged("<a x=\"" + wrong + "\"/>", Check.WRONG);
        }
    }

    private static void unsupported() {
        for (String document : new String[] {"<!DOCTYPE a SYSTEM", "<!DOCTYPE aPUBLIC", "<!DOCTYPE a\n\nPUBLIC \"x\" \"y\"><a/>", "<!DOCTYPE a SYSTEMx",
            "<!DOCTYPE a [<!ENTITY %", "<!DOCTYPE a [<!ENTITY % e \"x\">]><a/>", "<!DOCTYPE a [<!ENTITY e SYSTEM", "<!DOCTYPE a [<!ENTITY e\nPUBLIC \"x\">]><a/>"}) {
            CHECK.judged(document, Check.UNSUPPORTED);
        }
        for (String wrong : new String[] {"<!DOCTYPE SYSTEM", "<!DOCTYPE a system", "<!DOCTYPE a [<!ENTITY%", "<!DOCTYPE a [<!ENTITY eSYSTEM",
            "<!DOCTYPE a [<!ENTITY SYSTEM", "<!DOCTYPE a [<!ENTITY e %", "<!DOCTYPE a [<!ELEMENT %", "<!DOCTYPE a [<!ATTLIST a SYSTEM"}) {
            CHECK.judged(wrong, Check.WRONG);
        }
    }

    private static void whatComesFirst() {
        CHECK.judged("<!DOCTYPE a SYSTEM><a/>\u0001", Check.WRONG);
        CHECK.judged("<!DOCTYPE a [<!ELEMENT>] SYSTEM", Check.WRONG);
        CHECK.judged("<!DOCTYPE a [<!ENTITY e \"x\"><!ATTLIST a x CDATA \"&e;\"><!ENTITY % ", 0, Check.TOO_MUCH);
        CHECK.judged("<!DOCTYPE a [<!ENTITY e \"x\"><!ATTLIST a x CDATA \"&e;\"><!ENTITY % ", 2, Check.UNSUPPORTED);
        CHECK.judged("<!DOCTYPE a [<!ENTITY e \"x\">]><a>&e;<", 0, Check.TOO_MUCH);
        CHECK.judged("<!DOCTYPE a [<!ENTITY e \"x\">]><a><&e;", 0, Check.WRONG);
        CHECK.judged("<!DOCTYPE a [<!ENTITY e \"x\">]><a x=\"\" x=\"&e;\"/>", 0, Check.WRONG);
    }
}
