/**
 * The terms FORM and UNSUPPORTED, sentence by sentence. Documents are written with marks for the places to try:
 * _ is an s, ~ an s?, ^ a place where no blank may stand, and @ a name.
 */
public final class FormBoundsTest {
    private static final Check CHECK = new Check();
    private static final String[] BLANKS = {" ", "\t", "\n", "\r", "\r\n", "  ", " \t\n\r"};
    /** Blanks elsewhere, but not here. */
    private static final String[] NOT_BLANKS = {"\u0085", "\u00a0", "\u2003", "\u2028", "\u3000", "\ufeff", "-", "&#32;"};
    private static final String[] NOT_NAMES = {"", "`", "{", "A", "Z", "0", "9", "_", "\u00e0", "ab", "a1"};

    public static void main(String[] args) {
        blanks();
        blanksByNumber();
        names();
        document();
        comment();
        grammar();
        declaration();
        models();
        groups();
        types();
        defaults();
        quoted();
        element();
        content();
        reference();
        unsupportedGrammar();
        unsupportedEntity();
        unsupportedName();
        CHECK.end();
    }

    private static String plain(String marked) {
        return marked.replace('_', ' ').replace("~", "").replace("^", "").replace('@', 'a');
    }

    private static void tried(String marked, int at, String there, Object due) {
        CHECK.judged(plain(marked.substring(0, at)) + there + plain(marked.substring(at + 1)), due);
    }

    private static void tryBlanks(String marked, Object due) {
        CHECK.judged(plain(marked), due);
        for (int at = 0; at < marked.length(); at++) {
            char mark = marked.charAt(at);
            if (mark != '_' && mark != '~' && mark != '^') {
                continue;
            }
            if (mark == '_') {
                tried(marked, at, "", Check.WRONG);
            }
            for (String blank : BLANKS) {
                tried(marked, at, blank, mark == '^' ? Check.WRONG : due);
            }
            if (mark != '^') {
                for (String not : NOT_BLANKS) {
                    tried(marked, at, not, Check.WRONG);
                    tried(marked, at, " " + not, Check.WRONG);
                }
            }
        }
    }

    private static void blanks() {
        CHECK.says("s is one blank or more, s? any number; BLANKS are 32, 9, 10");
        tryBlanks("~<^a~/^>~", 1);
        tryBlanks("~<^a~><^/^a~>~", 1);
        tryBlanks("<a_x~=~\"1\"_y~=~\"2\"~/^>", 1);
        tryBlanks("<a_x~=~\"1\"~></a>", 1);
        tryBlanks("~<^!^DOC^TYPE_a~>~<a/>", 2);
        tryBlanks("<!DOCTYPE_a~[~]~>~<a/>~", 2);
        tryBlanks("<!DOCTYPE a [~<^!^ELE^MENT_a_A^NY~>~]><a/>", 0);
        tryBlanks("<!DOCTYPE a [~<!ELEMENT_a_EM^PTY~>~<!ELEMENT b ANY>]><a/>", 0);
        tryBlanks("<!DOCTYPE a [<!ELEMENT a_(~#^PC^DATA~)~>]><a/>", 0);
        tryBlanks("<!DOCTYPE a [<!ELEMENT a_(~#PCDATA~)^*~>]><a/>", 0);
        tryBlanks("<!DOCTYPE a [<!ELEMENT a (~#PCDATA~|~b~|~c~)^*~>]><a/>", 0);
        tryBlanks("<!DOCTYPE a [<!ELEMENT a_(~b^?~)~>]><a/>", 0);
        tryBlanks("<!DOCTYPE a [<!ELEMENT a (~b~,~c^*~,~(~d~|~e^+~|~f~)^+~)^?~>]><a/>", 0);
        tryBlanks("<!DOCTYPE a [<!ELEMENT a ANY><^!^ATT^LIST_a~>]><a/>", 0);
        tryBlanks("<!DOCTYPE a [<!ELEMENT a ANY><!ATTLIST_a_x_CD^ATA_#^IMPLIED_y_I^D_#IMPLIED_z_ID^REF_#IMPLIED~>]><a/>", 0);
        tryBlanks("<!DOCTYPE a [<!ELEMENT a ANY><!ATTLIST a x NM^TOKEN_#^FIXED_\"1\"_y_CDATA_\"2\"_z_CDATA_\"\"~>]><a/>", 0);
        tryBlanks("<!DOCTYPE a [<!ELEMENT a ANY><!ATTLIST a x_(~o^n~|~off~)_\"on\"_y_(~1~)_#^REQUIRED~>]><a y=\"1\"/>", 0);
        tryBlanks("<!DOCTYPE a [<!ELEMENT a ANY>~<^!^ENT^ITY_e_\"x\"~>]><a/>", 0);
        tryBlanks("<a>&^#^6^5^;&^l^t^;&^a^m^p^;</a>", 1);
        tryBlanks("<!DOCTYPE a [<!ELEMENT a ANY><!ENTITY e \"x\">]><a>&^e^;</a>", 0);
        tryBlanks("~<^!^-^- x -^-^>~<a/>~<^!^-^- x -^-^>~", 1);
    }

    private static void blanksByNumber() {
        CHECK.says("and 13, which only a number can make");
        String start = "<!DOCTYPE a [<!ELEMENT a ANY><!ENTITY e \"";
        String end = "\">]><a>&e;</a>";
        CHECK.judged(start + "<a&#13;x=&#34;&#34;/>" + end, 8);
        CHECK.judged(start + "<a&#13;/>" + end, 0);
        CHECK.judged(start + "<a x&#13;=&#13;&#34;&#34;&#13;/>" + end, 8);
        CHECK.judged(start + "<a></a&#13;>" + end, 0);
        CHECK.judged(start + "<a&#160;/>" + end, Check.WRONG);
        CHECK.judged(start + "<&#13;a/>" + end, Check.WRONG);
        CHECK.judged(start + "<a></&#13;a>" + end, Check.WRONG);
    }

    private static void tryNames(String marked, String... others) {
        for (int at = 0; at < marked.length(); at++) {
            if (marked.charAt(at) == '@') {
                for (String not : NOT_NAMES) {
                    tried(marked, at, not, Check.WRONG);
                }
            }
        }
        for (String name : new String[] {"a", "b", "y", "z"}) {
            String document = plain(marked.replace("@", name));
            CHECK.same("a name " + name + " is read in " + document, Check.answerOf(() -> Check.fed(document).judge(2000)).startsWith("throws"), false);
        }
    }

    private static void names() {
        CHECK.says("A NAME is one of a .. z");
        tryNames("<@/>");
        tryNames("<@></@>");
        tryNames("<k @=\"1\"/>");
        tryNames("<!DOCTYPE @><k/>");
        tryNames("<!DOCTYPE k [<!ELEMENT @ ANY>]><k/>");
        tryNames("<!DOCTYPE k [<!ELEMENT k (@)>]><k/>");
        tryNames("<!DOCTYPE k [<!ELEMENT k (@,@)>]><k/>");
        tryNames("<!DOCTYPE k [<!ELEMENT k (k|(@|m))>]><k/>");
        tryNames("<!DOCTYPE k [<!ELEMENT k (#PCDATA|@|@)*>]><k/>");
        tryNames("<!DOCTYPE k [<!ATTLIST @>]><k/>");
        tryNames("<!DOCTYPE k [<!ATTLIST k @ CDATA #IMPLIED>]><k/>");
        tryNames("<!DOCTYPE k [<!ATTLIST k k CDATA \"1\" @ CDATA \"1\">]><k/>");
        tryNames("<!DOCTYPE k [<!ENTITY @ \"\">]><k/>");
        tryNames("<!DOCTYPE k [<!ENTITY a \"\"><!ENTITY b \"\"><!ENTITY y \"\"><!ENTITY z \"\">]><k>&@;</k>");
        tryNames("<!DOCTYPE k [<!ENTITY a \"\"><!ENTITY b \"\"><!ENTITY y \"\"><!ENTITY z \"\">]><k x=\"&@;\"/>");
    }

    private static void document() {
        CHECK.says("document: (s or comment)*, perhaps a grammar and (s or comment)*, an element, (s or comment)*");
        for (String around : new String[] {"", " ", "<!---->", " <!----> ", "<!----><!---->", "\n<!-- x -->\n<!-- y -->\n"}) {
            CHECK.judged(around + "<a/>" + around, 1);
            CHECK.judged(around + "<!DOCTYPE a>" + around + "<a/>" + around, 2);
            CHECK.judged(around, Check.WRONG);
            CHECK.judged(around + "<!DOCTYPE a>" + around, Check.WRONG);
            CHECK.judged(around + "<!DOCTYPE a>" + around + "<!DOCTYPE a>" + around + "<a/>", Check.WRONG);
            CHECK.judged(around + "<a/>" + around + "<a/>", Check.WRONG);
            CHECK.judged(around + "<a/>" + around + "<!DOCTYPE a>", Check.WRONG);
        }
        for (String other : new String[] {"x", "&#32;", "&lt;", "<", ">", "\"", "]", "</a>", "\ufeff", "<!ELEMENT a ANY>"}) {
            CHECK.each(Check.WRONG, other + "<a/>", "<a/>" + other, "<!DOCTYPE a>" + other + "<a/>");
        }
        CHECK.judged("", Check.WRONG);
    }

    private static void commented(String comment, boolean fits) {
        CHECK.judged(comment + "<a/>", fits ? 1 : Check.WRONG);
        CHECK.judged("<a/>" + comment, fits ? 1 : Check.WRONG);
        CHECK.judged("<a>" + comment + "</a>", fits ? 1 : Check.WRONG);
        CHECK.judged("<!DOCTYPE a [" + comment + "]><a/>", fits ? 2 : Check.WRONG);
        CHECK.judged("<!DOCTYPE a>" + comment + "<a/>", fits ? 2 : Check.WRONG);
    }

    private static void comment() {
        CHECK.says("comment: \"<!--\", characters without \"--\" in them, \"-->\"");
        for (String inside : new String[] {"", "x", "-", "-x", "x-", "-x-", "- -", ">", "->", "-x->", "<!-", "<a>", "&", "&x;", "\"", "]", "\n", "\uFFFD"}) {
            commented("<!--" + inside + "-->", true);
        }
        for (String inside : new String[] {"--", "---", "--x", "x--", "x--y", "----", "<!--", "x-- >"}) {
            commented("<!--" + inside + "-->", false);
        }
        for (String comment : new String[] {"<!-->", "<!--->", "<!--", "<!---", "<!----", "<!--x", "<!--x-", "<!--x--", "<!--x->", "<!-x-->", "<!x>", "<--x-->"}) {
            commented(comment, false);
        }
        // No comment where none is told of.
        CHECK.each(Check.WRONG, "<a <!---->/>", "<a><!----></a<!---->>", "<!DOCTYPE <!---->a><a/>", "<!DOCTYPE a <!---->><a/>",
            "<!DOCTYPE a [<!ELEMENT <!---->a ANY>]><a/>", "<!DOCTYPE a [<!ELEMENT a (b<!---->)>]><a/>", "<!DOCTYPE a []<!---->><a/>");
    }

    private static void grammar() {
        CHECK.says("grammar: \"<!DOCTYPE\" s name s?, perhaps \"[\" (s, comment or declaration)* \"]\" s?, \">\"");
        CHECK.each(2, "<!DOCTYPE a><a/>", "<!DOCTYPE a[]><a/>", "<!DOCTYPE a[ <!---->\n]><a/>", "<!DOCTYPE a[<!ENTITY e \"\"><!ENTITY e \"\">]><a/>");
        CHECK.each(Check.WRONG, "<!DOCTYP a><a/>", "<!doctype a><a/>", "<!DOCTYPES a><a/>", "<!DOCTYPE a", "<!DOCTYPE a<a/>", "<!DOCTYPE a[<a/>",
            "<!DOCTYPE a[><a/>", "<!DOCTYPE a]><a/>", "<!DOCTYPE a[[]]><a/>", "<!DOCTYPE a[][]><a/>", "<!DOCTYPE a[]]><a/>", "<!DOCTYPE a[]a><a/>",
            "<!DOCTYPE a a><a/>", "<!DOCTYPE a \"a\"><a/>", "<!DOCTYPE a/><a/>");
        for (String other : new String[] {"x", "&e;", "%e;", "<a/>", "<!DOCTYPE a>", "<!NOTATION a>", "<?a?>", "<!>", "<", ">", "&#32;", "\"\""}) {
            CHECK.judged("<!DOCTYPE a [<!ENTITY e \"\">" + other + "]><a/>", Check.WRONG);
        }
    }

    private static void declaration() {
        CHECK.says("declaration: \"<!ELEMENT\" .., or \"<!ATTLIST\" .., or \"<!ENTITY\" ..");
        String[] whole = {"<!ELEMENT a ANY>", "<!ATTLIST a>", "<!ATTLIST a x CDATA #IMPLIED>", "<!ATTLIST a x CDATA \"\" y ID #IMPLIED>", "<!ENTITY e \"x\">"};
        for (String one : whole) {
            CHECK.judged("<!DOCTYPE a [" + one + "]><a x=\"\"/>", one.equals(whole[0]) ? 8 : one.contains("x C") ? 2 : 10);
            // Each character of it is needed.
            for (int cut = 0; cut < one.length(); cut++) {
                if (!one.startsWith("x\"", cut)) {
                    CHECK.judged("<!DOCTYPE a [" + one.substring(0, cut) + one.substring(cut + 1) + "]><a x=\"\"/>", Check.WRONG);
                }
                CHECK.judged("<!DOCTYPE a [" + one.substring(0, cut) + (cut == 0 ? "x" : "") + "]><a x=\"\"/>", Check.WRONG);
            }
            CHECK.judged("<!DOCTYPE a [" + one.replace(">", "x>") + "]><a x=\"\"/>", Check.WRONG);
            CHECK.judged("<!DOCTYPE a [" + one.toLowerCase() + "]><a x=\"\"/>", Check.WRONG);
        }
    }

    private static void model(Object due, String... models) {
        for (String model : models) {
            CHECK.judged("<!DOCTYPE a [<!ELEMENT a " + model + ">]><a/>", due);
        }
    }

    private static void models() {
        CHECK.says("model: \"EMPTY\", \"ANY\", \"(\" s? \"#PCDATA\" s? \")\", \"(\" s? \"#PCDATA\" (s? \"|\" s? name)* s? \")*\", or a group and perhaps ? * +");
        model(0, "EMPTY", "ANY", "(#PCDATA)", "(#PCDATA)*", "(#PCDATA|b)*", "(#PCDATA|b|c)*", "(#PCDATA|a|a)*", "(b)?", "(b)*", "(b?)+");
        model(4, "(b)", "(b)+");
        model(Check.WRONG, "", "E", "EMPT", "EMPTYY", "AN", "ANYY", "EMPTY?", "EMPTY*", "ANY*", "ANY+", "empty", "any", "b", "b?", "#PCDATA", "(#PCDAT)",
            "(#PCDATAA)", "(PCDATA)", "(#pcdata)", "(#PCDATA)?", "(#PCDATA)+", "(#PCDATA)**", "(#PCDATA|b)", "(#PCDATA|b)?", "(#PCDATA|b)+", "(#PCDATA|b)**",
            "(#PCDATA|)*", "(#PCDATA||b)*", "(#PCDATA,b)*", "(#PCDATA b)*", "(#PCDATA|b,c)*", "(#PCDATA|b?)*", "(#PCDATA|(b))*", "(#PCDATA|#PCDATA)*",
            "(b|#PCDATA)*", "(b,#PCDATA)", "((#PCDATA))", "((#PCDATA)|b)*", "(#PCDATA*)", "(#PCDATA", "(#PCDATA|b", "(EMPTY)", "(ANY)", "EMPTY ANY", "(b)(c)");
    }

    private static void groups() {
        CHECK.says("group: \"(\" s? part (s? \"|\" s? part)+ s? \")\" or \"(\" s? part (s? \",\" s? part)* s? \")\".   part: a name or a group, and perhaps ? * +");
        model(0, "(b)?", "(b|c)?", "(b,c)?", "(b|c|d)?", "(b,c,d)?", "(b?)", "(b*)", "(b?,c*)", "(b|c?)", "((b))?", "((b)?)", "((b|c),d)?", "((b,c)|d)?",
            "((b)?,(c)*)", "((b|c)*|(d,e)+)");
        model(Check.WRONG, "()", "()?", "( )", "(,)", "(|)", "(b,)", "(b|)", "(,b)", "(|b)", "(b,,c)", "(b||c)", "(b|c,d)", "(b,c|d)", "(b|c|d,e)", "(b,c,d|e)",
            "(b??)", "(b?*)", "(b)??", "(b)+*", "(?b)", "?(b)", "(b!)", "(b", "(b|c", "((b)", "(b))", "(b,(c)", "(b c)", "(b;c)", "(b&c)", "((b)(c))",
            "(())", "((b),())", "(bc)", "[b]");
    }

    private static void attributes(Object due, String... lists) {
        for (String list : lists) {
            CHECK.judged("<!DOCTYPE a [<!ELEMENT a ANY><!ATTLIST a " + list + ">]><a/>", due);
        }
    }

    private static void types() {
        CHECK.says("type: \"CDATA\", \"ID\", \"IDREF\", \"NMTOKEN\", or \"(\" s? token (s? \"|\" s? token)* s? \")\"");
        for (String type : new String[] {"CDATA", "ID", "IDREF", "NMTOKEN", "(b)", "(b|c)", "(b|c|d)", "(b|b)"}) {
            attributes(0, "x " + type + " #IMPLIED");
            attributes(Check.WRONG, "x " + type + "x #IMPLIED", "x " + type + "S #IMPLIED", "x " + type + "? #IMPLIED", "x " + type + " " + type + " #IMPLIED",
                "x x" + type + " #IMPLIED", "x " + type.substring(1) + " #IMPLIED");
        }
        attributes(Check.WRONG, "x #IMPLIED", "x CDAT #IMPLIED", "x I #IMPLIED", "x IDRE #IMPLIED", "x NMTOKE #IMPLIED", "x cdata #IMPLIED", "x ENTITY #IMPLIED",
            "x (b| #IMPLIED", "x (b|) #IMPLIED", "x (|b) #IMPLIED", "x (b||c) #IMPLIED", "x (b,c) #IMPLIED", "x (b c) #IMPLIED", "x ((b)) #IMPLIED", "x (b #IMPLIED",
            "x b #IMPLIED", "x b) #IMPLIED", "x (#PCDATA) #IMPLIED");
        CHECK.says("a token is one or more of a .. z, 0 .. 9");
        for (String token : new String[] {"a", "z", "0", "9", "az", "09", "a0", "0a", "abcdefghijklmnopqrstuvwxyz0123456789"}) {
            attributes(0, "x (" + token + ") #IMPLIED", "x (b|" + token + ") #IMPLIED", "x (" + token + "|b) \"" + token + "\"");
        }
        for (String not : new String[] {"", "`", "{", "/", ":", "A", "Z", "-", "_", ".", "a-b", "a.", "aB", "\u00e0", "\u0661", "\"a\""}) {
            attributes(Check.WRONG, "x (" + not + ") #IMPLIED", "x (b|" + not + ") #IMPLIED", "x (" + not + "|b) #IMPLIED");
        }
    }

    private static void defaults() {
        CHECK.says("default: \"#REQUIRED\", \"#IMPLIED\", \"#FIXED\" s quoted, or quoted");
        attributes(0, "x CDATA #IMPLIED", "x CDATA #FIXED \"\"", "x CDATA \"\"", "x CDATA #FIXED \"1\"", "x CDATA \"1\"");
        attributes(16, "x CDATA #REQUIRED");
        attributes(Check.WRONG, "x CDATA", "x CDATA ", "x CDATA #", "x CDATA #REQUIRE", "x CDATA #REQUIREDD", "x CDATA #IMPLIE", "x CDATA #IMPLIEDD", "x CDATA #FIXE \"1\"",
            "x CDATA #FIXEDD \"1\"", "x CDATA #FIXED", "x CDATA #FIXED ", "x CDATA #FIXED 1", "x CDATA REQUIRED", "x CDATA IMPLIED", "x CDATA FIXED \"1\"",
            "x CDATA #required", "x CDATA # IMPLIED", "x CDATA 1", "x CDATA #IMPLIED \"1\"", "x CDATA #REQUIRED \"1\"", "x CDATA \"1\" \"2\"",
            "x CDATA \"1\" #IMPLIED", "x CDATA #IMPLIED #IMPLIED", "x CDATA #FIXED #IMPLIED", "x CDATA #DEFAULT \"1\"");
    }

    private static void quoted() {
        CHECK.says("quoted: a double quote, characters, a double quote");
        String attribute = "<a x=";
        String entity = "<!DOCTYPE a [<!ENTITY e ";
        String list = "<!DOCTYPE a [<!ATTLIST a x CDATA ";
        for (String fits : new String[] {"\"\"", "\"1\"", "\"'\"", "\">\"", "\"/>\"", "\"]>\"", "\"\n\"", "\"=\"", "\"%\"", "\"\uFFFD\""}) {
            CHECK.judged(attribute + fits + "/>", 1);
            CHECK.judged(entity + fits + ">]><a/>", 2);
            CHECK.judged(list + fits + ">]><a/>", 2);
        }
        for (String not : new String[] {"", "1", "\"", "\"1", "1\"", "''", "'1'", "'1\"", "\"1'", "\"\"\"", "\"1\"1", "\u201c1\u201d"}) {
            CHECK.each(Check.WRONG, attribute + not + "/>", attribute + not, entity + not + ">]><a/>", entity + not, list + not + ">]><a/>", list + not);
        }
    }

    private static void element() {
        CHECK.says("element: \"<\" name (s name s? \"=\" s? quoted)* s?, and \"/>\", or \">\" content \"</\" name s? \">\", with the same name");
        CHECK.each(1, "<a/>", "<a></a>", "<a x=\"\"/>", "<a x=\"\" y=\"\"></a>", "<a><a></a></a>", "<a><b></b></a>", "<z></z>");
        CHECK.each(Check.WRONG, "<", "<a", "<a/", "<a>", "<a><", "<a></", "<a></a", "<a//>", "<a/></a>", "<a></a/>", "<a></>", "<a>/a>", "a/>", "<a></a></a>",
            "<a></b>", "<b></a>", "<a><b></a>", "<a></b></a>", "<a><b></a></b>", "<a></A>", "<a x/>", "<a x=/>", "<a =\"\"/>", "<a \"\"/>", "<a x\"\"/>",
            "<a x==\"\"/>", "<a x:\"\"/>", "<a x=\"\",y=\"\"/>", "<a x=\"\"/y=\"\">", "<a></a x=\"\">", "<a/x=\"\">", "<a/>/", "<a\\>", "<a]/>");
    }

    private static void content() {
        CHECK.says("content: characters (but < and &), elements, comments, references");
        for (String fits : new String[] {"", "x", ">", "\"", "'", "]]>", "=", "/", "-->", "%x;", ";", "#", "]", "(", "\uFFFD", "&#60;", "&lt;", "&amp;", "<b/>", "<!---->",
            "x<b/>y<!---->z&lt;"}) {
            CHECK.judged("<a>" + fits + "</a>", 1);
        }
        for (String not : new String[] {"<", "&", "<>", "&;", "<!", "<!>", "<?b?>", "<![CDATA[]]>", "<!DOCTYPE a>", "<!ELEMENT a ANY>", "</b>", "<b>"}) {
            CHECK.judged("<a>" + not + "</a>", Check.WRONG);
        }
    }

    private static void reference() {
        CHECK.says("reference: \"&\" name \";\", \"&lt;\", \"&amp;\", or \"&#\" digits \";\"");
        String start = "<!DOCTYPE a [<!ELEMENT a ANY><!ATTLIST a x CDATA #IMPLIED><!ENTITY a \"1\"><!ENTITY l \"2\"><!ENTITY g \"3\">]>";
        for (String[] pair : new String[][] {{"&a;", "1"}, {"&l;", "2"}, {"&g;", "3"}, {"&lt;", "<"}, {"&amp;", "&"}, {"&#65;", "A"}, {"&#9;", "{9}"},
            {"&#000065;", "A"}}) {
            CHECK.found(start + "<a>" + pair[0] + "</a>", 0, "+a [" + pair[1] + "] -a");
            CHECK.found(start + "<a x=\"" + pair[0] + "\"/>", 0, "+a x[" + pair[1] + "] -a");
        }
        for (String not : new String[] {"&", "&;", "&a", "&a&", "&a,", "&lt", "&lt,", "&amp", "&am;", "&ltt;", "&ampp;", "&LT;", "&AMP;", "&gt;", "&quot;", "&apos;",
            "&#", "&#;", "&#65", "&#65,", "&#0000065;", "&#x41;", "&#X41;", "&#a;", "&#6 5;", "&&a;;", "&a;&"}) {
            CHECK.judged(start + "<a>" + not + "</a>", Check.WRONG);
            CHECK.judged(start + "<a x=\"" + not + "\"/>", Check.WRONG);
        }
    }

    private static void unsupportedWord(String before, String word) {
        String cut = word.substring(0, word.length() - 1);
        String last = word.substring(word.length() - 1);
        CHECK.foundAt(before + cut, last, Check.UNSUPPORTED);
        CHECK.each(Check.UNSUPPORTED, before + word + "x", before + word + " \"x\">", before + word + "<");
        CHECK.each(Check.WRONG, before + cut + ">", before + cut + "x", before + word.toLowerCase(), before + "x" + word, before + cut + " " + last);
    }

    private static void unsupportedGrammar() {
        CHECK.says("\"SYSTEM\" or \"PUBLIC\" behind the name and s? of a grammar");
        for (String word : new String[] {"SYSTEM", "PUBLIC"}) {
            for (String blanks : new String[] {"", " ", "\n\t", "\r\n"}) {
                unsupportedWord("<!DOCTYPE a" + blanks, word);
                unsupportedWord("<!-- --> <!DOCTYPE z" + blanks, word);
            }
            CHECK.each(Check.WRONG, word, "<!DOCTYPE " + word, "<!DOCTYPE" + word, "<!DOCTYPE ab " + word, "<!DOCTYPE a " + "[" + word, "<!DOCTYPE a [] " + word,
                "<!DOCTYPE a x " + word, "<!DOCTYPE a <!---->" + word, "<!DOCTYPE a>" + word, "<a " + word, "<a>" + word);
        }
    }

    private static void unsupportedEntity() {
        CHECK.says("or behind the name and s of an entity");
        for (String word : new String[] {"SYSTEM", "PUBLIC"}) {
            for (String blanks : new String[] {" ", "\n\t", "\r\n"}) {
                unsupportedWord("<!DOCTYPE a [<!ENTITY e" + blanks, word);
                unsupportedWord("<!DOCTYPE a [<!ENTITY e \"\"><!ENTITY e" + blanks, word);
            }
            String start = "<!DOCTYPE a [";
            CHECK.each(Check.WRONG, start + "<!ENTITY e" + word, start + "<!ENTITY " + word, start + "<!ENTITY e \"\" " + word, start + "<!ENTITY e \"\"" + word,
                start + "<!ELEMENT a " + word, start + "<!ATTLIST a " + word, start + "<!ATTLIST a x " + word, start + "<!ATTLIST a x CDATA " + word);
            CHECK.judged(start + "<!ENTITY e \"" + word + "\">]><a/>", 2);
        }
    }

    private static void unsupportedName() {
        CHECK.says("\"%\" where an entity's name should stand");
        String start = "<!DOCTYPE a [<!ENTITY";
        CHECK.foundAt(start + " ", "%", Check.UNSUPPORTED);
        CHECK.foundAt(start + "\r\n\t", "%", Check.UNSUPPORTED);
        CHECK.each(Check.UNSUPPORTED, start + " % e \"x\">]><a/>", start + " %e \"x\">]><a/>", start + " %<");
        CHECK.each(Check.WRONG, start + "%", start + " e%", start + " e %", start + " \"%", start + " e \"\" %", "<!DOCTYPE %", "<!DOCTYPE a %", "<!DOCTYPE a [%",
            "<!DOCTYPE a [<!ELEMENT %", "<!DOCTYPE a [<!ATTLIST %", "<!DOCTYPE a [<!ATTLIST a %", "<%", "<a %");
        CHECK.judged("<!DOCTYPE a [<!ENTITY e \"%\">]><a>%</a>", 2);
    }
}
