import java.nio.charset.StandardCharsets;
import java.util.Arrays;

/** Nothing of a document is left for the next one: on a used object each is judged as on a new one. */
public final class AgainTest {
    private static final Check CHECK = new Check();
    /** Calls that an object is good for, with some to spare for those that a document takes. */
    private static final int MOST_CALLS = 300;
    private static final String[] DOCUMENTS = {
        "<a/>",
        "<a x=\"12\"><b/>text</a>",
        "<!DOCTYPE a [<!ELEMENT a (b,c)><!ELEMENT b EMPTY><!ELEMENT c EMPTY>]><a><b/><c/></a>",
        "<!DOCTYPE a [<!ELEMENT a (c,b)><!ELEMENT b EMPTY><!ELEMENT c EMPTY>]><a><b/><c/></a>",
        "<!DOCTYPE a [<!ELEMENT a (b*,c?,d+)*><!ELEMENT b ANY>]><a><d/><b/></a>",
        "<!DOCTYPE a [<!ELEMENT a (#PCDATA|b)*><!ELEMENT b EMPTY>]><a>t<b/></a>",
        "<!DOCTYPE a [<!ELEMENT a (#PCDATA|c)*><!ELEMENT b EMPTY>]><a>t<b/></a>",
        "<!DOCTYPE a [<!ELEMENT a (#PCDATA)>]><a>t</a>",
        "<!DOCTYPE a [<!ELEMENT a (c|c)><!ELEMENT a ANY>]><a>t</a>",
        "<!DOCTYPE z [<!ELEMENT a (" + "b,".repeat(29) + "b)>]><a/>",
        "<!DOCTYPE a [<!ELEMENT a (" + "b?,".repeat(30) + "b)>]><a/>",
        "<!DOCTYPE a [<!ELEMENT a (((((((((b)))))))))>]><a/>",
        "<!DOCTYPE a [<!ELEMENT a ANY><!ATTLIST a x CDATA \"default\" y (p|q) #REQUIRED z NMTOKEN #FIXED \"1\">]><a y=\"q\"/>",
        "<!DOCTYPE a [<!ELEMENT a ANY><!ATTLIST a x CDATA #IMPLIED y (pp|qq) #IMPLIED>]><a y=\"q\"/>",
        "<!DOCTYPE a [<!ELEMENT a ANY><!ATTLIST a x CDATA #REQUIRED>]><a/>",
        "<!DOCTYPE a [<!ELEMENT a ANY><!ATTLIST a i ID #IMPLIED r IDREF #IMPLIED>]><a i=\"p\" r=\"p\"/>",
        "<!DOCTYPE a [<!ELEMENT a ANY><!ATTLIST a i CDATA #IMPLIED r IDREF #IMPLIED>]><a i=\"p\" r=\"p\"/>",
        "<!DOCTYPE a [<!ATTLIST b x CDATA \"" + "x".repeat(290) + "\">]><b/>",
        "<!DOCTYPE a [<!ENTITY e \"1&f;\"><!ENTITY f \"<a>2</a>\">]><a>&e;&f;</a>",
        "<!DOCTYPE a [<!ENTITY f \"x\">]><a x=\"&f;\">&f;</a>",
        "<!DOCTYPE a [<!ENTITY e \"\">]><a>&e;&f;</a>",
        "<!DOCTYPE a [<!ENTITY e \"" + "x".repeat(99) + "\">]><a>" + "&e;".repeat(20) + "</a>",
        "<!DOCTYPE a [<!ENTITY e \"" + "<a/>".repeat(10) + "\">]><a>" + "&e;".repeat(9) + "<a/>".repeat(9) + "</a>",
        "<!DOCTYPE a [<!ENTITY e \"" + "<a/>".repeat(10) + "\">]><a>" + "&e;".repeat(9) + "<a/>".repeat(10) + "</a>",
        "<!DOCTYPE a SYSTEM\u0080\u20ac",
        "<!DOCTYPE a [<!ENTITY % e \"x\">]><a/>",
        "<a>".repeat(16) + "<a/>" + "</a>".repeat(16),
        "<a>".repeat(16) + "</a>".repeat(16),
        "<a>\u20ac\u0080</a>",
        "<!--" + "x".repeat(349) + "-->",
        ""};

    public static void main(String[] args) {
        everyPair();
        everyPrefix();
        everyOneAgainAndAgain();
        CHECK.end();
    }

    private static byte[] bytesOf(String document) {
        return document.getBytes(StandardCharsets.UTF_8);
    }

    private static String judged(MarkupJudge judge, byte[] row) {
        judge.clear();
        Check.feed(judge, row);
        String answer = Check.answerOf(() -> judge.judge(2000));
        return answer + " " + judge.cost() + " " + Check.eventsOf(judge);
    }

    private static int callsFor(byte[] row) {
        return row.length / 8 + 4;
    }

    private static void everyPair() {
        for (String first : DOCUMENTS) {
            for (String second : DOCUMENTS) {
                MarkupJudge judge = new MarkupJudge();
                judged(judge, bytesOf(first));
                String due = judged(new MarkupJudge(), bytesOf(second));
                CHECK.same("judge(2000) of " + second + " behind " + first, judged(judge, bytesOf(second)), due);
            }
        }
    }

    /** The bytes that were cut off are not seen any more. */
    private static void everyPrefix() {
        for (String document : DOCUMENTS) {
            byte[] row = bytesOf(document);
            for (int size = 0; size < row.length; size++) {
                byte[] prefix = Arrays.copyOf(row, size);
                MarkupJudge judge = new MarkupJudge();
                judged(judge, row);
                String due = judged(new MarkupJudge(), prefix);
                CHECK.same("judge(2000) of the first " + size + " of " + document, judged(judge, prefix), due);
            }
        }
    }

    private static void everyOneAgainAndAgain() {
        for (String document : DOCUMENTS) {
            byte[] row = bytesOf(document);
            MarkupJudge judge = new MarkupJudge();
            String due = judged(judge, row);
            for (int calls = 0; calls < MOST_CALLS; calls += callsFor(row)) {
                CHECK.same("judge(2000) again of " + document, judged(judge, row), due);
            }
            MarkupJudge often = Check.fed(document);
            String answer = Check.answerOf(() -> often.judge(2000));
            for (int calls = 0; calls < MOST_CALLS; calls++) {
                CHECK.call("judge(2000) often of " + document, () -> often.judge(2000), answer);
            }
        }
    }
}
