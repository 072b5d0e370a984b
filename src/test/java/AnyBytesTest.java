import java.nio.charset.StandardCharsets;
import java.util.Random;
import java.util.Set;

/**
 * Documents with random changes: whatever the bytes, only the exceptions of the document come out, a throw leaves
 * no events, each judging is counted once, and the same bytes are always judged alike. The seed is fixed.
 */
public final class AnyBytesTest {
    private static final Check CHECK = new Check();
    private static final Random RANDOM = new Random(20261115L);
    private static final Set<String> THROWS = Set.of(Check.WRONG, Check.TOO_MUCH, Check.UNSUPPORTED);
    private static final String PIECES = "<>/!-[]()|,?*+=\"&;# %ab01\n";
    private static final String[] SEEDS = {
        "<!DOCTYPE a [<!ELEMENT a (b,c?)><!ELEMENT b (#PCDATA)><!ELEMENT c EMPTY><!ENTITY e \"z\"><!ATTLIST c x CDATA \"1&e; 2\" y (on|off) #REQUIRED>]>"
            + "<a><b>h&amp;&e;</b>\r\n<c y=\" on \"/></a>",
        "<!DOCTYPE a [<!ELEMENT a (b|(b,c))*><!ELEMENT b EMPTY><!ATTLIST b i ID #IMPLIED r IDREF #IMPLIED>]><a><b i=\"q1\"/><b r=\"q1\"/> t</a>",
        "<!DOCTYPE a [<!ENTITY e \"&f;&f;&f;\"><!ENTITY f \"&g;<b x=&#34;&g;&#34;/>\"><!ENTITY g \"x\u20ac&#38;#60;\">]><a><!--x-->&e;<c x=\"&g;\"/></a>",
        "<!DOCTYPE a [<!ATTLIST a x NMTOKEN #FIXED \" 1 \" y CDATA \"&lt;&#10;\"><!ELEMENT a ((((b?,c)+|d)*,e),(#|f))>]><a x=\"1\"><a><a><a/></a></a></a>"};

    public static void main(String[] args) {
        for (int round = 0; round < 20000; round++) {
            judgeTwice(changed(SEEDS[RANDOM.nextInt(SEEDS.length)]));
        }
        CHECK.end();
    }

    private static byte[] changed(String seed) {
        StringBuilder document = new StringBuilder(seed);
        for (int k = RANDOM.nextInt(6); k > 0 && document.length() > 1; k--) {
            int at = RANDOM.nextInt(document.length());
            switch (RANDOM.nextInt(4)) {
                case 0 -> document.deleteCharAt(at);
                case 1 -> document.insert(at, PIECES.charAt(RANDOM.nextInt(PIECES.length())));
                case 2 -> document.setLength(RANDOM.nextInt(4) == 0 ? at : document.length());
                default -> document.insert(at, document.substring(at, Math.min(document.length(), at + RANDOM.nextInt(20))));
            }
        }
        byte[] row = document.toString().getBytes(StandardCharsets.UTF_8);
        if (row.length > 0 && RANDOM.nextInt(10) == 0) {
            row[RANDOM.nextInt(row.length)] = (byte) RANDOM.nextInt(256);
        }
        return row.length <= 360 ? row : java.util.Arrays.copyOf(row, 360);
    }

    private static void judgeTwice(byte[] row) {
        MarkupJudge judge = new MarkupJudge();
        Check.feed(judge, row);
        int limit = RANDOM.nextInt(3) == 0 ? RANDOM.nextInt(40) : 2000;
        String first = Check.answerOf(() -> judge.judge(limit));
        String events = Check.eventsOf(judge);
        int cost = judge.cost();
        boolean threw = first.startsWith("throws");
        String what = "judge(" + limit + ") of " + new String(row, StandardCharsets.ISO_8859_1);
        if (threw) {
            CHECK.same(what + " throws a known one, not " + first, THROWS.contains(first), true);
            CHECK.same("events() behind " + what, judge.events(), 0);
        } else {
            int faults = Integer.parseInt(first);
            CHECK.same(what + " has faults 0 .. 2047", faults >= 0 && faults <= 2047, true);
        }
        CHECK.same("again " + what, Check.answerOf(() -> judge.judge(limit)), first);
        CHECK.same("again the events of " + what, Check.eventsOf(judge), events);
        CHECK.same("again the cost of " + what, judge.cost(), cost);
        CHECK.same("what threw in " + what, judge.count(2), threw ? 2 : 0);
        CHECK.same("what was valid in " + what, judge.count(0), first.equals("0") ? 2 : 0);
        CHECK.same("the judgings of " + what, judge.count(0) + judge.count(1) + judge.count(2), 2);
    }
}
