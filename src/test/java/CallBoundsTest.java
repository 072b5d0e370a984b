/** Promises 1 to 9, sentence by sentence: the last input on this side of each boundary, and the first one beyond it. */
public final class CallBoundsTest {
    private static final Check CHECK = new Check();
    private static final String ENTITY_E = "<!DOCTYPE a [<!ENTITY e \"xyz\">]>";
    /** A document of each kind that throws, with what it throws. */
    private static final String[][] THROWING = {
        {"<a>", Check.WRONG}, {"<!DOCTYPE a SYSTEM", Check.UNSUPPORTED}, {"<a>".repeat(17), Check.TOO_MUCH}, {"\u0001", Check.WRONG}};

    public static void main(String[] args) {
        newObject();
        bytesRange();
        bytesOrder();
        bytesMost();
        clear();
        judgeLimits();
        judgeLeavesBytes();
        judgeLeavesNoEvents();
        judgeFirst();
        events();
        event();
        character();
        askingChangesNothing();
        cost();
        countRange();
        countKinds();
        lastCall();
        CHECK.end();
    }

    private static MarkupJudge withBytes(int size) {
        MarkupJudge judge = new MarkupJudge();
        Check.feed(judge, " ".repeat(size));
        return judge;
    }

    private static MarkupJudge judged(String document) {
        MarkupJudge judge = Check.fed(document);
        judge.judge(2000);
        return judge;
    }

    private static void newObject() {
        CHECK.says("No bytes, no events");
        CHECK.call("clear() of a new object", () -> new MarkupJudge().clear(), 0);
        CHECK.call("events() of a new object", () -> new MarkupJudge().events(), 0);
        CHECK.call("the first byte of a new object", () -> new MarkupJudge().bytes(0, 1), 1);
        CHECK.call("judge(0) of a new object", () -> new MarkupJudge().judge(0), Check.WRONG);
        CHECK.call("event(0, 0) of a new object", () -> new MarkupJudge().event(0, 0), Check.NO_INDEX);
        CHECK.call("character(0, 0) of a new object", () -> new MarkupJudge().character(0, 0), Check.NO_INDEX);
        judged("<a/>");
        CHECK.call("events() of a new object beside another", () -> new MarkupJudge().events(), 0);
    }

    private static void bytesRange() {
        CHECK.says("IllegalArgumentException, when n is not 1 .. 8");
        for (int n = 1; n <= 8; n++) {
            int last = n;
            CHECK.call("bytes(0, " + n + ")", () -> new MarkupJudge().bytes(0, last), n);
        }
        for (int n : new int[] {0, 9, -1, -8, 256 + 1, Integer.MAX_VALUE, Integer.MIN_VALUE, Integer.MIN_VALUE + 8}) {
            MarkupJudge judge = withBytes(3);
            CHECK.call("bytes(0, " + n + ")", () -> judge.bytes(0, n), Check.WRONG);
            CHECK.same("a refused call leaves the bytes", judge.clear(), 3);
            MarkupJudge full = withBytes(360);
            CHECK.call("bytes(0, " + n + ") behind 360", () -> full.bytes(0, n), Check.WRONG);
            CHECK.same("a refused call leaves all 360", full.clear(), 360);
        }
    }

    private static void bytesOrder() {
        CHECK.says("The n lowest bytes of eight come behind the others, the lowest first");
        // <a>12345</a> in one row of eight and one of four, and the same in single bytes with others above them.
        MarkupJudge rows = new MarkupJudge();
        CHECK.call("the lowest eight", () -> rows.bytes(0x35343332313E613CL, 8), 8);
        CHECK.call("the lowest four", () -> rows.bytes(0xFF9999993E612F3CL, 4), 12);
        CHECK.call("judge(0)", () -> rows.judge(0), 1);
        CHECK.same("the events", Check.eventsOf(rows), "+a [12345] -a");
        MarkupJudge single = new MarkupJudge();
        for (char c : "<a>12345</a>".toCharArray()) {
            single.bytes(0xFFFFFFFFFFFFFF00L | c, 1);
        }
        single.judge(0);
        CHECK.same("the events of single bytes", Check.eventsOf(single), "+a [12345] -a");
        // The highest of eight bytes is taken without a sign: 191 ends the character 2047.
        MarkupJudge high = Check.fed("<a>");
        high.bytes(0xBFDF313131313131L, 8);
        Check.feed(high, "</a>");
        high.judge(0);
        CHECK.same("the events with the highest byte", Check.eventsOf(high), "+a [111111{2047}] -a");
    }

    private static void bytesMost() {
        CHECK.says("IllegalStateException, when there would be more than 360");
        for (int n = 1; n <= 8; n++) {
            int last = n;
            MarkupJudge fits = withBytes(360 - n);
            CHECK.call("bytes(0, " + n + ") up to 360", () -> fits.bytes(0, last), 360);
            CHECK.call("one more", () -> fits.bytes(0, 1), Check.TOO_MUCH);
            MarkupJudge full = withBytes(361 - n);
            CHECK.call("bytes(0, " + n + ") up to 361", () -> full.bytes(0, last), Check.TOO_MUCH);
            CHECK.same("a refused call leaves the bytes", full.clear(), 361 - n);
        }
        MarkupJudge judge = Check.fed("<a>" + "x".repeat(353));
        CHECK.call("the last four", () -> judge.bytes(0x3E612F3CL, 4), 360);
        CHECK.call("judge(0) of 360 bytes", () -> judge.judge(0), 1);
        CHECK.same("their text", judge.event(1, 2), 353);
        CHECK.call("the 361st", () -> judge.bytes(0x20, 1), Check.TOO_MUCH);
        CHECK.same("a refused call leaves the events", judge.events(), 3);
        CHECK.call("judge(0) again", () -> judge.judge(0), 1);
    }

    private static void clear() {
        CHECK.says("No bytes any more: how many there were");
        for (int size : new int[] {0, 1, 8, 9, 359, 360}) {
            MarkupJudge judge = withBytes(size);
            CHECK.same("clear() of " + size, judge.clear(), size);
            CHECK.same("clear() again", judge.clear(), 0);
        }
        MarkupJudge judge = withBytes(360);
        judge.clear();
        Check.feed(judge, "<b/>" + " ".repeat(356));
        CHECK.call("judge(0) of 360 new bytes", () -> judge.judge(0), 1);
        CHECK.same("their events", Check.eventsOf(judge), "+b -b");
        judge.clear();
        CHECK.same("the events stay", Check.eventsOf(judge), "+b -b");
        CHECK.same("the counts stay", judge.count(1), 1);
        CHECK.call("judge(0) of no bytes", () -> judge.judge(0), Check.WRONG);
    }

    private static void judgeLimits() {
        CHECK.says("IllegalArgumentException, when limit is not 0 .. 2000");
        for (int limit : new int[] {0, 1, 1999, 2000}) {
            CHECK.judged("<a/>", limit, 1);
        }
        for (int limit : new int[] {-1, 2001, -2000, Integer.MIN_VALUE, Integer.MAX_VALUE, 65536}) {
            CHECK.judged("<a/>", limit, Check.WRONG);
            for (String[] pair : THROWING) {
                CHECK.judged(pair[0], limit, Check.WRONG);
            }
        }
    }

    private static void judgeLeavesBytes() {
        CHECK.says("The bytes stay");
        for (String[] pair : THROWING) {
            MarkupJudge judge = Check.fed(pair[0]);
            for (int turn = 0; turn < 2; turn++) {
                CHECK.call("judge(0) of " + pair[0], () -> judge.judge(0), pair[1]);
                CHECK.call("judge(-1) of " + pair[0], () -> judge.judge(-1), Check.WRONG);
            }
            CHECK.same("clear()", judge.clear(), pair[0].length());
        }
        MarkupJudge judge = judged("<a/>");
        CHECK.call("judge(2000) again", () -> judge.judge(2000), 1);
        CHECK.call("one more byte", () -> judge.bytes(0x20, 1), 5);
        CHECK.call("judge(2000) with it", () -> judge.judge(2000), 1);
        CHECK.same("clear()", judge.clear(), 5);
    }

    private static void judgeLeavesNoEvents() {
        CHECK.says("There are no events then, when it throws");
        for (String[] pair : THROWING) {
            MarkupJudge judge = judged("<a x=\"1\">t</a>");
            CHECK.same("events() before", judge.events(), 4);
            judge.clear();
            Check.feed(judge, pair[0]);
            CHECK.same("events() before it is judged", judge.events(), 4);
            CHECK.call("judge(0) of " + pair[0], () -> judge.judge(0), pair[1]);
            noEvents(judge);
        }
        for (int limit : new int[] {-1, 2001}) {
            MarkupJudge judge = judged("<a x=\"1\">t</a>");
            CHECK.call("judge(" + limit + ")", () -> judge.judge(limit), Check.WRONG);
            noEvents(judge);
            CHECK.call("judge(0)", () -> judge.judge(0), 1);
            CHECK.same("events() again", Check.eventsOf(judge), "+a x[1] [t] -a");
        }
    }

    private static void noEvents(MarkupJudge judge) {
        CHECK.same("events() behind it", judge.events(), 0);
        CHECK.call("event(0, 0) behind it", () -> judge.event(0, 0), Check.NO_INDEX);
        CHECK.call("character(1, 0) behind it", () -> judge.character(1, 0), Check.NO_INDEX);
    }

    private static void judgeFirst() {
        CHECK.says("what comes first");
        String unsupported = "<!ENTITY % ";
        String tooMuch = "<!ELEMENT b (((((((((";
        String wrong = "<!ELEMENT b b";
        String start = "<!DOCTYPE a [";
        for (String behind : new String[] {"", unsupported, tooMuch, wrong}) {
            CHECK.judged(start + unsupported + behind, Check.UNSUPPORTED);
            CHECK.judged(start + tooMuch + behind, Check.TOO_MUCH);
            CHECK.judged(start + wrong + behind, Check.WRONG);
            CHECK.judged(start + unsupported + behind + "\u0001", Check.WRONG);
            CHECK.judged(start + tooMuch + behind + "\u0001", Check.WRONG);
        }
    }

    private static void events() {
        CHECK.says("How many events there are");
        CHECK.same("events() of the fewest", judged("<a/>").events(), 2);
        CHECK.same("events() of one text", judged("<a>t</a>").events(), 3);
        CHECK.same("events() of the most", most().events(), 200);
    }

    /** Two hundred events; the last one is number 199. */
    private static MarkupJudge most() {
        return judged("<!DOCTYPE a [<!ENTITY e \"" + "<a/>".repeat(10) + "\">]><a>" + "&e;".repeat(9) + "<a/>".repeat(9) + "</a>");
    }

    private static void event() {
        CHECK.says("its kind (0), its name's character, 0 for a text (1), how many characters its value or text has (2)");
        MarkupJudge judge = judged("<z q=\"12\" r=\"\">tuv<b/></z>");
        int[][] due = {{1, 'z', 0}, {2, 'q', 2}, {2, 'r', 0}, {3, 0, 3}, {1, 'b', 0}, {4, 'b', 0}, {4, 'z', 0}};
        for (int i = 0; i < due.length; i++) {
            for (int what = 0; what < 3; what++) {
                CHECK.same("event(" + i + ", " + what + ")", judge.event(i, what), due[i][what]);
            }
        }
        CHECK.says("IndexOutOfBoundsException, when there is none of these");
        for (int what : new int[] {-1, 3, 4, Integer.MIN_VALUE, Integer.MAX_VALUE}) {
            for (int i = -1; i <= due.length; i++) {
                int asked = i;
                CHECK.call("event(" + i + ", " + what + ")", () -> judge.event(asked, what), Check.NO_INDEX);
            }
        }
        for (int i : new int[] {-1, due.length, due.length + 1, Integer.MIN_VALUE, Integer.MAX_VALUE}) {
            for (int what = 0; what < 3; what++) {
                int asked = what;
                CHECK.call("event(" + i + ", " + what + ")", () -> judge.event(i, asked), Check.NO_INDEX);
            }
        }
        MarkupJudge most = most();
        CHECK.call("event(199, 0) of 200", () -> most.event(199, 0), 4);
        CHECK.call("event(200, 0) of 200", () -> most.event(200, 0), Check.NO_INDEX);
    }

    private static void character() {
        CHECK.says("Character k of event i's value or text. IndexOutOfBoundsException, when there is none");
        MarkupJudge judge = judged("<a q=\"1\" r=\"\">tuv</a>");
        int[][] there = {{1, 0, '1'}, {3, 0, 't'}, {3, 1, 'u'}, {3, 2, 'v'}};
        for (int[] row : there) {
            CHECK.same("character(" + row[0] + ", " + row[1] + ")", judge.character(row[0], row[1]), row[2]);
        }
        int[][] none = {{0, 0}, {4, 0}, {1, 1}, {1, -1}, {2, 0}, {2, -1}, {3, 3}, {3, -1}, {-1, 0}, {5, 0}, {3, Integer.MAX_VALUE},
            {3, Integer.MIN_VALUE}, {Integer.MAX_VALUE, 0}, {Integer.MIN_VALUE, 0}};
        for (int[] row : none) {
            CHECK.call("character(" + row[0] + ", " + row[1] + ")", () -> judge.character(row[0], row[1]), Check.NO_INDEX);
        }
        MarkupJudge most = judged("<!DOCTYPE a [<!ENTITY e \"" + "0123456789".repeat(10) + "\">]><a>" + "&e;".repeat(19) + "x".repeat(99) + "z</a>");
        CHECK.call("the length of the longest", () -> most.event(1, 2), 2000);
        CHECK.call("character 1999 of 2000", () -> most.character(1, 1999), (int) 'z');
        CHECK.call("character 2000 of 2000", () -> most.character(1, 2000), Check.NO_INDEX);
        // What an earlier document had at that place is not there any more.
        most.clear();
        Check.feed(most, "<a>y</a>");
        most.judge(0);
        CHECK.call("character 0 of a newer text", () -> most.character(1, 0), (int) 'y');
        CHECK.call("character 1 of a newer text", () -> most.character(1, 1), Check.NO_INDEX);
        MarkupJudge fewer = judged("<a><b/><c/>t</a>");
        fewer.clear();
        Check.feed(fewer, "<a><b/>x</a>");
        fewer.judge(0);
        CHECK.call("character 0 of an event that is not there any more", () -> fewer.character(5, 0), Check.NO_INDEX);
        CHECK.call("an event that is not there any more", () -> fewer.event(5, 0), Check.NO_INDEX);
    }

    private static void askingChangesNothing() {
        CHECK.says("a refused question leaves everything");
        MarkupJudge judge = judged(ENTITY_E + "<a>&e;</a>");
        Check.answerOf(() -> judge.event(3, 0));
        Check.answerOf(() -> judge.event(0, 3));
        Check.answerOf(() -> judge.character(1, 3));
        Check.answerOf(() -> judge.bytes(0, 9));
        judge.count(3);
        CHECK.same("the events", Check.eventsOf(judge), "+a [xyz] -a");
        CHECK.same("cost()", judge.cost(), 4);
        CHECK.same("count(1)", judge.count(1), 1);
        CHECK.same("count(2)", judge.count(2), 0);
    }

    private static void cost() {
        CHECK.says("What the references to entities cost in the latest judge, as far as it came; 0 at first");
        CHECK.same("cost() at first", new MarkupJudge().cost(), 0);
        CHECK.costs(ENTITY_E + "<a>&e;&e;</a>", 2000, 2, 8);
        CHECK.costs(ENTITY_E + "<a>&e;&e", 2000, Check.WRONG, 4);
        CHECK.costs(ENTITY_E + "<a>&e;&e;", 2000, Check.WRONG, 8);
        CHECK.costs(ENTITY_E + "<a>&e", 2000, Check.WRONG, 0);
        CHECK.costs(ENTITY_E + "<a>&e;\u0001</a>", 2000, Check.WRONG, 0);
        CHECK.costs("<!DOCTYPE a [<!ENTITY e \"xyz\"><!ATTLIST a x CDATA \"&e;\"><!ENTITY %", 2000, Check.UNSUPPORTED, 4);
        MarkupJudge judge = judged(ENTITY_E + "<a>&e;</a>");
        judge.clear();
        CHECK.same("cost() when the bytes are cleared", judge.cost(), 4);
        Check.feed(judge, "<a/>");
        CHECK.same("cost() when others come", judge.cost(), 4);
        judge.judge(0);
        CHECK.same("cost() of the latest, which has no references", judge.cost(), 0);
        for (int limit : new int[] {-1, 2001}) {
            MarkupJudge nowhere = judged(ENTITY_E + "<a>&e;</a>");
            CHECK.call("judge(" + limit + ")", () -> nowhere.judge(limit), Check.WRONG);
            CHECK.same("cost() of the latest, which came nowhere", nowhere.cost(), 0);
        }
    }

    private static void countRange() {
        CHECK.says("NONE for another one");
        for (int what : new int[] {-1, 3, 4, Integer.MIN_VALUE, Integer.MAX_VALUE}) {
            CHECK.same("count(" + what + ")", new MarkupJudge().count(what), -1);
        }
        for (int what = 0; what < 3; what++) {
            CHECK.same("count(" + what + ") at first", new MarkupJudge().count(what), 0);
        }
    }

    private static void countKinds() {
        CHECK.says("How many documents were judged valid (0), with faults (1), and how many threw (2), but for limits out of range");
        MarkupJudge judge = new MarkupJudge();
        counted(judge, "<!DOCTYPE a [<!ELEMENT a ANY>]><a/>", 1, 0, 0);
        counted(judge, "<a/>", 1, 1, 0);
        counted(judge, "<!DOCTYPE a><a/>", 1, 2, 0);
        int threw = 0;
        for (String[] pair : THROWING) {
            threw++;
            counted(judge, pair[0], 1, 2, threw);
        }
        for (int limit : new int[] {-1, 2001}) {
            Check.answerOf(() -> judge.judge(limit));
            CHECK.same("count(2) behind judge(" + limit + ")", judge.count(2), threw);
        }
        counted(judge, "<!DOCTYPE a [<!ELEMENT a ANY>]><a/>", 2, 2, threw);
        judge.judge(0);
        CHECK.same("count(0) when the same is judged again", judge.count(0), 3);
    }

    private static void lastCall() {
        CHECK.says("An object is used for at most 512 calls after it has been made");
        MarkupJudge judge = new MarkupJudge();
        judge.bytes(0x3E2F613CL, 4);
        for (int call = 2; call < 512; call++) {
            CHECK.call("call " + call + ", judge(0)", () -> judge.judge(0), 1);
        }
        CHECK.same("call 512, count(1)", judge.count(1), 510);
        MarkupJudge other = new MarkupJudge();
        for (int call = 1; call < 512; call++) {
            CHECK.call("call " + call + ", bytes", () -> other.bytes(0x20, 1), call > 360 ? Check.TOO_MUCH : call);
        }
        CHECK.same("call 512, clear()", other.clear(), 360);
    }

    private static void counted(MarkupJudge judge, String document, int valid, int faulty, int threw) {
        judge.clear();
        Check.feed(judge, document);
        Check.answerOf(() -> judge.judge(0));
        CHECK.same("the counts behind " + document, judge.count(0) + " " + judge.count(1) + " " + judge.count(2), valid + " " + faulty + " " + threw);
    }
}
