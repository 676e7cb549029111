import java.util.List;

/** Each sentence of the document that names a boundary case: the calls by which it can be told whether it holds. */
public final class BoundaryTests {
    private static final String LINE2 = "2 x router; link 0 1 1\n";
    private static final String LINE3 = "3 x router; link 0 1 1; link 1 2 1\n";
    /** 0 to 1 to 3 and 0 to 2 to 3. */
    private static final String DIAMOND = "4 x router; link 0 1 1; link 0 2 1; link 1 3 1; link 2 3 1\n";
    /** 1 and 2 lead to one another for 0, who is cut off. */
    private static final String LOOP = LINE3 + "rounds 3; cost 0 10; rounds 1; turn 0 0\n";
    private static final String FULL_NET = "10 x router\n" + links(24);

    private static int wrong = 0;
    private static int tested = 0;

    public static void main(String[] args) {
        newObjects();
        routersAndLinks();
        tables();
        rules();
        tellings();
        receivedPlain();
        receivedSequenced();
        cuts();
        settledAndLooped();
        waysAndPackets();
        rightAndNeeded();
        countsLate();
        triedAndWorst();
        judged();
        drawns();
        drawnModel();
        tapes();
        tapeForms();
        tapeRefusals();
        images();
        holders();
        entriesTakenFor();
        answersInOrder();
        System.out.println(wrong == 0 ? tested + " sentences hold" : wrong + " faults at the boundaries");
        if (wrong != 0) {
            System.exit(1);
        }
    }

    private static void sentence(String sentence, String... calls) {
        Calls made = new Calls();
        for (String text : calls) {
            made.run(text);
        }
        tested++;
        for (String fault : made.faults()) {
            wrong++;
            System.out.println(sentence + ": " + fault);
        }
    }

    /** The first links of all that two of ten routers can have: link 0 of 0 and 1, .., link 23 of 2 and 9. */
    private static String links(int many) {
        StringBuilder text = new StringBuilder();
        int made = 0;
        for (int a = 0; a < 10; a++) {
            for (int b = a + 1; b < 10 && made < many; b++) {
                text.append("link ").append(a).append(' ').append(b).append(" 1\n");
                made++;
            }
        }
        return text.toString();
    }

    // ---- promises 1 to 11, and section 1

    private static void newObjects() {
        sentence("1: no ROUTERS", "count 0 = 0; count 3 = 0; known 0 0 = -1; entry 0 0 0 = -1; way 0 0 -1 = -1");
        sentence("1: ROUND 0", "count 4 = 0; image = 0");
        sentence("1: RULES: 0 at first", "rule 0 0 = 0; rule 1 0 = 0; rule 2 0 = 0");
        sentence("1: TOLD: none yet", "count 5 = 0; rounds 80 = 0; count 5 = 0");
        sentence("1: THE TAPE is empty", "count 7 = 0; script = -1000");
        sentence("1: no image", "back = -5");
        sentence("3: HOLDERS hold nothing (at first)", "count 8 = 0; tells 0 0 = -11; tells 1 1 = -11; tells 2 2 = -11",
            "tells 3 3 = -11; tells 4 0 = -11; tells 5 0 = -11; put 0 0 1 = -2000000000; put 5 0 1 = -2000000000");
        sentence("an object without ROUTERS refuses each", "link 0 1 1 = -1; turn 0 0 = -1; cost 0 1 = -1; of 0 0 = -1",
            "between 0 0 = -1; then 0 0 0 0 = -1; then 0 0 0 2 = -1; way 0 0 0 = -1; ends 0 0 = -1; shortest 0 0 = -1",
            "counts 0 0 = -1; packet 0 0 1 0 = -1; row 0 0; judge 0 0 = -1; hold 0 0 0 = -1; drawn 1 1 = -5");
        sentence("an object without ROUTERS, in thought", "told 0 = 0; told 1 = -2; told 2 = 0; told 3 = 0; told 4 = -2; told 5 = 0",
            "tried 0 = 0; tried 1 = 0; tried 2 = 0");
        sentence("an object without ROUTERS goes ROUNDS", "rounds 1 = 0; count 4 = 1; rounds 80 = 0; count 4 = 81");
        sentence("one ROUTER alone", "router = 0; rounds 3 = 0; told 0 = 0; told 3 = 1; ends 0 0 = 1; shortest 0 0 = 0; drawn 1 1 = -5");
    }

    private static void routersAndLinks() {
        sentence("ROUTERS 0 .. 9, as they come", "router = 0; router = 1; router = 2; router = 3; router = 4; router = 5",
            "router = 6; router = 7; router = 8; known 9 0 = -1; router = 9; known 9 0 = 9; count 0 = 10");
        sentence("2: FULL: 10", "9 x router; router = 9; router = -3; router = -3; count 0 = 10; count 3 = 10; known 10 0 = -1");
        sentence("LINKS 0 .. 23, as they come", "10 x router", links(23), "of 23 0 = -1; turn 23 0 = -1; cost 23 1 = -1; link 9 2 15 = 23",
            "of 23 0 = 2; of 23 1 = 9; of 23 2 = 15; cost 23 1 = 15; turn 23 0 = 1; of 24 0 = -1; turn 24 0 = -1; cost 24 1 = -1");
        sentence("3: FULL: 24", FULL_NET, "count 1 = 24; link 3 4 1 = -3; link 9 8 15 = -3; count 1 = 24; between 3 4 = -2");
        sentence("LINKS that are CUT count among the 24", FULL_NET, "turn 0 0 = 1; turn 23 0 = 1; link 3 4 1 = -3; count 1 = 24; count 2 = 22");
        sentence("two unlike ROUTERS", "10 x router; link 0 0 1 = -1; link 5 5 1 = -1; link 9 9 15 = -1; count 1 = 0; link 9 0 1 = 0");
        sentence("a COST (1 .. 15)", "3 x router; link 0 1 0 = -1; link 0 1 16 = -1; link 0 1 1 = 0; link 0 2 15 = 1; of 0 2 = 1; of 1 2 = 15");
        sentence("5: n 1 .. 15", LINE2, "cost 0 0 = -1; cost 0 16 = -1; of 0 2 = 1; cost 0 15 = 1; cost 0 1 = 15; cost 0 1 = 1; of 0 2 = 1");
        sentence("a LINK is UP when it comes", LINE2, "of 0 3 = 1; turn 0 1 = -5; count 2 = 1");
        sentence("4: up 0 or 1", LINE2, "turn 0 -1 = -1; turn 0 2 = -1; turn 0 HIGH = -1; turn 0 LOW = -1; turn 0 0 = 1; turn 0 1 = 1");
        sentence("4: STATE: it is so", LINE2, "turn 0 1 = -5; turn 0 0 = 1; turn 0 0 = -5; of 0 3 = 0; turn 0 1 = 1; turn 0 1 = -5; of 0 3 = 1");
        sentence("two ROUTERS have one LINK at most", LINE2, "link 0 1 2 = -5; link 1 0 2 = -5; turn 0 0; link 0 1 2 = -5",
            "link 1 0 2 = -5; count 1 = 1; of 0 2 = 1; of 0 3 = 0");
        sentence("7: its lesser end, the greater", "10 x router; link 9 0 3; link 0 8 4; of 0 0 = 0; of 0 1 = 9; of 1 0 = 0; of 1 1 = 8");
        sentence("8: NOT", LINE3, "between 0 2 = -2; between 2 0 = -2; between 1 1 = -2; between 2 1 = 1; turn 1 0; between 1 2 = 1");
    }

    private static void tables() {
        sentence("itself first (METRIC 0, VIA itself, SEQUENCE 0 at first; HELD 0)", "9 x router; rule 2 9; rule 1 1; rounds 5; router = 9",
            "known 9 0 = 9; known 9 1 = -2; entry 9 9 0 = 0; entry 9 9 1 = 9; entry 9 9 2 = 0; entry 9 9 3 = 0; entry 9 9 4 = 0");
        sentence("in the order in which it knew them", "4 x router; link 0 3 1; rounds 1; link 0 2 1; rounds 1; link 0 1 1; rounds 1",
            "known 0 0 = 0; known 0 1 = 3; known 0 2 = 2; known 0 3 = 1; entry 0 3 4 = 1; entry 0 2 4 = 2; entry 0 1 4 = 3");
        sentence("an ENTRY that is lost stays in its place", LINE3, "rounds 2; turn 0 0; known 0 1 = 1; known 0 2 = 2; entry 0 1 4 = 1",
            "turn 0 1; rounds 2; known 0 1 = 1; known 0 2 = 2; known 0 3 = -2; count 3 = 9");
        sentence("11: BAD (k below 0); NOT", LINE2, "known 0 -1 = -1; known 0 LOW = -1; known 0 0 = 0; known 0 1 = -2; known 0 HIGH = -2",
            "rounds 1; known 0 1 = 1; known 0 2 = -2");
        sentence("11: a TABLE of 10", FULL_NET, "rounds 3; known 9 9 = 8; known 9 10 = -2; known 0 9 = 9; count 3 = 100");
        sentence("10: what 0 .. 4", LINE2, "entry 0 0 -1 = -1; entry 0 0 5 = -1; entry 0 0 0 = 0; entry 0 0 4 = 0");
        sentence("10: NOT: there is none", LINE2, "entry 0 1 0 = -2; entry 0 1 4 = -2; entry 0 1 5 = -1; entry 0 2 0 = -1; rounds 1",
            "entry 0 1 0 = 1");
        sentence("9: ROUNDS 1 .. 80", LINE3, "rounds 0 = -1; rounds 81 = -1; rounds LOW = -1; rounds HIGH = -1; count 4 = 0",
            "rounds 1 = 4; count 4 = 1; rounds 80 = 2; count 4 = 81");
        sentence("9: another METRIC or VIA, each for itself", DIAMOND, "rounds 3; cost 2 2",
            // 1 and 3 pay more for one another, and 3 goes to 0 by way of 2 now; then 0 goes to 3 so, at the cost there was.
            "rounds 1 = 3; entry 3 0 1 = 2; rounds 1 = 1; entry 0 3 0 = 2; entry 0 3 1 = 2; rounds 1 = 0");
    }

    private static void rules() {
        sentence("HORIZON 0 .. 2", "rule 0 -1 = -1; rule 0 3 = -1; rule 0 2 = 0; rule 0 3 = -1; rule 0 1 = 2; rule 0 0 = 1; rule 0 0 = 0");
        sentence("SEQUENCED (0, 1)", "rule 1 -1 = -1; rule 1 2 = -1; rule 1 1 = 0; rule 1 2 = -1; rule 1 0 = 1; rule 1 0 = 0");
        sentence("HOLD (0 .. 9)", "rule 2 -1 = -1; rule 2 10 = -1; rule 2 9 = 0; rule 2 10 = -1; rule 2 0 = 9; rule 2 0 = 0");
        sentence("6: what 0 .. 2", "rule -1 0 = -1; rule 3 0 = -1; rule LOW 0 = -1; rule HIGH 0 = -1; rule 3 -1 = -1");
        sentence("6: v of any size", "rule 0 LOW = -1; rule 0 HIGH = -1; rule 1 LOW = -1; rule 1 HIGH = -1; rule 2 LOW = -1; rule 2 HIGH = -1");
        sentence("a LINK's COST that changes: nothing else", LINE2, "rounds 1; cost 0 9; entry 0 1 0 = 1; rounds 1 = 2; entry 0 1 0 = 9");
        sentence("a LINK that is UP again: nothing else", LINE2, "rule 2 4; rounds 1; turn 0 0; turn 0 1; entry 0 1 0 = 16; entry 0 1 1 = 1",
            "entry 0 1 3 = 5; entry 1 0 0 = 16; count 4 = 1; count 5 = 2");
    }

    private static void tellings() {
        sentence("a ROUND: its number is 1 more", "rounds 1; count 4 = 1; rounds 1; count 4 = 2; rounds 80; count 4 = 82");
        sentence("if SEQUENCED, each own SEQUENCE is 2 more", "10 x router; rounds 2; entry 0 0 2 = 0; rule 1 1; rounds 80; entry 0 0 2 = 160",
            "entry 9 9 2 = 160; rule 1 0; rounds 1; entry 0 0 2 = 160");
        sentence("all is told that is in TABLES now", LINE3, "rounds 1; entry 0 2 0 = -2; entry 2 0 0 = -2; rounds 1; entry 0 2 0 = 2");
        sentence("it is told behind the 2 more", LINE2, "rule 1 1; rounds 1; entry 0 1 2 = 2; rounds 1; entry 0 1 2 = 4");
        sentence("at the other end of a LINK that is UP", LINE2, "turn 0 0; rounds 5 = 0; count 5 = 0; turn 0 1; rounds 1 = 2; count 5 = 2");
        sentence("HORIZON 0 all", LINE2, "rounds 1; count 5 = 2; rounds 1; count 5 = 6; rounds 1; count 5 = 10");
        sentence("HORIZON 1 not those VIA that one", LINE2, "rule 0 1; rounds 1; count 5 = 2; rounds 1; count 5 = 4; rounds 1; count 5 = 6");
        sentence("HORIZON 1, those that are lost VIA that one", LINE3, "rule 0 1; rounds 3; turn 1 0; rounds 1; entry 0 2 0 = 16",
            // 1 tells 0 of itself and of 2 (lost, VIA 2), 0 tells 1 of itself alone: of 1 and 2 it goes VIA 1.
            "count 5 = 19; rounds 1; count 5 = 22");
        sentence("HORIZON 2 those VIA that one with METRIC 16", LINE3, "rounds 3; turn 1 0; then 1 2 1 0 = 3; rule 0 2; then 1 2 1 0 = 16",
            "count 5 = 26; rounds 1; count 5 = 32");
        sentence("HORIZON 2: its own with 0, whatever", LINE2, "rule 0 2; rounds 3; entry 0 1 0 = 1; entry 1 0 0 = 1; entry 0 0 0 = 0");
        sentence("TOLD: also what the other one has as its own", LINE2, "rounds 2; count 5 = 6; entry 0 0 1 = 0; entry 1 1 1 = 1");
        sentence("TOLD: also those of METRIC 16", LINE3, "rule 0 2; rounds 3; turn 1 0; count 5 = 26; rounds 1; count 5 = 32; rounds 1",
            "count 5 = 38");
        sentence("TOLD by 10 ROUTERS with 24 LINKS", FULL_NET, "rounds 1; count 5 = 48");
    }

    private static void receivedPlain() {
        sentence("x is 16 at most", "3 x router; link 0 1 1; link 1 2 1; rounds 2; cost 0 15; cost 1 15; rounds 2; entry 0 2 0 = 16; count 6 = 2");
        sentence("x is 16 at most, of 16 and more", LINE3, "rule 0 2; rounds 2; turn 1 0; cost 0 15; rounds 3; entry 0 2 0 = 16; entry 1 2 0 = 16");
        sentence("d is r: nothing", LINE2, "rule 1 1; rounds 1; turn 0 0; turn 0 1; entry 1 0 2 = 3; rounds 1; entry 0 0 0 = 0",
            "entry 0 0 1 = 0; entry 0 0 2 = 4");
        // Each CUT between ROUNDS without SEQUENCES leaves the other one a SEQUENCE 1 more, till it is above the ROUTER's own.
        String above = LINE2 + "rule 1 1; rounds 1\n" + "turn 0 0; rule 1 0; turn 0 1; rounds 1; rule 1 1\n".repeat(3);
        sentence("d is r: nothing, though q is above its own SEQUENCE", above, "entry 1 0 0 = 1; entry 1 0 2 = 5; entry 0 0 2 = 2; rounds 1 = 0",
            "entry 0 0 0 = 0; entry 0 0 1 = 0; entry 0 0 2 = 4; entry 1 1 0 = 0; entry 1 1 1 = 1; entry 1 1 2 = 4; count 3 = 4");
        sentence("no ENTRY of d yet: if x is below 16 (15)", "3 x router; link 0 1 8; link 1 2 7; rounds 2 = 6; entry 0 2 0 = 15; entry 2 0 0 = 15");
        sentence("no ENTRY of d yet: if x is below 16 (16)", "3 x router; link 0 1 8; link 1 2 8; rounds 80 = 4; entry 0 2 0 = -2",
            "known 0 2 = -2; count 3 = 7");
        sentence("no ENTRY of d yet: of what is lost", LINE3, "rounds 1; turn 1 0; rounds 3; entry 0 2 0 = -2; count 6 = 2");
        sentence("a new one: HELD 0", LINE2, "rule 2 9; rounds 7; entry 0 1 3 = 0");
        sentence("a new one: q, also if not SEQUENCED", LINE3, "rule 1 1; rounds 1; rule 1 0; rounds 1; entry 0 2 0 = 2; entry 0 2 2 = 2");
        sentence("VIA s: METRIC x, also if it is more", LINE2, "rounds 1; cost 0 15; rounds 1; entry 0 1 0 = 15; cost 0 2; rounds 1",
            "entry 0 1 0 = 2");
        sentence("VIA s: METRIC x, also if HELD", LINE2, "rounds 1; rule 2 9; turn 0 0; turn 0 1; rounds 1; entry 0 1 0 = 1; entry 0 1 3 = 10");
        sentence("METRIC was below 16 (15) and is 16 now: HELD", "3 x router; link 0 1 8; link 1 2 7; rule 2 9; rule 0 1; rounds 2; cost 1 8",
            "rounds 1; entry 0 2 0 = 15; entry 0 2 3 = 0; rounds 1; entry 0 2 0 = 16; entry 0 2 3 = 13");
        sentence("METRIC was 16 and is: HELD stays", LINE3, "rule 0 2; rule 2 3; rounds 3; turn 1 0; rounds 1; entry 0 2 3 = 7; rounds 3",
            "entry 0 2 0 = 16; entry 0 2 3 = 7; entry 1 2 3 = 6");
        sentence("other VIA: if x is below METRIC (alike: not)", DIAMOND, "rounds 9; entry 0 3 1 = 1; entry 3 0 1 = 1; entry 1 2 1 = 0",
            "entry 2 1 1 = 0");
        sentence("other VIA: if x is below METRIC (less by 1)", DIAMOND, "rounds 3; cost 0 15; rounds 1; cost 0 2; rounds 4",
            "entry 0 3 1 = 2; entry 0 3 0 = 2");
        sentence("other VIA: METRIC 16 is above 15", "3 x router; link 0 1 1; link 0 2 1; link 1 2 14; rule 0 1; rounds 3; turn 0 0; rounds 1",
            "entry 1 0 0 = 15; entry 1 0 1 = 2; cost 2 15; rounds 1; entry 1 0 0 = 16");
        for (int hold = 0; hold <= 9; hold++) {
            String held = "3 x router; link 0 1 1; link 0 2 1; link 1 2 5; rule 0 1; rounds 3; rule 2 " + hold + "; turn 0 0\n";
            String wait = hold == 0 ? "" : "rounds " + hold + "; entry 1 0 0 = 16; entry 1 0 1 = 0; count 4 = " + (3 + hold) + "\n";
            sentence("other VIA: and HELD below ROUND, HOLD " + hold, held, "entry 1 0 3 = " + (3 + hold), wait,
                "rounds 1; entry 1 0 0 = 6; entry 1 0 1 = 2; entry 1 0 3 = " + (3 + hold));
        }
        sentence("(SEQUENCE stays.)", LINE2, "rule 1 1; rounds 1; rule 1 0; rounds 1; entry 0 1 2 = 2; cost 0 4; rounds 1; entry 0 1 2 = 2",
            "entry 0 1 0 = 4");
    }

    private static void receivedSequenced() {
        // 1 hears of 3 a round ahead of 2; over it 0 would pay 1 more than that link costs.
        String newer = "5 x router; rule 1 1; link 0 1 15; link 1 3 1; link 0 2 1; link 2 4 1; link 4 3 1; rounds 6\n";
        sentence("q above its SEQUENCE: if x is below 16 (15)", newer, "cost 0 14; rounds 1; entry 0 3 0 = 15; entry 0 3 1 = 1",
            "entry 0 3 2 = 12; entry 0 3 3 = 0");
        sentence("q above its SEQUENCE: if x is below 16 (16: nothing)", newer, "entry 0 3 0 = 3; entry 0 3 1 = 2; entry 0 3 2 = 8");
        sentence("q above its SEQUENCE: or it is VIA s (16)", newer, "rule 2 9; cost 0 14; rounds 1; cost 0 15; rounds 1; entry 0 3 0 = 16",
            "entry 0 3 1 = 1; entry 0 3 2 = 14; entry 0 3 3 = 17; rounds 3; entry 0 3 0 = 16; entry 0 3 2 = 20; entry 0 3 3 = 17");
        sentence("q above its SEQUENCE: also if HELD", LINE2, "rule 1 1; rule 2 9; rounds 1; turn 0 0; entry 0 1 2 = 3; turn 0 1; rounds 1",
            "entry 0 1 0 = 1; entry 0 1 2 = 4; entry 0 1 3 = 10");
        sentence("q above its SEQUENCE: also if METRIC is more, of another", DIAMOND, "rule 1 1; rounds 3; cost 2 9; rounds 1",
            "entry 3 0 0 = 2; entry 3 0 1 = 2",
            "cost 3 9; rounds 1; entry 3 0 0 = 10; entry 3 0 2 = 8");
        sentence("the same q: if x is below METRIC (alike: not)", DIAMOND, "rule 1 1; rounds 9; entry 0 3 1 = 1; entry 3 0 1 = 1");
        sentence("the same q: if x is below METRIC (less by 1)", DIAMOND, "rule 1 1; cost 2 2; rounds 9; entry 0 3 1 = 2; entry 0 3 0 = 2",
            "entry 3 0 1 = 2");
        sentence("the same q: more VIA s: nothing", LOOP, "rule 1 1; rounds 9 = 0; entry 1 0 0 = 3; entry 2 0 0 = 2; rule 1 0; rounds 1",
            "entry 2 0 0 = 4");
        // 3 pays 16 for 0 over 1 now; 2 tells it the same SEQUENCE at once, each ROUND.
        String held = "4 x router; link 0 1 1; link 0 2 1; link 1 3 1; link 2 3 5; rule 1 1; rounds 3; cost 2 15\n";
        sentence("the same q: and HELD below ROUND (HOLD 0)", held, "rounds 1; entry 3 0 0 = 16; entry 3 0 3 = 4; rounds 1; entry 3 0 0 = 6",
            "entry 3 0 1 = 2; entry 3 0 3 = 4");
        sentence("the same q: and HELD below ROUND (HOLD 1)", held, "rule 2 1; rounds 2; entry 3 0 0 = 16; entry 3 0 3 = 5; entry 3 0 2 = 8",
            "rounds 1; entry 3 0 0 = 6");
        sentence("the same q: and HELD below ROUND (HOLD 9)", held, "rule 2 9; rounds 10; entry 3 0 0 = 16; entry 3 0 3 = 13; rounds 1",
            "entry 3 0 0 = 6");
        sentence("a lesser q: nothing", "4 x router; rule 1 1; link 0 1 1; link 1 2 1; link 0 2 1; link 2 3 1; rounds 4; turn 3 0; rounds 1",
            "entry 2 3 0 = 16; entry 2 3 1 = 3; entry 2 3 2 = 9; entry 0 3 0 = 16; entry 0 3 2 = 9");
        sentence("no ENTRY of d yet, SEQUENCED: below 16", "3 x router; rule 1 1; link 0 1 8; link 1 2 7; rounds 2; entry 0 2 0 = 15",
            "entry 0 2 2 = 2");
        sentence("no ENTRY of d yet, SEQUENCED: 16", "3 x router; rule 1 1; link 0 1 8; link 1 2 8; rounds 9; entry 0 2 0 = -2");
    }

    private static void cuts() {
        sentence("a LINK is CUT: at both its ends", LINE3, "rounds 2; turn 0 0; entry 0 1 0 = 16; entry 0 2 0 = 16; entry 1 0 0 = 16",
            "entry 1 2 0 = 1",
            "entry 2 0 0 = 2; entry 0 0 0 = 0; entry 1 1 0 = 0; entry 0 1 1 = 1; count 6 = 3");
        sentence("CUT: METRIC below 16 (15)", "3 x router; link 0 1 8; link 1 2 7; rounds 2; turn 0 0; entry 0 2 0 = 16; entry 0 2 3 = 2",
            "entry 2 0 0 = 15");
        sentence("CUT: METRIC below 16 (16: nothing)", LINE2, "rule 2 2; rounds 1; turn 0 0; entry 0 1 3 = 3; rounds 4; turn 0 1; turn 0 0",
            "entry 0 1 3 = 3");
        sentence("CUT: HELD is ROUND (as it is then) plus HOLD (0)", LINE2, "rounds 80; turn 0 0; entry 0 1 3 = 80; entry 1 0 3 = 80");
        sentence("CUT: HELD is ROUND (as it is then) plus HOLD (9)", LINE2, "rule 2 9; rounds 80; turn 0 0; entry 0 1 3 = 89",
            "entry 1 0 3 = 89; entry 1 1 3 = 0");
        sentence("CUT: its SEQUENCE, if SEQUENCED, 1 more", LINE2, "rule 1 1; rounds 1; turn 0 0; entry 0 1 2 = 3; entry 1 0 2 = 3; entry 0 0 2 = 2",
            "turn 0 1; turn 0 0; entry 0 1 2 = 3");
        sentence("CUT: its SEQUENCE, if not SEQUENCED, stays", LINE2, "rule 1 1; rounds 1; rule 1 0; turn 0 0; entry 0 1 2 = 2; entry 0 1 0 = 16");
        sentence("CUT ahead of all ROUNDS: no ENTRY VIA the other end", LINE2, "turn 0 0; count 6 = 0; count 3 = 2; entry 0 1 0 = -2");
    }

    // ---- promises 12 to 20, in thought

    private static void settledAndLooped() {
        sentence("SETTLED behind 0 ROUNDS", LINE3, "rounds 2; told 0 = 0; told 0 = 0; count 4 = 2");
        sentence("SETTLED: bring no ENTRY", "3 x router; told 0 = 0; link 0 1 1; told 0 = 1; link 1 2 1; told 0 = 2; rounds 1; told 0 = 1",
            "rounds 1; told 0 = 0");
        sentence("SETTLED: change no METRIC", LINE2, "rounds 1; cost 0 2; told 0 = 1; rounds 1; told 0 = 0");
        sentence("SETTLED: change no VIA", DIAMOND, "rounds 3; cost 2 2; told 0 = 2; rounds 1; told 0 = 1; rounds 1; told 0 = 0");
        sentence("SETTLED: first, though a later ROUND changes more", "3 x router; link 0 1 1; link 0 2 1; link 1 2 5; rule 0 1; rule 2 9",
            "rounds 3; turn 0 0",
            "rounds 1; told 0 = 0; then 1 0 8 0 = 16; then 1 0 9 0 = 6");
        sentence("LOOPED behind 0 ROUNDS", LOOP, "told 1 = 0; told 2 = 2");
        sentence("LOOPED behind 1 ROUND", LINE3, "rounds 3; cost 0 10; told 1 = 1; told 2 = 0; then 0 0 1 2 = 2");
        // 2 keeps its way by 1, who lost 0 without a SEQUENCE more, and is held no more behind 9 ROUNDS.
        sentence("LOOPED behind 10 ROUNDS", LINE3, "rounds 3; rule 2 9; turn 0 0; rule 1 1; told 1 = 10; then 0 0 9 2 = 0",
            "then 0 0 10 2 = 2; told 0 = 0");
        sentence("LOOPS of ROUTER 0, too", "3 x router; link 0 1 1; link 0 2 1; rounds 3; cost 0 10; rounds 1; turn 0 0; told 2 = 2",
            "told 1 = 0; ends 0 1 = 2; ends 2 1 = 2");
        sentence("LOOPED: NOT", LINE3, "told 1 = -2; rounds 80; told 1 = -2");
        sentence("LOOPED: NOT, though there was one", LOOP, "rounds 20; told 1 = -2; told 2 = 0");
        sentence("LOOPS: twos of one ROUTER have none", LINE3, "rounds 2; told 2 = 0; ends 0 0 = 1; ends 2 2 = 1");
        sentence("LOOPS: also of those that come to a LOOP", "4 x router; link 0 1 1; link 1 2 1; link 2 3 1; rounds 4; cost 0 10; rounds 1",
            "turn 0 0; told 2 = 3",
            "ends 1 0 = 2; ends 2 0 = 2; ends 3 0 = 2; ends 0 3 = 0");
        sentence("12: what 0 .. 5", LINE2, "told -1 = -1; told 6 = -1; told LOW = -1; told HIGH = -1; told 5 = 1");
        sentence("13: behind 0 ROUNDS", LINE3, "then 0 1 0 0 = -2; then 0 1 0 1 = -2; then 0 1 0 2 = 0; then 0 0 0 0 = 0; then 0 0 0 1 = 0");
        sentence("13: behind 80 ROUNDS", LINE3, "then 0 2 80 0 = 2; then 0 2 80 1 = 1; then 0 2 80 2 = 0; then 0 2 81 0 = -1",
            "then 0 2 -1 0 = -1; count 4 = 0");
        sentence("13: NOT: no ENTRY then", LINE3, "then 0 2 1 0 = -2; then 0 2 1 1 = -2; then 0 2 2 0 = 2");
        sentence("13: LOOPS, whether there is that ENTRY or not", LOOP, "router; then 0 3 0 2 = 2; then 3 3 0 2 = 2; then 0 3 0 0 = -2",
            "then 3 4 0 2 = -1");
        sentence("13: METRIC 16 is no NOT", LINE2, "rounds 1; turn 0 0; then 0 1 0 0 = 16; then 0 1 80 0 = 16; then 0 1 80 1 = 1");
        // With HORIZON 1 they never tell one another: 80 ROUNDS change nothing.
        sentence("13: a LOOP that lasts", LOOP, "rule 0 1; then 1 0 80 2 = 2; then 1 0 80 0 = 3; told 0 = 0");
    }

    private static void waysAndPackets() {
        sentence("a WAY from a ROUTER to itself", LINE2, "way 0 0 -1 = 1; way 0 0 0 = 0; way 0 0 1 = -2; ends 0 0 = 1");
        sentence("a WAY ends where there is no ENTRY", LINE2, "way 0 1 -1 = 1; way 0 1 0 = 0; way 0 1 1 = -2; ends 0 1 = 0");
        sentence("a WAY ends where METRIC is 16", LINE3, "rounds 2; turn 1 0; ends 0 2 = 0; way 0 2 -1 = 2; way 0 2 1 = 1; way 0 2 2 = -2",
            "ends 1 2 = 0; way 1 2 -1 = 1");
        sentence("a WAY goes on where METRIC is 15", "2 x router; link 0 1 15; rounds 1; ends 0 1 = 1; way 0 1 -1 = 2; way 0 1 1 = 1");
        sentence("14: k -1: how many; BAD (k below -1); NOT", LINE3, "rounds 2; way 0 2 -2 = -1; way 0 2 LOW = -1; way 0 2 -1 = 3",
            "way 0 2 0 = 0; way 0 2 2 = 2",
            "way 0 2 3 = -2; way 0 2 HIGH = -2");
        sentence("14: a LOOP ends ahead of the one that would come twice", LOOP, "way 1 0 -1 = 2; way 1 0 0 = 1; way 1 0 1 = 2",
            "way 1 0 2 = -2; way 2 0 -1 = 2; ends 1 0 = 2");
        sentence("14: a WAY of 10", "10 x router; link 0 1 1; link 1 2 1; link 2 3 1; link 3 4 1; link 4 5 1; link 5 6 1; link 6 7 1",
            "link 7 8 1; link 8 9 1",
            "rounds 8; way 0 9 -1 = 1; rounds 1; way 0 9 -1 = 10; way 0 9 9 = 9; way 0 9 10 = -2; ends 0 9 = 1; shortest 0 9 = 9; told 5 = 9");
        sentence("SHORTEST, above all METRICS", "10 x router; link 0 1 15; link 1 2 15; link 2 3 15; link 3 4 15; link 4 5 15; link 5 6 15",
            "link 6 7 15; link 7 8 15",
            "shortest 0 9 = -2; link 8 9 15; shortest 0 9 = 135; shortest 9 0 = 135");
        sentence("SHORTEST: NOT; of LINKS that are UP", LINE3, "shortest 0 2 = 2; turn 1 0; shortest 0 2 = -2; shortest 2 1 = -2",
            "shortest 2 2 = 0; link 0 2 15; shortest 1 2 = 16");
        sentence("TTL 1 .. 40", LOOP, "rule 0 1; packet 1 0 0 0 = -1; packet 1 0 41 0 = -1; packet 1 0 1 0 = 2; packet 1 0 1 1 = 1",
            "packet 1 0 39 0 = 2; packet 1 0 39 1 = 39; packet 1 0 40 0 = 1; packet 1 0 40 1 = 40; count 4 = 4");
        sentence("a PACKET that is at d", LINE2, "packet 0 0 1 0 = 0; packet 0 0 1 1 = 0; packet 1 1 40 0 = 1; packet 1 1 40 1 = 0");
        sentence("a PACKET where there is no ENTRY", LINE3, "rounds 1; packet 0 2 40 0 = 0; packet 0 2 40 1 = 0");
        sentence("a PACKET where METRIC is 15, and 16", "2 x router; link 0 1 15; rounds 1; packet 0 1 1 0 = 1; turn 0 0",
            "packet 0 1 1 0 = 0; packet 0 1 1 1 = 0");
        sentence("a PACKET stays for good where it stays once", LINE3, "rounds 2; turn 0 0; turn 0 1; packet 0 2 40 0 = 0",
            "packet 0 2 40 1 = 0; then 0 2 1 0 = 2");
        sentence("a ROUND is behind each step", LINE3, "rounds 2; turn 1 0; packet 0 2 1 0 = 1; turn 1 1; packet 0 2 2 0 = 2; packet 0 2 1 0 = 1");
        sentence("18: what 0, 1", LINE2, "packet 0 0 1 -1 = -1; packet 0 0 1 2 = -1; packet 0 0 1 LOW = -1; packet 0 0 1 HIGH = -1");
    }

    private static void rightAndNeeded() {
        sentence("RIGHT: twos of one ROUTER, too", "10 x router; told 3 = 100; link 0 1 1; told 3 = 98; rounds 1; told 3 = 100");
        sentence("RIGHT: METRIC as SHORTEST (15)", "3 x router; link 0 1 8; link 1 2 7; told 3 = 3; rounds 2; told 3 = 9");
        sentence("RIGHT: 16 if that is more (16)", "3 x router; link 0 1 8; link 1 2 8; told 3 = 5; rounds 2; told 3 = 9");
        sentence("RIGHT: 16 if that is more (17)", "3 x router; link 0 1 8; link 1 2 9; told 3 = 5; rounds 2; told 3 = 9");
        sentence("RIGHT: METRIC 15 is not 16", "3 x router; link 0 1 8; link 1 2 7; rounds 2; cost 1 8; told 3 = 5; rounds 2; told 3 = 9");
        sentence("RIGHT: METRIC 16 where there is no way", LINE2, "rounds 1; told 3 = 4; turn 0 0; told 3 = 4; turn 0 1; told 3 = 2");
        sentence("RIGHT: no ENTRY is 16, too", "2 x router; told 3 = 4; link 0 1 15; told 3 = 2; turn 0 0; told 3 = 4");
        sentence("NEEDED: none", "told 5 = 0; 3 x router; told 5 = 0; link 0 1 1; link 1 2 1; link 0 2 1; told 5 = 0");
        sentence("NEEDED: LINKS that are UP", LINE3, "told 5 = 2; turn 0 0; told 5 = 1; turn 1 0; told 5 = 0; turn 1 1; link 0 2 1",
            "told 5 = 2; turn 0 1; told 5 = 0");
        sentence("NEEDED: by LINKS, not by TABLES", LINE3, "told 5 = 2; rounds 9; told 5 = 2; cost 0 15; cost 1 15; told 5 = 2");
        sentence("NEEDED: of 24", FULL_NET, "told 5 = 0");
        sentence("COUNTS behind 0 ROUNDS: METRIC is 16", LINE3, "rounds 2; turn 1 0; counts 1 2 = 0; counts 2 0 = 0");
        sentence("COUNTS behind 0 ROUNDS: there is no ENTRY", LINE3, "counts 0 2 = 0; rounds 1; counts 0 2 = 0; rounds 1; counts 0 2 = -2");
        sentence("COUNTS: METRIC 15 is not 16", "2 x router; link 0 1 15; rounds 1; counts 0 1 = -2; turn 0 0; counts 0 1 = 0");
        sentence("COUNTS: NOT", LINE2, "counts 0 0 = -2; rounds 80; counts 0 1 = -2; counts 1 1 = -2; count 4 = 80");
        sentence("COUNTS: first, though METRIC is below 16 again", LINE3, "rounds 2; turn 1 0; counts 0 2 = 1; then 0 2 2 0 = 4");
    }

    /**
     * 8's METRIC to 0 becomes 16 behind 80 ROUNDS. 2 keeps a SEQUENCE of 0 that is far above what 0 itself tells, one more
     * by each CUT between ROUNDS without SEQUENCES: till 0 comes to it, 2 takes nothing. Then it is held for ten ROUNDS, takes
     * the way over 3, and tells 4 and 5 of that; so 6 is held for ten; and so 7 and 8 hear what they have not heard yet.
     */
    private static void countsLate() {
        StringBuilder late = new StringBuilder("3 x router; link 0 1 1; link 1 2 14; rounds 2\n");
        for (int i = 0; i < 111; i++) {
            // The seed 17 turns link 1 twice.
            late.append("rule 1 1; drawn 17 2; rule 1 0; rounds 1\n");
        }
        late.append("6 x router; link 0 4 7; link 0 7 1; link 4 6 1; link 7 8 4; link 0 3 1; rounds 2; cost 2 15; cost 3 15; rounds 1\n");
        late.append("turn 2 0; turn 3 0; link 3 2 1; link 2 4 13; link 2 5 1; link 5 6 1; link 6 7 8; cost 1 15; rule 2 9; rule 1 1\n");
        sentence("COUNTS 0 .. 80", late.toString(), "entry 2 0 2 = 111; entry 0 0 2 = 0; counts 8 0 = -2; then 8 0 80 0 = 5",
            "rounds 1; counts 8 0 = 80; then 8 0 80 0 = 16; then 8 0 79 0 = 5; rounds 1; counts 8 0 = 79; counts 6 0 = 67");
    }

    private static void triedAndWorst() {
        sentence("WORST CUT: NOT: none is UP", "told 4 = -2; 3 x router; told 4 = -2; link 0 1 1; link 1 2 1; turn 0 0; turn 1 0",
            "told 4 = -2; turn 1 1; told 4 = 1");
        sentence("WORST CUT: of several the least", "4 x router; link 2 3 1; link 0 1 1; rule 0 1; rounds 2; told 4 = 0; turn 0 0; told 4 = 1");
        StringBuilder allButTheLast = new StringBuilder();
        for (int link = 0; link < 23; link++) {
            allButTheLast.append("turn ").append(link).append(" 0\n");
        }
        sentence("WORST CUT: the last of 24", FULL_NET, allButTheLast.toString(), "told 4 = 23; told 5 = 1; turn 23 0; told 4 = -2; told 5 = 0");
        sentence("WORST CUT: SETTLED behind 0 ROUNDS is also one", LINE2, "rule 0 1; rounds 1; told 4 = 0; count 2 = 1; count 6 = 0");
        sentence("RULES tried: of several the least HORIZON, then SEQUENCED 0", LINE2, "tried 0 = 0; tried 1 = 0; tried 2 = 1; rule 0 2; rule 1 1",
            "tried 0 = 0; tried 1 = 0; rule 0 0 = 2; rule 1 0 = 1");
        sentence("19: what 0 .. 2", "tried -1 = -1; tried 3 = -1; tried LOW = -1; tried HIGH = -1; tried 2 = 0");
        // 0 and 1 lose one another and hear so by 2 again. HOLD keeps 2, who loses 1 a ROUND later, from all, but for what is SEQUENCED.
        sentence("RULES tried: HOLD as it is", "3 x router; link 0 1 1; link 0 2 1; link 1 2 5; rounds 3; image; turn 0 0; tried 0 = 0",
            "tried 1 = 1; tried 2 = 2",
            "back; rule 2 9; turn 0 0; tried 0 = 0; tried 1 = 0; tried 2 = 1");
    }

    private static void judged() {
        sentence("20: -11, -12 (an ENTRY)", LINE2, "judge 0 0 = -11; hold 0 0 0; judge 0 0 = -12; row 0 -1; judge 0 0 = -11");
        sentence("20: -13: its length is odd", LINE2, "row 0 1; judge 0 0 = -13; row 0 3; judge 0 0 = -13; row 0 59; judge 0 0 = -13");
        sentence("20: -13: twos of more than there are", LINE2, "row 0 4; judge 0 0 = 1; row 0 6; judge 0 0 = -13; row 0 60",
            "judge 0 0 = -13; row 0 5; judge 0 0 = -13");
        sentence("20: a ROW of 0 ints", LINE2, "row 0 0; judge 0 0 = 0; judge 0 1 = 0");
        sentence("20: twos of 10 ROUTERS", FULL_NET, "row 0 20; judge 0 0 = 1; judge 0 9 = 0; row 0 22; judge 0 0 = -13; row 0 21; judge 0 0 = -13");
        sentence("20: how many twos, if there are more ROUTERS", LINE2, "row 0 2; judge 0 0 = 1; judge 0 1 = 0; put 0 1 1; judge 0 1 = 0",
            "put 0 1 0; judge 0 0 = 1");
        sentence("20: NOT, if there are no more", "router; row 0 2; judge 0 0 = -2; router; judge 0 0 = 1");
        sentence("20: no ENTRY: 16, and the ROUTER itself", LINE2, "row 0 4; put 0 2 16; judge 0 0 = -2; put 0 3 1; judge 0 0 = 1",
            "put 0 3 0; put 0 2 -2; judge 0 0 = 1");
        sentence("20: the first that is otherwise", LINE2, "rounds 1; row 0 4; put 0 2 1; put 0 3 1; judge 0 0 = -2; put 0 0 1",
            "judge 0 0 = 0; put 0 2 2; judge 0 0 = 0");
        sentence("20: ints of any size", LINE2, "row 0 4; put 0 0 LOW; judge 0 0 = 0; put 0 0 HIGH; judge 0 0 = 0; put 0 0 0; put 0 1 LOW",
            "judge 0 0 = 0",
            "put 0 1 0; put 0 2 HIGH; judge 0 0 = 1; put 0 2 16; put 0 3 LOW; judge 0 0 = 1; put 0 3 -1; judge 0 0 = 1");
        sentence("20: HOLDERS 0 .. 5", LINE2, "judge -1 0 = -1; judge 6 0 = -1; judge LOW 0 = -1; judge HIGH 0 = -1; judge 5 0 = -11",
            "judge 5 -1 = -1; judge 5 2 = -1; judge 5 1 = -11");
    }

    // ---- promises 21 to 25: drawn links, texts, images

    private static void drawns() {
        sentence("21: n 1 .. 12", LINE3, "drawn 1 0 = -1; drawn 1 13 = -1; drawn 1 LOW = -1; drawn 1 HIGH = -1; count 2 = 2; drawn 1 1; drawn 1 12");
        sentence("21: STATE: fewer than two ROUTERS", "drawn 5 1 = -5; router; drawn 5 1 = -5; drawn 5 12 = -5; router; drawn 17 12 = 1");
        sentence("21: BAD ahead of STATE", "drawn 5 0 = -1; router; drawn 5 13 = -1");
        // By hand from the seed 1: x is 16838, 5758, 10113, 17515: 2 and 3, 2 and 3, 1 and 3, 3 and 3.
        sentence("there is none: it comes", "4 x router; drawn 1 1 = 1; of 0 0 = 2; of 0 1 = 3; of 0 2 = 4; of 0 3 = 1");
        sentence("CUT if it is UP, UP if not", "4 x router; link 2 3 9; rounds 1; drawn 1 1 = 1; of 0 3 = 0; of 0 2 = 9; entry 2 3 0 = 16",
            "drawn 1 1 = 1; of 0 3 = 1; entry 2 3 0 = 16");
        sentence("alike: nothing", "4 x router; drawn 1 3 = 2; count 2 = 1; drawn 1 3; drawn 1 4 = 2; count 2 = 1");
        sentence("24 there: nothing", FULL_NET, "count 2 = 24; drawn 7 12 = 24; count 1 = 24; of 24 0 = -1; between 3 4 = -2; between 8 9 = -2");
    }

    /** The same draws with numbers of 64 bits, by calls of link and turn: what wraps around, and what comes to 24. */
    private static void drawnModel() {
        int[] seeds = {0, 1, -1, 7, 77, 12345, -12345, 1103515245, 65535, 65536, Integer.MIN_VALUE, Integer.MAX_VALUE, 1 << 30, -(1 << 30)};
        for (int seed : seeds) {
            for (int routers : new int[] {2, 3, 7, 9, 10}) {
                for (int had : new int[] {0, 1, 23, 24}) {
                    if (had == 0 || had <= routers * (routers - 1) / 2 && routers == 10) {
                        drawnAs(seed, routers, had);
                    }
                }
            }
        }
    }

    private static void drawnAs(int seed, int routers, int had) {
        String start = routers + " x router\n" + links(had) + "rounds 2\n";
        StringBuilder look = new StringBuilder("count 1; count 2; count 3; count 6\n");
        for (int link = 0; link <= Math.min(23, had + 12); link++) {
            for (int what = 0; what < 4; what++) {
                look.append("of ").append(link).append(' ').append(what).append('\n');
            }
        }
        Calls drawn = new Calls();
        drawn.run(start + "drawn " + seed + " 12");
        Calls twin = new Calls();
        twin.run(start);
        long z = seed;
        for (int i = 0; i < 12; i++) {
            z = Math.floorMod(z * 1103515245L + 12345L, 1L << 32);
            long x = (z >> 16) % 32768;
            int a = (int) (x % routers);
            int b = (int) (x / 10 % routers);
            int link = twin.call("between", a, b);
            if (a != b && link < 0) {
                twin.call("link", a, b, (int) (1 + x / 100 % 15));
            } else if (a != b) {
                twin.call("turn", link, 1 - twin.call("of", link, 3));
            }
        }
        List<Integer> got = drawn.run(look.toString());
        List<Integer> want = twin.run(look.toString());
        sentence("DRAWN by the seed " + seed + " with " + routers + " ROUTERS", "count 0 = 0");
        if (!got.equals(want)) {
            wrong++;
            System.out.println("DRAWN by the seed " + seed + ", " + routers + " ROUTERS, " + had + " LINKS: " + got + ", due is " + want);
        }
    }

    private static void tapes() {
        sentence("22: a byte (0 .. 255)", "feed -1 = -1; feed 256 = -1; feed LOW = -1; feed HIGH = -1; count 7 = 0; feed 0 = 1",
            "feed 255 = 2; count 7 = 2");
        sentence("22: FULL (120)", "119 x feed 110; feed 110 = 120; feed 110 = -3; feed 0 = -3; feed 256 = -1; count 7 = 120");
        sentence("22: FULL no more when the TEXT is done", "120 x feed 110; script = -1001; feed 110 = 1; script = 1; count 0 = 1");
        sentence("23: no TEXT", "script = -1000; script = -1000; count 7 = 0");
        sentence("23: THE TAPE is empty then", "tape n", "script = 1; count 7 = 0; script = -1000", "tape x", "script = -1000; count 7 = 0",
            "tape r 0", "script = -2000; count 7 = 0; script = -1000");
        sentence("23: a TEXT of 120 bytes", "tape n;n;" + "r 10;".repeat(23) + "n", "count 7 = 120; script = 26; count 0 = 3; count 4 = 230");
        sentence("23: a TEXT of 119 bytes", "tape " + "r 10;".repeat(23) + "r 80", "count 7 = 119; script = 24; count 4 = 310");
        sentence("23: it ends too early at 120", "tape " + "r 10;".repeat(24), "count 7 = 120; script = -1120; count 4 = 0");
        sentence("23: a fault at the 120th byte", "tape " + "r 10;".repeat(23) + "r 100", "count 7 = 120; script = -1119; count 4 = 0");
        sentence("23: 60 LINES", "tape n" + ";n".repeat(59), "count 7 = 119; script = -2010; count 0 = 0");
        sentence("23: 30 LINES", "tape h 2" + ";h 1".repeat(29), "count 7 = 119; script = 30; rule 0 0 = 1");
        sentence("23: a TEXT that is FULL of one letter", "tape " + "n".repeat(120), "script = -1001; count 0 = 0");
        sentence("23: bytes that are no letters of it", "feed 0; script = -1000; feed 255; script = -1000; feed 110; feed 127",
            "script = -1001; feed 110; feed 238; script = -1001",
            "feed 10; script = -1000; feed 110; feed 10; script = -1001; feed 110; feed 59; feed 255; script = -1002");
    }

    private static void tapeForms() {
        String[] texts = {"", "n", ";", "n;", "n;;n", "nn", "n ", " n", "n;x", "N", "n;n;", "n;n;n x",
            "l", "l ", "l 0", "l 0 ", "l 0 1", "l 0 1 ", "l 0 1;", "l  0 1 1", "l 0  1 1", "l 0 1  1", "l 0 1 1 ", "l 0 1 123", "l 012 1 1",
            "l a 1 1",
            "l 0,1 1", "l 0 1 1 1", "c", "c0", "c ", "c 0 ", "c 0 1", "c 123", "u -1", "u +1", "u 0;", "w", "w 0", "w 0 ", "w 0;",
            "w 0 1 1", "w 0 123",
            "h", "h x", "h 0x", "q 123", "q ", "d 1;", "d 1 ", "r 1n", "r 80;r", "r 080", "r 0/", "r 0:", "r :", "r /", "r", "x 1", "m 1",
            "o 1", "R 1"};
        int[] place = {0, -1, 0, 2, 2, 1, 1, 0, 2, 0, 4, 5,
            1, 2, 3, 4, 5, 6, 5, 2, 4, 6, 7, 8, 4, 2,
            3, 7, 1, 1, 2, 3, 3, 4, 2, 2, 4, 1, 3, 4, 3, 5, 6,
            1, 2, 3, 4, 2, 4, 3, 3, 6, 4, 3, 3, 2, 2, 1, 0, 0, 0, 0};
        for (int i = 0; i < texts.length; i++) {
            int due = place[i] < 0 ? 1 : -1000 - place[i];
            sentence("23: FAULT of form: the first byte with which no TEXT goes on: \"" + texts[i] + "\"", fed(texts[i]),
                "script = " + due + "; count 0 = " + (place[i] < 0 ? 1 : 0) + "; count 4 = 0; count 7 = 0");
        }
        sentence("23: a FAULT of form is looked for ahead of all LINES", fed("r 0;x"), "script = -1004", fed("c 0;n;l 0 1"),
            "script = -1011; count 0 = 0");
        sentence("23: what THE TAPE had ahead of it is no part of a TEXT", fed("n;n;l 0 1 5;r 10"), "script = 4", fed("l"),
            "script = -1001", fed("n;n;l 0 1"), "script = -1009",
            fed("n;n;l 0 1 5;r 1"), "script = -2002; count 4 = 10", fed("r 10;r 10"), "script = 2", fed("r 1"),
            "script = 1; count 4 = 31", fed("w"), "script = -1001", fed("w 0"), "script = -1003");
        sentence("23: 1 or 2 digits", fed("n;n;l 00 01 05;w 0 08;c 00;u 00;h 02;q 01;d 09;r 01"), "script = 10; of 0 2 = 8; rule 0 0 = 2",
            "rule 1 0 = 1; rule 2 0 = 9; count 4 = 1");
        sentence("23: each of the letters", fed("n;n;l 0 1 5;c 0"), "script = 4; of 0 3 = 0", fed("u 0;w 0 15;h 1"), "script = 3",
            "of 0 3 = 1; of 0 2 = 15",
            fed("q 1;d 7;r 80"), "script = 3; rule 0 0 = 1; rule 1 0 = 1; rule 2 0 = 7; count 4 = 80");
    }

    /** The bytes of a text, also of one that ends with a blank. */
    private static String fed(String text) {
        StringBuilder calls = new StringBuilder();
        for (char letter : text.toCharArray()) {
            calls.append("feed ").append((int) letter).append('\n');
        }
        return calls.toString();
    }

    private static void tapeRefusals() {
        String[] lines = {"l 0 1 1", "l 1 0 1", "l 0 0 1", "l 0 9 1", "l 9 0 1", "l 0 2 0", "l 0 2 16", "l 0 2 99", "c 0", "c 3", "c 99", "u 1", "u 3",
            "w 3 1", "w 0 0", "w 0 16", "h 3", "h 99", "q 2", "d 10", "d 99", "r 0", "r 00", "r 81", "r 99"};
        for (String line : lines) {
            String start = LINE3 + "rounds 2; rule 2 3; turn 0 0; count 5 = 14\n";
            String asItWas = "count 7 = 0; count 0 = 3; count 1 = 2; count 2 = 1; count 3 = 9; count 4 = 2; count 5 = 14; count 6 = 3"
                + "; of 0 2 = 1; of 1 2 = 1; entry 0 1 3 = 5; rule 0 0 = 0; rule 1 0 = 0; rule 2 0 = 3\n";
            sentence("23: -2000 less its number, the first: " + line, start, fed(line), "script = -2000\n" + asItWas);
            sentence("23: -2000 less its number, the last: " + line, start, fed("n;h 1;q 1;r 2;w 1 9;d 8;l 2 3 1;" + line),
                "script = -2007\n" + asItWas);
            sentence("23: -2000 less its number, one between: " + line, start, fed("n;h 2;r 1;" + line + ";n;r 1"), "script = -2003\n" + asItWas);
        }
        sentence("23: a LINE that is refused as things are then", LINE2, fed("c 0;c 0"), "script = -2001; of 0 3 = 1", fed("c 0;u 0;u 0"),
            "script = -2002; of 0 3 = 1",
            fed("n;l 0 2 1;l 2 0 1"), "script = -2002; count 0 = 2; count 1 = 1");
        sentence("23: FULL of ROUTERS", "9 x router", fed("n;n"), "script = -2001; count 0 = 9", fed("n"), "script = 1; count 0 = 10",
            fed("n"), "script = -2000");
        sentence("23: FULL of LINKS", "10 x router", links(23), fed("l 2 9 1;l 3 4 1"), "script = -2001; count 1 = 23", fed("l 2 9 1"),
            "script = 1; count 1 = 24");
        sentence("23: the numbers of the last of all", FULL_NET, fed("w 23 15;c 23;u 23;w 24 15"), "script = -2003; of 23 2 = 1",
            fed("w 23 15;c 23"), "script = 2; of 23 2 = 15; of 23 3 = 0");
        sentence("23: cost and rule that answer 0 or more are not refused", LINE2, fed("w 0 1;h 0;q 0;d 0;r 1;r 1"), "script = 6; count 4 = 2");
        sentence("23: a LINE that is refused leaves HOLDERS and the image", LINE2, "image = 0; row 0 3; put 0 2 7; hold 1 0 0; rounds 1",
            fed("n;r 0"),
            "script = -2001; count 8 = 2; put 0 2 0 = 7; tells 1 0 = 0; count 4 = 1; back = 0; count 4 = 0");
        sentence("23: knowing is as it was", LINE3, fed("r 2;c 0;r 99"), "script = -2002; known 0 1 = -2; entry 0 2 0 = -2; count 3 = 3",
            "count 5 = 0; rounds 1 = 4");
    }

    private static void images() {
        sentence("25: STATE: there is none", "back = -5; 2 x router; back = -5; image = 0; back = 0");
        sentence("an IMAGE of an object without ROUTERS", "image = 0; 10 x router; drawn 5 12; rounds 80; back = 0; count 0 = 0",
            "count 1 = 0; count 3 = 0; count 4 = 0; count 5 = 0; router = 0");
        sentence("an IMAGE keeps all of 1: ROUTERS, LINKS", LINE3, "turn 0 0; image = 0; router; link 0 2 3; cost 1 9; turn 0 1; turn 1 0; back = 0",
            "count 0 = 3; count 1 = 2; of 0 3 = 0; of 1 3 = 1; of 1 2 = 1; between 0 2 = -2; between 0 3 = -1; link 0 2 5 = 2; router = 3");
        sentence("an IMAGE keeps all of 1: TABLES", LINE3, "rule 1 1; rule 2 5; rounds 2; turn 1 0; image = 2; turn 1 1; rounds 7; back = 2",
            "entry 1 2 0 = 16; entry 1 2 1 = 2",
            "entry 1 2 2 = 5; entry 1 2 3 = 7; entry 0 2 0 = 2; entry 0 2 2 = 2; entry 0 2 4 = 2; entry 0 0 2 = 4");
        sentence("an IMAGE keeps all of 1: the order of TABLES", "3 x router; image; link 0 2 1; rounds 1; known 0 1 = 2; back = 0",
            "known 0 1 = -2; link 0 1 1 = 0; rounds 1; known 0 1 = 1");
        sentence("an IMAGE keeps all of 1: RULES, ROUND, TOLD", LINE2, "rule 0 2; rule 1 1; rule 2 9; rounds 1; image = 1; rule 0 1",
            "rule 1 0; rule 2 0; rounds 9; back = 1",
            "count 4 = 1; count 5 = 2; rule 0 0 = 2; rule 1 0 = 1; rule 2 0 = 9");
        sentence("25: it is laid back (HOLDERS, THE TAPE stay)", LINE2, "image; row 0 2; put 0 1 8; rounds 1; hold 1 0 1; feed 110; back = 0",
            "count 7 = 1; count 8 = 2; put 0 1 0 = 8; tells 1 0 = 1; tells 1 2 = 1; script = 1; count 0 = 3");
        sentence("25: it can be laid back again", LINE2, "rounds 3; image = 3; rounds 5; back = 3; rounds 1; back = 3; back = 3; count 4 = 3");
        sentence("24: a later image is instead of it", LINE2, "image = 0; rounds 5; image = 5; rounds 1; back = 5; count 4 = 5");
    }

    // ---- promises 26 to 30: holders

    private static void holders() {
        sentence("HOLDERS 0 .. 5", LINE2, "hold -1 0 0 = -1; hold 6 0 0 = -1; row -1 0 = -1; row 6 0 = -1; tells -1 0 = -1; tells 6 0 = -1",
            "put -1 0 0 = -2000000000",
            "put 6 0 0 = -2000000000; hold LOW 0 0 = -1; row HIGH 0 = -1; tells LOW 0 = -1; put HIGH 0 0 = -2000000000; count 8 = 0",
            "hold 0 0 0 = 1; hold 5 0 0 = 1; count 8 = 2");
        sentence("six HOLDERS that hold something", LINE2, "hold 0 0 0; hold 1 1 1; row 2 0; row 3 60; row 4 1; count 8 = 5; row 5 2",
            "count 8 = 6; row 5 -1; row 2 -1; count 8 = 4");
        sentence("26: NOT: there is none", LINE2, "hold 0 0 1 = -2; count 8 = 0; row 0 2; hold 0 0 1 = -2; tells 0 0 = -12; rounds 1",
            "hold 0 0 1 = 1; tells 0 0 = 1");
        sentence("26: an ENTRY of METRIC 16 is one", LINE2, "rounds 1; turn 0 0; hold 0 0 1 = 1; tells 0 0 = 16");
        sentence("an ENTRY as it is then", LINE2, "rule 1 1; rounds 1; hold 0 0 1; hold 1 0 0; cost 0 9; rounds 4; tells 0 0 = 1",
            "tells 0 2 = 1; tells 1 1 = 2; turn 0 0; tells 0 3 = -12");
        sentence("a ROW of n (0 .. 60) ints", "row 0 61 = -1; row 0 HIGH = -1; row 0 0 = 1; put 0 0 1 = -2000000000; row 0 60 = 1",
            "put 0 59 5 = 0; put 0 60 5 = -2000000000; row 0 1 = 1; put 0 0 3 = 0; put 0 1 3 = -2000000000");
        sentence("27: nothing (n -1); -14 (n below -1)", "row 0 2; row 0 -2 = -14; row 0 LOW = -14; count 8 = 1; row 0 -1 = 1; count 8 = 0",
            "row 0 -1 = 1; row 0 -2 = -14; tells 0 0 = -11");
        sentence("27: BAD ahead of -14", "row 6 -2 = -1; row -1 LOW = -1; row 6 61 = -1; row 6 -1 = -1");
        sentence("a new ROW: 0 at first", "row 0 60; put 0 0 7; put 0 59 7; row 0 60 = 1; put 0 0 1 = 0; put 0 59 1 = 0; row 0 -1; row 0 60",
            "put 0 0 1 = 0; put 0 59 1 = 0");
        sentence("a shorter ROW, then a longer one", "row 0 60; put 0 59 7; put 0 30 7; row 0 1; put 0 0 9; row 0 60; put 0 0 1 = 0",
            "put 0 30 1 = 0; put 0 59 1 = 0");
        sentence("28: ints of any size", "row 5 1; put 5 0 LOW = 0; put 5 0 HIGH = LOW; put 5 0 -2000000000 = HIGH",
            "put 5 0 -1 = -2000000000; put 5 0 0 = -1");
        sentence("28: no such place", "row 0 2; put 0 -1 1 = -2000000000; put 0 2 1 = -2000000000; put 0 LOW 1 = -2000000000",
            "put 0 HIGH 1 = -2000000000; put 0 0 1 = 0; put 0 1 1 = 0");
        sentence("28: nothing, another sort", LINE2, "put 0 0 1 = -2000000000; hold 0 0 0; put 0 0 1 = -2000000000; tells 0 0 = 0; row 0 1",
            "put 0 0 1 = 0; row 0 -1; put 0 0 1 = -2000000000");
        sentence("each HOLDER for itself", "row 0 1; row 1 1; row 5 1; put 0 0 3; put 1 0 4; put 5 0 5; put 0 0 0 = 3; put 1 0 0 = 4; put 5 0 0 = 5");
        sentence("30: what 0 .. 8", "count -1 = -1; count 9 = -1; count LOW = -1; count HIGH = -1; count 0 = 0; count 8 = 0");
        sentence("30: ENTRIES of METRIC 16", LINE3, "rounds 2; count 6 = 0; count 3 = 9; turn 0 0; count 6 = 3; count 3 = 9; turn 1 0",
            "count 6 = 6; turn 0 1; count 6 = 6");
        sentence("30: METRIC 15 is not 16", "2 x router; link 0 1 15; rounds 1; count 6 = 0; count 3 = 4");
    }

    private static void entriesTakenFor() {
        String own = LINE2 + "rule 1 1; rounds 3; hold 0 1 1\n";
        sentence("29: OWN (d is the ROUTER): its SEQUENCE", own, "tells 0 0 = 0; tells 0 1 = 6; tells 0 2 = -12; tells 0 3 = -12");
        String reach = "2 x router; link 0 1 15; rule 1 1; rounds 3; hold 0 1 0\n";
        sentence("29: a REACH (METRIC below 16, not OWN): VIA", reach, "tells 0 0 = 15; tells 0 1 = -12; tells 0 2 = 0; tells 0 3 = -12");
        String lost = LINE2 + "rule 2 9; rounds 3; turn 0 0; hold 0 1 0\n";
        sentence("29: LOST (METRIC 16): HELD", lost, "tells 0 0 = 16; tells 0 1 = -12; tells 0 2 = -12; tells 0 3 = 12");
        sentence("29: as 0 .. 3", own, "tells 0 -1 = -1; tells 0 4 = -1; tells 0 LOW = -1; tells 0 HIGH = -1; tells 1 4 = -1; tells 1 3 = -11");
        sentence("29: -12 (a ROW)", "row 0 0; tells 0 0 = -12; tells 0 1 = -12; tells 0 2 = -12; tells 0 3 = -12; tells 0 4 = -1");
        sentence("29: -11", "tells 0 0 = -11; row 0 1; row 0 -1; tells 0 0 = -11");
    }

    private static void answersInOrder() {
        sentence("of several the one named first: link", FULL_NET, "link 0 1 0 = -1; link 0 1 1 = -5; link 9 2 15 = -5; link 3 4 16 = -1",
            "link 3 3 1 = -1; link 3 4 1 = -3; link 3 10 1 = -1");
        sentence("of several the one named first: turn", LINE2, "turn 1 1 = -1; turn 0 2 = -1; turn 0 1 = -5");
        sentence("of several the one named first: entry, then", LINE2, "entry 0 1 5 = -1; entry 0 2 0 = -1; then 0 1 0 3 = -1",
            "then 0 1 81 0 = -1; then 0 1 0 0 = -2");
        sentence("of several the one named first: judge", LINE2, "judge 0 2 = -1; row 0 5; judge 0 2 = -1; judge 6 0 = -1; hold 1 0 0",
            "judge 1 2 = -1; judge 1 0 = -12");
        sentence("of several the one named first: hold", LINE2, "hold 6 0 1 = -1; hold 0 0 2 = -1; hold 0 2 0 = -1; hold 0 0 1 = -2");
        sentence("of several the one named first: feed, drawn", "120 x feed 0; feed -1 = -1; feed 256 = -1; feed 0 = -3; drawn 0 0 = -1",
            "drawn 0 1 = -5");
        sentence("of several the one named first: way, known", LINE2, "way 0 1 -2 = -1; way 0 1 1 = -2; known 0 -1 = -1; known 2 5 = -1");
    }
}
