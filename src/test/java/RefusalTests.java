import java.util.ArrayList;
import java.util.LinkedHashMap;
import java.util.List;
import java.util.Map;

/**
 * What is refused, and what is only thought, changes nothing; an argument outside its bounds is BAD (VOID of put), one inside
 * is not; no call throws or fails to end, whatever its arguments and the state.
 */
public final class RefusalTests {
    private static final int MOST_SECONDS = 300;
    private static final int BAD = -1, VOID = -2000000000;
    private static final int LOW = Integer.MIN_VALUE, HIGH = Integer.MAX_VALUE;

    private static final String EMPTY = "";
    /** Some of each: a cut link, an own entry, a reach, a lost one, rows, an image, a text that is not done. */
    private static final String SOME = "4 x router; rule 1 1; rule 2 4; link 0 1 1; link 1 2 2; link 2 3 3; image; rounds 4; turn 2 0; rule 0 1; rounds 1\n"
        + "hold 0 1 1; hold 1 0 2; hold 2 2 3; row 3 8; put 3 1 7; row 4 0\n" + "tape n;l 0 4 2;r 1\n";
    private static final String FULL = "10 x router\n" + links() + "rounds 3; turn 5 0; row 0 60; 120 x feed 110\n";

    private static int wrong = 0;
    private static int tested = 0;

    public static void main(String[] args) {
        watch();
        refusals();
        thoughts();
        bounds();
        extremes();
        System.out.println(wrong == 0 ? tested + " calls changed nothing or were in bounds" : wrong + " faults of refusals and bounds");
        if (wrong != 0) {
            System.exit(1);
        }
    }

    /** Ends the tests with a fault if a call does not end. */
    private static void watch() {
        Thread watcher = new Thread(() -> {
            try {
                Thread.sleep(MOST_SECONDS * 1000L);
            } catch (InterruptedException ended) {
                return;
            }
            System.out.println("a call does not end");
            Runtime.getRuntime().halt(1);
        });
        watcher.setDaemon(true);
        watcher.start();
    }

    private static String links() {
        StringBuilder text = new StringBuilder();
        for (int a = 0; a < 3; a++) {
            for (int b = a + 1; b < 10; b++) {
                text.append("link ").append(a).append(' ').append(b).append(" 1\n");
            }
        }
        return text.toString();
    }

    private static void fault(String what) {
        wrong++;
        if (wrong <= 40) {
            System.out.println(what);
        }
    }

    // ---- nothing changes

    /** The calls that look at all there is, in parts that are made on an object each. */
    private static List<String> looks(int routers, int links) {
        List<String> looks = new ArrayList<>();
        StringBuilder all = new StringBuilder();
        for (int what = 0; what <= 8; what++) {
            all.append("count ").append(what).append('\n');
        }
        for (int link = 0; link < links; link++) {
            for (int what = 0; what < 4; what++) {
                all.append("of ").append(link).append(' ').append(what).append('\n');
            }
        }
        looks.add(all + "told 0; told 1; told 2; told 3; told 4; told 5; rule 0 0; rule 1 0; rule 2 0");
        for (int what = 0; what < 5; what++) {
            StringBuilder entries = new StringBuilder();
            for (int r = 0; r < routers; r++) {
                for (int d = 0; d < routers; d++) {
                    entries.append("entry ").append(r).append(' ').append(d).append(' ').append(what).append('\n');
                }
            }
            looks.add(entries.toString());
        }
        StringBuilder pairs = new StringBuilder();
        for (int a = 0; a < routers; a++) {
            for (int b = 0; b < routers; b++) {
                pairs.append("between ").append(a).append(' ').append(b).append('\n');
                pairs.append("known ").append(a).append(' ').append(b).append('\n');
            }
        }
        looks.add(pairs.toString());
        looks.add(holderLooks(0) + "row 0 2; row 4 3; row 5 1");
        looks.add(holderLooks(3));
        looks.add("script; count 0; count 1; count 2; count 3; count 4; count 7; drawn 3 5; script");
        looks.add("back; count 0; count 1; count 2; count 3; count 4; count 5; count 6; of 2 3; rule 0 0; rule 1 0; rule 2 0; entry 0 1 0; entry 0 2 0; image");
        looks.add("router; link 0 1 4; link 0 3 4; turn 0 0; turn 2 1; cost 1 4; rounds 2; count 5; hold 0 0 1; tells 0 0; feed 7; count 7; told 0");
        return looks;
    }

    private static String holderLooks(int first) {
        StringBuilder holders = new StringBuilder();
        for (int h = first; h < first + 3; h++) {
            for (int as = 0; as < 4; as++) {
                holders.append("tells ").append(h).append(' ').append(as).append('\n');
            }
            holders.append("judge ").append(h).append(" 0\n");
            for (int i = 0; i < 61; i += i < 8 ? 1 : 6) {
                holders.append("put ").append(h).append(' ').append(i).append(" 0\n");
            }
        }
        return holders.toString();
    }

    /** Each of the calls, made behind the start, is answered as it says and leaves all as it was. */
    private static void changeNothing(String start, int routers, int links, String... calls) {
        List<String> looks = looks(routers, links);
        List<List<Integer>> due = new ArrayList<>();
        for (String look : looks) {
            Calls without = new Calls();
            without.run(start);
            due.add(without.run(look));
        }
        for (String call : calls) {
            tested++;
            for (int i = 0; i < looks.size(); i++) {
                Calls with = new Calls();
                with.run(start);
                with.run(call);
                List<Integer> got = with.run(looks.get(i));
                for (String f : with.faults()) {
                    fault("behind [" + start + "]: " + f);
                }
                if (!got.equals(due.get(i))) {
                    fault("behind [" + start + "]: " + call + " changes something: " + looks.get(i) + " told " + got + ", due is " + due.get(i));
                    break;
                }
            }
        }
    }

    private static void refusals() {
        changeNothing(EMPTY, 0, 0, "link 0 1 1 = -1", "turn 0 0 = -1", "cost 0 1 = -1", "rule 3 0 = -1", "rule 0 3 = -1", "of 0 0 = -1",
            "between 0 0 = -1",
            "rounds 0 = -1", "rounds 81 = -1", "entry 0 0 0 = -1", "known 0 0 = -1", "told 6 = -1", "then 0 0 0 0 = -1",
            "way 0 0 0 = -1", "ends 0 0 = -1",
            "shortest 0 0 = -1", "counts 0 0 = -1", "packet 0 0 1 0 = -1", "tried 3 = -1", "judge 0 0 = -1", "drawn 1 0 = -1",
            "drawn 1 12 = -5",
            "feed -1 = -1", "feed 256 = -1", "script = -1000", "back = -5", "hold 0 0 0 = -1", "row 6 0 = -1", "row 0 61 = -1",
            "row 0 -2 = -14",
            "put 0 0 1 = -2000000000", "tells 0 0 = -11", "tells 6 0 = -1", "count 9 = -1");
        changeNothing(SOME, 4, 3, "link 0 4 1 = -1", "link -1 0 1 = -1", "link 0 0 1 = -1", "link 0 2 0 = -1", "link 0 2 16 = -1",
            "link 1 0 5 = -5", "link 2 3 5 = -5",
            "turn 3 0 = -1", "turn -1 1 = -1", "turn 0 2 = -1", "turn 2 -1 = -1", "turn 0 1 = -5", "turn 2 0 = -5", "cost 3 1 = -1",
            "cost 0 0 = -1", "cost 0 16 = -1", "cost -1 4 = -1",
            "rule 0 3 = -1", "rule 1 2 = -1", "rule 2 10 = -1", "rule 0 -1 = -1", "rule 1 -1 = -1", "rule 2 -1 = -1", "rule -1 0 = -1",
            "rule 3 0 = -1",
            "of 3 0 = -1", "of 0 4 = -1", "between 0 4 = -1", "between 0 2 = -2", "rounds 0 = -1", "rounds -1 = -1", "rounds 81 = -1",
            "rounds HIGH = -1",
            "entry 0 4 0 = -1", "entry 0 1 5 = -1", "known 0 -1 = -1", "known 0 4 = -2", "told 6 = -1", "then 0 0 81 0 = -1",
            "then 0 0 0 3 = -1", "way 0 1 -2 = -1", "way 0 1 9 = -2",
            "ends 4 0 = -1", "shortest 0 4 = -1", "shortest 0 3 = -2", "counts 4 0 = -1", "counts 1 1 = -2", "packet 0 1 0 0 = -1",
            "packet 0 1 41 0 = -1", "packet 0 1 1 2 = -1", "tried 3 = -1",
            "judge 5 0 = -11", "judge 0 0 = -12", "judge 3 4 = -1", "drawn 1 0 = -1", "drawn 1 13 = -1", "feed -1 = -1", "feed 256 = -1",
            "hold 0 0 4 = -1", "hold 6 0 0 = -1", "hold 3 4 0 = -1", "row 6 0 = -1", "row 3 61 = -1", "row 3 -2 = -14", "row 0 -2 = -14",
            "row 0 61 = -1", "row 0 LOW = -14", "row 3 HIGH = -1",
            "put 3 8 1 = -2000000000", "put 3 -1 1 = -2000000000", "put 4 0 1 = -2000000000", "put 0 0 1 = -2000000000",
            "put 5 0 1 = -2000000000", "put 6 0 1 = -2000000000",
            "tells 0 2 = -12", "tells 3 0 = -12", "tells 5 0 = -11", "tells 0 4 = -1", "count 9 = -1", "count -1 = -1");
        changeNothing(SOME + "router\n", 5, 3, "hold 0 0 4 = -2", "hold 3 4 1 = -2", "hold 5 0 4 = -2", "entry 0 4 0 = -2");
        changeNothing(SOME + "row 3 9\n", 4, 3, "judge 3 0 = -13");
        changeNothing(SOME + "row 3 10\n", 4, 3, "judge 3 0 = -13");
        changeNothing(FULL, 10, 24, "router = -3", "link 3 4 1 = -3", "link 0 1 1 = -5", "link 3 4 0 = -1", "feed 110 = -3",
            "feed 256 = -1", "drawn 1 13 = -1", "back = -5",
            "judge 0 0 = -13", "row 0 61 = -1", "row 0 -2 = -14", "put 0 60 3 = -2000000000", "turn 5 0 = -5", "turn 24 1 = -1",
            "cost 24 1 = -1", "rounds 81 = -1", "hold 6 0 0 = -1");
        refusedTexts();
    }

    /** A text that is refused leaves all but the tape; so the tape is emptied ahead of it on both sides. */
    private static void refusedTexts() {
        String start = SOME + "script\n";
        List<String> calls = new ArrayList<>();
        Map<String, Integer> texts = new LinkedHashMap<>();
        texts.put("n;", -1002);
        texts.put("n;c 0;r 80;x", -1011);
        texts.put("r 3;h 9", -2001);
        texts.put("n;l 0 5 3;c 0;w 1 7;h 2;q 0;d 9;r 5;r 0", -2008);
        texts.put("c 0;u 0;c 0;c 0", -2003);
        texts.put("u 2;r 9;u 2", -2002);
        for (Map.Entry<String, Integer> text : texts.entrySet()) {
            calls.add("tape " + text.getKey() + "\nscript = " + text.getValue());
        }
        changeNothing(start, 5, 4, calls.toArray(new String[0]));
        changeNothing("", 0, 0, "tape n;n;l 0 1 1;r 9;c 1\nscript = -2004", "tape n;n;l 0 1 1;r 9;c\nscript = -1017",
            "tape n;n;n;n;n;n;n;n;n;n;n\nscript = -2010");
    }

    private static void thoughts() {
        List<String> calls = new ArrayList<>();
        for (int what = 0; what <= 5; what++) {
            calls.add("told " + what);
        }
        for (int what = 0; what <= 2; what++) {
            calls.add("tried " + what);
            calls.add("then 0 2 80 " + what);
            calls.add("then 1 3 1 " + what);
        }
        calls.addAll(List.of("way 0 2 -1", "way 0 2 1", "ends 0 2", "ends 1 3", "shortest 0 2", "counts 0 2", "counts 1 3",
            "packet 0 2 40 0", "packet 0 3 40 1",
            "judge 3 0", "judge 4 1", "entry 0 2 4", "known 0 1", "of 0 2", "between 0 1", "tells 0 1", "tells 1 2", "tells 2 3",
            "count 5", "count 6"));
        String[] all = calls.toArray(new String[0]);
        changeNothing(SOME, 4, 3, all);
        changeNothing(SOME + "turn 2 1; rule 0 2; cost 0 9; rounds 1; turn 0 0\n", 4, 3, all);
        changeNothing(FULL + "rule 2 9; cost 3 15; turn 0 0; turn 10 0\n", 10, 24, all);
    }

    // ---- bounds of arguments

    /** The bounds of each call's arguments: R a router, L a link, H a holder. */
    private static final String[][] BOUNDS = {
        {"link", "R", "R", "1 15"}, {"turn", "L", "0 1"}, {"cost", "L", "1 15"}, {"rule", "0 2", "0 9"}, {"of", "L", "0 3"},
        {"between", "R", "R"},
        {"rounds", "1 80"}, {"entry", "R", "R", "0 4"}, {"known", "R", "0 HIGH"}, {"told", "0 5"}, {"then", "R", "R", "0 80", "0 2"},
        {"way", "R", "R", "-1 HIGH"},
        {"ends", "R", "R"}, {"shortest", "R", "R"}, {"counts", "R", "R"}, {"packet", "R", "R", "1 40", "0 1"}, {"tried", "0 2"},
        {"judge", "H", "R"},
        {"drawn", "LOW HIGH", "1 12"}, {"feed", "0 255"}, {"hold", "H", "R", "R"}, {"row", "H", "LOW 60"},
        {"put", "H", "0 7", "LOW HIGH"}, {"tells", "H", "0 3"}, {"count", "0 8"}};

    private static void bounds() {
        for (String[] call : BOUNDS) {
            bounds(call, EMPTY, 0, 0);
            bounds(call, SOME, 4, 3);
            bounds(call, FULL, 10, 24);
        }
    }

    private static void bounds(String[] call, String start, int routers, int links) {
        int many = call.length - 1;
        long[] least = new long[many];
        long[] most = new long[many];
        for (int i = 0; i < many; i++) {
            String bound = call[i + 1];
            boolean named = bound.length() == 1;
            least[i] = named ? 0 : Calls.number(bound.split(" ")[0]);
            most[i] = !named ? Calls.number(bound.split(" ")[1]) : bound.equals("R") ? routers - 1 : bound.equals("L") ? links - 1 : 5;
        }
        boundsFrom(call[0], start, least, most, new int[many], 0, true);
    }

    private static void boundsFrom(String name, String start, long[] least, long[] most, int[] args, int at, boolean inside) {
        if (at == args.length) {
            boundsOf(name, start, args.clone(), inside);
            return;
        }
        List<Long> tries = new ArrayList<>(List.of(least[at] - 1, least[at], (least[at] + most[at]) / 2, most[at], most[at] + 1, (long) LOW, (long) HIGH));
        for (long value : tries.stream().distinct().filter(v -> v >= LOW && v <= HIGH).toList()) {
            args[at] = (int) value;
            boundsFrom(name, start, least, most, args, at + 1, inside && value >= least[at] && value <= most[at]);
        }
    }

    private static void boundsOf(String name, String start, int[] args, boolean inside) {
        tested++;
        Calls calls = new Calls();
        calls.run(start);
        int answer = calls.call(name, args);
        String told = "behind [" + start + "]: " + name + java.util.Arrays.toString(args) + " answered " + answer;
        for (String f : calls.faults()) {
            fault(told + ": " + f);
        }
        boolean alike = name.equals("link") && args[0] == args[1];
        if (name.equals("rule") && inside) {
            inside = args[1] <= new int[] {2, 1, 9}[args[0]];
        }
        // Without a ROW there is no place at all; holder 3 of SOME has one of 8 ints, holder 0 of FULL one of 60.
        boolean placeless = name.equals("put") && !(start.equals(SOME) && args[0] == 3 || start.equals(FULL) && args[0] == 0);
        boolean longRow = name.equals("put") && start.equals(FULL) && args[1] > 7 && args[1] < 60;
        int refused = name.equals("put") ? VOID : BAD;
        if (!longRow && (answer == refused) == (inside && !alike && !placeless)) {
            fault(told);
        }
    }

    /** Any arguments in any state: nothing is thrown, and all ends. */
    private static void extremes() {
        int[] values = {LOW, LOW + 1, -2000000000, -1000001, -1001, -101, -16, -15, -14, -3, -2, -1, 0, 1, 2, 3, 5, 6, 9, 10, 15, 16, 23, 24, 40, 41, 60, 61, 80, 81, 99, 100,
            120, 121, 255, 256, 1000000, 2000000000, HIGH - 1, HIGH};
        long seed = 4711;
        String[] starts = {EMPTY, SOME, FULL, "2 x router; link 0 1 15; rounds 80\n", "10 x router; drawn 5 12; drawn 9 12; rounds 12; rule 0 2; rule 2 9; image\n"};
        for (int run = 0; run < 600; run++) {
            Calls calls = new Calls();
            calls.run(starts[run % starts.length]);
            StringBuilder told = new StringBuilder();
            for (int i = 0; i < 240 && calls.faults().isEmpty(); i++) {
                seed = seed * 6364136223846793005L + 1442695040888963407L;
                String[] call = BOUNDS[(int) ((seed >>> 33) % BOUNDS.length)];
                int[] args = new int[call.length - 1];
                for (int k = 0; k < args.length; k++) {
                    seed = seed * 6364136223846793005L + 1442695040888963407L;
                    args[k] = values[(int) ((seed >>> 33) % (run % 2 == 0 ? values.length : 12)) + (run % 2 == 0 ? 0 : 11)];
                }
                told.append(call[0]).append(java.util.Arrays.toString(args)).append(' ');
                calls.call(call[0], args);
                if (i % 20 == 0) {
                    calls.run("script; router; image; back");
                }
            }
            tested++;
            for (String f : calls.faults()) {
                fault("run " + run + " of extremes: " + f + " behind " + told);
            }
        }
    }
}
