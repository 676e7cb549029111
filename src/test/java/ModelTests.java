import java.util.ArrayList;
import java.util.LinkedHashMap;
import java.util.List;
import java.util.Map;
import java.util.regex.Matcher;
import java.util.regex.Pattern;

/** Long runs of drawn calls: the program against a second one, written from the document in another manner. */
public final class ModelTests {
    /** An object is promised for so many calls; the last of them look at its tables. */
    private static final int MOST_CALLS = 512, LOOKS = 90;
    private static final int RUNS = 1800;
    private static int wrong = 0;

    public static void main(String[] args) {
        for (int run = 0; run < RUNS && wrong < 20; run++) {
            new Run(run).go();
        }
        System.out.println(wrong == 0 ? "the model agrees" : wrong + " answers differ from the model's");
        if (wrong != 0) {
            System.exit(1);
        }
    }

    /** An entry of a table. */
    static final class Entry {
        int metric, via, sequence, held;

        Entry(int metric, int via, int sequence, int held) {
            this.metric = metric;
            this.via = via;
            this.sequence = sequence;
            this.held = held;
        }

        Entry twin() {
            return new Entry(metric, via, sequence, held);
        }
    }

    static final class Link {
        final int a, b;
        int cost;
        boolean up = true;

        Link(int a, int b, int cost) {
            this.a = Math.min(a, b);
            this.b = Math.max(a, b);
            this.cost = cost;
        }

        boolean joins(int x, int y) {
            return a == Math.min(x, y) && b == Math.max(x, y);
        }
    }

    record Message(int to, int from, int d, int metric, int sequence, int cost) { }

    /** Section 1 of the document. */
    static final class Net {
        List<Map<Integer, Entry>> tables = new ArrayList<>();
        List<Link> links = new ArrayList<>();
        int[] rules = new int[3];
        int round, told;

        Net twin() {
            Net n = new Net();
            for (Map<Integer, Entry> t : tables) {
                Map<Integer, Entry> copy = new LinkedHashMap<>();
                t.forEach((d, e) -> copy.put(d, e.twin()));
                n.tables.add(copy);
            }
            for (Link l : links) {
                Link copy = new Link(l.a, l.b, l.cost);
                copy.up = l.up;
                n.links.add(copy);
            }
            n.rules = rules.clone();
            n.round = round;
            n.told = told;
            return n;
        }

        int between(int a, int b) {
            for (int i = 0; i < links.size(); i++) {
                if (links.get(i).joins(a, b)) {
                    return i;
                }
            }
            return -2;
        }

        void cut(int link) {
            Link l = links.get(link);
            l.up = false;
            for (int side = 0; side < 2; side++) {
                int here = side == 0 ? l.a : l.b;
                int there = side == 0 ? l.b : l.a;
                for (Entry e : tables.get(here).values()) {
                    if (e.via == there && e.metric < 16) {
                        e.metric = 16;
                        e.held = round + rules[2];
                        if (rules[1] == 1) {
                            e.sequence++;
                        }
                    }
                }
            }
        }

        int oneRound() {
            round++;
            if (rules[1] == 1) {
                for (int r = 0; r < tables.size(); r++) {
                    tables.get(r).get(r).sequence += 2;
                }
            }
            Net old = twin();
            for (Message m : allTold()) {
                told++;
                receive(m);
            }
            int changed = 0;
            for (int r = 0; r < tables.size(); r++) {
                for (Map.Entry<Integer, Entry> pair : tables.get(r).entrySet()) {
                    Entry was = old.tables.get(r).get(pair.getKey());
                    Entry is = pair.getValue();
                    changed += was == null || was.metric != is.metric || was.via != is.via ? 1 : 0;
                }
            }
            return changed;
        }

        private List<Message> allTold() {
            List<Message> messages = new ArrayList<>();
            for (int s = 0; s < tables.size(); s++) {
                for (int r = 0; r < tables.size(); r++) {
                    int link = between(s, r);
                    if (link < 0 || !links.get(link).up) {
                        continue;
                    }
                    for (Map.Entry<Integer, Entry> pair : tables.get(s).entrySet()) {
                        Entry e = pair.getValue();
                        boolean viaThat = e.via == r;
                        if (viaThat && rules[0] == 1) {
                            continue;
                        }
                        int metric = viaThat && rules[0] == 2 ? 16 : e.metric;
                        messages.add(new Message(r, s, pair.getKey(), metric, e.sequence, links.get(link).cost));
                    }
                }
            }
            return messages;
        }

        private void receive(Message m) {
            if (m.d == m.to) {
                return;
            }
            int x = m.metric + m.cost > 16 ? 16 : m.metric + m.cost;
            Entry e = tables.get(m.to).get(m.d);
            if (e == null) {
                if (x < 16) {
                    tables.get(m.to).put(m.d, new Entry(x, m.from, m.sequence, 0));
                }
            } else if (rules[1] == 0) {
                if (e.via == m.from) {
                    fall(e, x);
                    e.metric = x;
                } else {
                    improve(e, x, m.from);
                }
            } else if (m.sequence > e.sequence) {
                if (x < 16 || e.via == m.from) {
                    fall(e, x);
                    e.metric = x;
                    e.via = m.from;
                    e.sequence = m.sequence;
                }
            } else if (m.sequence == e.sequence) {
                improve(e, x, m.from);
            }
        }

        private void fall(Entry e, int x) {
            if (e.metric < 16 && x == 16) {
                e.held = round + rules[2];
            }
        }

        private void improve(Entry e, int x, int s) {
            if (x < e.metric && e.held < round) {
                e.metric = x;
                e.via = s;
            }
        }

        int settled() {
            Net n = twin();
            for (int k = 0; k <= 80; k++) {
                if (n.oneRound() == 0) {
                    return k;
                }
            }
            return -2;
        }

        List<Integer> way(int a, int d) {
            List<Integer> stops = new ArrayList<>();
            int at = a;
            while (!stops.contains(at)) {
                stops.add(at);
                Entry e = tables.get(at).get(d);
                if (at == d || e == null || e.metric == 16) {
                    return stops;
                }
                at = e.via;
            }
            stops.add(-1);
            return stops;
        }

        boolean loop(int a, int d) {
            return way(a, d).contains(-1);
        }

        int loops() {
            int n = 0;
            for (int a = 0; a < tables.size(); a++) {
                for (int d = 0; d < tables.size(); d++) {
                    n += loop(a, d) ? 1 : 0;
                }
            }
            return n;
        }

        int[][] distances(int without) {
            int n = tables.size();
            int[][] far = new int[n][n];
            for (int[] line : far) {
                java.util.Arrays.fill(line, 9999);
            }
            for (int i = 0; i < n; i++) {
                far[i][i] = 0;
            }
            for (int i = 0; i < links.size(); i++) {
                Link l = links.get(i);
                if (l.up && i != without) {
                    far[l.a][l.b] = l.cost;
                    far[l.b][l.a] = l.cost;
                }
            }
            for (int k = 0; k < n; k++) {
                for (int i = 0; i < n; i++) {
                    for (int j = 0; j < n; j++) {
                        far[i][j] = Math.min(far[i][j], far[i][k] + far[k][j]);
                    }
                }
            }
            return far;
        }

        int joined(int without) {
            int n = 0;
            for (int[] line : distances(without)) {
                for (int far : line) {
                    n += far < 9999 ? 1 : 0;
                }
            }
            return n;
        }

        int metric(int r, int d) {
            Entry e = tables.get(r).get(d);
            return e == null ? 16 : e.metric;
        }
    }

    /** All the calls, as the promises tell them. */
    static final class Model {
        static final Pattern TEXT;

        static {
            String n = " [0-9]{1,2}";
            String line = "(?:n|l" + n + n + n + "|[cuhqdr]" + n + "|w" + n + n + ")";
            TEXT = Pattern.compile(line + "(?:;" + line + ")*");
        }

        Net net = new Net();
        Net image;
        StringBuilder tape = new StringBuilder();
        Object[] holders = new Object[6];

        boolean router(int r) {
            return r >= 0 && r < net.tables.size();
        }

        int call(String name, int[] x) {
            switch (name) {
                case "router":
                    if (net.tables.size() == 10) {
                        return -3;
                    }
                    int r = net.tables.size();
                    net.tables.add(new LinkedHashMap<>());
                    net.tables.get(r).put(r, new Entry(0, r, 0, 0));
                    return r;
                case "link":
                    if (!router(x[0]) || !router(x[1]) || x[0] == x[1] || x[2] < 1 || x[2] > 15) {
                        return -1;
                    }
                    if (net.between(x[0], x[1]) >= 0) {
                        return -5;
                    }
                    if (net.links.size() == 24) {
                        return -3;
                    }
                    net.links.add(new Link(x[0], x[1], x[2]));
                    return net.links.size() - 1;
                case "turn":
                    if (!link(x[0]) || x[1] != 0 && x[1] != 1) {
                        return -1;
                    }
                    if (net.links.get(x[0]).up == (x[1] == 1)) {
                        return -5;
                    }
                    if (x[1] == 0) {
                        net.cut(x[0]);
                    } else {
                        net.links.get(x[0]).up = true;
                    }
                    return 1;
                case "cost":
                    if (!link(x[0]) || x[1] < 1 || x[1] > 15) {
                        return -1;
                    }
                    int was = net.links.get(x[0]).cost;
                    net.links.get(x[0]).cost = x[1];
                    return was;
                case "rule":
                    if (x[0] < 0 || x[0] > 2 || x[1] < 0 || x[1] > new int[] {2, 1, 9}[x[0]]) {
                        return -1;
                    }
                    int old = net.rules[x[0]];
                    net.rules[x[0]] = x[1];
                    return old;
                case "of":
                    if (!link(x[0]) || x[1] < 0 || x[1] > 3) {
                        return -1;
                    }
                    Link l = net.links.get(x[0]);
                    return new int[] {l.a, l.b, l.cost, l.up ? 1 : 0}[x[1]];
                case "between":
                    return router(x[0]) && router(x[1]) ? net.between(x[0], x[1]) : -1;
                case "rounds":
                    if (x[0] < 1 || x[0] > 80) {
                        return -1;
                    }
                    int sum = 0;
                    for (int i = 0; i < x[0]; i++) {
                        sum += net.oneRound();
                    }
                    return sum;
                case "entry":
                    if (!router(x[0]) || !router(x[1]) || x[2] < 0 || x[2] > 4) {
                        return -1;
                    }
                    Entry e = net.tables.get(x[0]).get(x[1]);
                    if (e == null) {
                        return -2;
                    }
                    int place = new ArrayList<>(net.tables.get(x[0]).keySet()).indexOf(x[1]);
                    return new int[] {e.metric, e.via, e.sequence, e.held, place}[x[2]];
                case "known":
                    if (!router(x[0]) || x[1] < 0) {
                        return -1;
                    }
                    List<Integer> keys = new ArrayList<>(net.tables.get(x[0]).keySet());
                    return x[1] < keys.size() ? keys.get(x[1]) : -2;
                default:
                    return thought(name, x);
            }
        }

        boolean link(int n) {
            return n >= 0 && n < net.links.size();
        }

        int thought(String name, int[] x) {
            switch (name) {
                case "told":
                    return told(x[0]);
                case "then":
                    if (!router(x[0]) || !router(x[1]) || x[2] < 0 || x[2] > 80 || x[3] < 0 || x[3] > 2) {
                        return -1;
                    }
                    Net n = net.twin();
                    for (int i = 0; i < x[2]; i++) {
                        n.oneRound();
                    }
                    if (x[3] == 2) {
                        return n.loops();
                    }
                    Entry e = n.tables.get(x[0]).get(x[1]);
                    return e == null ? -2 : x[3] == 0 ? e.metric : e.via;
                case "way":
                    if (!router(x[0]) || !router(x[1]) || x[2] < -1) {
                        return -1;
                    }
                    List<Integer> stops = net.way(x[0], x[1]);
                    stops.remove((Integer) (-1));
                    return x[2] == -1 ? stops.size() : x[2] < stops.size() ? stops.get(x[2]) : -2;
                case "ends":
                    if (!router(x[0]) || !router(x[1])) {
                        return -1;
                    }
                    return net.loop(x[0], x[1]) ? 2 : net.way(x[0], x[1]).contains(x[1]) ? 1 : 0;
                case "shortest":
                    if (!router(x[0]) || !router(x[1])) {
                        return -1;
                    }
                    int far = net.distances(-1)[x[0]][x[1]];
                    return far == 9999 ? -2 : far;
                case "counts":
                    if (!router(x[0]) || !router(x[1])) {
                        return -1;
                    }
                    Net c = net.twin();
                    int behind = 0;
                    while (behind <= 80 && c.metric(x[0], x[1]) < 16) {
                        behind++;
                        c.oneRound();
                    }
                    return behind > 80 ? -2 : behind;
                case "packet":
                    if (!router(x[0]) || !router(x[1]) || x[2] < 1 || x[2] > 40 || x[3] < 0 || x[3] > 1) {
                        return -1;
                    }
                    Net p = net.twin();
                    int at = x[0];
                    int steps = 0;
                    for (; steps < x[2] && at != x[1] && p.metric(at, x[1]) < 16; steps++) {
                        at = p.tables.get(at).get(x[1]).via;
                        p.oneRound();
                    }
                    return x[3] == 0 ? at : steps;
                case "tried":
                    return tried(x[0]);
                default:
                    return texts(name, x);
            }
        }

        int told(int what) {
            switch (what) {
                case 0: return net.settled();
                case 1:
                    Net n = net.twin();
                    for (int k = 0; k <= 80; k++) {
                        if (n.loops() > 0) {
                            return k;
                        }
                        n.oneRound();
                    }
                    return -2;
                case 2: return net.loops();
                case 3:
                    int right = 0;
                    int[][] far = net.distances(-1);
                    for (int a = 0; a < far.length; a++) {
                        for (int d = 0; d < far.length; d++) {
                            right += net.metric(a, d) == Math.min(16, far[a][d]) ? 1 : 0;
                        }
                    }
                    return right;
                case 4:
                    int worst = -2;
                    int most = -1;
                    for (int i = 0; i < net.links.size(); i++) {
                        if (net.links.get(i).up) {
                            Net cut = net.twin();
                            cut.cut(i);
                            int s = cut.settled();
                            int much = s == -2 ? 1000 : s;
                            if (much > most) {
                                most = much;
                                worst = i;
                            }
                        }
                    }
                    return worst;
                case 5:
                    int needed = 0;
                    for (int i = 0; i < net.links.size(); i++) {
                        needed += net.joined(i) < net.joined(-1) ? 1 : 0;
                    }
                    return needed;
                default: return -1;
            }
        }

        int tried(int what) {
            if (what < 0 || what > 2) {
                return -1;
            }
            int[] best = null;
            for (int i = 0; i < 6; i++) {
                Net n = net.twin();
                n.rules[0] = i / 2;
                n.rules[1] = i % 2;
                int s = n.settled();
                int much = s == -2 ? 1000 : s;
                if (best == null || much < best[3]) {
                    best = new int[] {i / 2, i % 2, s, much};
                }
            }
            return best[what];
        }

        int texts(String name, int[] x) {
            switch (name) {
                case "judge": return judge(x[0], x[1]);
                case "drawn": return drawn(x[0], x[1]);
                case "feed":
                    if (x[0] < 0 || x[0] > 255) {
                        return -1;
                    }
                    if (tape.length() == 120) {
                        return -3;
                    }
                    return tape.append((char) x[0]).length();
                case "script": return script();
                case "image":
                    image = net.twin();
                    return net.round;
                case "back":
                    if (image == null) {
                        return -5;
                    }
                    net = image.twin();
                    return net.round;
                case "hold":
                    if (!holder(x[0]) || !router(x[1]) || !router(x[2])) {
                        return -1;
                    }
                    Entry e = net.tables.get(x[1]).get(x[2]);
                    if (e == null) {
                        return -2;
                    }
                    holders[x[0]] = new Object[] {e.twin(), x[1] == x[2]};
                    return 1;
                case "row":
                    if (!holder(x[0]) || x[1] > 60) {
                        return -1;
                    }
                    if (x[1] < -1) {
                        return -14;
                    }
                    holders[x[0]] = x[1] == -1 ? null : new int[x[1]];
                    return 1;
                case "put":
                    if (!holder(x[0]) || !(holders[x[0]] instanceof int[] row) || x[1] < 0 || x[1] >= row.length) {
                        return -2000000000;
                    }
                    int was = row[x[1]];
                    row[x[1]] = x[2];
                    return was;
                case "tells": return tells(x[0], x[1]);
                default: return count(x[0]);
            }
        }

        boolean holder(int n) {
            return n >= 0 && n <= 5;
        }

        int judge(int holder, int router) {
            if (!holder(holder) || !router(router)) {
                return -1;
            }
            if (holders[holder] == null) {
                return -11;
            }
            if (!(holders[holder] instanceof int[] row)) {
                return -12;
            }
            if (row.length % 2 == 1 || row.length > 2 * net.tables.size()) {
                return -13;
            }
            for (int d = 0; 2 * d < row.length; d++) {
                Entry e = net.tables.get(router).getOrDefault(d, new Entry(16, router, 0, 0));
                if (row[2 * d] != e.metric || row[2 * d + 1] != e.via) {
                    return d;
                }
            }
            return row.length == 2 * net.tables.size() ? -2 : row.length / 2;
        }

        int drawn(int seed, int n) {
            if (n < 1 || n > 12) {
                return -1;
            }
            int many = net.tables.size();
            if (many < 2) {
                return -5;
            }
            int z = seed;
            for (int i = 0; i < n; i++) {
                z = z * 1103515245 + 12345;
                int x = (z >>> 16) & 32767;
                int a = x % many;
                int b = (x / 10) % many;
                int link = net.between(a, b);
                if (a == b) {
                    continue;
                }
                if (link == -2) {
                    if (net.links.size() < 24) {
                        net.links.add(new Link(a, b, 1 + (x / 100) % 15));
                    }
                } else if (net.links.get(link).up) {
                    net.cut(link);
                } else {
                    net.links.get(link).up = true;
                }
            }
            return net.links.size();
        }

        int script() {
            String text = tape.toString();
            tape.setLength(0);
            for (int i = 1; i <= text.length(); i++) {
                Matcher m = TEXT.matcher(text.substring(0, i));
                if (!m.matches() && !m.hitEnd()) {
                    return -1000 - (i - 1);
                }
            }
            if (!TEXT.matcher(text).matches()) {
                return -1000 - text.length();
            }
            Net ahead = net.twin();
            String[] lines = text.split(";");
            for (int i = 0; i < lines.length; i++) {
                if (line(lines[i].split(" ")) < 0) {
                    net = ahead;
                    return -2000 - i;
                }
            }
            return lines.length;
        }

        int line(String[] words) {
            int[] n = new int[3];
            for (int i = 1; i < words.length; i++) {
                n[i - 1] = Integer.parseInt(words[i]);
            }
            switch (words[0]) {
                case "n": return call("router", n);
                case "l": return call("link", n);
                case "c": return call("turn", new int[] {n[0], 0});
                case "u": return call("turn", new int[] {n[0], 1});
                case "w": return call("cost", n);
                case "r": return call("rounds", n);
                default: return call("rule", new int[] {"hqd".indexOf(words[0]), n[0]});
            }
        }

        int tells(int holder, int as) {
            if (!holder(holder) || as < 0 || as > 3) {
                return -1;
            }
            if (holders[holder] == null) {
                return -11;
            }
            if (holders[holder] instanceof int[]) {
                return -12;
            }
            Entry e = (Entry) ((Object[]) holders[holder])[0];
            boolean own = (Boolean) ((Object[]) holders[holder])[1];
            if (as == 0) {
                return e.metric;
            }
            if (own) {
                return as == 1 ? e.sequence : -12;
            }
            if (e.metric == 16) {
                return as == 3 ? e.held : -12;
            }
            return as == 2 ? e.via : -12;
        }

        int count(int what) {
            int up = 0;
            for (Link l : net.links) {
                up += l.up ? 1 : 0;
            }
            int entries = 0;
            int lost = 0;
            for (Map<Integer, Entry> t : net.tables) {
                for (Entry e : t.values()) {
                    entries++;
                    lost += e.metric == 16 ? 1 : 0;
                }
            }
            int full = 0;
            for (Object h : holders) {
                full += h != null ? 1 : 0;
            }
            int[] all = {net.tables.size(), net.links.size(), up, entries, net.round, net.told, lost, tape.length(), full};
            return what < 0 || what >= all.length ? -1 : all[what];
        }
    }

    /** One run: drawn calls on a new object, each with the model's answer. */
    static final class Run {
        final int number;
        final VectorRounds program = new VectorRounds();
        final Model model = new Model();
        final StringBuilder calls = new StringBuilder();
        long seed;
        int routersWanted;
        int made;
        boolean told;

        Run(int number) {
            this.number = number;
            seed = number * 7919L + 17;
            routersWanted = 2 + draw(9);
        }

        int draw(int n) {
            seed = seed * 6364136223846793005L + 1442695040888963407L;
            return (int) ((seed >>> 33) % n);
        }

        /** Mostly low .. high, seldom just outside or far off. */
        int near(int low, int high) {
            switch (draw(60)) {
                case 0: return low - 1;
                case 1: return high + 1;
                case 2: return new int[] {Integer.MIN_VALUE, Integer.MAX_VALUE, -2, 100, 256, -1000}[draw(6)];
                default: return low + draw(high - low + 1);
            }
        }

        int router() {
            return near(0, Math.max(0, model.net.tables.size() - 1));
        }

        int link() {
            return near(0, Math.max(0, model.net.links.size() - 1));
        }

        void go() {
            for (int i = 0; i < routersWanted; i++) {
                check("router");
            }
            if (number % 3 == 0) {
                fewLinks();
            } else if (number % 5 == 0) {
                highSequences();
            }
            while (made < MOST_CALLS - LOOKS && !told) {
                step();
            }
            lookAtTables();
        }

        /** A part of the tables, another one in each run. */
        void lookAtTables() {
            int many = model.net.tables.size();
            int first = draw(many * many);
            for (int i = 0; made < MOST_CALLS && !told; i++) {
                int cell = (first + i / 6) % (many * many);
                if (i % 6 == 5) {
                    check("known", cell / many, cell % many);
                } else {
                    check("entry", cell / many, cell % many, i % 6);
                }
            }
        }

        /** A tree with few links more, one link cut or dearer, again and again, when it is settled: where loops and counting come from. */
        void fewLinks() {
            int many = model.net.tables.size();
            check("rule", 0, draw(3));
            check("rule", 1, draw(4) / 3);
            check("rule", 2, draw(2) * draw(10));
            for (int r = 1; r < many; r++) {
                check("link", r, draw(2) == 0 ? r - 1 : draw(r), 1 + draw(draw(4) == 0 ? 15 : 2));
            }
            for (int i = draw(3); i > 0; i--) {
                check("link", draw(many), draw(many), 1 + draw(3));
            }
            for (int i = 0; i < 4; i++) {
                check("rounds", 3 + draw(15));
                int link = draw(model.net.links.size());
                int dearer = draw(3);
                if (dearer > 0) {
                    check("cost", link, 5 + draw(11));
                } else {
                    check("turn", link, 0);
                }
                check("told", 4);
                lookAtWays(many);
                check("rounds", 1 + draw(3));
                lookAtWays(many);
                if (dearer > 0) {
                    check("cost", link, 1 + draw(3));
                } else {
                    check("turn", link, draw(2));
                }
            }
        }

        /** Cuts with sequences, between rounds without: entries whose sequences are above what their routers have of themselves. */
        void highSequences() {
            int many = model.net.tables.size();
            for (int r = 1; r < many; r++) {
                check("link", r, draw(r), 1 + draw(4));
                check("link", draw(many), draw(many), 1 + draw(15));
            }
            check("rounds", 1 + draw(9));
            for (int i = 3 + draw(20); i > 0; i--) {
                int link = draw(1 + draw(model.net.links.size()));
                check("rule", 1, 1);
                check("turn", link, 0);
                check("rule", 1, 0);
                check("turn", link, 1);
                check("rounds", 1 + draw(draw(2) == 0 ? 5 : 2));
            }
            for (int i = draw(4); i > 0; i--) {
                check("cost", draw(model.net.links.size()), 1 + draw(15));
            }
            check("rule", 0, draw(3));
            check("rule", 1, 1);
            check("rule", 2, draw(10));
            for (int i = 0; i < 3; i++) {
                lookAtWays(many);
                check("told", 3);
                check("rounds", 1 + draw(6));
                check("turn", draw(model.net.links.size()), draw(2));
            }
        }

        void lookAtWays(int many) {
            check("told", 1);
            check("told", 2);
            check("told", 0);
            check("tried", draw(3));
            for (int i = 0; i < 4; i++) {
                int a = draw(many);
                int d = draw(many);
                check("ends", a, d);
                check("way", a, d, -1);
                check("way", a, d, draw(many));
                check("counts", a, d);
                check("packet", a, d, 1 + draw(40), 0);
                check("packet", a, d, 1 + draw(40), 1);
                check("then", a, d, draw(12), draw(3));
            }
        }

        void step() {
            switch (draw(46)) {
                case 0: if (draw(8) == 0) { check("router"); } break;
                case 1: case 2: case 3: case 4: check("link", router(), router(), draw(3) == 0 ? near(1, 15) : near(1, 3)); break;
                case 5: case 6: check("turn", link(), near(0, 1)); break;
                case 7: check("cost", link(), near(1, 15)); break;
                case 8: check("rule", near(0, 2), near(0, 3)); break;
                case 9: check("of", link(), near(0, 3)); break;
                case 10: check("between", router(), router()); break;
                case 11: case 12: case 13: case 14: case 15: check("rounds", draw(20) == 0 ? near(1, 80) : near(1, 3)); break;
                case 16: case 17: case 18: check("entry", router(), router(), near(0, 4)); break;
                case 19: check("known", router(), near(0, 9)); break;
                case 20: case 21: case 22: if (draw(3) == 0) { check("told", near(0, 5)); } break;
                case 23: if (draw(2) == 0) { check("then", router(), router(), draw(5) == 0 ? near(0, 80) : near(0, 9), near(0, 2)); } break;
                case 24: check("way", router(), router(), near(-1, 9)); break;
                case 25: case 26: check("ends", router(), router()); break;
                case 27: check("shortest", router(), router()); break;
                case 28: if (draw(2) == 0) { check("counts", router(), router()); } break;
                case 29: check("packet", router(), router(), near(1, 40), near(0, 1)); break;
                case 30: if (draw(5) == 0) { check("tried", near(0, 2)); } break;
                case 31: case 32: case 33: table(); break;
                case 34: check("drawn", draw(1 << 30) * 4 + draw(4), near(1, draw(2) == 0 ? 12 : 2)); break;
                case 35: check("feed", near(0, 255)); break;
                case 36: case 37: text(); break;
                case 38: check("image"); break;
                case 39: if (draw(3) == 0) { check("back"); } break;
                case 40: case 41: check("hold", near(0, 5), router(), router()); break;
                case 42: check("row", near(0, 5), near(-1, 60)); break;
                case 43: check("put", near(0, 5), near(0, 20), draw(20)); break;
                case 44: check("tells", near(0, 5), near(0, 3)); break;
                default: check("count", near(0, 8)); break;
            }
        }

        /** A row that tells a table rightly but, at times, for one number. */
        void table() {
            int holder = draw(6);
            int many = model.net.tables.size();
            int r = draw(many);
            int twos = draw(3) == 0 ? draw(many + 1) : many;
            check("row", holder, draw(12) == 0 ? 2 * twos + draw(3) : 2 * twos);
            for (int d = 0; d < twos; d++) {
                Entry e = model.net.tables.get(r).get(d);
                check("put", holder, 2 * d, e == null ? 16 : e.metric);
                check("put", holder, 2 * d + 1, e == null ? r : e.via);
            }
            if (draw(2) == 0 && twos > 0) {
                check("put", holder, draw(2 * twos), draw(17));
            }
            check("judge", near(0, 5), router());
            check("judge", holder, r);
        }

        void text() {
            int lines = 1 + draw(draw(10) == 0 ? 22 : 5);
            StringBuilder text = new StringBuilder();
            for (int i = 0; i < lines; i++) {
                text.append(i == 0 ? "" : ";").append(line());
            }
            if (draw(5) == 0) {
                int at = draw(text.length());
                String spoilt = "; nlcuwhqdr0123456789x";
                switch (draw(3)) {
                    case 0: text.deleteCharAt(at); break;
                    case 1: text.insert(at, spoilt.charAt(draw(spoilt.length()))); break;
                    default: text.setLength(at); break;
                }
            }
            for (int i = 0; i < text.length(); i++) {
                check("feed", text.charAt(i));
            }
            check("count", 7);
            check("script");
            check("count", 7);
            check("count", 5);
            check("count", 2);
        }

        String line() {
            int links = Math.max(1, model.net.links.size());
            int routers = model.net.tables.size();
            switch (draw(10)) {
                case 0: return "n";
                case 1: case 2: return "l " + two(draw(routers)) + " " + two(draw(routers)) + " " + two(1 + draw(15));
                case 3: return "c " + two(draw(links));
                case 4: return "u " + two(draw(links));
                case 5: return "w " + two(draw(links)) + " " + two(1 + draw(15));
                case 6: return "h " + two(draw(3));
                case 7: return "q " + two(draw(2));
                case 8: return "d " + two(draw(10));
                default: return "r " + two(draw(10) == 0 ? draw(100) : 1 + draw(4));
            }
        }

        String two(int n) {
            return n < 10 && draw(6) == 0 ? "0" + n : "" + n;
        }

        void check(String name, int... x) {
            if (told || made >= MOST_CALLS) {
                return;
            }
            made++;
            calls.append(name).append(java.util.Arrays.toString(x)).append(' ');
            int want = model.call(name, x);
            int got = call(name, x);
            if (got != want) {
                wrong++;
                told = true;
                System.out.println("run " + number + ": " + calls + "answered " + got + ", due is " + want);
            }
        }

        int call(String name, int[] x) {
            switch (name) {
                case "router": return program.router();
                case "link": return program.link(x[0], x[1], x[2]);
                case "turn": return program.turn(x[0], x[1]);
                case "cost": return program.cost(x[0], x[1]);
                case "rule": return program.rule(x[0], x[1]);
                case "of": return program.of(x[0], x[1]);
                case "between": return program.between(x[0], x[1]);
                case "rounds": return program.rounds(x[0]);
                case "entry": return program.entry(x[0], x[1], x[2]);
                case "known": return program.known(x[0], x[1]);
                case "told": return program.told(x[0]);
                case "then": return program.then(x[0], x[1], x[2], x[3]);
                case "way": return program.way(x[0], x[1], x[2]);
                case "ends": return program.ends(x[0], x[1]);
                case "shortest": return program.shortest(x[0], x[1]);
                case "counts": return program.counts(x[0], x[1]);
                case "packet": return program.packet(x[0], x[1], x[2], x[3]);
                case "tried": return program.tried(x[0]);
                case "judge": return program.judge(x[0], x[1]);
                case "drawn": return program.drawn(x[0], x[1]);
                case "feed": return program.feed(x[0]);
                case "script": return program.script();
                case "image": return program.image();
                case "back": return program.back();
                case "hold": return program.hold(x[0], x[1], x[2]);
                case "row": return program.row(x[0], x[1]);
                case "put": return program.put(x[0], x[1], x[2]);
                case "tells": return program.tells(x[0], x[1]);
                default: return program.count(x[0]);
            }
        }
    }
}
