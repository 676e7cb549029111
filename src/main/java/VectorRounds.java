import java.util.Arrays;

/** Distance vector routing in rounds. The document's promises name what each public method answers. */
public final class VectorRounds {
    public static final int BAD = -1, NOT = -2, FULL = -3, STATE = -5;
    public static final int VOID = -2000000000;

    private static final int EMPTY = -11, OTHER_SORT = -12, NO_PLACE = -13, BELOW_ZERO = -14;
    private static final int FORM_FAULT = -1000, LINE_REFUSED = -2000;

    private static final int ROUTERS = 10, CELLS = ROUTERS * ROUTERS, LINKS = 24;
    private static final int NONE = 16, MOST_COST = 15;
    private static final int MOST_HORIZON = 2, MOST_HOLD = 9;
    private static final int MOST_ROUNDS = 80, MOST_STEPS = 40, MOST_DRAWN = 12;
    private static final int HOLDERS = 6, MOST_ITEMS = 60, TAPE_BYTES = 120;

    private final Network now;
    private final Network thought;
    private final Network kept;
    private final Network ahead;
    private final Way path;
    private final Distances least;
    private final Tape tape;
    private final Holder[] holders;
    private boolean imaged;

    public VectorRounds() {
        now = new Network();
        thought = new Network();
        kept = new Network();
        ahead = new Network();
        path = new Way();
        least = new Distances();
        tape = new Tape();
        holders = new Holder[HOLDERS];
        for (int i = 0; i < HOLDERS; i++) {
            holders[i] = new Holder();
        }
    }

    // ---- routers, links, rules

    public int router() {
        if (now.routers >= ROUTERS) {
            return FULL;
        }
        return now.addRouter();
    }

    public int link(int a, int b, int cost) {
        if (noRouter(a) || noRouter(b) || a == b || cost < 1 || cost > MOST_COST) {
            return BAD;
        }
        if (now.links.joining(a, b) >= 0) {
            return STATE;
        }
        if (now.links.size >= LINKS) {
            return FULL;
        }
        return now.links.add(a, b, cost);
    }

    public int turn(int link, int up) {
        if (noLink(link) || up < 0 || up > 1) {
            return BAD;
        }
        if (now.links.up[link] == up) {
            return STATE;
        }
        now.switchLink(link);
        return 1;
    }

    public int cost(int link, int n) {
        if (noLink(link) || n < 1 || n > MOST_COST) {
            return BAD;
        }
        int was = now.links.price[link];
        now.links.price[link] = n;
        return was;
    }

    public int rule(int what, int v) {
        if (what < 0 || what > 2 || v < 0 || v > mostOfRule(what)) {
            return BAD;
        }
        int was;
        if (what == 0) {
            was = now.horizon;
            now.horizon = v;
        } else if (what == 1) {
            was = now.sequenced;
            now.sequenced = v;
        } else {
            was = now.holdDown;
            now.holdDown = v;
        }
        return was;
    }

    public int of(int link, int what) {
        if (noLink(link)) {
            return BAD;
        }
        switch (what) {
            case 0: return now.links.lesser[link];
            case 1: return now.links.greater[link];
            case 2: return now.links.price[link];
            case 3: return now.links.up[link];
            default: return BAD;
        }
    }

    public int between(int a, int b) {
        if (noRouter(a) || noRouter(b)) {
            return BAD;
        }
        int link = now.links.joining(a, b);
        return link < 0 ? NOT : link;
    }

    public int rounds(int n) {
        if (n < 1 || n > MOST_ROUNDS) {
            return BAD;
        }
        int changed = 0;
        for (int i = 0; i < n; i++) {
            changed += now.goRound();
        }
        return changed;
    }

    // ---- tables

    public int entry(int router, int d, int what) {
        if (noRouter(router) || noRouter(d) || what < 0 || what > 4) {
            return BAD;
        }
        Tables tables = now.tables;
        int cell = router * ROUTERS + d;
        if (!tables.has(cell)) {
            return NOT;
        }
        switch (what) {
            case 0: return tables.metric[cell];
            case 1: return tables.via[cell];
            case 2: return tables.sequence[cell];
            case 3: return tables.held[cell];
            default: return tables.placeOf(router, d);
        }
    }

    public int known(int router, int k) {
        if (noRouter(router) || k < 0) {
            return BAD;
        }
        if (k >= now.tables.size[router]) {
            return NOT;
        }
        return now.tables.order[router * ROUTERS + k];
    }

    // ---- in thought

    public int told(int what) {
        switch (what) {
            case 0: return settledNow();
            case 1: return loopedFirst();
            case 2: return path.loopsIn(now);
            case 3: return rightEntries();
            case 4: return worstCut();
            case 5: return neededLinks();
            default: return BAD;
        }
    }

    public int then(int router, int d, int n, int what) {
        if (noRouter(router) || noRouter(d) || n < 0 || n > MOST_ROUNDS || what < 0 || what > 2) {
            return BAD;
        }
        thought.become(now);
        for (int i = 0; i < n; i++) {
            thought.goRound();
        }
        if (what == 2) {
            return path.loopsIn(thought);
        }
        int cell = router * ROUTERS + d;
        if (!thought.tables.has(cell)) {
            return NOT;
        }
        return what == 0 ? thought.tables.metric[cell] : thought.tables.via[cell];
    }

    public int way(int a, int d, int k) {
        if (noRouter(a) || noRouter(d) || k < -1) {
            return BAD;
        }
        path.walk(now.tables, a, d);
        if (k == -1) {
            return path.length;
        }
        return k < path.length ? path.stops[k] : NOT;
    }

    public int ends(int a, int d) {
        if (noRouter(a) || noRouter(d)) {
            return BAD;
        }
        path.walk(now.tables, a, d);
        return path.ending;
    }

    public int shortest(int a, int b) {
        if (noRouter(a) || noRouter(b)) {
            return BAD;
        }
        least.measure(now, a, -1);
        int sum = least.to[b];
        return sum == Distances.FAR ? NOT : sum;
    }

    public int counts(int a, int d) {
        if (noRouter(a) || noRouter(d)) {
            return BAD;
        }
        int cell = a * ROUTERS + d;
        thought.become(now);
        for (int n = 0; n <= MOST_ROUNDS; n++) {
            if (!thought.tables.reaches(cell)) {
                return n;
            }
            thought.goRound();
        }
        return NOT;
    }

    public int packet(int a, int d, int ttl, int what) {
        if (noRouter(a) || noRouter(d) || ttl < 1 || ttl > MOST_STEPS || what < 0 || what > 1) {
            return BAD;
        }
        thought.become(now);
        int at = a;
        int steps = 0;
        while (steps < ttl && at != d && thought.tables.reaches(at * ROUTERS + d)) {
            at = thought.tables.via[at * ROUTERS + d];
            steps++;
            thought.goRound();
        }
        return what == 0 ? at : steps;
    }

    public int tried(int what) {
        if (what < 0 || what > 2) {
            return BAD;
        }
        int bestHorizon = 0;
        int bestSequenced = 0;
        int best = MOST_ROUNDS + 2;
        for (int h = 0; h <= MOST_HORIZON; h++) {
            for (int q = 0; q <= 1; q++) {
                thought.become(now);
                thought.horizon = h;
                thought.sequenced = q;
                int n = thought.roundsToSettle();
                if (n < best) {
                    best = n;
                    bestHorizon = h;
                    bestSequenced = q;
                }
            }
        }
        if (what == 0) {
            return bestHorizon;
        }
        return what == 1 ? bestSequenced : orNot(best);
    }

    public int judge(int holder, int router) {
        if (noHolder(holder) || noRouter(router)) {
            return BAD;
        }
        Holder h = holders[holder];
        if (h.sort == Holder.NOTHING) {
            return EMPTY;
        }
        if (h.sort != Holder.ROW) {
            return OTHER_SORT;
        }
        int twos = h.length / 2;
        if (h.length % 2 != 0 || twos > now.routers) {
            return NO_PLACE;
        }
        for (int d = 0; d < twos; d++) {
            if (isOtherwise(router, d, h.items[2 * d], h.items[2 * d + 1])) {
                return d;
            }
        }
        return twos < now.routers ? twos : NOT;
    }

    // ---- texts, images, holders

    public int drawn(int seed, int n) {
        if (n < 1 || n > MOST_DRAWN) {
            return BAD;
        }
        if (now.routers < 2) {
            return STATE;
        }
        int z = seed;
        for (int i = 0; i < n; i++) {
            z = z * 1103515245 + 12345;
            drawLink((z >>> 16) & 32767);
        }
        return now.links.size;
    }

    public int feed(int letter) {
        if (letter < 0 || letter > 255) {
            return BAD;
        }
        if (tape.length >= TAPE_BYTES) {
            return FULL;
        }
        return tape.add(letter);
    }

    public int script() {
        int fault = tape.readLines();
        tape.length = 0;
        if (fault >= 0) {
            return FORM_FAULT - fault;
        }
        ahead.become(now);
        for (int i = 0; i < tape.lines; i++) {
            if (doLine(i) < 0) {
                now.become(ahead);
                return LINE_REFUSED - i;
            }
        }
        return tape.lines;
    }

    public int image() {
        kept.become(now);
        imaged = true;
        return now.round;
    }

    public int back() {
        if (!imaged) {
            return STATE;
        }
        now.become(kept);
        return now.round;
    }

    public int hold(int holder, int router, int d) {
        if (noHolder(holder) || noRouter(router) || noRouter(d)) {
            return BAD;
        }
        if (!now.tables.has(router * ROUTERS + d)) {
            return NOT;
        }
        holders[holder].keepEntry(now.tables, router, d);
        return 1;
    }

    public int row(int holder, int n) {
        if (noHolder(holder) || n > MOST_ITEMS) {
            return BAD;
        }
        if (n < -1) {
            return BELOW_ZERO;
        }
        if (n == -1) {
            holders[holder].sort = Holder.NOTHING;
        } else {
            holders[holder].keepRow(n);
        }
        return 1;
    }

    public int put(int holder, int i, int v) {
        if (noHolder(holder)) {
            return VOID;
        }
        Holder h = holders[holder];
        if (h.sort != Holder.ROW || i < 0 || i >= h.length) {
            return VOID;
        }
        int was = h.items[i];
        h.items[i] = v;
        return was;
    }

    public int tells(int holder, int as) {
        if (noHolder(holder) || as < 0 || as > 3) {
            return BAD;
        }
        Holder h = holders[holder];
        if (h.sort == Holder.NOTHING) {
            return EMPTY;
        }
        if (h.sort != Holder.ENTRY) {
            return OTHER_SORT;
        }
        switch (as) {
            case 0: return h.metric;
            case 1: return h.own ? h.sequence : OTHER_SORT;
            case 2: return h.metric < NONE && !h.own ? h.via : OTHER_SORT;
            default: return h.metric == NONE ? h.held : OTHER_SORT;
        }
    }

    public int count(int what) {
        switch (what) {
            case 0: return now.routers;
            case 1: return now.links.size;
            case 2: return now.links.howManyUp();
            case 3: return now.tables.howMany(false);
            case 4: return now.round;
            case 5: return now.toldEver;
            case 6: return now.tables.howMany(true);
            case 7: return tape.length;
            case 8: return fullHolders();
            default: return BAD;
        }
    }

    // ---- what arguments may be

    private boolean noRouter(int n) {
        return n < 0 || n >= now.routers;
    }

    private boolean noLink(int n) {
        return n < 0 || n >= now.links.size;
    }

    private static boolean noHolder(int n) {
        return n < 0 || n >= HOLDERS;
    }

    private static int mostOfRule(int what) {
        if (what == 0) {
            return MOST_HORIZON;
        }
        return what == 1 ? 1 : MOST_HOLD;
    }

    // ---- parts of the calls above

    private static int orNot(int rounds) {
        return rounds > MOST_ROUNDS ? NOT : rounds;
    }

    private int settledNow() {
        thought.become(now);
        return orNot(thought.roundsToSettle());
    }

    private int loopedFirst() {
        thought.become(now);
        for (int n = 0; n <= MOST_ROUNDS; n++) {
            if (path.loopsIn(thought) > 0) {
                return n;
            }
            thought.goRound();
        }
        return NOT;
    }

    private int rightEntries() {
        int right = 0;
        for (int a = 0; a < now.routers; a++) {
            least.measure(now, a, -1);
            for (int d = 0; d < now.routers; d++) {
                int cell = a * ROUTERS + d;
                int metric = now.tables.has(cell) ? now.tables.metric[cell] : NONE;
                if (metric == Math.min(NONE, least.to[d])) {
                    right++;
                }
            }
        }
        return right;
    }

    private int worstCut() {
        int worst = NOT;
        int most = -1;
        for (int link = 0; link < now.links.size; link++) {
            if (now.links.up[link] == 1) {
                thought.become(now);
                thought.switchLink(link);
                int n = thought.roundsToSettle();
                if (n > most) {
                    most = n;
                    worst = link;
                }
            }
        }
        return worst;
    }

    private int neededLinks() {
        int needed = 0;
        for (int link = 0; link < now.links.size; link++) {
            if (now.links.up[link] == 1) {
                // Whoever needs the link goes over it, so its own ends part when it is missing.
                least.measure(now, now.links.lesser[link], link);
                if (least.to[now.links.greater[link]] == Distances.FAR) {
                    needed++;
                }
            }
        }
        return needed;
    }

    private boolean isOtherwise(int router, int d, int metric, int via) {
        int cell = router * ROUTERS + d;
        if (!now.tables.has(cell)) {
            return metric != NONE || via != router;
        }
        return metric != now.tables.metric[cell] || via != now.tables.via[cell];
    }

    private void drawLink(int x) {
        int n = Math.max(1, now.routers);
        int a = x % n;
        int b = (x / 10) % n;
        if (a == b) {
            return;
        }
        int link = now.links.joining(a, b);
        if (link >= 0) {
            now.switchLink(link);
        } else if (now.links.size < LINKS) {
            now.links.add(a, b, 1 + (x / 100) % MOST_COST);
        }
    }

    private int doLine(int i) {
        int first = tape.numbers[3 * i];
        int second = tape.numbers[3 * i + 1];
        switch (tape.letters[i]) {
            case 'n': return router();
            case 'l': return link(first, second, tape.numbers[3 * i + 2]);
            case 'c': return turn(first, 0);
            case 'u': return turn(first, 1);
            case 'w': return cost(first, second);
            case 'h': return rule(0, first);
            case 'q': return rule(1, first);
            case 'd': return rule(2, first);
            case 'r': return rounds(first);
            default: return BAD;
        }
    }

    private int fullHolders() {
        int n = 0;
        for (int i = 0; i < HOLDERS; i++) {
            if (holders[i].sort != Holder.NOTHING) {
                n++;
            }
        }
        return n;
    }

    /** The tables of all routers: what router r has of d stands in cell r * ROUTERS + d. */
    private static final class Tables {
        static final int ABSENT = -1;

        final int[] metric = new int[CELLS];
        final int[] via = new int[CELLS];
        final int[] sequence = new int[CELLS];
        final int[] held = new int[CELLS];
        /** Cell r * ROUTERS + k: the k-th that r knew. */
        final int[] order = new int[CELLS];
        final int[] size = new int[ROUTERS];

        Tables() {
            Arrays.fill(metric, ABSENT);
        }

        void become(Tables other) {
            System.arraycopy(other.metric, 0, metric, 0, CELLS);
            System.arraycopy(other.via, 0, via, 0, CELLS);
            System.arraycopy(other.sequence, 0, sequence, 0, CELLS);
            System.arraycopy(other.held, 0, held, 0, CELLS);
            System.arraycopy(other.order, 0, order, 0, CELLS);
            System.arraycopy(other.size, 0, size, 0, ROUTERS);
        }

        boolean has(int cell) {
            return metric[cell] != ABSENT;
        }

        boolean reaches(int cell) {
            return metric[cell] != ABSENT && metric[cell] < NONE;
        }

        void enter(int r, int d, int x, int s, int q) {
            // A table never has more entries than there are routers; the place is looked at all the same.
            int place = size[r];
            if (place >= ROUTERS) {
                return;
            }
            int cell = r * ROUTERS + d;
            metric[cell] = x;
            via[cell] = s;
            sequence[cell] = q;
            held[cell] = 0;
            order[r * ROUTERS + place] = d;
            size[r] = place + 1;
        }

        int placeOf(int r, int d) {
            for (int k = 0; k < size[r]; k++) {
                if (order[r * ROUTERS + k] == d) {
                    return k;
                }
            }
            return NOT;
        }

        int howMany(boolean lostOnly) {
            int n = 0;
            for (int cell = 0; cell < CELLS; cell++) {
                if (lostOnly ? metric[cell] == NONE : has(cell)) {
                    n++;
                }
            }
            return n;
        }

        /** A new entry counts, too: its metric was ABSENT. */
        int howManyDiffer(Tables other) {
            int n = 0;
            for (int cell = 0; cell < CELLS; cell++) {
                if (metric[cell] != other.metric[cell] || via[cell] != other.via[cell]) {
                    n++;
                }
            }
            return n;
        }
    }

    /** The links, and which of them joins two routers. */
    private static final class Links {
        final int[] lesser = new int[LINKS];
        final int[] greater = new int[LINKS];
        final int[] price = new int[LINKS];
        /** 1: up, 0: cut. */
        final int[] up = new int[LINKS];
        /** Cell a * ROUTERS + b: 1 more than the number of their link, or 0. */
        final int[] joint = new int[CELLS];
        int size;

        void become(Links other) {
            System.arraycopy(other.lesser, 0, lesser, 0, LINKS);
            System.arraycopy(other.greater, 0, greater, 0, LINKS);
            System.arraycopy(other.price, 0, price, 0, LINKS);
            System.arraycopy(other.up, 0, up, 0, LINKS);
            System.arraycopy(other.joint, 0, joint, 0, CELLS);
            size = other.size;
        }

        int joining(int a, int b) {
            return joint[a * ROUTERS + b] - 1;
        }

        int add(int a, int b, int sum) {
            int link = size;
            lesser[link] = Math.min(a, b);
            greater[link] = Math.max(a, b);
            price[link] = sum;
            up[link] = 1;
            size++;
            joint[a * ROUTERS + b] = size;
            joint[b * ROUTERS + a] = size;
            return link;
        }

        int howManyUp() {
            int n = 0;
            for (int link = 0; link < size; link++) {
                n += up[link];
            }
            return n;
        }
    }

    /** All of the document's section 1: routers with tables, links, rules, the round. */
    private static final class Network {
        final Tables tables = new Tables();
        /** What is told in a round is what stood in the tables ahead of the first that was received. */
        final Tables before = new Tables();
        final Links links = new Links();
        int routers;
        int horizon;
        int sequenced;
        int holdDown;
        int round;
        int toldEver;

        void become(Network other) {
            tables.become(other.tables);
            links.become(other.links);
            routers = other.routers;
            horizon = other.horizon;
            sequenced = other.sequenced;
            holdDown = other.holdDown;
            round = other.round;
            toldEver = other.toldEver;
        }

        int addRouter() {
            int r = routers;
            tables.enter(r, r, 0, r, 0);
            routers++;
            return r;
        }

        /** A link that is up is cut, one that is cut is up again. */
        void switchLink(int link) {
            links.up[link] = 1 - links.up[link];
            if (links.up[link] == 0) {
                loseVia(links.lesser[link], links.greater[link]);
                loseVia(links.greater[link], links.lesser[link]);
            }
        }

        private void loseVia(int r, int s) {
            for (int d = 0; d < routers; d++) {
                int cell = r * ROUTERS + d;
                if (tables.reaches(cell) && tables.via[cell] == s) {
                    take(cell, NONE, s);
                    tables.sequence[cell] += sequenced;
                }
            }
        }

        /** One round: how many entries are otherwise behind it. */
        int goRound() {
            round++;
            for (int r = 0; r < routers; r++) {
                tables.sequence[r * ROUTERS + r] += 2 * sequenced;
            }
            before.become(tables);
            for (int s = 0; s < routers; s++) {
                for (int r = 0; r < routers; r++) {
                    int link = links.joining(s, r);
                    if (link >= 0 && links.up[link] == 1) {
                        tell(s, r, links.price[link]);
                    }
                }
            }
            return tables.howManyDiffer(before);
        }

        /** More than MOST_ROUNDS: not within them. */
        int roundsToSettle() {
            for (int n = 0; n <= MOST_ROUNDS; n++) {
                if (goRound() == 0) {
                    return n;
                }
            }
            return MOST_ROUNDS + 1;
        }

        private void tell(int s, int r, int price) {
            for (int k = 0; k < before.size[s]; k++) {
                int d = before.order[s * ROUTERS + k];
                int cell = s * ROUTERS + d;
                int m = before.metric[cell];
                if (horizon != 0 && before.via[cell] == r) {
                    if (horizon == 1) {
                        continue;
                    }
                    m = NONE;
                }
                toldEver++;
                if (d != r) {
                    receive(r, s, d, Math.min(NONE, m + price), before.sequence[cell]);
                }
            }
        }

        private void receive(int r, int s, int d, int x, int q) {
            int cell = r * ROUTERS + d;
            if (!tables.has(cell)) {
                if (x < NONE) {
                    tables.enter(r, d, x, s, q);
                }
                return;
            }
            boolean better = x < tables.metric[cell] && tables.held[cell] < round;
            if (sequenced == 0) {
                if (better || tables.via[cell] == s) {
                    take(cell, x, s);
                }
            } else if (q > tables.sequence[cell]) {
                if (x < NONE || tables.via[cell] == s) {
                    take(cell, x, s);
                    tables.sequence[cell] = q;
                }
            } else if (q == tables.sequence[cell] && better) {
                take(cell, x, s);
            }
        }

        private void take(int cell, int x, int s) {
            if (x == NONE && tables.metric[cell] < NONE) {
                tables.held[cell] = round + holdDown;
            }
            tables.metric[cell] = x;
            tables.via[cell] = s;
        }
    }

    /** A way through tables, as the entries lead. */
    private static final class Way {
        static final int STOPS = 0, COMES = 1, LOOPS = 2;

        final int[] stops = new int[ROUTERS];
        int length;
        int ending;

        void walk(Tables tables, int a, int d) {
            length = 0;
            ending = LOOPS;
            int seen = 0;
            int at = a;
            while (length < ROUTERS && (seen >> at & 1) == 0) {
                stops[length] = at;
                length++;
                seen |= 1 << at;
                if (at == d) {
                    ending = COMES;
                    return;
                }
                if (!tables.reaches(at * ROUTERS + d)) {
                    ending = STOPS;
                    return;
                }
                at = tables.via[at * ROUTERS + d];
            }
        }

        int loopsIn(Network network) {
            int n = 0;
            for (int a = 0; a < network.routers; a++) {
                for (int d = 0; d < network.routers; d++) {
                    walk(network.tables, a, d);
                    if (ending == LOOPS) {
                        n++;
                    }
                }
            }
            return n;
        }
    }

    /** The least cost from one router to each, over links that are up. */
    private static final class Distances {
        static final int FAR = 1000000;

        final int[] to = new int[ROUTERS];

        /** As if the link "without" were not there (-1: all are). */
        void measure(Network network, int from, int without) {
            Arrays.fill(to, FAR);
            to[from] = 0;
            boolean shorter = true;
            for (int pass = 0; pass < ROUTERS && shorter; pass++) {
                shorter = false;
                for (int link = 0; link < network.links.size; link++) {
                    if (link != without && network.links.up[link] == 1 && relax(network.links, link)) {
                        shorter = true;
                    }
                }
            }
        }

        private boolean relax(Links links, int link) {
            int a = links.lesser[link];
            int b = links.greater[link];
            int price = links.price[link];
            if (to[a] + price < to[b]) {
                to[b] = to[a] + price;
                return true;
            }
            if (to[b] + price < to[a]) {
                to[a] = to[b] + price;
                return true;
            }
            return false;
        }
    }

    /** The bytes that were fed, and the lines read from them. */
    private static final class Tape {
        static final int FINE = -1, MOST_LINES = TAPE_BYTES;

        final int[] bytes = new int[TAPE_BYTES];
        int length;
        final int[] letters = new int[MOST_LINES];
        /** Three places a line; one with fewer numbers does not use the rest. */
        final int[] numbers = new int[3 * MOST_LINES];
        int lines;
        private int at;

        int add(int letter) {
            bytes[length] = letter;
            length++;
            return length;
        }

        /** FINE, or the place of the first byte with which no text goes on. */
        int readLines() {
            lines = 0;
            at = 0;
            for (int i = 0; i < MOST_LINES; i++) {
                if (!readLine()) {
                    return at;
                }
                lines++;
                if (at == length) {
                    return FINE;
                }
                if (bytes[at] != ';') {
                    return at;
                }
                at++;
            }
            return at;
        }

        /** Whether a line stands here; if not, the fault is at "at". */
        private boolean readLine() {
            if (at >= length) {
                return false;
            }
            int wanted = howManyNumbers(bytes[at]);
            if (wanted < 0) {
                return false;
            }
            letters[lines] = bytes[at];
            at++;
            for (int i = 0; i < wanted; i++) {
                if (!readNumber(3 * lines + i)) {
                    return false;
                }
            }
            return true;
        }

        private boolean readNumber(int place) {
            if (at >= length || bytes[at] != ' ') {
                return false;
            }
            at++;
            if (!isDigit()) {
                return false;
            }
            numbers[place] = bytes[at] - '0';
            at++;
            if (isDigit()) {
                numbers[place] = numbers[place] * 10 + bytes[at] - '0';
                at++;
            }
            return true;
        }

        private boolean isDigit() {
            return at < length && bytes[at] >= '0' && bytes[at] <= '9';
        }

        private static int howManyNumbers(int letter) {
            switch (letter) {
                case 'n': return 0;
                case 'c':
                case 'u':
                case 'h':
                case 'q':
                case 'd':
                case 'r': return 1;
                case 'w': return 2;
                case 'l': return 3;
                default: return -1;
            }
        }
    }

    /** Nothing, an entry as it was when it was taken, or a row. */
    private static final class Holder {
        static final int NOTHING = 0, ENTRY = 1, ROW = 2;

        int sort;
        boolean own;
        int metric;
        int via;
        int sequence;
        int held;
        final int[] items = new int[MOST_ITEMS];
        int length;

        void keepEntry(Tables tables, int router, int d) {
            int cell = router * ROUTERS + d;
            sort = ENTRY;
            own = router == d;
            metric = tables.metric[cell];
            via = tables.via[cell];
            sequence = tables.sequence[cell];
            held = tables.held[cell];
        }

        void keepRow(int n) {
            sort = ROW;
            length = n;
            Arrays.fill(items, 0);
        }
    }
}
