import java.lang.reflect.Field;
import java.util.ArrayList;
import java.util.Comparator;
import java.util.List;

/**
 * SETTLED and LOOPED at 80 ROUNDS, WORST CUT and RULES tried where SETTLED is NOT. No run of calls was found that comes
 * there, so that METRICS, VIA, SEQUENCES and HELD are laid into the tables; a program that keeps no such tables is not tested.
 */
public final class LateTests {
    private static final int NOT = -2, ROUTERS = 10;
    private static int wrong = 0;

    /** An ENTRY of router r for d, so many links away. */
    private record Lost(int r, int d, int links) { }

    public static void main(String[] args) throws ReflectiveOperationException {
        if (!hasTables()) {
            System.out.println("not tested: the tables are kept otherwise");
            return;
        }
        looped();
        settled();
        worstCut();
        tried();
        System.out.println(wrong == 0 ? "late answers are as due" : wrong + " late answers are not as due");
        if (wrong != 0) {
            System.exit(1);
        }
    }

    private static boolean hasTables() {
        for (Class<?> inside : VectorRounds.class.getDeclaredClasses()) {
            if (inside.getSimpleName().equals("Tables")) {
                return true;
            }
        }
        return false;
    }

    private static void due(String what, int got, int want) {
        if (got != want) {
            wrong++;
            System.out.println(what + " answered " + got + ", due is " + want);
        }
    }

    private static int[] table(VectorRounds x, String name) throws ReflectiveOperationException {
        Object at = x;
        for (String field : new String[] {"now", "tables", name}) {
            Field f = at.getClass().getDeclaredField(field);
            f.setAccessible(true);
            at = f.get(at);
        }
        return (int[]) at;
    }

    /** 1 lost 0 without a SEQUENCE more, 2 goes there by 1 still; when 1 is held no more, it goes by 2. */
    private static void looped() throws ReflectiveOperationException {
        for (int behind : new int[] {1, 79, 80, 81, 82}) {
            VectorRounds x = new VectorRounds();
            for (int r = 0; r < 3; r++) {
                x.router();
            }
            x.link(0, 1, 1);
            x.link(1, 2, 1);
            x.rounds(3);
            x.turn(0, 0);
            x.rule(1, 1);
            table(x, "held")[ROUTERS] = 3 + behind - 1;
            due("LOOPED behind " + behind, x.told(1), behind <= 80 ? behind : NOT);
            due("no LOOP yet", x.then(0, 0, Math.min(behind, 81) - 1, 2), 0);
            due("LOOPS now", x.told(2), 0);
        }
    }

    /**
     * 10 routers, of which 0 has link 0 to 1 alone, in a net in which each other has four neighbours or more. All entries but the
     * two of link 1 are lost, VIA one that tells nothing; the i-th of them is held (and has a SEQUENCE) till the i-th ROUND.
     */
    private static VectorRounds late(int rounds) throws ReflectiveOperationException {
        VectorRounds x = new VectorRounds();
        for (int r = 0; r < 10; r++) {
            x.router();
        }
        x.link(0, 1, 1);
        x.link(8, 9, 1);
        for (int i = 0; i < 9; i++) {
            x.link(1 + i, 1 + (i + 1) % 9, 1);
            x.link(1 + i, 1 + (i + 2) % 9, 1);
        }
        for (int i = 1; i <= 5; i++) {
            x.link(i, i + 3, 1);
        }
        due("links", x.count(1), 24);
        x.rounds(4);
        due("all are known", x.told(3), 100);
        List<Lost> order = order(x);
        due("entries", order.size(), 88);
        for (int i = 0; i < Math.min(rounds, order.size()); i++) {
            lose(x, order.get(i), i + 1);
        }
        return x;
    }

    /** Each one behind those by which it comes back. */
    private static List<Lost> order(VectorRounds x) {
        List<Lost> order = new ArrayList<>();
        for (int r = 0; r < 10; r++) {
            for (int d = 0; d < 10; d++) {
                if (r != d && x.between(r, d) != 1) {
                    order.add(new Lost(r, d, x.shortest(r, d)));
                }
            }
        }
        order.sort(Comparator.comparingInt(LateTests::part));
        return order;
    }

    /** Neighbours know one another at once; 0 comes to all by 1, and all come to 0 by 1. */
    private static int part(Lost one) {
        if (one.links == 1) {
            return 0;
        }
        return one.r == 0 ? 5 : one.d == 0 ? one.links : 1;
    }

    private static void lose(VectorRounds x, Lost one, int till) throws ReflectiveOperationException {
        int cell = one.r * ROUTERS + one.d;
        int mute = 9;
        while (one.r == mute || x.between(one.r, mute) != NOT) {
            mute--;
        }
        table(x, "metric")[cell] = 16;
        table(x, "via")[cell] = mute;
        table(x, "held")[cell] = x.count(4) + till - 1;
        table(x, "sequence")[cell] = 2 * till - 2 * one.links + 1;
    }

    private static void settled() throws ReflectiveOperationException {
        due("SETTLED behind 79", late(79).told(0), 79);
        due("SETTLED behind 80", late(80).told(0), 80);
        due("SETTLED behind 81", late(81).told(0), NOT);
        due("SETTLED behind 88", late(88).told(0), NOT);
        VectorRounds x = late(88);
        x.rounds(7);
        due("SETTLED behind 81, 7 ROUNDS later", x.told(0), NOT);
        x.rounds(1);
        due("SETTLED behind 80, 8 ROUNDS later", x.told(0), 80);
        VectorRounds sequenced = late(88);
        sequenced.rule(1, 1);
        due("SETTLED, SEQUENCED", sequenced.told(0), NOT);
    }

    private static void worstCut() throws ReflectiveOperationException {
        due("WORST CUT: NOT is more than all", late(88).told(4), 1);
        VectorRounds x = late(88);
        x.turn(1, 0);
        due("SETTLED by that cut", x.told(0), NOT);
        VectorRounds other = late(88);
        other.turn(0, 0);
        due("SETTLED by the cut of link 0, behind fewer than 81", other.told(0) == NOT ? 1 : 0, 0);
    }

    private static void tried() throws ReflectiveOperationException {
        VectorRounds all = late(88);
        for (int what = 0; what < 2; what++) {
            due("RULES tried: all are NOT: the least", all.tried(what), 0);
        }
        due("RULES tried: all are NOT", all.tried(2), NOT);
        VectorRounds x = late(88);
        java.util.Arrays.fill(table(x, "sequence"), 0);
        due("RULES tried: NOT is most", x.tried(0), 0);
        due("RULES tried: NOT is most", x.tried(1), 1);
        due("RULES tried: NOT is most", x.tried(2), 3);
    }
}
