import java.util.ArrayList;
import java.util.List;
import java.util.Random;

/** Promises 33 and 34: trials, docket. */
public final class TrialsTest {
    public static void main(String[] args) {
        trials();
        docket();
        Random random = new Random(33);
        for (int k = 0; k < 250; k++) {
            World world = pleading(random);
            HeWillNotPlead x = world.make();
            List<int[]> turns = new ArrayList<>();
            turnsOf(x, new int[0], turns);
            trialsAsActed(world, x, turns);
            docketAsActed(world, x, turns);
        }
        Check.finish();
    }

    /** A world in which most plead, with much PROOF. */
    private static World pleading(Random random) {
        World world = new World();
        int count = Check.between(random, 1, 4);
        StringBuilder gang = new StringBuilder();
        StringBuilder bench = new StringBuilder();
        for (int p = 0; p < count; p++) {
            gang.append(p == 0 ? "" : ";").append("9,99+").append(random.nextInt(4));
            gang.append((char) ('a' + 2 * p)).append(random.nextBoolean() ? (char) ('b' + 2 * p) : "");
            for (int k = 0; k < 2; k++) {
                bench.append(p + k == 0 ? "" : ";").append(p).append(',');
                bench.append(Check.between(random, 40, 99)).append(',').append(random.nextInt(10));
            }
        }
        world.reads(gang.toString(), x -> x.prisoners());
        world.reads(bench.toString(), x -> x.witnesses());
        world.reads(World.values(random), x -> x.values());
        world.law = World.law(random);
        world.reads(world.law, x -> x.law());
        int end = random.nextBoolean() ? 99 : Check.between(random, 1, 5);
        world.does(x -> x.ends(end));
        for (int p = 0; p < count; p++) {
            int who = p;
            if (random.nextInt(6) > 0) {
                world.does(x -> x.ask(who));
            }
            if (random.nextInt(12) == 0) {
                world.does(x -> x.judge(who));
            }
        }
        return world;
    }

    private static void trials() {
        Check.due("nobody", new HeWillNotPlead().trials(), 0);
        HeWillNotPlead x = Check.with("9,9+0;9,9+0;9,9+0;9,9-0",
                "0,60,0;0,50,0;1,60,6;1,50,0;2,60,5;2,40,0;3,99,0;3,99,0");
        Check.due("nobody PLEADED", x.trials(), 0);
        Check.row("nobody PLEADED", x);
        for (int p = 0; p < 4; p++) {
            x.ask(p);
        }
        Check.due("who fades first is first", x.trials(), 3);
        Check.row("who fades first is first", x, 2, 1, 0);
        x.ends(2);
        Check.due("ahead of THE END", x.trials(), 2);
        Check.row("the least row", x, 0, 1);
        x.ends(1);
        Check.due("today", x.trials(), 1);
        Check.row("today", x, 0);
        Check.due("nobody is tried by it", x.count(5), 7);
    }

    private static void docket() {
        Check.due("nobody", new HeWillNotPlead().docket(), 0);
        HeWillNotPlead x = Check.with("9,9+0a;9,9+0b;9,9+0c;9,9+0d",
                "0,60,0;0,50,0;1,60,6;1,50,0;2,60,5;2,40,0");
        for (int p = 0; p < 3; p++) {
            x.ask(p);
        }
        Check.put(x, "1,2,4,8,1,1,1,1").values();
        Check.due("all that are CONVICTED", x.docket(), 7);
        Check.row("all that are CONVICTED", x, 2, 1, 0);
        x.ends(1);
        Check.due("the dearest", x.docket(), 4);
        Check.row("the dearest", x, 2);
        x.ends(99);
        Check.put(x, "hkhh").law();
        Check.due("FREED are the king's", x.docket(), 6);
        Check.row("some must wait, no DAY is left out", x, 0, 2, 1);
        Check.put(x, "hkkk").law();
        Check.due("all are the king's", x.docket(), 7);
        Check.row("the fewest", x);
        Check.due("trials() behind docket()", x.trials(), 3);
        Check.row("trials() behind docket()", x, 2, 1, 0);
        Check.put(x, "hshh").law();
        Check.due("none is the king's", x.docket(), 0);
        Check.row("the fewest", x);
    }

    /** All rows of those who PLEADED, the least of a length first. */
    private static void turnsOf(HeWillNotPlead x, int[] turn, List<int[]> turns) {
        turns.add(turn);
        for (int p = 0; p < x.count(0); p++) {
            boolean isIn = false;
            for (int q : turn) {
                isIn |= q == p;
            }
            if ((x.count(5) >> p & 1) == 1 && !isIn) {
                int[] longer = java.util.Arrays.copyOf(turn, turn.length + 1);
                longer[turn.length] = p;
                turnsOf(x, longer, turns);
            }
        }
    }

    /** The object behind all trials; null, if one can't be. */
    private static HeWillNotPlead acted(World world, int[] turn) {
        HeWillNotPlead y = world.make();
        for (int p : turn) {
            if (y.judge(p) < 0) {
                return null;
            }
            y.nights(1);
        }
        return y;
    }

    private static int compare(int[] one, int[] other) {
        return java.util.Arrays.compare(one, other);
    }

    private static long[] longs(int[] row) {
        return java.util.Arrays.stream(row).asLongStream().toArray();
    }

    private static void trialsAsActed(World world, HeWillNotPlead x, List<int[]> turns) {
        int[] best = {};
        for (int[] turn : turns) {
            HeWillNotPlead y = acted(world, turn);
            boolean isBetter = turn.length > best.length || turn.length == best.length && compare(turn, best) < 0;
            if (y != null && isBetter && Integer.bitCount(y.count(8) & ~x.count(8)) == turn.length) {
                best = turn;
            }
        }
        Check.due("trials as acted", x.trials(), best.length);
        Check.row("trials as acted", x, longs(best));
    }

    private static void docketAsActed(World world, HeWillNotPlead x, List<int[]> turns) {
        long most = -1;
        int[] best = {};
        int pleaded = x.count(5);
        for (int[] turn : turns) {
            HeWillNotPlead y = acted(world, turn);
            if (y == null) {
                continue;
            }
            while (y.count(2) < y.count(3)) {
                y.nights(1);
            }
            long much = kings(y, pleaded, world.law);
            boolean isShorter = turn.length < best.length || turn.length == best.length && compare(turn, best) < 0;
            if (much > most || much == most && isShorter) {
                most = much;
                best = turn;
            }
        }
        Check.due("docket as acted", x.docket(), most);
        Check.row("docket as acted", x, longs(best));
    }

    /** What the king has of those by a law. */
    private static long kings(HeWillNotPlead y, int those, String law) {
        long sum = 0;
        for (int p = 0; p < y.count(0); p++) {
            boolean isOne = (those >> p & 1) == 1;
            sum += isOne && law.charAt(y.prisoner(p, 5) - 2) == 'k' ? y.prisoner(p, 10) : 0;
        }
        return sum;
    }
}
