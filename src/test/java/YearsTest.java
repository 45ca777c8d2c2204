import java.util.Random;

/** Promise 44: years. */
public final class YearsTest {
    public static void main(String[] args) {
        refused();
        byHand();
        Random random = new Random(44);
        for (int k = 0; k < 600; k++) {
            World world = World.random(random);
            asActed(world, random.nextInt(), Check.between(random, 1, 60));
        }
        Check.finish();
    }

    private static void refused() {
        HeWillNotPlead x = new HeWillNotPlead();
        Check.due("nobody", x.years(1, 1), -2);
        Check.due("nobody, asked first", x.years(1, 0), -2);
        Check.due("nobody, asked first", x.years(1, 61), -2);
        HeWillNotPlead y = Check.with("9,9+0", "");
        Check.due("n 0", y.years(1, 0), -1);
        Check.due("n 61", y.years(1, 61), -1);
        Check.due("n -1", y.years(1, -1), -1);
    }

    /** Seed 0: 12345 by 65536 is 0; 12345 * 1103515245 + 12345 as an int is -740551042, 54236 by 65536. */
    private static void byHand() {
        HeWillNotPlead x = Check.with("9,9+0", "0,99,0;0,9,0");
        // 54236 % 4 = 0: 10 are laid on him, and he dies of it
        Check.due("seed 0", x.years(0, 1), 0);
        Check.row("seed 0", x, 1, 0);
        Check.due("he lives", x.count(4), 1);
        Check.due("nothing lies on him", x.prisoner(0, 6), 0);
        Check.due("it is today", x.count(2), 0);
        Check.due("nothing to undo", x.count(11), 0);
    }

    private static long unsigned(int random) {
        return (random & 0xffffffffL) / 65536;
    }

    private static void asActed(World world, int seed, int n) {
        HeWillNotPlead x = world.make();
        HeWillNotPlead y = world.make();
        int random = seed;
        int pleaded = 0;
        for (int day = 0; day < n; day++) {
            random = random * 1103515245 + 12345;
            int who = (int) (unsigned(random) % x.count(0));
            random = random * 1103515245 + 12345;
            int what = (int) (unsigned(random) % 4);
            if (what < 2) {
                y.lay(who, what == 0 ? 10 : -10);
            } else if (what == 2) {
                pleaded += y.ask(who) == 1 ? 1 : 0;
            } else {
                y.judge(who);
            }
            y.nights(1);
        }
        x.years(seed, 60);
        Check.due("years as acted", x.years(seed, n), pleaded);
        Check.row("years as acted", x, Integer.bitCount(y.count(6) & ~x.count(6)),
                Integer.bitCount(y.count(8) & ~x.count(8)));
    }
}
