import java.util.Random;

/** Promises 19 to 27: left, dies, speaks, least, mercy, longest, alike, stones, silent. */
public final class BearsTest {
    public static void main(String[] args) {
        left();
        dies();
        speaks();
        least();
        mercy();
        longest();
        alike();
        stones();
        silent();
        Random random = new Random(20261118);
        for (int k = 0; k < 400; k++) {
            World world = World.random(random);
            HeWillNotPlead x = world.make();
            int p = random.nextInt(x.count(0));
            leftAsActed(world, x, p, random.nextInt(61));
            diesAsActed(world, x, p);
            speaksAsActed(world, x, p, random.nextInt(100));
            leastAsSpeaks(x, p, random.nextInt(61));
            longestAsSpeaks(x, p);
            alikeAsSpeaks(x, p, random.nextInt(x.count(0)));
            stonesAsSpeaks(x, random.nextInt(401));
            stonesAsSpeaks(x, random.nextInt(80));
            silentAsActed(world, x, random.nextInt(61));
            mercyAsActed(world, x, p, Check.between(random, 1, 60));
        }
        Check.finish();
    }

    private static void left() {
        HeWillNotPlead x = Check.with("40,15+0;9,9+0", "");
        Check.due("now", x.left(0, 0), 1040);
        Check.due("nothing on him: bread and water alone", x.left(0, 1), 1036);
        x.lay(0, 10);
        Check.due("60 NIGHTS", x.left(0, 60), 1000 + 40 - 10 - 300);
        Check.due("61", x.left(0, 61), -1);
        Check.due("-1", x.left(0, -1), -1);
        Check.due("left(2, 0)", x.left(2, 0), -1);
        Check.due("left(-1, 0)", x.left(-1, 0), -1);
        x.nights(20);
        Check.due("of a DEAD one", x.left(0, 1), 1000 + 40 - 10 - x.prisoner(0, 7) * 5 - 5 - 4);
        Check.put(x, "0-999*9").rule();
        Check.due("-999", x.left(0, 0), 1);
        Check.put(x, "999*9").rule();
        Check.due("999", x.left(0, 0), 1999);
    }

    private static void dies() {
        HeWillNotPlead x = Check.with("40,99-0;9,9+0", "");
        Check.due("nothing on him", x.dies(0), -2);
        x.lay(0, 20);
        Check.due("dies(0)", x.dies(0), 4);
        Check.row("LEFT then", x, 40 - 20 - 20 - 4);
        x.ends(4);
        Check.due("in the NIGHT of THE END", x.dies(0), 4);
        x.ends(3);
        Check.due("THE END first", x.dies(0), -2);
        Check.row("nothing told", x, 40 - 20 - 20 - 4);
        x.ask(1);
        Check.due("not SILENT", x.dies(1), -3);
        Check.due("dies(2)", x.dies(2), -1);
        Check.due("dies(-1)", x.dies(-1), -1);
        HeWillNotPlead first = Check.with("9,0+0", "");
        first.lay(0, 9);
        Check.due("in the first", first.dies(0), 1);
        Check.row("LEFT then", first, -5);
        HeWillNotPlead y = Check.with("99,0+0", "");
        Check.put(y, "61-d-n").rule();
        y.ends(99);
        y.lay(0, 1);
        Check.due("in the 60th", y.dies(0), 60);
        Check.row("LEFT then", y, 0);
        Check.put(y, "61-d").rule();
        Check.due("not in 60", y.dies(0), -2);
    }

    private static void speaks() {
        HeWillNotPlead x = Check.with("40,15+0;40,99-0;9,9+0;20,1+0", "");
        Check.due("at once", x.speaks(0, 25), 0);
        Check.row("LEFT then", x, 15);
        Check.due("w 24", x.speaks(0, 24), 1);
        Check.row("LEFT then", x, 40 - 24 - 5 - 4);
        Check.due("w 0", x.speaks(0, 0), -2);
        Check.due("dies first", x.speaks(3, 18), -2);
        Check.due("dumb", x.speaks(1, 99), -2);
        Check.due("w -1", x.speaks(0, -1), -1);
        Check.due("w 100", x.speaks(0, 100), -1);
        Check.due("speaks(4, 1)", x.speaks(4, 1), -1);
        Check.due("speaks(-1, 1)", x.speaks(-1, 1), -1);
        x.ask(2);
        Check.due("not SILENT", x.speaks(2, 1), -3);
        x.lay(0, 50);
        Check.due("what lies on him now is nothing", x.speaks(0, 24), 1);
        x.lay(0, -50);
        x.ends(1);
        Check.due("THE END", x.speaks(0, 24), -2);
        x.ends(2);
        Check.due("ahead of THE END", x.speaks(0, 24), 1);
        HeWillNotPlead z = Check.with("9,0+0", "");
        Check.put(z, "5-d*9-n*5").rule();
        Check.due("nothing lies on him: he does not die", z.speaks(0, 0), 1);
        Check.put(z, "5-d*9+n*9").rule();
        Check.due("1 lies on him: he dies", z.speaks(0, 1), -2);
        HeWillNotPlead y = Check.with("99,39+0", "");
        Check.put(y, "b-d").rule();
        y.ends(99);
        Check.due("in 60", y.speaks(0, 1), 60);
        y.sheet(2, 1, 38, 0);
        Check.due("not in 60", y.speaks(0, 1), -2);
        y.lay(0, 1);
        y.nights(1);
        Check.due("BORNE counts", y.speaks(0, 1), 60);
    }

    private static void least() {
        HeWillNotPlead x = Check.with("40,15+0;40,99-0;9,9+0", "");
        Check.due("today", x.least(0, 0), 25);
        Check.row("today", x, 0);
        Check.due("in 60", x.least(0, 60), 1);
        Check.row("in 60", x, 5);
        Check.due("dumb", x.least(1, 60), -2);
        Check.due("w 0", x.least(2, 60), 0);
        Check.due("n 61", x.least(0, 61), -1);
        Check.due("n -1", x.least(0, -1), -1);
        Check.due("least(3, 1)", x.least(3, 1), -1);
        x.ask(2);
        Check.due("not SILENT", x.least(2, 1), -3);
        Check.put(x, "115-w+(w<99)*99").rule();
        Check.due("none but 99", x.least(0, 60), -2);
        Check.put(x, "114-w+(w<99)*99").rule();
        Check.due("99", x.least(0, 60), 99);
        Check.row("99", x, 0);
    }

    private static void mercy() {
        HeWillNotPlead x = Check.with("40,15-0;9,9+0", "");
        Check.due("one NIGHT", x.mercy(0, 1), 34);
        Check.due("two", x.mercy(0, 2), 25);
        Check.due("60", x.mercy(0, 60), 0);
        x.ends(1);
        Check.due("no END", x.mercy(0, 2), 25);
        Check.due("n 0", x.mercy(0, 0), -1);
        Check.due("n 61", x.mercy(0, 61), -1);
        Check.due("mercy(2, 1)", x.mercy(2, 1), -1);
        x.ask(1);
        Check.due("not SILENT", x.mercy(1, 1), -3);
        Check.put(x, "w-50").rule();
        Check.due("more is better", x.mercy(0, 1), 99);
    }

    private static void longest() {
        HeWillNotPlead x = Check.with("40,15+0;40,99-0;9,9+0", "");
        Check.due("longest(0)", x.longest(0), 1);
        Check.row("longest(0)", x, 5);
        Check.due("w 0 at once", x.longest(2), 0);
        Check.row("w 0 at once", x, 0);
        Check.due("dumb", x.longest(1), -2);
        Check.row("nothing told", x, 0);
        Check.due("longest(3)", x.longest(3), -1);
        x.ask(2);
        Check.due("not SILENT", x.longest(2), -3);
        Check.put(x, "15+(w=99)*(3-d)").rule();
        Check.due("99", x.longest(0), 99);
        Check.row("99", x, 3);
    }

    private static void alike() {
        HeWillNotPlead x = Check.with("40,15+0;40,15+3;40,99-0;40,14+0;9,9+0", "");
        Check.due("alike", x.alike(0, 1), 0);
        Check.row("alike", x, -1);
        Check.due("a dumb one", x.alike(2, 0), 99);
        Check.row("a dumb one", x, 1);
        Check.due("two that never speak", Check.with("9,9-0;8,9-0", "").alike(0, 1), 0);
        Check.due("like ones", x.alike(1, 1), -1);
        Check.due("none such", x.alike(0, 5), -1);
        Check.due("none such", x.alike(-1, 0), -1);
        x.ask(4);
        Check.due("not SILENT", x.alike(4, 0), -3);
        Check.due("not SILENT", x.alike(0, 4), -3);
    }

    private static void stones() {
        HeWillNotPlead x = Check.with("40,15+0;9,9+0;40,15+0;90,1-0", "");
        x.lay(0, 50);
        Check.due("nothing to lay", x.stones(0), 1);
        Check.row("nothing to lay", x, 0, 0, 0, 0);
        Check.due("10: the least row", x.stones(10), 2);
        Check.row("10: the least row", x, 0, 0, 10, 0);
        Check.due("19", x.stones(19), 2);
        Check.due("20", x.stones(20), 3);
        Check.row("20", x, 10, 0, 10, 0);
        Check.due("n 401", x.stones(401), -1);
        Check.due("n -1", x.stones(-1), -1);
        Check.row("refused", x, 10, 0, 10, 0);
        x.ask(1);
        Check.due("SILENT ones alone", x.stones(20), 2);
        Check.row("SILENT ones alone", x, 10, 0, 10, 0);
        Check.due("nobody", new HeWillNotPlead().stones(400), 0);
    }

    private static void silent() {
        HeWillNotPlead x = Check.with("40,15+0;9,9+0;40,15-0;9,9+0", "");
        x.lay(0, 20);
        x.ask(1);
        x.ask(3);
        x.judge(3);
        Check.due("silent(0)", x.silent(0), 5);
        Check.row("silent(0)", x, 0, 0);
        Check.due("silent(4)", x.silent(4), 4);
        Check.row("silent(4)", x, 1, 0);
        Check.due("silent(19)", x.silent(19), 4);
        Check.due("silent(20)", x.silent(20), 0);
        Check.row("a PLEADED one is LEFT OVER too", x, 1, 2);
        Check.due("n 61", x.silent(61), -1);
        Check.due("n -1", x.silent(-1), -1);
        Check.due("nothing came of it", x.count(2), 0);
    }

    private static boolean isSilent(HeWillNotPlead x, int p) {
        return x.prisoner(p, 5) == 0;
    }

    private static void layExactly(HeWillNotPlead x, int p, int w) {
        for (int k = 0; k < 4 && x.prisoner(p, 6) != w; k++) {
            x.lay(p, Math.max(-50, Math.min(50, w - x.prisoner(p, 6))));
        }
    }

    private static void leftAsActed(World world, HeWillNotPlead x, int p, int n) {
        long got = x.left(p, n);
        HeWillNotPlead y = world.make();
        y.nights(n);
        boolean asSilent = isSilent(y, p) || x.prisoner(p, 6) == 0;
        if (asSilent) {
            Check.due("left as acted", got, 1000 + y.prisoner(p, 8));
        }
    }

    private static void diesAsActed(World world, HeWillNotPlead x, int p) {
        long got = x.dies(p);
        HeWillNotPlead y = world.make();
        long want = isSilent(y, p) ? -2 : -3;
        for (int n = 1; n <= 60 && isSilent(y, p); n++) {
            y.nights(1);
            want = y.prisoner(p, 5) == 2 ? n : -2;
        }
        Check.due("dies as acted", got, want);
    }

    private static int speaking(World world, int p, int w) {
        HeWillNotPlead y = world.make();
        if (!isSilent(y, p)) {
            return -3;
        }
        layExactly(y, p, w);
        for (int n = 0; n <= 60 && isSilent(y, p); n++) {
            if (y.ask(p) == 1) {
                return n;
            }
            y.nights(1);
        }
        return -2;
    }

    private static void speaksAsActed(World world, HeWillNotPlead x, int p, int w) {
        int got = x.speaks(p, w);
        Check.due("speaks as acted, " + w, got, speaking(world, p, w));
        if (got >= 0) {
            HeWillNotPlead y = world.make();
            layExactly(y, p, w);
            y.nights(got);
            Check.row("LEFT as acted", x, y.prisoner(p, 8));
        }
    }

    private static void leastAsSpeaks(HeWillNotPlead x, int p, int n) {
        int want = isSilent(x, p) ? -2 : -3;
        int in = 0;
        for (int w = 99; w >= 0; w--) {
            int s = x.speaks(p, w);
            if (s >= 0 && s <= n) {
                want = w;
                in = s;
            }
        }
        Check.due("least as speaks", x.least(p, n), want);
        if (want >= 0) {
            Check.row("least as speaks", x, in);
        }
    }

    private static void longestAsSpeaks(HeWillNotPlead x, int p) {
        int want = isSilent(x, p) ? -2 : -3;
        int in = -1;
        for (int w = 99; w >= 0; w--) {
            int s = x.speaks(p, w);
            if (s >= 0 && s >= in) {
                want = w;
                in = s;
            }
        }
        Check.due("longest as speaks", x.longest(p), want);
        if (want >= 0) {
            Check.row("longest as speaks", x, in);
        }
    }

    private static void alikeAsSpeaks(HeWillNotPlead x, int p, int other) {
        if (p == other || !isSilent(x, p) || !isSilent(x, other)) {
            return;
        }
        int count = 0;
        int first = -1;
        for (int w = 99; w >= 0; w--) {
            if (x.speaks(p, w) != x.speaks(other, w)) {
                count++;
                first = w;
            }
        }
        Check.due("alike as speaks", x.alike(p, other), count);
        Check.row("alike as speaks", x, first);
    }

    /** All ways to lay 0 (one who is not counted), or 0, 10, .. 90, on each. */
    private static void stonesAsSpeaks(HeWillNotPlead x, int n) {
        int count = x.count(0);
        boolean[][] speaks = new boolean[count][10];
        for (int p = 0; p < count; p++) {
            for (int w = 0; w < 10; w++) {
                speaks[p][w] = x.speaks(p, 10 * w) >= 0;
            }
        }
        long[] best = new long[count];
        int[] most = {-1, 0};
        tryStones(speaks, n, new long[count], 0, 0, 0, best, most);
        Check.due("stones by all ways, " + n, x.stones(n), most[0]);
        Check.row("stones by all ways, " + n, x, best);
    }

    private static void tryStones(boolean[][] speaks, int n, long[] lies, int p, int sum, int counted,
            long[] best, int[] most) {
        if (sum > n) {
            return;
        }
        if (p == lies.length) {
            // lower rows come first, so that an equal one later is no better
            if (counted > most[0] || counted == most[0] && sum < most[1]) {
                most[0] = counted;
                most[1] = sum;
                System.arraycopy(lies, 0, best, 0, lies.length);
            }
            return;
        }
        for (int w = 0; w < 10; w++) {
            if (w == 0 || speaks[p][w]) {
                lies[p] = 10 * w;
                tryStones(speaks, n, lies, p + 1, sum + 10 * w, counted + (speaks[p][w] ? 1 : 0), best, most);
            }
        }
        lies[p] = 0;
    }

    private static void silentAsActed(World world, HeWillNotPlead x, int n) {
        long got = x.silent(n);
        HeWillNotPlead y = world.make();
        y.nights(n);
        Check.due("silent as acted", got, y.count(4));
        Check.row("silent as acted", x, Long.bitCount(y.row(0)), Long.bitCount(y.row(1)));
    }

    private static void mercyAsActed(World world, HeWillNotPlead x, int p, int n) {
        long got = x.mercy(p, n);
        if (!isSilent(x, p)) {
            Check.due("mercy", got, -3);
            return;
        }
        // THE END is put out of the way where that can be
        int want = 0;
        for (int w = 1; w < 100; w++) {
            HeWillNotPlead y = world.make();
            if (y.count(3) > y.count(2) && y.ends(99) < 0 || y.count(2) + n >= 99) {
                return;
            }
            layExactly(y, p, w);
            y.nights(n);
            want = isSilent(y, p) ? w : want;
        }
        Check.due("mercy as acted", got, want);
    }
}
