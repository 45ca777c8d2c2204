import java.util.Random;

/** Promises 28 to 32: proof, till, gains, lacks, best. */
public final class ProofTest {
    public static void main(String[] args) {
        proof();
        till();
        gains();
        lacks();
        best();
        Random random = new Random(28);
        for (int k = 0; k < 500; k++) {
            World world = World.random(random);
            HeWillNotPlead x = world.make();
            int p = random.nextInt(x.count(0));
            proofAsActed(world, x, p, random.nextInt(61));
            tillAsProof(x, p);
            lacksAsProof(x, p, random.nextInt(100));
            gainsAsActed(world, x, p, random.nextInt(61));
            bestAsGains(x, p);
        }
        Check.finish();
    }

    private static void proof() {
        HeWillNotPlead x = Check.with("9,9+0;9,9+0", "0,60,6;0,50,1;1,99,0");
        Check.due("now", x.proof(0, 0), 110);
        Check.row("now", x, 1, 2);
        Check.due("in 1", x.proof(0, 1), 103);
        Check.row("in 1", x, 1, 2);
        Check.due("in 2", x.proof(0, 2), 96);
        Check.row("in 2", x, 0, 2);
        Check.due("in 10", x.proof(0, 10), 40);
        Check.row("WORD 0 is none", x, 0, 1);
        Check.due("in 99", x.proof(0, 99), 0);
        Check.row("in 99", x, 0, 0);
        Check.due("it does not fade", x.proof(1, 99), 99);
        Check.row("it does not fade", x, 0, 1);
        Check.due("100", x.proof(0, 100), -1);
        Check.due("-1", x.proof(0, -1), -1);
        Check.due("proof(2, 0)", x.proof(2, 0), -1);
        Check.due("proof(-1, 0)", x.proof(-1, 0), -1);
        Check.row("refused", x, 0, 1);
        x.ask(0);
        Check.due("of one who PLEADED", x.proof(0, 0), 110);
        Check.due("just 100", Check.with("9,9+0", "0,50,1;0,51,0").proof(0, 1), 100);
    }

    private static void till() {
        HeWillNotPlead x = Check.with("9,9+0;9,9+0;9,9+0;9,9+0", "0,60,6;0,50,1;1,99,0;2,50,0;2,50,0;2,9,9;3,99,1;3,99,0");
        Check.due("till(0)", x.till(0), 1);
        Check.due("not now", x.till(1), -2);
        Check.due("for ever", x.till(2), -3);
        Check.due("98 DAYS", x.till(3), 98);
        Check.due("till(4)", x.till(4), -1);
        Check.due("till(-1)", x.till(-1), -1);
        x.nights(1);
        Check.due("from now", x.till(0), 0);
        x.nights(1);
        Check.due("not now", x.till(0), -2);
    }

    private static void gains() {
        HeWillNotPlead x = Check.with("9,9+0ab;9,9-1c;9,9+0", "0,60,6;0,50,1");
        Check.due("CONVICTED", x.gains(0, 1), 980);
        Check.row("CONVICTED", x, 0, 20);
        Check.due("FREED", x.gains(0, 2), 1000);
        Check.row("FREED", x, 20, 20);
        Check.put(x, "hshk").law();
        Check.due("LEFT OVER is the king's", x.gains(0, 0), 1020);
        Check.row("LEFT OVER is the king's", x, 20, 0);
        Check.put(x, "hkhs").law();
        Check.due("FREED is the king's", x.gains(1, 0), 990);
        Check.row("FREED is the king's", x, 0, 10);
        x.ends(1);
        Check.due("behind THE END, too", x.gains(1, 60), 990);
        Check.due("61", x.gains(0, 61), -1);
        Check.due("-1", x.gains(0, -1), -1);
        Check.due("gains(3, 0)", x.gains(3, 0), -1);
        x.ask(0);
        Check.due("not SILENT", x.gains(0, 0), -2);
    }

    private static void lacks() {
        HeWillNotPlead x = Check.with("9,9+0;9,9+0;9,9+0;9,9-0", "0,60,6;0,50,1;1,30,0;3,30,9");
        Check.due("none", x.lacks(0, 1), 0);
        Check.row("three lack more", x, 3);
        Check.due("4", x.lacks(0, 2), 4);
        Check.due("70", x.lacks(1, 0), 70);
        Check.row("as much is not more", x, 1);
        Check.due("70", x.lacks(1, 1), 70);
        Check.row("then", x, 2);
        Check.due("100", x.lacks(2, 99), 100);
        x.lay(2, 50);
        x.nights(1);
        Check.due("70", x.lacks(1, 0), 70);
        Check.row("not the DEAD one", x, 1);
        x.ask(0);
        Check.due("100", x.lacks(2, 50), 100);
        Check.due("n 100", x.lacks(0, 100), -1);
        Check.due("n -1", x.lacks(0, -1), -1);
        Check.due("lacks(4, 0)", x.lacks(4, 0), -1);
    }

    private static void best() {
        HeWillNotPlead x = Check.with("9,9+0ab;9,9-1c;9,9+0", "0,60,6;0,50,1");
        Check.due("when he is FREED", x.best(0), 2);
        Check.row("when he is FREED", x, 20, 20, 20);
        x.ends(2);
        Check.due("THE END first", x.best(0), 0);
        Check.row("THE END first", x, 0, 20, 20);
        x.ends(3);
        Check.due("ahead of THE END", x.best(0), 2);
        Check.put(x, "khhk").law();
        Check.due("of equal ones the first", x.best(0), 0);
        Check.row("of equal ones the first", x, 20, 0, 0);
        Check.due("best(3)", x.best(3), -1);
        Check.due("best(-1)", x.best(-1), -1);
        x.ask(0);
        Check.due("not SILENT", x.best(0), -2);
        HeWillNotPlead y = Check.with("9,9-0", "");
        y.nights(20);
        Check.put(y, "9,9+0ab").prisoners();
        Check.put(y, "1,99,1;1,60,0").witnesses();
        Check.due("no END to come", y.best(1), 60);
    }

    private static void proofAsActed(World world, HeWillNotPlead x, int p, int n) {
        HeWillNotPlead y = world.make();
        y.nights(n);
        int speakers = 0;
        for (int k = 0; k < y.count(1); k++) {
            speakers += y.witness(k, 0) == p && y.witness(k, 1) > 0 ? 1 : 0;
        }
        int much = y.prisoner(p, 9);
        Check.due("proof as acted", x.proof(p, n), much);
        Check.row("proof as acted", x, much >= 100 ? 1 : 0, speakers);
    }

    private static void tillAsProof(HeWillNotPlead x, int p) {
        int want = -2;
        for (int n = 0; n <= 99; n++) {
            want = x.proof(p, n) >= 100 ? n : want;
        }
        Check.due("till as proof", x.till(p), want == 99 ? -3 : want);
    }

    private static void lacksAsProof(HeWillNotPlead x, int p, int n) {
        int mine = Math.max(0, 100 - x.proof(p, n));
        int more = 0;
        for (int other = 0; other < x.count(0); other++) {
            more += x.prisoner(other, 5) != 2 && Math.max(0, 100 - x.proof(other, n)) > mine ? 1 : 0;
        }
        Check.due("lacks as proof", x.lacks(p, n), mine);
        Check.row("lacks as proof", x, more);
    }

    /** What all but the king have of all ended ones' GOODS. */
    private static long notTheKings(HeWillNotPlead y) {
        y.parts();
        long sum = 0;
        for (int i = 0; i < 5; i++) {
            sum += y.row(i);
        }
        return sum;
    }

    private static void gainsAsActed(World world, HeWillNotPlead x, int p, int n) {
        if (x.prisoner(p, 5) != 0 || x.prisoner(p, 2) == 1) {
            return;
        }
        // he alone among all is ended by it, and he is made to plead by a FEAR of everything
        HeWillNotPlead over = world.make();
        int day = over.count(2);
        if (over.ends(day + 1) < 0) {
            return;
        }
        HeWillNotPlead tried = world.make();
        tried.ends(99);
        Check.put(tried, "1").rule();
        tried.sheet(2, 6, 99, 0);
        if (day + n >= 99) {
            return;
        }
        tried.nights(n);
        long before = notTheKings(tried);
        tried.ask(p);
        tried.judge(p);
        long had = notTheKings(tried) - before;
        Check.due("gains as acted", x.gains(p, n) >= 0, true);
        Check.due("gains as acted, tried", x.row(0), had);
    }

    private static void bestAsGains(HeWillNotPlead x, int p) {
        if (x.prisoner(p, 5) != 0) {
            Check.due("best", x.best(p), -2);
            return;
        }
        int want = -1;
        long most = -1;
        for (int n = 0; n <= 60; n++) {
            boolean isBehind = x.count(3) > x.count(2) && x.count(2) + n >= x.count(3);
            x.gains(p, n);
            if (!isBehind && x.row(0) > most) {
                want = n;
                most = x.row(0);
            }
        }
        long over = x.row(1);
        Check.due("best as gains", x.best(p), want);
        Check.due("best as gains, much", x.row(0), most);
        Check.due("best as gains, LEFT OVER", x.row(1), over);
    }
}
