import java.util.Random;

/** Promises 45 to 48: keep, again, count, row. */
public final class KeptTest {
    public static void main(String[] args) {
        keep();
        again();
        againAfterNewOnes();
        count();
        row();
        rowStays();
        Random random = new Random(45);
        for (int k = 0; k < 200; k++) {
            asItWas(World.random(random), random);
        }
        Check.finish();
    }

    private static void keep() {
        HeWillNotPlead x = new HeWillNotPlead();
        Check.due("keep(0) of nobody", x.keep(0), true);
        Check.due("keep(1)", x.keep(1), true);
        Check.due("keep(2)", x.keep(2), false);
        Check.due("keep(-1)", x.keep(-1), false);
    }

    private static void again() {
        HeWillNotPlead x = Check.with("40,15+0;9,9+0", "0,60,7");
        Check.due("nothing kept", x.again(0), false);
        Check.due("nothing kept", x.again(1), false);
        x.lay(0, 5);
        x.keep(0);
        x.lay(0, 5);
        x.ask(1);
        x.nights(2);
        x.keep(1);
        x.nights(1);
        x.ends(70);
        x.sheet(2, 1, 33, 0);
        Check.due("again(2)", x.again(2), false);
        Check.due("again(-1)", x.again(-1), false);
        Check.due("refused ones do not forget", x.count(11), 5);
        Check.due("again(0)", x.again(0), true);
        Check.due("DAY", x.count(2), 0);
        Check.due("LAID", x.prisoner(0, 6), 5);
        Check.due("BORNE", x.prisoner(0, 7), 0);
        Check.due("SILENT", x.count(4), 3);
        Check.due("WORD", x.witness(0, 1), 60);
        Check.due("THE END is no part of it", x.count(3), 70);
        Check.due("nor is FEAR", x.prisoner(0, 1), 33);
        Check.due("nothing to undo", x.count(11), 0);
        Check.due("again(1)", x.again(1), true);
        Check.due("DAY", x.count(2), 2);
        Check.due("BORNE", x.prisoner(0, 7), 2);
        Check.due("PLEADED", x.count(5), 2);
        Check.due("WORD", x.witness(0, 1), 46);
        x.keep(0);
        x.nights(1);
        Check.due("kept anew", x.again(0), true);
        Check.due("DAY", x.count(2), 2);
        Check.due("again, twice", x.again(0), true);
    }

    private static void againAfterNewOnes() {
        HeWillNotPlead x = Check.with("40,15+0", "0,60,7");
        x.keep(0);
        x.prisoners();
        x.witnesses();
        Check.put(x, "x").prisoners();
        Check.put(x, "x").witnesses();
        Check.due("nobody came", x.again(0), true);
        Check.put(x, "9,9+0").prisoners();
        Check.due("PRISONERS came", x.again(0), false);
        x.keep(1);
        Check.due("kept since", x.again(1), true);
        Check.put(x, "1,9,9").witnesses();
        Check.due("WITNESSES came", x.again(1), false);
        Check.due("nor the other", x.again(0), false);
        x.keep(0);
        Check.due("kept since", x.again(0), true);
    }

    private static void count() {
        HeWillNotPlead x = Check.with("40,15+0a;9,9+0c;9,9+0d;9,9+0h;9,0+0", "1,60,0;1,40,0");
        x.ask(1);
        x.judge(1);
        x.ask(2);
        x.judge(2);
        x.ask(3);
        x.lay(4, 9);
        x.nights(1);
        Check.put(x, "hhh");
        long[] due = {5, 2, 1, 20, 1, 8, 16, 4, 2, 0, 1 + 4 + 8 + 128, 7, 2, 3};
        for (int what = 0; what < 14; what++) {
            Check.due("count(" + what + ")", x.count(what), due[what]);
        }
        Check.due("count(14)", x.count(14), -1);
        Check.due("count(-1)", x.count(-1), -1);
        Check.due("count(least)", x.count(Integer.MIN_VALUE), -1);
        x.nights(19);
        Check.due("LEFT OVER", x.count(9), 9);
        Check.due("nobody PLEADED", x.count(5), 0);
    }

    private static void row() {
        HeWillNotPlead x = new HeWillNotPlead();
        Check.due("row(0) at first", Check.orThrows(() -> x.row(0)), Check.THROWS);
        x.dumb(5, 5, 12);
        Check.row("two numbers", x, 4096, 4097);
        Check.due("row(2)", Check.orThrows(() -> x.row(2)), Check.THROWS);
        Check.due("row(-1)", Check.orThrows(() -> x.row(-1)), Check.THROWS);
        x.dumb(1, 1, 12);
        Check.due("a number above ints", x.row(1), 1000000000000L + 9 * 282429536481L);
    }

    private static void rowStays() {
        HeWillNotPlead x = Check.with("40,15+0a;9,9+0", "");
        x.parts();
        x.sign(0);
        x.end(0);
        Check.put(x, "hskh").law();
        x.lay(0, 5);
        x.ask(1);
        x.ends(30);
        x.undo();
        x.keep(0);
        x.again(0);
        x.left(0, 3);
        x.mercy(0, 3);
        x.till(0);
        x.sure(5, 5, 50);
        x.count(0);
        x.sheet(2, 1, 1, 1);
        Check.row("told by calls that say so alone", x, 0, 0, 0, 0, 0);
    }

    private static void asItWas(World world, Random random) {
        HeWillNotPlead x = world.make();
        int i = random.nextInt(2);
        x.keep(i);
        String before = Check.facts(x);
        for (int k = 0; k < 6; k++) {
            int p = random.nextInt(x.count(0));
            x.lay(p, Check.between(random, -50, 50));
            x.ask(random.nextInt(x.count(0)));
            x.judge(p);
            x.nights(random.nextInt(4));
        }
        Check.due("again", x.again(i), true);
        Check.same("as it was kept", Check.facts(x), before);
    }
}
