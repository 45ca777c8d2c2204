import java.util.Random;

/** Promises 35 to 38: parts, hopes, reading, wants. */
public final class GoodsTest {
    public static void main(String[] args) {
        parts();
        hopes();
        reading();
        wants();
        Random random = new Random(35);
        for (int k = 0; k < 400; k++) {
            World world = World.random(random);
            partsByState(world, world.make());
            hopesByState(world, world.make(), random.nextInt(4));
            readingAsLaw(world, World.law(random));
            wantsAsLaw(world, random.nextInt(4));
        }
        Check.finish();
    }

    /** 0 DEAD, 1 FREED, 2 CONVICTED, 3 LEFT OVER on DAY 1; 4 came later and is SILENT. */
    private static HeWillNotPlead ended() {
        HeWillNotPlead x = Check.with("9,0+0a;9,9+1b;9,9+2c;9,9-3d", "2,50,0;2,50,0");
        Check.put(x, "1,2,4,8,16,32,64,99").values();
        x.lay(0, 9);
        x.ask(1);
        x.judge(1);
        x.ask(2);
        x.judge(2);
        x.ends(1);
        x.nights(1);
        Check.put(x, "9,9+0e;9,9+0fg;9,9+").prisoners();
        Check.put(x, "9,9+0e;9,9+0fg").prisoners();
        return x;
    }

    private static void parts() {
        HeWillNotPlead x = ended();
        Check.due("the king's", x.parts(), 4);
        Check.row("at first", x, 1, 0, 0, 8, 2);
        Check.put(x, "skhs").law();
        Check.due("FREED", x.parts(), 2);
        Check.row("their own", x, 0, 0, 4, 0, 9);
        Check.due("nobody", new HeWillNotPlead().parts(), 0);
        x.ask(4);
        x.parts();
        Check.row("PLEADED is no ending", x, 0, 0, 4, 0, 9);
    }

    private static void hopes() {
        HeWillNotPlead x = ended();
        Check.due("if DEAD", x.hopes(0), 16 + 96);
        Check.row("LEFT OVER, FREED", x, 16 + 96, 0);
        Check.put(x, "4,99,9;4,1,0").witnesses();
        Check.put(x, "khhs").law();
        Check.due("DEAD is the king's", x.hopes(0), 0);
        Check.row("one is CONVICTED, one FREED", x, 0, 16 + 96);
        Check.put(x, "hkhk").law();
        Check.due("DEAD", x.hopes(0), 16 + 96);
        Check.row("CONVICTED alone", x, 0, 16);
        Check.due("another HEIR", x.hopes(3), 0);
        Check.row("another HEIR", x, 0, 0);
        x.ask(4);
        Check.due("SILENT ones alone", x.hopes(0), 96);
        Check.due("heir 4", x.hopes(4), -1);
        Check.due("heir -1", x.hopes(-1), -1);
    }

    private static void reading() {
        HeWillNotPlead x = ended();
        Check.due("all", Check.put(x, "kkkk").reading(), 15 - 4);
        Check.row("both", x, 15, 4);
        Check.due("below 0", Check.put(x, "hhhh").reading(), -4);
        Check.row("both", x, 0, 4);
        Check.due("emptied", x.count(13), 0);
        Check.due("THE LAW stays", x.parts(), 4);
        String[] texts = {"", "h", "hhh", "x", "hhhx", "hhhhh", "hxhh"};
        int[] wrongAt = {0, 1, 3, 0, 3, 4, 1};
        for (int k = 0; k < texts.length; k++) {
            Check.due("reading " + texts[k], Check.put(x, texts[k]).reading(), -10000 - wrongAt[k]);
            Check.due("emptied " + texts[k], x.count(13), 0);
        }
        Check.row("refused ones tell nothing", x, 1, 0, 0, 8, 2);
    }

    private static void wants() {
        HeWillNotPlead x = ended();
        Check.due("it has all", x.wants(0), 21);
        Check.row("it has all", x, 1, 1);
        Check.due("FREED to HEIRS: hhkh", x.wants(1), 3);
        Check.row("FREED to HEIRS", x, 2, 0);
        Check.due("CONVICTED to HEIRS: hshh", x.wants(2), 18);
        Check.row("CONVICTED to HEIRS", x, 4, 0);
        Check.put(x, "kkkk").law();
        Check.due("LEFT OVER to HEIRS: kkkh", x.wants(3), 39);
        Check.due("heir 4", x.wants(4), -1);
        Check.due("heir -1", x.wants(-1), -1);
        Check.due("THE LAW stays", x.parts(), 15);
        Check.put(x, "ssss").law();
        Check.due("ssss of nobody's", Check.put(new HeWillNotPlead(), "ssss").law(), 0);
        Check.due("none dearer: as it is", allOwn().wants(0), 80);
    }

    private static HeWillNotPlead allOwn() {
        HeWillNotPlead x = new HeWillNotPlead();
        Check.put(x, "ssss").law();
        return x;
    }

    private static char letter(HeWillNotPlead x, String law, int p) {
        return x.prisoner(p, 5) < 2 ? '-' : law.charAt(x.prisoner(p, 5) - 2);
    }

    private static long share(HeWillNotPlead x, String law, char letter, int heir) {
        long sum = 0;
        for (int p = 0; p < x.count(0); p++) {
            boolean isHis = heir < 0 || x.prisoner(p, 3) == heir;
            sum += isHis && letter(x, law, p) == letter ? x.prisoner(p, 10) : 0;
        }
        return sum;
    }

    private static void partsByState(World world, HeWillNotPlead x) {
        Check.due("parts by state", x.parts(), share(x, world.law, 'k', -1));
        Check.row("parts by state", x, share(x, world.law, 'h', 0), share(x, world.law, 'h', 1),
                share(x, world.law, 'h', 2), share(x, world.law, 'h', 3), share(x, world.law, 's', -1));
    }

    private static void hopesByState(World world, HeWillNotPlead x, int heir) {
        long dead = 0;
        long over = 0;
        long tried = 0;
        for (int p = 0; p < x.count(0); p++) {
            if (x.prisoner(p, 5) == 0 && x.prisoner(p, 3) == heir) {
                long much = x.prisoner(p, 10);
                dead += world.law.charAt(0) == 'h' ? much : 0;
                over += world.law.charAt(3) == 'h' ? much : 0;
                tried += world.law.charAt(x.prisoner(p, 9) >= 100 ? 2 : 1) == 'h' ? much : 0;
            }
        }
        Check.due("hopes by state", x.hopes(heir), dead);
        Check.row("hopes by state", x, over, tried);
    }

    private static void readingAsLaw(World world, String law) {
        HeWillNotPlead x = world.make();
        long byLaw = x.parts();
        HeWillNotPlead y = world.make();
        Check.put(y, law).law();
        long byIt = y.parts();
        Check.due("reading as law", Check.put(x, law).reading(), byIt - byLaw);
        Check.row("reading as law", x, byIt, byLaw);
    }

    private static void wantsAsLaw(World world, int heir) {
        HeWillNotPlead y = world.make();
        int best = -1;
        long most = -1;
        int fewest = 0;
        for (int number = 0; number < 81; number++) {
            StringBuilder law = new StringBuilder();
            int changed = 0;
            for (int power = 27; power > 0; power /= 3) {
                law.append("hks".charAt(number / power % 3));
                changed += law.charAt(law.length() - 1) == world.law.charAt(law.length() - 1) ? 0 : 1;
            }
            long much = share(y, law.toString(), 'h', heir);
            if (much > most || much == most && changed < fewest) {
                best = number;
                most = much;
                fewest = changed;
            }
        }
        Check.due("wants as law", y.wants(heir), best);
        Check.row("wants as law", y, most, share(y, world.law, 'h', heir));
    }
}
