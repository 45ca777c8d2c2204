import java.util.Random;

/** Promises 13 to 18: lay, ask, judge, nights, assize, undo. */
public final class AssizeTest {
    public static void main(String[] args) {
        lay();
        ask();
        judge();
        nights();
        nightsInTheirOrder();
        assize();
        wrongAssizes();
        assizeOfSixtySigns();
        undo();
        undoOfTwelve();
        undoForgets();
        undoOfRandomActs();
        Check.finish();
    }

    private static void lay() {
        HeWillNotPlead x = Check.with("99,0+0;9,99+0", "");
        Check.due("lay(0, 50)", x.lay(0, 50), 50);
        Check.due("lay(0, 1)", x.lay(0, 1), 51);
        Check.due("99 at most", x.lay(0, 50), 99);
        Check.due("lay(0, -50)", x.lay(0, -50), 49);
        Check.due("0 at least", x.lay(0, -50), 0);
        Check.due("nothing to take off", x.lay(0, -1), 0);
        int done = x.count(11);
        Check.due("all were done", done, 6);
        int[][] none = {{0, 0}, {0, 51}, {0, -51}, {2, 1}, {-1, 1}, {0, Integer.MIN_VALUE}};
        for (int[] pair : none) {
            Check.due("lay(" + pair[0] + ", " + pair[1] + ")", x.lay(pair[0], pair[1]), -1);
        }
        x.ask(1);
        Check.due("on one who PLEADED", x.lay(1, 5), -2);
        Check.due("off one who PLEADED", x.lay(1, -5), -2);
        Check.due("refused ones are not done", x.count(11), done + 1);
        Check.due("nothing lies on him", x.prisoner(1, 6), 0);
    }

    private static void ask() {
        HeWillNotPlead x = Check.with("20,15+0;20,99-0;20,15+0", "");
        x.lay(0, 4);
        Check.due("LEFT 16, FEAR 15", x.ask(0), 0);
        x.lay(0, 1);
        Check.due("LEFT 15, FEAR 15", x.ask(0), 1);
        Check.due("he PLEADED", x.prisoner(0, 5), 1);
        Check.due("LAID 0", x.prisoner(0, 6), 0);
        Check.due("asked again", x.ask(0), -2);
        Check.due("a dumb one", x.ask(1), 0);
        Check.due("he is SILENT", x.prisoner(1, 5), 0);
        x.lay(2, 20);
        x.nights(1);
        Check.due("a DEAD one", x.ask(2), -2);
        Check.due("ask(3)", x.ask(3), -1);
        Check.due("ask(-1)", x.ask(-1), -1);
        Check.put(x, "b+80").rule();
        Check.due("LEFT by THE RULE", Check.with("20,15+0", "").ask(0), 0);
    }

    private static void judge() {
        HeWillNotPlead x = Check.with("5,9+0;5,9+0;5,1+0", "0,50,0;0,50,1;1,99,0");
        Check.due("a SILENT one", x.judge(0), -2);
        Check.due("judge(3)", x.judge(3), -1);
        Check.due("judge(-1)", x.judge(-1), -1);
        x.ask(0);
        x.ask(1);
        Check.due("PROOF 100", x.judge(0), 4);
        Check.row("PROOF 100", x, 100);
        Check.due("CONVICTED", x.prisoner(0, 5), 4);
        Check.due("PROOF 99", x.judge(1), 3);
        Check.row("PROOF 99", x, 99);
        Check.due("FREED", x.prisoner(1, 5), 3);
        Check.due("tried again", x.judge(1), -2);
        Check.row("a refused one tells nothing", x, 99);
        Check.due("four were done", x.count(11), 4);
    }

    private static void nights() {
        HeWillNotPlead x = Check.with("40,15+0;30,99+0;20,0+0", "0,60,7;0,99,9");
        x.lay(0, 20);
        x.ask(1);
        Check.due("nights(0)", x.nights(0), 0);
        Check.row("nights(0)", x, 0, 0);
        Check.due("nights(-1)", x.nights(-1), -1);
        Check.due("nights(61)", x.nights(61), -1);
        Check.due("two were done", x.count(11), 2);
        Check.due("nights(3)", x.nights(3), 3);
        // 40 - 20 - 5 - 0 = 15, - 5 - 4 = 6, - 5 + 4 = 5
        Check.row("nights(3)", x, 0, 0);
        Check.due("BORNE", x.prisoner(0, 7), 3);
        Check.due("nothing lies on him", x.prisoner(2, 7), 0);
        Check.due("WORD", x.witness(0, 1), 39);
        Check.due("nights(1)", x.nights(1), 4);
        Check.row("he dies", x, 1, 0);
        Check.due("DEAD", x.prisoner(0, 5), 2);
        Check.due("nights(60)", x.nights(60), 64);
        Check.row("THE END", x, 0, 6);
        Check.due("the dead bear no more", x.prisoner(0, 7), 4);
        Check.due("WORD 0 at least", x.witness(0, 1), 0);
        Check.due("LEFT OVER", x.count(9), 6);
        Check.due("nights(60) again", x.nights(60), 124);
        Check.row("THE END is gone", x, 0, 0);
    }

    private static void nightsInTheirOrder() {
        // (1) ahead of (3): he dies in the NIGHT that brings THE END; and LEFT is of the DAY ahead
        HeWillNotPlead x = Check.with("10,0+0;10,0+0", "");
        x.ends(1);
        x.lay(0, 5);
        x.nights(1);
        Check.row("dies ahead of THE END", x, 1, 2);
        HeWillNotPlead y = Check.with("10,0+0", "");
        Check.put(y, "1-n*9").rule();
        y.lay(0, 1);
        y.nights(1);
        Check.due("bread on DAY 0", y.count(4), 1);
        y.nights(1);
        Check.due("water on DAY 1", y.count(6), 1);
        HeWillNotPlead two = Check.with("10,0+0;90,0+0;10,0+0", "");
        Check.put(two, "l05;l150;l25").assize();
        two.nights(1);
        Check.row("two die in a NIGHT", two, 5, 0);
        // who has nothing on him does not die, whatever is LEFT
        HeWillNotPlead z = Check.with("10,0+0", "");
        Check.put(z, "0").rule();
        z.nights(5);
        Check.due("LAID 0", z.count(4), 1);
        z.lay(0, 1);
        z.nights(1);
        Check.due("LAID 1", z.count(6), 1);
        // BORNE is 1 more ahead of LEFT
        HeWillNotPlead v = Check.with("10,0+0", "");
        Check.put(v, "2-d*2").rule();
        v.lay(0, 1);
        v.nights(1);
        Check.due("BORNE first", v.count(6), 1);
    }

    private static void assize() {
        HeWillNotPlead x = Check.with("40,15+0;9,9+0", "1,60,0;1,40,0");
        Check.due("all", Check.put(x, "l030;o09;n1;a0;a1;j1").assize(), 6);
        Check.row("all", x, 0, 1);
        Check.due("LAID 30 - 9, then 0", x.prisoner(0, 6), 0);
        Check.due("PLEADED", x.count(5), 1);
        Check.due("CONVICTED", x.count(8), 2);
        Check.due("as one", x.count(11), 1);
        Check.due("emptied", x.count(13), 0);
        Check.due("one can't be", Check.put(x, "n2;j0;j0;n9").assize(), 2);
        Check.row("one can't be", x, 1, 3);
        Check.due("an empty one", x.assize(), 0);
        Check.row("an empty one", x, 0, 3);
        String[] none = {"a9", "l299", "l051", "l000", "o000", "n61", "j1", "a1", "l01"};
        for (String act : none) {
            Check.due("assize " + act, Check.put(x, act + ";n1").assize(), 0);
            Check.row("assize " + act, x, 1, 3);
        }
        Check.due("nothing was done by these", x.count(11), 2);
        HeWillNotPlead y = Check.with("40,15+0", "");
        Check.due("acts that answer 0 were done", Check.put(y, "a0;l05;o09;n0;n60").assize(), 5);
        Check.row("acts that answer 0 were done", y, 0, 60);
        Check.due("n0", Check.put(x, "n0").assize(), 1);
        Check.due("n0 is an ACT that was done", x.count(11), 3);
    }

    private static void wrongAssizes() {
        String[] texts = {
            "x", "l", "l0", "lx", "l0x", "l0123", "o", "o0", "o0x", "a", "ax", "a00", "j", "j0;", "jx",
            "n", "nx", "n123", "a0;", ";", "a0;;", "a0,a1", "n1;l0", "l01;x", "A0", "n1 ",
        };
        int[] wrongAt = {
            0, 1, 2, 1, 2, 4, 1, 2, 2, 1, 1, 2, 1, 3, 1,
            1, 1, 3, 3, 0, 3, 2, 5, 4, 0, 2,
        };
        for (int k = 0; k < texts.length; k++) {
            HeWillNotPlead x = Check.with("9,9+0", "");
            String before = Check.seen(x);
            Check.due("assize " + texts[k], Check.put(x, texts[k]).assize(), -1 - wrongAt[k]);
            Check.same("nothing is done of " + texts[k], Check.seen(x), before);
        }
    }

    private static void assizeOfSixtySigns() {
        String sixty = "n1;".repeat(19) + "n10";
        HeWillNotPlead x = new HeWillNotPlead();
        Check.due("60 signs", Check.put(x, sixty).assize(), 20);
        Check.row("60 signs", x, 0, 29);
        Check.due("61 signs, 60 could go on", Check.put(x, sixty + ";n1").assize(), -61);
        Check.due("61 signs, the last one wrong", Check.put(x, sixty + "0").assize(), -61);
        Check.due("60 signs that end too early", Check.put(x, "n1;".repeat(20)).assize(), -61);
        Check.due("80 signs, one wrong ahead", Check.put(x, "n1;".repeat(19) + "nn" + sixty).assize(), -59);
        Check.due("nothing was done", x.count(2), 29);
    }

    private static void undo() {
        HeWillNotPlead x = Check.with("40,15+0;9,9+0", "0,60,7");
        Check.due("nothing to undo", x.undo(), -1);
        String[] before = new String[5];
        before[0] = Check.facts(x);
        x.lay(0, 20);
        before[1] = Check.facts(x);
        x.ask(0);
        before[2] = Check.facts(x);
        x.ask(1);
        before[3] = Check.facts(x);
        x.nights(0);
        x.nights(2);
        before[4] = Check.facts(x);
        x.judge(1);
        Check.due("what can be undone", x.count(11), 5);
        for (int k = 4; k >= 0; k--) {
            Check.due("undo", x.undo(), k);
            Check.same("as ahead of it", Check.facts(x), before[k]);
        }
        Check.due("none", x.undo(), -1);
        Check.due("the row stays", x.count(12), 1);
    }

    private static void undoOfTwelve() {
        HeWillNotPlead x = Check.with("40,15+0", "");
        for (int k = 1; k <= 30; k++) {
            x.lay(0, 1);
            x.lay(0, 0);
            Check.due("of 12 that are kept", x.count(11), Math.min(12, k));
        }
        for (int k = 11; k >= 0; k--) {
            Check.due("undo", x.undo(), k);
        }
        Check.due("the thirteenth", x.undo(), -1);
        Check.due("LAID", x.prisoner(0, 6), 18);
        x.lay(0, 5);
        Check.put(x, "l01;n1").assize();
        Check.put(x, "l01;n1").assize();
        Check.due("an assize as one", x.undo(), 2);
        Check.due("LAID", x.prisoner(0, 6), 24);
        Check.due("an act that can't be is not noted", x.lay(0, 99), -1);
        Check.due("undo", x.undo(), 1);
        Check.due("LAID", x.prisoner(0, 6), 23);
    }

    private static void undoForgets() {
        HeWillNotPlead x = Check.with("40,15+0", "0,9,9");
        x.lay(0, 9);
        x.prisoners();
        x.witnesses();
        Check.put(x, "x").prisoners();
        Check.put(x, "x").witnesses();
        x.again(0);
        Check.due("empty and refused ones do not forget", x.count(11), 1);
        Check.put(x, "khkk").law();
        Check.put(x, "b").rule();
        Check.put(x, "1,1,1,1,1,1,1,1").values();
        x.ends(50);
        x.sheet(2, 1, 77, 0);
        x.keep(0);
        Check.due("nor do others", x.undo(), 0);
        Check.due("LAID", x.prisoner(0, 6), 0);
        Check.due("FEAR stays", x.prisoner(0, 1), 77);
        Check.due("THE END stays", x.count(3), 50);
        x.lay(0, 9);
        Check.put(x, "1,1+0").prisoners();
        Check.due("prisoners() forgets", x.undo(), -1);
        x.lay(0, 9);
        Check.put(x, "1,1,1").witnesses();
        Check.due("witnesses() forgets", x.undo(), -1);
        x.keep(1);
        x.lay(0, 9);
        x.again(1);
        Check.due("again() forgets", x.undo(), -1);
        Check.due("LAID stays", x.prisoner(0, 6), 18);
    }

    private static void undoOfRandomActs() {
        Random random = new Random(18);
        for (int k = 0; k < 300; k++) {
            HeWillNotPlead x = World.random(random).make();
            x.prisoners();
            String before = Check.facts(x);
            int can = x.count(11);
            int act = random.nextInt(5);
            int p = random.nextInt(x.count(0));
            long answer = act == 0 ? x.lay(p, Check.between(random, -60, 60))
                    : act == 1 ? x.ask(p)
                    : act == 2 ? x.judge(p)
                    : act == 3 ? x.nights(Check.between(random, 1, 60))
                    : Check.put(x, "a" + p + ";n3;l" + p + "9;j" + p).assize() - 1;
            Check.due("act " + act + " can be undone", x.count(11), answer < 0 ? can : Math.min(12, can + 1));
            if (answer >= 0) {
                x.undo();
            }
            Check.same("undone " + act, Check.facts(x), before);
        }
    }
}
