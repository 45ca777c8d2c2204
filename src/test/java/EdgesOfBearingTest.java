/** The boundary cases that promises 19 to 27 name: what he bears. */
public final class EdgesOfBearingTest {
    private static final int S = Court.SILENT;

    public static void main(String[] args) throws Exception {
        Edges edges = new Edges();
        leftAndDies(edges);
        speaking(edges);
        weights(edges);
        many(edges);
        edges.finish(19, 27);
    }

    private static void leftAndDies(Edges edges) {
        edges.edge(19, "1000 and LEFT of a PRISONER in n NIGHTS (0 .. 60)", EdgesOfBearingTest::leftInNights);
        edges.edge(19, "(SILENT or not, as he were SILENT, and did not die, and no END came)",
                EdgesOfBearingTest::leftOfAny);
        edges.edge(19, "NONE: others.", EdgesOfBearingTest::leftOfNone);
        edges.edge(20, "In which NIGHT from now (1 .. 60) a SILENT one dies", EdgesOfBearingTest::diesInNights);
        edges.edge(20, "-2: in none (THE END may come first)", EdgesOfBearingTest::diesInNone);
        edges.edge(20, "-3: he is not SILENT; NONE: none such.", () -> {
            Court.notSilent(p -> x -> x.dies(p), -3);
            Court.noneSuch(p -> x -> x.dies(p));
        });
    }

    private static void speaking(Edges edges) {
        edges.edge(21, "If LAID were w (0 .. 99) from now on", EdgesOfBearingTest::weightsOfSpeaking);
        edges.edge(21, "asked each DAY from today on, ahead of each NIGHT: in how many NIGHTS (0 .. 60)",
                EdgesOfBearingTest::speaksInNights);
        edges.edge(21, "-2: he does not (he dies, or it is THE END, or not in 60)",
                EdgesOfBearingTest::doesNotSpeak);
        edges.edge(21, "-3: he is not SILENT; NONE: others.", () -> {
            Court.notSilent(p -> x -> x.speaks(p, 0), -3);
            Court.noneSuch(p -> x -> x.speaks(p, 0));
            Court.others(w -> x -> x.speaks(S, w), -1, 100);
        });
        edges.edge(22, "The least w (0 .. 99) with which speaks() is n (0 .. 60) or less",
                EdgesOfBearingTest::leastWeight);
        edges.edge(22, "-2: with none; -3: he is not SILENT; NONE: others.", () -> {
            Check.due("a dumb one", dumbOne().least(0, 60), -2);
            Court.notSilent(p -> x -> x.least(p, 60), -3);
            Court.noneSuch(p -> x -> x.least(p, 60));
            Court.others(n -> x -> x.least(S, n), -1, 61);
        });
    }

    private static void weights(Edges edges) {
        edges.edge(23, "The greatest w (0 .. 99)", EdgesOfBearingTest::greatestWeight);
        edges.edge(23, "in n NIGHTS (1 .. 60; no END)", EdgesOfBearingTest::mercyInNights);
        edges.edge(23, "-3: he is not SILENT; NONE: others.", () -> {
            Court.notSilent(p -> x -> x.mercy(p, 1), -3);
            Court.noneSuch(p -> x -> x.mercy(p, 1));
            Court.others(n -> x -> x.mercy(S, n), 0, 61);
        });
        edges.edge(24, "The w (0 .. 99) under which a SILENT one speaks the latest", EdgesOfBearingTest::latest);
        edges.edge(24, "of equal ones the least", EdgesOfBearingTest::latestOfEqualOnes);
        edges.edge(24, "-2: with none he speaks; -3: he is not SILENT; NONE: none such.", () -> {
            Check.due("a dumb one", dumbOne().longest(0), -2);
            Court.notSilent(p -> x -> x.longest(p), -3);
            Court.noneSuch(p -> x -> x.longest(p));
        });
        edges.edge(25, "For how many w (0 .. 99) two SILENT ones do not speak in the same NIGHT",
                EdgesOfBearingTest::unlikeWeights);
        edges.edge(25, "never, by both, is the same", EdgesOfBearingTest::neverByBoth);
        edges.edge(25, "the first such w (NONE)", EdgesOfBearingTest::firstUnlike);
        edges.edge(25, "-3: one is not SILENT; NONE: none such, like ones.", () -> {
            Court.notSilent(p -> x -> x.alike(p, S), -3);
            Court.notSilent(p -> x -> x.alike(S, p), -3);
            Court.noneSuch(p -> x -> x.alike(p, S));
            Court.noneSuch(p -> x -> x.alike(S, p));
            Court.refuses("like ones", x -> x.alike(S, S), -1);
        });
    }

    private static void many(Edges edges) {
        edges.edge(26, "Judges have n (0 .. 400) to lay in all", EdgesOfBearingTest::fourHundred);
        edges.edge(26, "(as if nothing lay on any now)", EdgesOfBearingTest::asIfNothingLay);
        edges.edge(26, "on each 0, 10, .. or 90", EdgesOfBearingTest::byTens);
        edges.edge(26, "0 on one who is not counted", EdgesOfBearingTest::notCounted);
        edges.edge(26, "of as many that with the least in all, of such the least row",
                EdgesOfBearingTest::leastInAll);
        edges.edge(26, "NONE: another n.", () -> Court.others(n -> x -> x.stones(n), -1, 401));
        edges.edge(27, "who are SILENT in n NIGHTS (0 .. 60)", EdgesOfBearingTest::silentInNights);
        edges.edge(27, "how many are DEAD more then, LEFT OVER more", EdgesOfBearingTest::moreThen);
        edges.edge(27, "NONE: another n.", () -> Court.others(n -> x -> x.silent(n), -1, 61));
    }

    private static HeWillNotPlead dumbOne() {
        return Check.with("40,99-0", "");
    }

    private static HeWillNotPlead byRule(String prisoners, String rule) {
        HeWillNotPlead x = Check.with(prisoners, "");
        Check.put(x, rule).rule();
        x.ends(99);
        return x;
    }

    private static void leftInNights() {
        HeWillNotPlead x = Check.with("40,15+0", "");
        x.lay(0, 10);
        Check.due("0", x.left(0, 0), 1030);
        Check.due("1", x.left(0, 1), 1021);
        Check.due("60", x.left(0, 60), 1000 + 30 - 300);
        Check.put(x, "0-999*9").rule();
        Check.due("the least", x.left(0, 0), 1);
        Check.put(x, "999*9").rule();
        Check.due("the most", x.left(0, 60), 1999);
    }

    private static void leftOfAny() {
        HeWillNotPlead x = Court.make();
        Check.due("LEFT OVER, nothing on him", x.left(Court.LEFT_OVER, 3), 1000 + 50 - 4);
        Check.due("PLEADED, nothing on him", x.left(Court.PLEADED, 3), 1000 + 30 - 4);
        Check.due("DEAD: LAID 10, BORNE 1", x.left(Court.DEAD, 3), 1000 + 10 - 10 - 4 * 5 - 4);
        Check.due("FREED", x.left(Court.FREED, 2), 1020);
        Check.due("CONVICTED", x.left(Court.CONVICTED, 2), 1020);
        Check.due("SILENT: he did not die", x.left(S, 30), 1000 + 40 - 15 - 30 * 5);
        x.ends(3);
        Check.due("no END came", x.left(S, 30), 1000 + 40 - 15 - 30 * 5);
    }

    private static void leftOfNone() {
        Court.noneSuch(p -> x -> x.left(p, 0));
        Court.others(n -> x -> x.left(S, n), -1, 61);
    }

    private static void diesInNights() {
        HeWillNotPlead x = byRule("1,0-0", "1-d");
        x.lay(0, 1);
        Check.due("the first", x.dies(0), 1);
        Check.row("LEFT then", x, 0);
        Check.put(x, "60-d").rule();
        Check.due("the 60th", x.dies(0), 60);
        Check.row("LEFT then", x, 0);
        Check.put(x, "61-d").rule();
        Check.due("the 61st is none", x.dies(0), -2);
        x.nights(1);
        Check.due("from now", x.dies(0), 60);
    }

    private static void diesInNone() {
        HeWillNotPlead x = Check.with("40,0-0", "");
        Check.due("nothing lies on him", x.dies(0), -2);
        x.lay(0, 20);
        x.ends(3);
        Check.due("THE END first", x.dies(0), -2);
        x.ends(4);
        Check.due("in the NIGHT of THE END", x.dies(0), 4);
        Check.row("LEFT then", x, 40 - 20 - 20 - 4);
        Check.put(x, "b").rule();
        Check.due("he bears it for ever", x.dies(0), -2);
        Check.row("nothing told", x, 40 - 20 - 20 - 4);
        // THE END is behind: it comes no more
        HeWillNotPlead y = new HeWillNotPlead();
        y.nights(20);
        Check.put(y, "40,0-0").prisoners();
        y.lay(0, 20);
        Check.due("no END to come", y.dies(0), 4);
    }

    private static void weightsOfSpeaking() {
        HeWillNotPlead x = byRule("99,0+0", "b-w");
        Check.due("99", x.speaks(0, 99), 0);
        Check.row("LEFT then", x, 0);
        Check.due("98", x.speaks(0, 98), -2);
        Check.put(x, "w").rule();
        Check.due("0", x.speaks(0, 0), 0);
        x.lay(0, 50);
        Check.due("0, whatever lies on him now", x.speaks(0, 0), 0);
        // under nothing he bears nothing more
        Check.put(x, "5-d-n*5").rule();
        Check.due("water alone", x.speaks(0, 0), 1);
        Check.row("LEFT then", x, 0);
    }

    private static void speaksInNights() {
        HeWillNotPlead x = byRule("99,0+0", "60-d");
        x.sheet(2, 1, 60, 0);
        Check.due("today", x.speaks(0, 1), 0);
        Check.row("LEFT then", x, 60);
        x.sheet(2, 1, 59, 0);
        Check.due("ahead of the second NIGHT", x.speaks(0, 1), 1);
        HeWillNotPlead y = byRule("99,0+0", "61-d");
        y.sheet(2, 1, 1, 0);
        Check.due("in 60", y.speaks(0, 1), 60);
        Check.row("LEFT then", y, 1);
        Check.put(y, "62-d").rule();
        Check.due("not in 61", y.speaks(0, 1), -2);
    }

    private static void doesNotSpeak() {
        HeWillNotPlead x = byRule("5,1+0", "b-d*5");
        Check.due("he dies", x.speaks(0, 1), -2);
        x.sheet(2, 1, 5, 0);
        Check.due("he speaks ahead of it", x.speaks(0, 1), 0);
        HeWillNotPlead y = byRule("40,37+0", "b-d");
        y.ends(3);
        Check.due("it is THE END", y.speaks(0, 1), -2);
        y.ends(4);
        Check.due("the DAY ahead of THE END", y.speaks(0, 1), 3);
        y.ends(99);
        Check.put(y, "98-d").rule();
        Check.due("not in 60, though in 61", y.speaks(0, 1), -2);
        Check.due("a dumb one", dumbOne().speaks(0, 99), -2);
        Check.row("these told nothing", y, 37);
    }

    private static void leastWeight() {
        HeWillNotPlead x = Check.with("40,15+0", "");
        Check.due("n 0", x.least(0, 0), 25);
        Check.row("n 0", x, 0);
        Check.due("n 1", x.least(0, 1), 16);
        Check.row("n 1", x, 1);
        Check.due("n 60", x.least(0, 60), 1);
        Check.row("n 60", x, 5);
        HeWillNotPlead y = byRule("99,0+0", "b-w");
        Check.due("w 99", y.least(0, 60), 99);
        Check.put(y, "b-w+1").rule();
        Check.due("not w 100", y.least(0, 60), -2);
        Check.put(y, "w").rule();
        Check.due("w 0", y.least(0, 0), 0);
        // n NIGHTS or less, no more
        HeWillNotPlead z = byRule("99,0+0", "60-d+(w=0)*99");
        z.sheet(2, 1, 10, 0);
        Check.due("in 50", z.least(0, 50), 1);
        Check.row("in 50", z, 50);
        Check.due("in 49", z.least(0, 49), -2);
        Check.row("nothing told", z, 50);
    }

    private static void greatestWeight() {
        HeWillNotPlead x = byRule("1,0-0", "b");
        Check.due("99", x.mercy(0, 60), 99);
        Check.put(x, "99-w").rule();
        Check.due("98", x.mercy(0, 1), 98);
        Check.put(x, "0").rule();
        Check.due("0: under nothing he does not die", x.mercy(0, 1), 0);
        Check.put(x, "(w=7)-(w=8)").rule();
        Check.due("7 alone", x.mercy(0, 60), 7);
    }

    private static void mercyInNights() {
        HeWillNotPlead x = Check.with("40,0-0", "");
        Check.due("1", x.mercy(0, 1), 34);
        Check.due("2", x.mercy(0, 2), 25);
        x.ends(1);
        Check.due("no END", x.mercy(0, 2), 25);
        HeWillNotPlead y = byRule("1,0-0", "60-d*(w>5)");
        Check.due("59", y.mercy(0, 59), 99);
        Check.due("60", y.mercy(0, 60), 5);
    }

    private static void latest() {
        HeWillNotPlead x = byRule("99,0+0", "w-99+(w=99)*(61-d)");
        x.sheet(2, 1, 1, 0);
        Check.due("w 99, in 60", x.longest(0), 99);
        Check.row("w 99, in 60", x, 60);
        HeWillNotPlead y = byRule("99,0+0", "(w=0)*n");
        Check.due("w 0", y.longest(0), 0);
        Check.row("w 0", y, 0);
    }

    private static void latestOfEqualOnes() {
        HeWillNotPlead x = byRule("99,0+0", "(w>6)*(w<9)*(3-d)");
        x.sheet(2, 1, 1, 0);
        Check.due("7, not 8", x.longest(0), 7);
        Check.row("in 2", x, 2);
        Check.put(x, "0").rule();
        Check.due("all at once", x.longest(0), 0);
        Check.row("all at once", x, 0);
    }

    private static void unlikeWeights() {
        HeWillNotPlead x = byRule("9,0+0;9,0+0", "i*(w=99)");
        Check.due("99 alone", x.alike(0, 1), 1);
        Check.row("99 alone", x, 99);
        Check.put(x, "i*(w=0)").rule();
        Check.due("0 alone", x.alike(0, 1), 1);
        Check.row("0 alone", x, 0);
        Check.put(x, "i").rule();
        Check.due("all", x.alike(1, 0), 100);
        Check.row("all", x, 0);
        // both speak, in other NIGHTS
        Check.put(x, "(w=50)*(i+2-d)").rule();
        x.sheet(2, 2, 1, 0);
        Check.due("a NIGHT later", x.alike(0, 1), 1);
        Check.row("a NIGHT later", x, 50);
    }

    private static void neverByBoth() {
        HeWillNotPlead x = Check.with("40,99-0;9,0-0", "");
        Check.due("two dumb ones", x.alike(0, 1), 0);
        HeWillNotPlead y = byRule("40,0+0;9,0-0", "b");
        Check.due("one is stubborn", y.alike(0, 1), 0);
    }

    private static void firstUnlike() {
        HeWillNotPlead x = Check.with("40,15+0;40,15+1;40,14+0", "");
        Check.due("none", x.alike(0, 1), 0);
        Check.row("NONE", x, -1);
        Check.due("some", x.alike(0, 2), 5);
        Check.row("the first", x, 5);
    }

    private static void fourHundred() {
        HeWillNotPlead x = byRule("80,0+0;80,0+0;80,0+0;80,0+0;80,0+0;80,0+0", "b-w");
        Check.due("400", x.stones(400), 5);
        Check.row("400: the least row", x, 0, 80, 80, 80, 80, 80);
        Check.due("399", x.stones(399), 4);
        Check.due("80", x.stones(80), 1);
        Check.row("80", x, 0, 0, 0, 0, 0, 80);
        Check.due("79", x.stones(79), 0);
        Check.due("0", x.stones(0), 0);
        Check.row("0", x, 0, 0, 0, 0, 0, 0);
        Check.due("nobody", new HeWillNotPlead().stones(400), 0);
    }

    private static void asIfNothingLay() {
        HeWillNotPlead x = byRule("30,0+0", "b-w");
        x.lay(0, 50);
        Check.due("not enough", x.stones(20), 0);
        Check.row("not enough", x, 0);
        Check.due("enough", x.stones(30), 1);
        Check.row("enough", x, 30);
    }

    private static void byTens() {
        HeWillNotPlead x = byRule("90,0+0;91,0+0;1,0+0;81,0+0", "b-w");
        Check.due("91 is too much", x.stones(400), 3);
        Check.row("91 is too much", x, 90, 0, 10, 90);
        HeWillNotPlead y = byRule("5,0+0", "w");
        Check.due("0", y.stones(0), 1);
        Check.row("0", y, 0);
    }

    private static void notCounted() {
        HeWillNotPlead x = byRule("20,0-0;20,0+0;95,0+0", "b-w");
        Check.due("one of three", x.stones(400), 1);
        Check.row("one of three", x, 0, 20, 0);
        HeWillNotPlead y = byRule("20,0+0;50,0+0", "b-w");
        Check.due("no more for the other", y.stones(69), 1);
        Check.row("no more for the other", y, 20, 0);
        HeWillNotPlead court = Court.make();
        Check.due("SILENT ones alone", court.stones(400), 1);
        Check.row("SILENT ones alone", court, 0, 10, 0, 0, 0, 0);
    }

    private static void leastInAll() {
        HeWillNotPlead x = byRule("50,0+0;20,0+0;30,0+0;20,0+0", "b-w");
        Check.due("two of 60", x.stones(60), 2);
        Check.row("20 and 20", x, 0, 20, 0, 20);
        Check.due("one of 39", x.stones(39), 1);
        Check.row("the least row", x, 0, 0, 0, 20);
        Check.due("three of 119", x.stones(119), 3);
        Check.row("the least in all", x, 0, 20, 30, 20);
        Check.due("four of 120", x.stones(120), 4);
        Check.row("all", x, 50, 20, 30, 20);
    }

    private static void silentInNights() {
        HeWillNotPlead x = Check.with("40,0-0;9,0-0", "");
        x.lay(0, 20);
        Check.due("0", x.silent(0), 3);
        Check.due("3", x.silent(3), 3);
        Check.due("4: he is DEAD", x.silent(4), 2);
        Check.due("19", x.silent(19), 2);
        Check.due("20: THE END", x.silent(20), 0);
        x.ends(60);
        Check.due("59", x.silent(59), 2);
        Check.due("60", x.silent(60), 0);
        Check.due("nobody", new HeWillNotPlead().silent(60), 0);
    }

    private static void moreThen() {
        HeWillNotPlead x = Court.make();
        x.silent(0);
        Check.row("none more", x, 0, 0);
        x.silent(60);
        Check.row("one DEAD, the PLEADED one LEFT OVER", x, 1, 1);
        x.lay(S, -50);
        x.silent(60);
        Check.row("two LEFT OVER", x, 0, 2);
        x.silent(17);
        Check.row("ahead of THE END", x, 0, 0);
    }
}
