/** The boundary cases that promises 39 to 48 name: chance, houses, threats, years, what is kept. */
public final class EdgesOfChanceTest {
    private static final int S = Court.SILENT;
    private static final int[] SEEDS = {0, 1, -1, 12345, Integer.MAX_VALUE, Integer.MIN_VALUE, 1103515245, -740551042};

    public static void main(String[] args) throws Exception {
        Edges edges = new Edges();
        chance(edges);
        houses(edges);
        threats(edges);
        years(edges);
        kept(edges);
        edges.finish(39, 48);
    }

    private static void chance(Edges edges) {
        edges.edge(39, "whether he is dumb (by q tenths, 0 .. 10) or stubborn", EdgesOfChanceTest::tenthsDumb);
        edges.edge(39, "pleads by p tenths (0 .. 10) each time", EdgesOfChanceTest::tenthsPleading);
        edges.edge(39, "he was asked n times (0 .. 12) and said nothing", EdgesOfChanceTest::timesAsked);
        edges.edge(39, "-2: it can't be so; NONE: others.", EdgesOfChanceTest::cantBeSo);
        edges.edge(40, "How often (0 .. 12) he must be asked", EdgesOfChanceTest::howOften);
        edges.edge(40, "by v in 100 (0 .. 100) or more", EdgesOfChanceTest::orMore);
        edges.edge(40, "-2: not by 12; NONE: others.", EdgesOfChanceTest::notByTwelve);
    }

    private static void houses(Edges edges) {
        edges.edge(41, "has VALUES of v (0 .. 999) together", EdgesOfChanceTest::together);
        edges.edge(41, "the least (bits; NONE)", EdgesOfChanceTest::leastPart);
        edges.edge(41, "GOODS that are in all of them (0 without)", EdgesOfChanceTest::inAllOfThem);
        edges.edge(41, "NONE: others.", () -> {
            Court.noneSuch(p -> x -> x.house(p, 0));
            Court.others(v -> x -> x.house(S, v), -1, 1000);
        });
        edges.edge(42, "the fewest parts (as house()) are left at most", EdgesOfChanceTest::fewestLeft);
        edges.edge(42, "of equal ones the first", EdgesOfChanceTest::firstOfEqualGoods);
        edges.edge(42, "-2: there are no such parts, or he has no GOODS; NONE: others.", () -> {
            noSuchParts();
            Court.noneSuch(p -> x -> x.search(p, 0));
            Court.others(v -> x -> x.search(S, v), -1, 1000);
        });
    }

    private static void threats(Edges edges) {
        edges.edge(43, "A judge threatens 0 .. 9, a prisoner holds out 0 .. 9", EdgesOfChanceTest::nineAtMost);
        edges.edge(43, "if he holds out as much as the threat, or more, he keeps v (0 .. 99)",
                EdgesOfChanceTest::asMuchAsTheThreat);
        edges.edge(43, "the judge pays c (0 .. 9) for each that he threatens", EdgesOfChanceTest::costs);
        edges.edge(43, "neither would have more by another number alone", EdgesOfChanceTest::asMuchIsNotMore);
        edges.edge(43, "nothing without", EdgesOfChanceTest::noPair);
        edges.edge(43, "NONE: others.", () -> {
            Court.others(v -> x -> x.rests(v, 0), -1, 100);
            Court.others(c -> x -> x.rests(0, c), -1, 10);
        });
    }

    private static void years(Edges edges) {
        edges.edge(44, "n DAYS (1 .. 60) from now", EdgesOfChanceTest::sixtyDays);
        edges.edge(44, "0: 10 are laid on him, 1: 10 are taken off (as lay())", EdgesOfChanceTest::tenLaid);
        edges.edge(44, "what can't be is not", EdgesOfChanceTest::whatCantBe);
        edges.edge(44, "how many are DEAD by these, CONVICTED by these", EdgesOfChanceTest::byTheseYears);
        edges.edge(44, "-2: nobody (asked first); NONE: another n.", EdgesOfChanceTest::nobodyFirst);
        edges.edge(44, "R = R times 1103515245 + 12345 (as ints; R is seed at first)", EdgesOfChanceTest::drawsAsInts);
        edges.edge(44, "(R without sign, by 65536) % n", EdgesOfChanceTest::drawsWithoutSign);
    }

    private static void kept(Edges edges) {
        edges.edge(45, "are kept under a number 0 .. 1: true. Refused: others.", EdgesOfChanceTest::keep);
        edges.edge(46, "They are as they were kept under a number.", EdgesOfChanceTest::asTheyWereKept);
        edges.edge(46, "Refused: nothing kept", EdgesOfChanceTest::nothingKept);
        edges.edge(46, "PRISONERS or WITNESSES came since", EdgesOfChanceTest::cameSince);
        edges.edge(47, "What 0: PRISONERS", EdgesOfChanceTest::counts);
        edges.edge(47, "NONE for another what.", () -> Court.others(what -> x -> x.count(what), -1, 14));
        edges.edge(48, "NoSuchElementException: none such.", EdgesOfChanceTest::noSuchNumber);
    }

    private static HeWillNotPlead told(int q, int p, int n) {
        HeWillNotPlead x = new HeWillNotPlead();
        Check.due("dumb(" + q + ", " + p + ", " + n + ")", x.dumb(q, p, n), 0);
        return x;
    }

    private static void tenthsDumb() {
        Check.row("never", told(0, 5, 3), 0, 1);
        Check.row("surely", told(10, 5, 3), 1, 1);
        Check.row("1 of 10", told(1, 0, 0), 1, 10);
        Check.row("9 of 10", told(9, 0, 0), 9, 10);
        Court.others(q -> x -> x.dumb(q, 0, 0), -1, 11);
    }

    private static void tenthsPleading() {
        Check.row("he never pleads: nothing is learnt", told(3, 0, 12), 3, 10);
        Check.row("he always pleads: he is dumb", told(1, 10, 1), 1, 1);
        Check.row("he always pleads, not asked", told(1, 10, 0), 1, 10);
        Court.others(p -> x -> x.dumb(0, p, 0), -1, 11);
    }

    private static void timesAsked() {
        Check.row("0", told(5, 5, 0), 1, 2);
        Check.row("1", told(5, 5, 1), 2, 3);
        Check.row("12", told(5, 5, 12), 4096, 4097);
        // the greatest numbers: 10^12 and 9 * 9^12
        Check.row("12, above ints", told(1, 1, 12), 1000000000000L, 1000000000000L + 9 * 282429536481L);
        Court.others(n -> x -> x.dumb(5, 5, n), -1, 13);
    }

    private static void cantBeSo() {
        Court.refuses("stubborn, always pleads, said nothing once", x -> x.dumb(0, 10, 1), -2);
        Court.refuses("stubborn, always pleads, said nothing 12 times", x -> x.dumb(0, 10, 12), -2);
        Check.row("not asked, it can", told(0, 10, 0), 0, 1);
        Check.row("he pleads by 9 tenths, it can", told(0, 9, 12), 0, 1);
        Court.refuses("13 times", x -> x.dumb(0, 10, 13), -1);
    }

    private static void howOften() {
        HeWillNotPlead x = new HeWillNotPlead();
        Check.due("not at all", x.sure(5, 5, 50), 0);
        Check.due("once", x.sure(5, 5, 51), 1);
        // 10^n by 10^n + 9 * 7^n is above 0.88 at 12, not at 11
        Check.due("12 times", x.sure(1, 3, 88), 12);
        Check.due("not 13 times", x.sure(1, 3, 91), -2);
        Court.others(q -> y -> y.sure(q, 0, 0), -1, 11);
        Court.others(p -> y -> y.sure(0, p, 0), -1, 11);
    }

    private static void orMore() {
        HeWillNotPlead x = new HeWillNotPlead();
        Check.due("0 of 100, never dumb", x.sure(0, 0, 0), 0);
        Check.due("100 of 100, dumb", x.sure(10, 0, 100), 0);
        Check.due("100 of 100, by one who always pleads", x.sure(1, 10, 100), 1);
        Check.due("just 80", x.sure(5, 5, 80), 2);
        Check.due("81", x.sure(5, 5, 81), 3);
        Court.others(v -> y -> y.sure(5, 5, v), -1, 101);
    }

    private static void notByTwelve() {
        Court.refuses("he never pleads", x -> x.sure(5, 0, 51), -2);
        Court.refuses("he is not dumb", x -> x.sure(0, 5, 1), -2);
        Court.refuses("he is not dumb, and it can't be", x -> x.sure(0, 10, 1), -2);
        Court.refuses("4096 of 4097 are not all", x -> x.sure(5, 5, 100), -2);
    }

    private static HeWillNotPlead withValues(String prisoners, String values) {
        HeWillNotPlead x = Check.with(prisoners, "");
        Check.put(x, values).values();
        return x;
    }

    private static void together() {
        HeWillNotPlead x = withValues("9,9+0abcdefgh", "99,99,99,99,99,99,99,99");
        Check.due("0: no GOODS are a part, too", x.house(0, 0), 1);
        Check.row("0", x, 0, 0);
        Check.due("all", x.house(0, 792), 1);
        Check.row("all", x, 255, 255);
        Check.due("999 is more than all", x.house(0, 999), 0);
        Check.due("one of eight", x.house(0, 99), 8);
        Check.due("four of eight", x.house(0, 396), 70);
        HeWillNotPlead y = withValues("9,9+0abcdefgh", "0,0,0,0,0,0,0,0");
        Check.due("any part", y.house(0, 0), 256);
        Check.row("any part", y, 0, 0);
        Check.due("none", y.house(0, 1), 0);
    }

    private static void leastPart() {
        HeWillNotPlead x = withValues("9,9+0bdh;9,9+0ac", "3,3,3,3,3,3,3,3");
        x.house(0, 3);
        Check.row("b", x, 2, 0);
        x.house(0, 6);
        Check.row("bd", x, 10, 0);
        x.house(1, 3);
        Check.row("a", x, 1, 0);
        Check.due("none", x.house(0, 4), 0);
        Check.row("NONE", x, -1, 0);
    }

    private static void inAllOfThem() {
        HeWillNotPlead x = withValues("9,9+0abc;9,9+0", "5,3,3,9,9,9,9,9");
        Check.due("ab, ac", x.house(0, 8), 2);
        Check.row("a is in both", x, 3, 1);
        Check.due("abc", x.house(0, 11), 1);
        Check.row("abc", x, 7, 7);
        Check.due("none", x.house(0, 7), 0);
        Check.row("0 without", x, -1, 0);
        Check.due("no GOODS", x.house(1, 0), 1);
        Check.row("no GOODS", x, 0, 0);
    }

    private static void fewestLeft() {
        // 4 is ac or ad: of a all are left, of b all, of c one
        HeWillNotPlead x = withValues("9,9+0abcd", "1,2,3,3,9,9,9,9");
        Check.due("c", x.search(0, 4), 2);
        Check.row("one is left", x, 1);
        // 6 is abc, abd or cd: of each two are left at most
        Check.due("a", x.search(0, 6), 0);
        Check.row("two are left", x, 2);
        Check.due("one part alone", x.search(0, 9), 0);
        Check.row("one part alone", x, 1);
    }

    private static void firstOfEqualGoods() {
        HeWillNotPlead x = withValues("9,9+0bdh", "3,3,3,3,3,3,3,3");
        Check.due("b", x.search(0, 3), 1);
        Check.row("two are left", x, 2);
        Check.due("none of them is in it", x.search(0, 0), 1);
        Check.row("none of them is in it", x, 1);
        HeWillNotPlead y = withValues("9,9+0h", "3,3,3,3,3,3,3,3");
        Check.due("h", y.search(0, 3), 7);
    }

    private static void noSuchParts() {
        HeWillNotPlead x = withValues("9,9+0ab;9,9+0", "5,3,3,9,9,9,9,9");
        Check.due("8", x.search(0, 8), 0);
        Check.row("8", x, 1);
        Check.due("no such parts", x.search(0, 7), -2);
        Check.due("999", x.search(0, 999), -2);
        Check.due("no GOODS, though no GOODS are a part", x.search(1, 0), -2);
        Check.due("no GOODS", x.search(1, 1), -2);
        Check.row("nothing told", x, 1);
    }

    private static HeWillNotPlead rests(int v, int c, int want) {
        HeWillNotPlead x = new HeWillNotPlead();
        Check.due("rests(" + v + ", " + c + ")", x.rests(v, c), want);
        return x;
    }

    private static void nineAtMost() {
        // if nothing costs anything, he holds out 9, and no threat is more than that
        Check.row("the least of ten", rests(1, 0, 10), 0, 9);
        Check.row("nothing is at stake", rests(0, 0, 100), 0, 0);
        Check.row("99", rests(99, 0, 10), 0, 9);
    }

    private static void asMuchAsTheThreat() {
        // a threat of 0 is held out by 0
        Check.row("0 against 0", rests(0, 1, 1), 0, 0);
        // and one of 9 by 9
        Check.row("9 against 0 .. 9", rests(1, 0, 10), 0, 9);
        Check.row("1 for a cost of 2", rests(1, 2, 1), 0, 0);
    }

    private static void costs() {
        Check.row("9 for 9", rests(8, 9, 1), 0, 0);
        Check.row("c 0", rests(5, 0, 10), 0, 9);
        Check.due("c 1 is a cost", new HeWillNotPlead().rests(5, 1), 0);
    }

    private static void asMuchIsNotMore() {
        // by 1 the judge, and then the prisoner, would have as much
        Check.row("v as much as c", rests(9, 9, 2), 0, 0);
        Check.row("v as much as c", rests(1, 1, 2), 0, 0);
        Check.due("v more than c", new HeWillNotPlead().rests(9, 8), 0);
    }

    private static void noPair() {
        HeWillNotPlead x = rests(0, 0, 100);
        Check.due("two numbers", x.count(12), 2);
        Check.due("none at rest", x.rests(99, 9), 0);
        Check.row("nothing", x);
    }

    /** R as it is by numbers without bounds, put to 32 bits without sign. */
    private static long stirred(long random) {
        return Math.floorMod(random * 1103515245L + 12345L, 1L << 32);
    }

    /** What years() tells, acted on another object. */
    private static long[] acted(HeWillNotPlead y, int seed, int n) {
        int dead = y.count(6);
        int convicted = y.count(8);
        long random = Math.floorMod((long) seed, 1L << 32);
        long pleaded = 0;
        int prisoners = y.count(0);
        for (int day = 0; day < n; day++) {
            random = stirred(random);
            int who = (int) (random / 65536 % prisoners);
            random = stirred(random);
            switch ((int) (random / 65536 % 4)) {
                case 0: y.lay(who, 10); break;
                case 1: y.lay(who, -10); break;
                case 2: pleaded += y.ask(who) == 1 ? 1 : 0; break;
                default: y.judge(who); break;
            }
            y.nights(1);
        }
        return new long[] {pleaded, Integer.bitCount(y.count(6) & ~dead), Integer.bitCount(y.count(8) & ~convicted)};
    }

    private static void asActed(String what, HeWillNotPlead x, HeWillNotPlead y, int seed, int n) {
        long[] want = acted(y, seed, n);
        Check.due(what + ": years(" + seed + ", " + n + ")", x.years(seed, n), want[0]);
        Check.row(what + ": years(" + seed + ", " + n + ")", x, want[1], want[2]);
    }

    private static HeWillNotPlead many() {
        return Check.with("30,20+0;99,99+0;60,50+0;90,0-0;25,24+0", "1,99,0;1,99,0;2,99,9;2,99,0;4,99,1;4,99,1");
    }

    private static void sixtyDays() {
        for (int seed : SEEDS) {
            for (int n : new int[] {1, 2, 19, 20, 21, 60}) {
                asActed("many", many(), many(), seed, n);
            }
        }
        Court.others(n -> x -> x.years(1, n), 0, 61);
    }

    private static void tenLaid() {
        // one alone, so that only the second DRAW of a DAY tells: for some seeds he is laid on, or taken off
        for (int seed = -60; seed < 60; seed++) {
            asActed("he bears little", Check.with("15,0-0", ""), Check.with("15,0-0", ""), seed, 9);
            // 99 at most, 0 at least
            HeWillNotPlead x = Check.with("99,0-0", "");
            HeWillNotPlead y = Check.with("99,0-0", "");
            Check.put(x, "195-w-d*2").rule();
            Check.put(y, "195-w-d*2").rule();
            x.lay(0, 50);
            y.lay(0, 50);
            x.lay(0, 45);
            y.lay(0, 45);
            x.ends(99);
            y.ends(99);
            asActed("99 at most", x, y, seed, 60);
        }
    }

    private static void whatCantBe() {
        // nobody can be laid on, asked or tried
        HeWillNotPlead x = Check.with("9,99+0", "0,99,0;0,99,0");
        x.ask(0);
        x.judge(0);
        for (int seed : SEEDS) {
            Check.due("he is CONVICTED already", x.years(seed, 60), 0);
            Check.row("he is CONVICTED already", x, 0, 0);
            asActed("behind THE END", leftOver(), leftOver(), seed, 60);
        }
    }

    private static HeWillNotPlead leftOver() {
        HeWillNotPlead x = many();
        x.nights(20);
        return x;
    }

    private static void byTheseYears() {
        for (int seed : SEEDS) {
            asActed("those before are not by these", Court.make(), Court.make(), seed, 60);
        }
        // seed 0: 12345 by 65536 is 0; then R is 3554416254, by 65536 54236: 10 are laid on him
        HeWillNotPlead x = Check.with("9,9+0", "");
        Check.due("he dies", x.years(0, 1), 0);
        Check.row("he dies", x, 1, 0);
    }

    private static void nobodyFirst() {
        HeWillNotPlead x = new HeWillNotPlead();
        for (int n : new int[] {1, 60, 0, 61, -1, Integer.MIN_VALUE}) {
            Check.due("nobody, n " + n, x.years(1, n), -2);
        }
        Check.row("nothing told", x);
    }

    private static void drawsAsInts() {
        for (int seed : SEEDS) {
            asActed("runs over", many(), many(), seed, 60);
        }
    }

    private static void drawsWithoutSign() {
        // seeds by which the first R is below 0 as an int: of five, with sign it would be another one, or none
        int found = 0;
        for (int seed = 0; seed < 40; seed++) {
            if (seed * 1103515245 + 12345 < 0) {
                found++;
                asActed("R below 0", many(), many(), seed, 1);
                asActed("R below 0", many(), many(), seed, 30);
            }
        }
        Check.due("there are such seeds", found > 5, true);
    }

    private static void keep() {
        Check.due("0", new HeWillNotPlead().keep(0), true);
        Check.due("1", new HeWillNotPlead().keep(1), true);
        for (int i : new int[] {-1, 2, Integer.MIN_VALUE, Integer.MAX_VALUE}) {
            Court.refuses("keep(" + i + ")", x -> x.keep(i) ? 1 : 0, 0);
        }
    }

    private static void asTheyWereKept() {
        HeWillNotPlead x = Court.make();
        String atKeep = Check.facts(x);
        x.keep(0);
        x.nights(60);
        x.keep(1);
        String later = Check.facts(x);
        Check.due("again(0)", x.again(0), true);
        Check.same("as kept", Check.facts(x), atKeep);
        Check.due("again(1)", x.again(1), true);
        Check.same("as kept", Check.facts(x), later);
        Check.due("again(0), again", x.again(0), true);
        Check.same("as kept", Check.facts(x), atKeep);
        // THE END, FEAR and what is told by texts are no part of it
        x.ends(77);
        x.sheet(2, 6, 3, 0);
        x.again(0);
        Check.due("THE END stays", x.count(3), 77);
        Check.due("FEAR stays", x.prisoner(S, 1), 3);
        // what is kept does not change with what is
        x.again(0);
        x.nights(1);
        x.again(0);
        Check.due("DAY", x.count(2), 2);
    }

    private static void nothingKept() {
        HeWillNotPlead x = new HeWillNotPlead();
        Check.due("0", x.again(0), false);
        Check.due("1", x.again(1), false);
        x.keep(1);
        Check.due("the other", x.again(0), false);
        Check.due("the one", x.again(1), true);
        for (int i : new int[] {-1, 2, Integer.MIN_VALUE, Integer.MAX_VALUE}) {
            Court.refuses("again(" + i + ")", y -> y.again(i) ? 1 : 0, 0);
        }
    }

    private static HeWillNotPlead withBothKept() {
        HeWillNotPlead x = Check.with("40,15+0", "0,60,7");
        x.keep(0);
        x.keep(1);
        x.lay(0, 9);
        return x;
    }

    private static void cameSince() {
        HeWillNotPlead x = withBothKept();
        Check.put(x, "5,5+0").prisoners();
        Check.due("PRISONERS came", x.again(0), false);
        Check.due("PRISONERS came", x.again(1), false);
        Check.due("LAID stays", x.prisoner(0, 6), 9);
        HeWillNotPlead y = withBothKept();
        Check.put(y, "0,5,5").witnesses();
        Check.due("WITNESSES came", y.again(0), false);
        Check.due("WITNESSES came", y.again(1), false);
        y.keep(1);
        Check.due("kept since", y.again(1), true);
        Check.due("not this", y.again(0), false);
        HeWillNotPlead z = withBothKept();
        z.prisoners();
        z.witnesses();
        Check.put(z, "5,5+0;").prisoners();
        Check.put(z, "0,5,5;").witnesses();
        Check.due("nobody came", z.again(0), true);
        Check.due("nobody came", z.again(1), true);
        Check.due("LAID as kept", z.prisoner(0, 6), 0);
    }

    private static void counts() {
        HeWillNotPlead x = Court.make();
        long[] want = {6, 6, 2, 20, 2, 4, 8, 16, 32, 1, 255, 9, 2, 4};
        for (int what = 0; what < 14; what++) {
            Check.due("count(" + what + ")", x.count(what), want[what]);
        }
        HeWillNotPlead y = new HeWillNotPlead();
        for (int what = 0; what < 14; what++) {
            Check.due("new: count(" + what + ")", y.count(what), what == 3 ? 20 : 0);
        }
    }

    private static void noSuchNumber() {
        HeWillNotPlead x = Court.make();
        Check.due("the first", x.row(0), 2);
        Check.due("the last", x.row(1), 3);
        for (int i : new int[] {-1, 2, 5, Integer.MIN_VALUE, Integer.MAX_VALUE}) {
            Court.throwsFor("row(" + i + ")", y -> y.row(i));
        }
        Check.due("no numbers", Check.orThrows(() -> new HeWillNotPlead().row(0)), Check.THROWS);
        // behind a row of fewer, what a longer one told is not there
        x.parts();
        x.rests(50, 1);
        Check.due("none left", Check.orThrows(() -> x.row(0)), Check.THROWS);
    }
}
