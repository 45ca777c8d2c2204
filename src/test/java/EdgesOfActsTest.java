/** The boundary cases that promises 9 to 18 name: what is told of people, and acts of the assize. */
public final class EdgesOfActsTest {
    public static void main(String[] args) throws Exception {
        Edges edges = new Edges();
        people(edges);
        sheets(edges);
        acts(edges);
        assizes(edges);
        undone(edges);
        edges.finish(9, 18);
    }

    private static void people(Edges edges) {
        edges.edge(9, "NoSuchElementException: none such, another what.", EdgesOfActsTest::noSuchPrisoner);
        edges.edge(10, "NoSuchElementException: likewise.", EdgesOfActsTest::noSuchWitness);
        edges.edge(11, "THE END becomes v (more than DAY, 99 at most)", EdgesOfActsTest::moreThanDay);
        edges.edge(11, "Refused: others.", EdgesOfActsTest::noEnd);
    }

    private static void sheets(Edges edges) {
        edges.edge(12, "of bytes, shorts the lowest bits, with their sign", EdgesOfActsTest::lowestBits);
        edges.edge(12, "put to 0 .. 99", EdgesOfActsTest::fearWithinBounds);
        edges.edge(12, "those behind it have 0", EdgesOfActsTest::behindTheSheet);
        edges.edge(12, "-2: n below 0 (of kinds 0 .. 2; nothing changes)", EdgesOfActsTest::fewerThanNone);
        edges.edge(12, "-3: missing (all 0)", EdgesOfActsTest::missingSheet);
        edges.edge(12, "NONE: another kind, n above 6 (these first)", EdgesOfActsTest::noSheet);
    }

    private static void acts(Edges edges) {
        edges.edge(13, "n (1 .. 50) is laid on a SILENT PRISONER", EdgesOfActsTest::laidOn);
        edges.edge(13, "or taken off: n below 0, -50 at least; 0 at least then, 99 at most",
                EdgesOfActsTest::takenOff);
        edges.edge(13, "-2: he is not SILENT; NONE: others.", EdgesOfActsTest::notLaid);
        edges.edge(14, "he pleads (PLEADED, LAID 0), if he is not dumb and LEFT is FEAR or less: 1",
                EdgesOfActsTest::fearOrLess);
        edges.edge(14, "0: he says nothing", EdgesOfActsTest::saysNothing);
        edges.edge(14, "-2: he is not SILENT; NONE: none such.", EdgesOfActsTest::notAsked);
        edges.edge(15, "4 (CONVICTED), if PROOF is 100 or more, else 3 (FREED)", EdgesOfActsTest::hundredOrMore);
        edges.edge(15, "-2: he has not PLEADED; NONE: none such.", EdgesOfActsTest::notTried);
        edges.edge(16, "n NIGHTS (0 .. 60): DAY", EdgesOfActsTest::sixtyNights);
        edges.edge(16, "PRISONERS who are DEAD by these (bits), who are LEFT OVER by these",
                EdgesOfActsTest::goneByThese);
        edges.edge(16, "NONE: another n.", EdgesOfActsTest::noNights);
    }

    private static void assizes(Edges edges) {
        edges.edge(17, "(an empty one: nothing)", EdgesOfActsTest::emptyAssize);
        edges.edge(17, "l, a digit (PRISONER), a number (1 or 2 digits): lay(); o, likewise: lay() of so much less",
                EdgesOfActsTest::digitsOfActs);
        edges.edge(17, "a and a digit: ask(); j and a digit: judge()", EdgesOfActsTest::oneDigit);
        edges.edge(17, "n and a number (1 or 2 digits): nights()", EdgesOfActsTest::digitsOfNights);
        edges.edge(17, "till one can't be (it answers below 0)", EdgesOfActsTest::tillOneCant);
        edges.edge(17, "the ROW: 1 if one could not be, else 0; DAY", EdgesOfActsTest::rowOfAssize);
        edges.edge(17, "the sign at p can't stand there (as prisoners(); 60 signs); nothing is done then",
                EdgesOfActsTest::sixtySigns);
    }

    private static void undone(Edges edges) {
        edges.edge(18, "ask() (also if he said nothing)", EdgesOfActsTest::undoneSilence);
        edges.edge(18, "of 12 that are kept, the latest ones", EdgesOfActsTest::twelveKept);
        edges.edge(18, "such as were done", EdgesOfActsTest::refusedAreNotKept);
        edges.edge(18, "nights() of 1 and more", EdgesOfActsTest::undoneNights);
        edges.edge(18, "assize() of which one ACT was done, as one", EdgesOfActsTest::undoneAssize);
        edges.edge(18, "DAY, what PRISONERS are, LAID, BORNE, WORDS are as ahead of it", EdgesOfActsTest::asAheadOfIt);
        edges.edge(18, "how many are left that can be", EdgesOfActsTest::leftToUndo);
        edges.edge(18, "Refused: none.", EdgesOfActsTest::nothingToUndo);
        edges.edge(18, "prisoners(), witnesses() and again() forget them, if they are not refused",
                EdgesOfActsTest::forgotten);
        edges.edge(18, "empty ones do not", EdgesOfActsTest::emptyOnesForgetNothing);
    }

    private static void noSuchPrisoner() {
        HeWillNotPlead x = Court.make();
        Check.due("the last one, the last what", x.prisoner(5, 10), 32 + 64 + 99);
        for (int p : Court.NONE_SUCH) {
            Court.throwsFor("prisoner(" + p + ", 0)", y -> y.prisoner(p, 0));
        }
        for (int what : new int[] {-1, 11, Integer.MIN_VALUE, Integer.MAX_VALUE}) {
            Court.throwsFor("prisoner(0, " + what + ")", y -> y.prisoner(0, what));
        }
        Court.throwsFor("neither", y -> y.prisoner(6, 11));
        HeWillNotPlead alone = one();
        Check.due("the second of one", Check.orThrows(() -> alone.prisoner(1, 0)), Check.THROWS);
    }

    private static void noSuchWitness() {
        HeWillNotPlead x = Court.make();
        Check.due("the last one, the last what", x.witness(5, 2), 1);
        for (int k : new int[] {-1, 6, 7, 8, Integer.MIN_VALUE, Integer.MAX_VALUE}) {
            Court.throwsFor("witness(" + k + ", 0)", y -> y.witness(k, 0));
        }
        for (int what : new int[] {-1, 3, Integer.MIN_VALUE, Integer.MAX_VALUE}) {
            Court.throwsFor("witness(0, " + what + ")", y -> y.witness(0, what));
        }
    }

    private static void moreThanDay() {
        HeWillNotPlead x = Court.make();
        Check.due("one more than DAY 2", x.ends(3), 20);
        Check.due("99", x.ends(99), 3);
        Check.due("as it is", x.ends(99), 99);
        HeWillNotPlead y = new HeWillNotPlead();
        y.nights(60);
        y.nights(38);
        Check.due("the last that can be", y.ends(99), 20);
        y.nights(1);
        Check.due("no END can be", y.ends(99), -1);
        Check.due("nor this", y.ends(100), -1);
    }

    private static void noEnd() {
        for (int v : new int[] {2, 1, 0, -1, 100, Integer.MIN_VALUE, Integer.MAX_VALUE}) {
            Court.refuses("ends(" + v + ")", x -> x.ends(v), -1);
        }
    }

    private static void fears(HeWillNotPlead x, String what, int... want) {
        for (int p = 0; p < want.length; p++) {
            Check.due(what + ", FEAR of " + p, x.prisoner(p, 1), want[p]);
        }
    }

    private static HeWillNotPlead three() {
        return Check.with("5,5+0;5,6+0;5,7+0", "");
    }

    private static void lowestBits() {
        HeWillNotPlead x = three();
        Check.due("bytes 127, 128, 129", x.sheet(0, 3, 127, 1), 99);
        fears(x, "128 is -128", 99, 0, 0);
        Check.due("bytes 255, 256, 257", x.sheet(0, 3, 255, 1), 1);
        fears(x, "255 is -1, 256 is 0", 0, 0, 1);
        Check.due("bytes -246, ..", x.sheet(0, 3, -246, 256), 30);
        fears(x, "-246 is 10", 10, 10, 10);
        Check.due("shorts 32767, 32768, 32769", x.sheet(1, 3, 32767, 1), 99);
        fears(x, "32768 is -32768", 99, 0, 0);
        Check.due("shorts 65535, 65536, 65537", x.sheet(1, 3, 65535, 1), 1);
        fears(x, "65535 is -1", 0, 0, 1);
        Check.due("a short is no byte", x.sheet(1, 3, 256, 0), 3 * 99);
        Check.due("an int is no short", x.sheet(2, 3, 65536, 0), 3 * 99);
        Check.due("ints run over", x.sheet(2, 2, Integer.MAX_VALUE, 1), 99);
        fears(x, "the greatest, and the least", 99, 0, 0);
        Check.due("a step runs over", x.sheet(2, 3, 5, Integer.MIN_VALUE), 10);
        fears(x, "twice the least int is 0", 5, 0, 5);
    }

    private static void fearWithinBounds() {
        HeWillNotPlead x = three();
        Check.due("98, 99, 100", x.sheet(2, 3, 98, 1), 98 + 99 + 99);
        fears(x, "98, 99, 100", 98, 99, 99);
        Check.due("1, 0, -1", x.sheet(2, 3, 1, -1), 1);
        fears(x, "1, 0, -1", 1, 0, 0);
        Check.due("the least", x.sheet(2, 1, Integer.MIN_VALUE, 0), 0);
    }

    private static void behindTheSheet() {
        HeWillNotPlead x = three();
        Check.due("two of three", x.sheet(2, 2, 9, 1), 19);
        fears(x, "two of three", 9, 10, 0);
        Check.due("none of three", x.sheet(0, 0, 9, 1), 0);
        fears(x, "none of three", 0, 0, 0);
        HeWillNotPlead six = Court.make();
        Check.due("six of six", six.sheet(1, 6, 1, 1), 21);
        fears(six, "six of six", 1, 2, 3, 4, 5, 6);
        HeWillNotPlead y = three();
        Check.due("six of three", y.sheet(2, 6, 1, 1), 6);
        fears(y, "six of three", 1, 2, 3);
        Check.put(y, "5,44+0").prisoners();
        Check.due("one who comes later fears as he is told", y.prisoner(3, 1), 44);
    }

    private static void fewerThanNone() {
        for (int kind = 0; kind <= 2; kind++) {
            int k = kind;
            Court.refuses("kind " + kind + ", n -1", x -> x.sheet(k, -1, 9, 1), -2);
            Court.refuses("kind " + kind + ", the least n", x -> x.sheet(k, Integer.MIN_VALUE, 9, 1), -2);
        }
    }

    private static void missingSheet() {
        for (int n : new int[] {0, 6, 3, -1, Integer.MIN_VALUE}) {
            HeWillNotPlead x = three();
            Check.due("missing, n " + n, x.sheet(3, n, 9, 1), -3);
            fears(x, "missing, n " + n, 0, 0, 0);
        }
    }

    private static void noSheet() {
        for (int kind : new int[] {-1, 4, Integer.MIN_VALUE, Integer.MAX_VALUE}) {
            Court.refuses("kind " + kind, x -> x.sheet(kind, 1, 9, 1), -1);
            Court.refuses("kind " + kind + ", n -1", x -> x.sheet(kind, -1, 9, 1), -1);
        }
        for (int kind = 0; kind <= 3; kind++) {
            int k = kind;
            Court.refuses("kind " + kind + ", n 7", x -> x.sheet(k, 7, 9, 1), -1);
            Court.refuses("kind " + kind + ", the most", x -> x.sheet(k, Integer.MAX_VALUE, 9, 1), -1);
        }
    }

    private static void laidOn() {
        HeWillNotPlead x = Check.with("99,0+0", "");
        Check.due("1", x.lay(0, 1), 1);
        Check.due("50", x.lay(0, 50), 51);
        Check.due("LAID", x.prisoner(0, 6), 51);
        Court.refuses("0", y -> y.lay(Court.SILENT, 0), -1);
        Court.refuses("51", y -> y.lay(Court.SILENT, 51), -1);
        Court.refuses("the most", y -> y.lay(Court.SILENT, Integer.MAX_VALUE), -1);
    }

    private static void takenOff() {
        HeWillNotPlead x = Check.with("99,0+0", "");
        x.lay(0, 50);
        Check.due("99", x.lay(0, 49), 99);
        Check.due("not 100", x.lay(0, 1), 99);
        Check.due("not 149", x.lay(0, 50), 99);
        Check.due("-1", x.lay(0, -1), 98);
        Check.due("-50", x.lay(0, -50), 48);
        Check.due("-48", x.lay(0, -48), 0);
        Check.due("not -1", x.lay(0, -1), 0);
        x.lay(0, 49);
        Check.due("not -1, by 50", x.lay(0, -50), 0);
        Court.refuses("-51", y -> y.lay(Court.SILENT, -51), -1);
        Court.refuses("the least", y -> y.lay(Court.SILENT, Integer.MIN_VALUE), -1);
    }

    private static void notLaid() {
        for (int p : Court.NOT_SILENT) {
            Court.refuses("lay(" + p + ", 1)", x -> x.lay(p, 1), -2);
            Court.refuses("lay(" + p + ", -50)", x -> x.lay(p, -50), -2);
        }
        for (int p : Court.NONE_SUCH) {
            Court.refuses("lay(" + p + ", 1)", x -> x.lay(p, 1), -1);
        }
    }

    private static void fearOrLess() {
        HeWillNotPlead x = Check.with("20,15+0;20,15+0;20,15+0", "");
        x.lay(0, 4);
        x.lay(1, 5);
        x.lay(2, 6);
        Check.due("LEFT 16", x.ask(0), 0);
        Check.due("LEFT 15", x.ask(1), 1);
        Check.due("LEFT 14", x.ask(2), 1);
        Check.due("PLEADED", x.count(5), 6);
        Check.due("LAID stays", x.prisoner(0, 6), 4);
        Check.due("LAID 0", x.prisoner(1, 6), 0);
        HeWillNotPlead y = Check.with("1,0+0", "");
        Check.due("FEAR 0, LEFT 1", y.ask(0), 0);
        Check.put(y, "0").rule();
        Check.due("FEAR 0, LEFT 0", y.ask(0), 1);
    }

    private static void saysNothing() {
        HeWillNotPlead x = Check.with("20,99-0", "");
        x.lay(0, 7);
        Check.due("a dumb one", x.ask(0), 0);
        Check.due("SILENT", x.count(4), 1);
        Check.due("LAID stays", x.prisoner(0, 6), 7);
    }

    private static void notAsked() {
        for (int p : Court.NOT_SILENT) {
            Court.refuses("ask(" + p + ")", x -> x.ask(p), -2);
        }
        for (int p : Court.NONE_SUCH) {
            Court.refuses("ask(" + p + ")", x -> x.ask(p), -1);
        }
    }

    private static void hundredOrMore() {
        int[] words = {1, 2, 3};
        int[] want = {3, 4, 4};
        for (int k = 0; k < words.length; k++) {
            HeWillNotPlead x = Check.with("5,9+0", "0,98,0;0," + words[k] + ",0");
            x.ask(0);
            Check.due("PROOF " + (98 + words[k]), x.judge(0), want[k]);
            Check.row("PROOF", x, 98 + words[k]);
            Check.due("what he is", x.prisoner(0, 5), want[k]);
        }
        HeWillNotPlead x = Check.with("5,9+0", "");
        x.ask(0);
        Check.due("no PROOF", x.judge(0), 3);
        Check.row("no PROOF", x, 0);
    }

    private static void notTried() {
        for (int p : Court.NOT_PLEADED) {
            Court.refuses("judge(" + p + ")", x -> x.judge(p), -2);
        }
        for (int p : Court.NONE_SUCH) {
            Court.refuses("judge(" + p + ")", x -> x.judge(p), -1);
        }
    }

    private static void sixtyNights() {
        HeWillNotPlead x = new HeWillNotPlead();
        Check.due("0", x.nights(0), 0);
        Check.due("60", x.nights(60), 60);
        Check.due("1", x.nights(1), 61);
        Check.due("DAY goes on", x.nights(60), 121);
        Check.due("DAY", x.count(2), 121);
    }

    private static void goneByThese() {
        HeWillNotPlead x = Court.make();
        x.nights(0);
        Check.row("by none", x, 0, 0);
        x.nights(60);
        Check.row("he who is DEAD, he who is LEFT OVER", x, 1 << Court.SILENT, 1 << Court.PLEADED);
        x.nights(60);
        Check.row("those before are not by these", x, 0, 0);
        HeWillNotPlead y = Check.with("9,0+0;9,0+0", "");
        y.ends(1);
        y.lay(1, 9);
        y.nights(1);
        Check.row("DEAD in the NIGHT of THE END is not LEFT OVER", y, 2, 1);
    }

    private static void noNights() {
        for (int n : new int[] {-1, 61, Integer.MIN_VALUE, Integer.MAX_VALUE}) {
            Court.refuses("nights(" + n + ")", x -> x.nights(n), -1);
        }
    }

    private static void emptyAssize() {
        HeWillNotPlead x = Court.withoutText();
        String before = Check.facts(x) + x.count(11);
        Check.due("no ACTS", x.assize(), 0);
        Check.row("no ACTS", x, 0, 2);
        Check.same("nothing is done", Check.facts(x) + x.count(11), before);
    }

    private static HeWillNotPlead one() {
        return Check.with("99,0+0", "");
    }

    private static void digitsOfActs() {
        HeWillNotPlead x = one();
        Check.due("one digit", Check.put(x, "l09").assize(), 1);
        Check.due("LAID 9", x.prisoner(0, 6), 9);
        Check.due("two digits", Check.put(x, "l050").assize(), 1);
        Check.due("LAID 59", x.prisoner(0, 6), 59);
        Check.due("a 0 ahead", Check.put(x, "o009").assize(), 1);
        Check.due("LAID 50", x.prisoner(0, 6), 50);
        Check.due("so much less", Check.put(x, "o050").assize(), 1);
        Check.due("LAID 0", x.prisoner(0, 6), 0);
        wrongAssize("l", 1);
        wrongAssize("l0", 2);
        wrongAssize("l0100", 4);
        wrongAssize("o0100", 4);
        wrongAssize("l0-1", 2);
    }

    private static void oneDigit() {
        HeWillNotPlead x = Check.with("9,9+0", "");
        Check.due("asked and tried", Check.put(x, "a0;j0").assize(), 2);
        Check.due("FREED", x.count(7), 1);
        wrongAssize("a", 1);
        wrongAssize("j", 1);
        wrongAssize("a00", 2);
        wrongAssize("j00", 2);
        wrongAssize("a;", 1);
        // a digit of nobody can stand there: the ACT can't be done
        Check.due("nobody", Check.put(one(), "a9").assize(), 0);
    }

    private static void digitsOfNights() {
        HeWillNotPlead x = one();
        Check.due("one digit", Check.put(x, "n9").assize(), 1);
        Check.due("two digits", Check.put(x, "n10;n01;n00").assize(), 3);
        Check.due("DAY", x.count(2), 20);
        wrongAssize("n", 1);
        wrongAssize("n100", 3);
        wrongAssize("n-1", 1);
    }

    private static void wrongAssize(String text, int p) {
        HeWillNotPlead x = one();
        String before = Check.seen(x);
        Check.due("'" + text + "'", Check.put(x, text).assize(), -1 - p);
        Check.same("nothing is done of '" + text + "'", Check.seen(x), before);
    }

    private static void tillOneCant() {
        // what answers 0 can be done
        Check.due("0 is not below 0", Check.put(one(), "a0;o01;n0").assize(), 3);
        String[] cant = {"l00", "l051", "o00", "o051", "l11", "o11", "a1", "a9", "j0", "j1", "n61", "n99"};
        for (String act : cant) {
            HeWillNotPlead x = one();
            Check.due("ahead of " + act, Check.put(x, "l01;" + act + ";l01").assize(), 1);
            Check.due("not behind " + act, x.prisoner(0, 6), 1);
        }
        Check.due("l050 can", Check.put(one(), "l050;o050;n60").assize(), 3);
    }

    private static void rowOfAssize() {
        HeWillNotPlead x = one();
        Check.put(x, "n2;n1").assize();
        Check.row("all", x, 0, 3);
        Check.put(x, "n2;j0;n2").assize();
        Check.row("one could not be", x, 1, 5);
        Check.put(x, "j0").assize();
        Check.row("the first could not be", x, 1, 5);
        Check.put(x, "n1;j0").assize();
        Check.row("the last could not be", x, 1, 6);
    }

    private static void sixtySigns() {
        String sixty = "n1;".repeat(19) + "n10";
        HeWillNotPlead x = one();
        Check.due("60 signs", Check.put(x, sixty).assize(), 20);
        wrongAssize(sixty + ";", 60);
        wrongAssize(sixty + ";n1", 60);
        wrongAssize(sixty + "x", 60);
        wrongAssize("n1;".repeat(20) + "n1", 60);
        wrongAssize("n1;".repeat(20), 60);
        wrongAssize("n1;".repeat(19) + "n1;", 60);
        wrongAssize("n1;".repeat(19) + "l0", 59);
        wrongAssize("n1;".repeat(19) + "l0;n", 59);
        wrongAssize("n1;".repeat(19) + "x01;n", 57);
        wrongAssize("n1;" + "n10;".repeat(14) + "n", 60);
        wrongAssize("n1;" + "n10;".repeat(14) + "n12", 60);
        wrongAssize(";", 0);
        wrongAssize("n1;;", 3);
        wrongAssize("n1;", 3);
        wrongAssize("lx1", 1);
        wrongAssize("n1,n1", 2);
    }

    private static void undoneSilence() {
        HeWillNotPlead x = Check.with("20,99-0", "");
        x.ask(0);
        Check.due("it can be undone", x.count(11), 1);
        Check.due("undo", x.undo(), 0);
    }

    private static void twelveKept() {
        for (int acts = 11; acts <= 40; acts++) {
            HeWillNotPlead x = one();
            for (int k = 0; k < acts; k++) {
                x.lay(0, 1);
            }
            int can = Math.min(12, acts);
            Check.due("of " + acts, x.count(11), can);
            for (int k = can - 1; k >= 0; k--) {
                Check.due("undo", x.undo(), k);
                Check.due("the latest ones", x.prisoner(0, 6), acts - can + k);
            }
            Check.due("no more of " + acts, x.undo(), -1);
            Check.due("those ahead stay", x.prisoner(0, 6), acts - can);
        }
        // a refused act puts none of them out
        HeWillNotPlead x = one();
        for (int k = 0; k < 12; k++) {
            x.lay(0, 1);
        }
        x.lay(0, 51);
        x.ask(1);
        Check.put(x, "j0").assize();
        x.nights(0);
        for (int k = 11; k >= 0; k--) {
            Check.due("undo", x.undo(), k);
        }
        Check.due("the first of twelve", x.prisoner(0, 6), 0);
    }

    private static void refusedAreNotKept() {
        HeWillNotPlead x = Court.withoutText();
        int can = x.count(11);
        x.lay(Court.SILENT, 51);
        x.lay(Court.DEAD, 1);
        x.lay(6, 1);
        x.ask(Court.DEAD);
        x.ask(6);
        x.judge(Court.SILENT);
        x.judge(6);
        x.nights(61);
        Check.put(x, "x").assize();
        Check.due("none was done", x.count(11), can);
        Check.due("the latest is undone", x.undo(), can - 1);
        Check.due("LAID", x.prisoner(Court.SILENT, 6), 10);
    }

    private static void undoneNights() {
        HeWillNotPlead x = one();
        x.nights(0);
        Check.due("of 0", x.count(11), 0);
        x.nights(1);
        Check.due("of 1", x.count(11), 1);
        x.nights(60);
        Check.due("of 60, as one", x.count(11), 2);
        x.undo();
        Check.due("DAY", x.count(2), 1);
        x.undo();
        Check.due("DAY", x.count(2), 0);
    }

    private static void undoneAssize() {
        HeWillNotPlead x = one();
        Check.put(x, "l01;n1;l01;n2").assize();
        Check.due("four, as one", x.count(11), 1);
        Check.put(x, "j0;l01").assize();
        Check.due("of none", x.count(11), 1);
        Check.due("empty", x.assize() + x.count(11), 1);
        Check.put(x, "l01;j0").assize();
        Check.due("of one", x.count(11), 2);
        x.undo();
        Check.due("LAID", x.prisoner(0, 6), 2);
        x.undo();
        Check.due("LAID", x.prisoner(0, 6), 0);
        Check.due("DAY", x.count(2), 0);
    }

    private static void asAheadOfIt() {
        HeWillNotPlead x = Check.with("20,0+0;20,99+0;20,0+0;20,99+0", "3,60,5;3,90,1");
        x.lay(0, 20);
        x.lay(2, 1);
        x.ask(1);
        x.ask(3);
        x.judge(3);
        x.ends(1);
        String before = Check.facts(x);
        x.nights(60);
        Check.due("DEAD", x.count(6), 1);
        Check.due("LEFT OVER", x.count(9), 6);
        x.undo();
        Check.same("DAY, states, LAID, BORNE, WORDS", Check.facts(x), before);
        x.undo();
        Check.due("PLEADED again", x.prisoner(3, 5), 1);
        x.undo();
        Check.due("SILENT again", x.prisoner(3, 5), 0);
        // what is no part of it stays as it is
        x.sheet(2, 4, 7, 0);
        x.ends(50);
        x.undo();
        Check.due("FEAR stays", x.prisoner(3, 1), 7);
        Check.due("THE END stays", x.count(3), 50);
    }

    private static void leftToUndo() {
        HeWillNotPlead x = Court.make();
        for (int left = 8; left >= 0; left--) {
            Check.due("undo", x.undo(), left);
            Check.due("what can be undone", x.count(11), left);
        }
    }

    private static void nothingToUndo() {
        Check.due("a new object", new HeWillNotPlead().undo(), -1);
        HeWillNotPlead x = one();
        x.lay(0, 1);
        x.undo();
        String before = Check.seen(x);
        Check.due("once too often", x.undo(), -1);
        Check.same("nothing changes", Check.seen(x), before);
        x.lay(0, 2);
        Check.due("then one more", x.undo(), 0);
        HeWillNotPlead y = withOneAct();
        Check.put(y, "5,5+0").prisoners();
        before = Check.seen(y);
        Check.due("forgotten ones", y.undo(), -1);
        Check.same("nothing changes", Check.seen(y), before);
    }

    private static HeWillNotPlead withOneAct() {
        HeWillNotPlead x = Check.with("40,15+0", "0,9,9");
        x.keep(0);
        x.lay(0, 9);
        return x;
    }

    private static void forgotten() {
        HeWillNotPlead x = withOneAct();
        Check.put(x, "5,5+0").prisoners();
        Check.due("prisoners()", x.undo(), -1);
        HeWillNotPlead y = withOneAct();
        Check.put(y, "0,5,5").witnesses();
        Check.due("witnesses()", y.undo(), -1);
        HeWillNotPlead z = withOneAct();
        z.again(0);
        Check.due("again()", z.undo(), -1);
        Check.due("LAID", z.prisoner(0, 6), 0);
        HeWillNotPlead refused = withOneAct();
        Check.put(refused, "5,5+0;").prisoners();
        Check.put(refused, "0,5,5;").witnesses();
        refused.again(1);
        refused.again(2);
        Check.due("refused ones", refused.undo(), 0);
        Check.due("LAID", refused.prisoner(0, 6), 0);
    }

    private static void emptyOnesForgetNothing() {
        HeWillNotPlead x = withOneAct();
        x.prisoners();
        Check.due("prisoners()", x.count(11), 1);
        x.witnesses();
        Check.due("witnesses()", x.count(11), 1);
        Check.due("undo", x.undo(), 0);
    }
}
