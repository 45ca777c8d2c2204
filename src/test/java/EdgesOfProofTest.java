/** The boundary cases that promises 28 to 38 name: proof, trials, whose goods. */
public final class EdgesOfProofTest {
    private static final int S = Court.SILENT;

    public static void main(String[] args) throws Exception {
        Edges edges = new Edges();
        proofs(edges);
        pleas(edges);
        trials(edges);
        goods(edges);
        edges.finish(28, 38);
    }

    private static void proofs(Edges edges) {
        edges.edge(28, "in n NIGHTS (0 .. 99)", EdgesOfProofTest::proofInNights);
        edges.edge(28, "1 if it is 100 or more", EdgesOfProofTest::enoughProof);
        edges.edge(28, "how many WITNESSES against him have a WORD yet", EdgesOfProofTest::haveAWord);
        edges.edge(28, "NONE: others.", () -> {
            Court.noneSuch(p -> x -> x.proof(p, 0));
            Court.others(n -> x -> x.proof(S, n), -1, 100);
        });
        edges.edge(29, "The last DAY from now (0 ..; in NIGHTS) on which PROOF against a PRISONER is 100 or more",
                EdgesOfProofTest::lastDay);
        edges.edge(29, "-2: it is not now", EdgesOfProofTest::notNow);
        edges.edge(29, "-3: it is for ever (FADES of some 0)", EdgesOfProofTest::forEver);
        edges.edge(29, "NONE: none such.", () -> Court.noneSuch(p -> x -> x.till(p)));
        edges.edge(31, "so that he is CONVICTED in n NIGHTS (0 .. 99): how much (0: none)", EdgesOfProofTest::lacks);
        edges.edge(31, "how many other PRISONERS (not DEAD) lack more than he then", EdgesOfProofTest::lackMore);
        edges.edge(31, "NONE: others.", () -> {
            Court.noneSuch(p -> x -> x.lacks(p, 0));
            Court.others(n -> x -> x.lacks(S, n), -1, 100);
        });
    }

    private static void pleas(Edges edges) {
        edges.edge(30, "1000 and how much more (or less)", EdgesOfProofTest::moreOrLess);
        edges.edge(30, "is tried in n NIGHTS (0 .. 60)", EdgesOfProofTest::triedInNights);
        edges.edge(30, "-2: he is not SILENT; NONE: others.", () -> {
            Court.notSilent(p -> x -> x.gains(p, 0), -2);
            Court.noneSuch(p -> x -> x.gains(p, 0));
            Court.others(n -> x -> x.gains(S, n), -1, 61);
        });
        edges.edge(32, "In how many NIGHTS (0 .. 60; ahead of THE END, if that is to come)",
                EdgesOfProofTest::bestInNights);
        edges.edge(32, "of equal ones the first", EdgesOfProofTest::bestOfEqualOnes);
        edges.edge(32, "-2: he is not SILENT; NONE: none such.", () -> {
            Court.notSilent(p -> x -> x.best(p), -2);
            Court.noneSuch(p -> x -> x.best(p));
        });
    }

    private static void trials(Edges edges) {
        edges.edge(33, "One trial each DAY from today on, ahead of each NIGHT", EdgesOfProofTest::fromTodayOn);
        edges.edge(33, "no DAY left out till the last trial", EdgesOfProofTest::noDayLeftOut);
        edges.edge(33, "of those that PLEADED now", EdgesOfProofTest::pleadedNow);
        edges.edge(33, "ahead of THE END (if that is to come), none FREED", EdgesOfProofTest::aheadOfTheEnd);
        edges.edge(33, "of as many the least row", EdgesOfProofTest::leastTurns);
        edges.edge(34, "(each CONVICTED or FREED, others LEFT OVER, by THE LAW)", EdgesOfProofTest::eachByTheLaw);
        edges.edge(34, "of as much the fewest, then the least row", EdgesOfProofTest::fewestTrials);
        edges.edge(34, "of those that PLEADED now by such trials", EdgesOfProofTest::suchTrials);
    }

    private static void goods(Edges edges) {
        edges.edge(35, "of all PRISONERS that are DEAD, FREED, CONVICTED, LEFT OVER", EdgesOfProofTest::endedOnes);
        edges.edge(35, "HEIRS 0 .. 3 (four numbers), their own", EdgesOfProofTest::fourHeirs);
        edges.edge(36, "What an HEIR (0 .. 3) would have", EdgesOfProofTest::hopes);
        edges.edge(36, "NONE: none such.", () -> Court.others(heir -> x -> x.hopes(heir), -1, 4));
        edges.edge(37, "(below 0, too)", EdgesOfProofTest::belowZero);
        edges.edge(37, "-10000 - p: the sign at p can't stand there.", EdgesOfProofTest::wrongReadings);
        edges.edge(38, "The LAW by which an HEIR (0 .. 3) has the most", EdgesOfProofTest::hasTheMost);
        edges.edge(38, "of such that by which the fewest endings are other than now",
                EdgesOfProofTest::fewestOther);
        edges.edge(38, "of such the first (letters by h, k, s)", EdgesOfProofTest::firstReading);
        edges.edge(38, "NONE: none such.", () -> Court.others(heir -> x -> x.wants(heir), -1, 4));
    }

    private static void proofInNights() {
        HeWillNotPlead x = Check.with("9,9+0;9,9+0", "0,99,1;1,99,2;1,50,0");
        Check.due("0", x.proof(0, 0), 99);
        Check.due("98", x.proof(0, 98), 1);
        Check.due("99", x.proof(0, 99), 0);
        Check.due("99, and what does not fade", x.proof(1, 99), 50);
        Check.due("behind THE END, too", x.proof(1, 40), 19 + 50);
    }

    private static void enoughProof() {
        HeWillNotPlead x = Check.with("9,9+0;9,9+0", "0,99,1;0,3,0");
        x.proof(0, 1);
        Check.row("101", x, 1, 2);
        Check.due("100", x.proof(0, 2), 100);
        Check.row("100", x, 1, 2);
        Check.due("99", x.proof(0, 3), 99);
        Check.row("99", x, 0, 2);
        x.proof(1, 0);
        Check.row("nobody against him", x, 0, 0);
    }

    private static void haveAWord() {
        HeWillNotPlead x = Check.with("9,9+0;9,9+0", "0,9,4;0,8,4;0,0,0;1,9,0");
        x.proof(0, 0);
        Check.row("a WORD of 0 is none", x, 0, 2);
        x.proof(0, 2);
        Check.row("1 is left of one, 0 of the other", x, 0, 1);
        x.proof(0, 3);
        Check.row("none", x, 0, 0);
    }

    private static void lastDay() {
        HeWillNotPlead x = Check.with("9,9+0;9,9+0;9,9+0", "0,60,1;0,40,0;1,60,6;1,50,1;2,99,1;2,99,0");
        Check.due("100 today alone", x.till(0), 0);
        Check.due("110, 103, 96", x.till(1), 1);
        Check.due("the latest that can be", x.till(2), 98);
        x.nights(1);
        Check.due("not now", x.till(0), -2);
        Check.due("from now", x.till(1), 0);
        Check.due("from now", x.till(2), 97);
    }

    private static void notNow() {
        HeWillNotPlead x = Check.with("9,9+0;9,9+0", "0,99,1;0,0,0");
        Check.due("99", x.till(0), -2);
        Check.due("none", x.till(1), -2);
    }

    private static void forEver() {
        HeWillNotPlead x = Check.with("9,9+0;9,9+0;9,9+0", "0,50,0;0,50,0;1,50,0;1,49,0;1,99,1;2,60,0;2,41,0");
        Check.due("100", x.till(0), -3);
        Check.due("99 and what fades", x.till(1), 98);
        Check.due("101", x.till(2), -3);
    }

    private static void lacks() {
        HeWillNotPlead x = Check.with("9,9+0;9,9+0", "0,99,1;0,3,0");
        Check.due("102", x.lacks(0, 0), 0);
        Check.due("100", x.lacks(0, 2), 0);
        Check.due("99", x.lacks(0, 3), 1);
        Check.due("3", x.lacks(0, 99), 97);
        Check.due("nobody against him", x.lacks(1, 0), 100);
        Check.due("nobody against him, 99", x.lacks(1, 99), 100);
    }

    private static void lackMore() {
        HeWillNotPlead x = Court.make();
        // LEFT OVER 100, SILENT 45, PLEADED 0, DEAD 100, FREED 1, CONVICTED 0
        Check.due("45", x.lacks(S, 0), 100 - 60 + 5);
        Check.row("the LEFT OVER one", x, 1);
        Check.due("0", x.lacks(Court.PLEADED, 0), 0);
        Check.row("three", x, 3);
        Check.due("100", x.lacks(Court.LEFT_OVER, 0), 100);
        Check.row("none", x, 0);
        Check.due("100 of a DEAD one", x.lacks(Court.DEAD, 0), 100);
        Check.row("as much is not more", x, 0);
        Check.due("then", x.lacks(Court.FREED, 99), 1);
        // SILENT 100, PLEADED 100, LEFT OVER 100
        Check.row("then", x, 3);
    }

    private static void moreOrLess() {
        HeWillNotPlead x = Check.with("9,9+0abcdefgh;9,9+0", "0,50,0;0,50,0");
        Check.put(x, "99,99,99,99,99,99,99,99").values();
        Check.due("the least", x.gains(0, 0), 1000 - 792);
        Check.row("the least", x, 0, 792);
        Check.put(x, "hshk").law();
        Check.due("the most", x.gains(0, 0), 1000 + 792);
        Check.row("the most", x, 792, 0);
        Check.put(x, "hsss").law();
        Check.due("as much", x.gains(0, 0), 1000);
        Check.row("as much", x, 792, 792);
        Check.due("no GOODS", x.gains(1, 0), 1000);
        Check.row("no GOODS", x, 0, 0);
    }

    private static void triedInNights() {
        HeWillNotPlead x = Check.with("9,9+0a", "0,98,1;0,62,0");
        Check.due("0", x.gains(0, 0), 990);
        x.ends(1);
        Check.due("60: 100", x.gains(0, 60), 990);
        HeWillNotPlead y = Check.with("9,9+0a", "0,98,1;0,61,0");
        Check.due("59: 100", y.gains(0, 59), 990);
        Check.due("60: 99", y.gains(0, 60), 1000);
        Check.due("a dumb one, too", Check.with("9,9-0a", "0,98,0;0,2,0").gains(0, 0), 990);
    }

    private static void bestInNights() {
        HeWillNotPlead x = Check.with("9,9+0a", "0,98,1;0,61,0");
        x.ends(61);
        Check.due("60", x.best(0), 60);
        Check.row("60", x, 10, 10, 10);
        x.ends(60);
        Check.due("THE END comes first", x.best(0), 0);
        Check.row("THE END comes first", x, 0, 10, 10);
        HeWillNotPlead y = Check.with("9,9+0a", "0,98,1;0,62,0");
        y.ends(99);
        Check.due("61 is too late", y.best(0), 0);
        Check.row("61 is too late", y, 0, 10, 10);
        // behind THE END nothing ends it
        HeWillNotPlead z = new HeWillNotPlead();
        z.nights(20);
        Check.put(z, "9,9+0a").prisoners();
        Check.put(z, "0,98,1;0,61,0").witnesses();
        Check.due("no END to come", z.best(0), 60);
    }

    private static void bestOfEqualOnes() {
        HeWillNotPlead x = Check.with("9,9+0a;9,9+0", "0,60,6;0,50,1");
        Check.due("from 2 on", x.best(0), 2);
        Check.row("from 2 on", x, 10, 10, 10);
        Check.put(x, "kkkk").law();
        Check.due("the king's all along", x.best(0), 0);
        Check.row("the king's all along", x, 0, 0, 0);
        Check.due("no GOODS", x.best(1), 0);
    }

    private static HeWillNotPlead pleaded(String prisoners, String witnesses, String acts) {
        HeWillNotPlead x = Check.with(prisoners, witnesses);
        Check.put(x, acts).assize();
        return x;
    }

    private static void fromTodayOn() {
        // PROOF is 100 today alone
        HeWillNotPlead x = pleaded("9,9+0", "0,60,1;0,40,0", "a0");
        Check.due("today", x.trials(), 1);
        Check.row("today", x, 0);
        HeWillNotPlead y = pleaded("9,9+0;9,9+0", "0,60,1;0,40,0;1,60,1;1,40,0", "a0;a1");
        Check.due("one today, one too late", y.trials(), 1);
        Check.row("the least row", y, 0);
    }

    private static void noDayLeftOut() {
        // the king would wait till 0 is FREED, but no DAY is left out: others must be tried ahead
        HeWillNotPlead x = pleaded("9,9+0a;9,9+1b", "0,60,1;0,40,0", "a0;a1");
        Check.put(x, "hkhh").law();
        Check.due("both FREED", x.docket(), 20);
        Check.row("both FREED", x, 1, 0);
        HeWillNotPlead y = pleaded("9,9+0a", "0,60,1;0,40,0", "a0");
        Check.put(y, "hkhh").law();
        Check.due("he can't be waited for", y.docket(), 0);
        Check.row("he can't be waited for", y);
    }

    private static void pleadedNow() {
        HeWillNotPlead x = Court.make();
        Check.due("he alone", x.trials(), 1);
        Check.row("he alone", x, Court.PLEADED);
        Check.due("nobody there", new HeWillNotPlead().trials(), 0);
        HeWillNotPlead y = Check.with("9,9+0", "0,99,0;0,99,0");
        y.parts();
        Check.due("nobody PLEADED", y.trials(), 0);
        Check.row("nobody PLEADED", y);
    }

    private static void aheadOfTheEnd() {
        String bench = "0,99,0;0,99,0;1,99,0;1,99,0;2,99,0;2,99,0";
        HeWillNotPlead x = pleaded("9,9+0;9,9+0;9,9+0;9,9+0", bench, "a0;a1;a2;a3");
        Check.due("20 DAYS, none FREED", x.trials(), 3);
        Check.row("20 DAYS, none FREED", x, 0, 1, 2);
        x.ends(3);
        Check.due("3 DAYS", x.trials(), 3);
        x.ends(2);
        Check.due("2 DAYS", x.trials(), 2);
        Check.row("2 DAYS", x, 0, 1);
        x.ends(1);
        Check.due("today alone", x.trials(), 1);
        Check.row("today alone", x, 0);
        HeWillNotPlead y = new HeWillNotPlead();
        y.nights(20);
        Check.put(y, "9,9+0;9,9+0;9,9+0").prisoners();
        Check.put(y, bench).witnesses();
        Check.put(y, "a0;a1;a2").assize();
        Check.due("no END to come", y.trials(), 3);
    }

    private static void leastTurns() {
        // 2 must be tried today; 0 and 1 can wait
        HeWillNotPlead x = pleaded("9,9+0;9,9+0;9,9+0", "0,99,0;0,99,0;1,99,0;1,99,0;2,60,1;2,40,0", "a0;a1;a2");
        Check.due("three", x.trials(), 3);
        Check.row("three", x, 2, 0, 1);
        x.ends(2);
        Check.due("two", x.trials(), 2);
        Check.row("two: without him it is less", x, 0, 1);
    }

    private static void eachByTheLaw() {
        // 0 is CONVICTED, 1 is FREED
        HeWillNotPlead x = pleaded("9,9+0a;9,9+1b", "0,99,0;0,99,0", "a0;a1");
        Check.put(x, "1,2,0,0,0,0,0,0").values();
        Check.due("hskh", x.docket(), 1);
        Check.row("hskh", x, 0);
        Check.put(x, "hkhh").law();
        Check.due("FREED to the king", x.docket(), 2);
        Check.row("FREED to the king", x, 1);
        Check.put(x, "hshk").law();
        Check.due("LEFT OVER to the king", x.docket(), 3);
        Check.row("LEFT OVER to the king", x);
        Check.put(x, "hskk").law();
        Check.due("he has it tried or not", x.docket(), 3);
        Check.row("he has it tried or not", x);
        Check.put(x, "kshh").law();
        Check.due("DEAD to the king", x.docket(), 0);
        Check.row("DEAD to the king", x);
        Check.put(x, "hkkh").law();
        Check.due("each tried", x.docket(), 3);
        Check.row("each tried", x, 0, 1);
    }

    private static void fewestTrials() {
        HeWillNotPlead x = pleaded("9,9+0a;9,9+1b;9,9+1c;9,9+1",
                "0,99,0;0,99,0;1,99,0;1,99,0;2,99,0;2,99,0;3,99,0;3,99,0", "a0;a1;a2;a3");
        Check.put(x, "0,5,5,0,0,0,0,0").values();
        Check.due("two are worth it", x.docket(), 10);
        Check.row("those of no VALUE are not tried", x, 1, 2);
        x.ends(1);
        Check.due("one", x.docket(), 5);
        Check.row("of as many the least row", x, 1);
        Check.put(x, "kkkk").law();
        Check.due("all the king's", x.docket(), 10);
        Check.row("none is tried", x);
    }

    private static void suchTrials() {
        HeWillNotPlead x = Court.make();
        Check.due("of him alone", x.docket(), 4);
        Check.row("of him alone", x, Court.PLEADED);
        Check.due("nobody there", new HeWillNotPlead().docket(), 0);
        HeWillNotPlead y = Check.with("9,9+0a", "0,99,0;0,99,0");
        y.parts();
        Check.due("nobody PLEADED", y.docket(), 0);
        Check.row("nobody PLEADED", y);
        HeWillNotPlead z = pleaded("9,9+0a;9,9+0b", "0,99,0;0,99,0;1,99,0;1,99,0", "a0;a1");
        z.ends(1);
        Check.due("ahead of THE END", z.docket(), 10);
    }

    private static void endedOnes() {
        String[] laws = {"khhh", "hkhh", "hhkh", "hhhk", "kkkk", "hhhh"};
        int[] kings = {8, 16, 195, 1, 220, 0};
        for (int k = 0; k < laws.length; k++) {
            HeWillNotPlead x = Court.withoutText();
            Check.put(x, laws[k]).law();
            Check.due("the king's by " + laws[k], x.parts(), kings[k]);
        }
        HeWillNotPlead x = Check.with("9,9+0a;9,9+0b", "");
        x.ask(1);
        Check.due("SILENT and PLEADED are no endings", x.parts(), 0);
        Check.row("SILENT and PLEADED are no endings", x, 0, 0, 0, 0, 0);
        Check.due("nobody", new HeWillNotPlead().parts(), 0);
    }

    private static void fourHeirs() {
        HeWillNotPlead x = Court.withoutText();
        Check.put(x, "hhhh").law();
        x.parts();
        // HEIR 0 of LEFT OVER and FREED, 1 of CONVICTED, 2 of nobody who is ended, 3 of DEAD
        Check.row("all HEIRS'", x, 1 + 16, 195, 0, 8, 0);
        Check.put(x, "ssss").law();
        x.parts();
        Check.row("their own", x, 0, 0, 0, 0, 220);
    }

    private static void hopes() {
        HeWillNotPlead x = Check.with("9,9+0a;9,9+3h;9,9+3g", "1,50,0;1,50,0");
        Check.put(x, "1,0,0,0,0,0,4,8").values();
        Check.due("HEIR 0", x.hopes(0), 1);
        Check.row("HEIR 0: LEFT OVER, FREED", x, 1, 0);
        Check.due("HEIR 3", x.hopes(3), 12);
        Check.row("HEIR 3: LEFT OVER, tried", x, 12, 0);
        Check.put(x, "kkhk").law();
        Check.due("CONVICTED to HEIRS", x.hopes(3), 0);
        Check.row("PROOF 100 is enough", x, 0, 8);
        Check.put(x, "khkk").law();
        Check.due("FREED to HEIRS", x.hopes(3), 0);
        Check.row("no PROOF is not", x, 0, 4);
        Check.due("HEIR 1 of nobody", x.hopes(1), 0);
        Check.row("HEIR 1 of nobody", x, 0, 0);
        // what he has already is not more
        HeWillNotPlead court = Court.make();
        Check.due("HEIR 3 of a DEAD one", court.hopes(3), 0);
        Check.due("HEIR 1 of a SILENT one", court.hopes(1), 2);
    }

    private static void belowZero() {
        HeWillNotPlead x = Court.withoutText();
        Check.due("less", Check.put(x, "hhhh").reading(), -195);
        Check.row("less", x, 0, 195);
        Check.due("more", Check.put(x, "kkkk").reading(), 25);
        Check.row("more", x, 220, 195);
        Check.due("the same", Check.put(x, "hskh").reading(), 0);
        Check.row("the same", x, 195, 195);
        Check.due("THE LAW stays", x.parts(), 195);
    }

    private static void wrongReadings() {
        String[] texts = {"", "k", "kk", "kkk", "x", "kkkx", "kkkkk", "kkk" + (char) 235};
        int[] wrongAt = {0, 1, 2, 3, 0, 3, 4, 3};
        for (int k = 0; k < texts.length; k++) {
            Court.refusesText(texts[k], x -> x.reading(), -10000 - wrongAt[k]);
        }
        Court.refusesText("k".repeat(80), x -> x.reading(), -10004);
    }

    private static void hasTheMost() {
        HeWillNotPlead x = Court.make();
        // hskh is 2 * 9 + 3 = 21
        Check.due("HEIR 0: FREED, too: hhkh", x.wants(0), 3);
        Check.row("HEIR 0", x, 17, 1);
        Check.due("HEIR 1: CONVICTED: hshh", x.wants(1), 18);
        Check.row("HEIR 1", x, 195, 0);
        Check.due("HEIR 3: DEAD, as it is", x.wants(3), 21);
        Check.row("HEIR 3", x, 8, 8);
    }

    private static void fewestOther() {
        HeWillNotPlead x = Court.withoutText();
        Check.due("HEIR 2 of nobody: as it is", x.wants(2), 21);
        Check.row("HEIR 2 of nobody", x, 0, 0);
        Check.put(x, "ssss").law();
        Check.due("as it is: ssss", x.wants(2), 80);
        Check.due("DEAD alone: hsss", x.wants(3), 26);
        Check.row("DEAD alone", x, 8, 0);
        Check.put(x, "kkkk").law();
        Check.due("DEAD alone: hkkk", x.wants(3), 13);
        Check.put(x, "hhhh").law();
        Check.due("hhhh", x.wants(1), 0);
    }

    /** Of equal VALUES as few changes tell one LAW alone, so the first is only told by its number. */
    private static void firstReading() {
        HeWillNotPlead x = new HeWillNotPlead();
        String[] laws = {"hhhh", "hhhk", "hhhs", "hhkh", "khhh", "shhh", "ssss", "sskk"};
        int[] numbers = {0, 1, 2, 3, 27, 54, 80, 76};
        for (int k = 0; k < laws.length; k++) {
            Check.put(x, laws[k]).law();
            Check.due("the number of " + laws[k], x.wants(0), numbers[k]);
        }
    }
}
