/** The boundary cases that promises 1 to 8 name: a new object, sign, end, and what is told by texts. */
public final class EdgesOfTextsTest {
    private static final String SIX = "5,5+0;5,5+0;5,5+0;5,5+0;5,5+0;5,5+0";
    private static final String EIGHT = "0,5,5;0,5,5;0,5,5;0,5,5;0,5,5;0,5,5;0,5,5;0,5,5";

    public static void main(String[] args) throws Exception {
        Edges edges = new Edges();
        signs(edges);
        people(edges);
        others(edges);
        edges.finish(1, 8);
    }

    private static void signs(Edges edges) {
        edges.edge(1, "No PRISONERS, no WITNESSES.", EdgesOfTextsTest::nobody);
        edges.edge(2, "of v the highest byte first", EdgesOfTextsTest::highestFirst);
        edges.edge(2, "how many it has", EdgesOfTextsTest::howManySigns);
        edges.edge(2, "Refused: there would be more than 80.", EdgesOfTextsTest::moreThanEighty);
        edges.edge(3, "THE TEXT has its first n signs alone: true", EdgesOfTextsTest::firstSigns);
        edges.edge(3, "false if it has not so many, or n is below 0", EdgesOfTextsTest::notSoMany);
    }

    private static void people(Edges edges) {
        edges.edge(4, "(an empty one: nothing)", EdgesOfTextsTest::emptyPrisoners);
        edges.edge(4, "its end, if it ends too early", EdgesOfTextsTest::prisonersTooEarly);
        edges.edge(4, "76, if it has more and the first 76 could go on or end", EdgesOfTextsTest::seventySix);
        edges.edge(4, "BEARS 0: at its last digit", EdgesOfTextsTest::bearsNothing);
        edges.edge(4, "the first sign of a LINE for which there is no room", EdgesOfTextsTest::noRoom);
        edges.edge(4, "Nothing of it comes, if a LINE can't.", EdgesOfTextsTest::nothingComes);
        edges.edge(6, "(an empty one: nothing)", EdgesOfTextsTest::emptyWitnesses);
        edges.edge(6, "as prisoners() (60 signs", EdgesOfTextsTest::witnessesAsPrisoners);
        edges.edge(6, "a digit of nobody: at it", EdgesOfTextsTest::digitOfNobody);
    }

    private static void others(Edges edges) {
        edges.edge(5, "their sum", EdgesOfTextsTest::sums);
        edges.edge(5, "the sign at p can't stand there (its end, if it ends too early)",
                EdgesOfTextsTest::valuesTooEarly);
        edges.edge(7, "how many of its endings are the king's", EdgesOfTextsTest::kings);
        edges.edge(7, "the sign at p can't stand there (its end, if it ends too early)",
                EdgesOfTextsTest::lawTooEarly);
        edges.edge(8, "(an empty one: none): 0", EdgesOfTextsTest::emptyRule);
        edges.edge(8, "as prisoners() (40 signs)", EdgesOfTextsTest::fortySigns);
    }

    private static void nobody() {
        HeWillNotPlead x = new HeWillNotPlead();
        Check.due("PRISONERS", x.count(0), 0);
        Check.due("WITNESSES", x.count(1), 0);
        Check.due("prisoner 0", Check.orThrows(() -> x.prisoner(0, 0)), Check.THROWS);
        Check.due("witness 0", Check.orThrows(() -> x.witness(0, 0)), Check.THROWS);
        Check.due("SILENT ones", x.count(4), 0);
        Check.due("signs", x.count(13), 0);
        Check.due("numbers of the ROW", x.count(12), 0);
        Check.due("what can be undone", x.count(11), 0);
    }

    private static void highestFirst() {
        HeWillNotPlead x = new HeWillNotPlead();
        x.sign('k' << 24 | 's' << 16 | 'h' << 8 | 'x');
        Check.due("the lowest byte is the last", x.law(), -4);
        x.sign('x' << 24 | 's' << 16 | 'h' << 8 | 'k');
        Check.due("the highest byte is the first", x.law(), -1);
        // the highest bit is no sign of v, and a sign 255 is no other
        x.sign(0xebf3e8eb);
        Check.due("bytes above 127", x.law(), -1);
        x.sign(-1);
        Check.due("-1", x.law(), -1);
        x.sign(Integer.MIN_VALUE);
        Check.due("the least int", x.count(13), 4);
    }

    private static void howManySigns() {
        HeWillNotPlead x = new HeWillNotPlead();
        Check.due("four", x.sign(0), 4);
        Check.due("eight", x.sign(0), 8);
        x.end(5);
        Check.due("behind five", x.sign(0), 9);
    }

    private static void moreThanEighty() {
        HeWillNotPlead x = new HeWillNotPlead();
        for (int k = 1; k <= 20; k++) {
            Check.due("sign", x.sign(0), 4 * k);
        }
        for (int length = 80; length >= 77; length--) {
            x.end(length);
            Check.due("behind " + length, x.sign(0x6b6b6b6b), -1);
            Check.due("it has " + length, x.count(13), length);
        }
        x.end(76);
        Check.due("behind 76", x.sign(0), 80);
        // nothing of the refused four is there
        HeWillNotPlead y = Check.put(new HeWillNotPlead(), "h".repeat(78));
        y.sign(0x6b6b6b6b);
        y.end(4);
        Check.due("law", y.law(), 0);
    }

    private static void firstSigns() {
        HeWillNotPlead x = Check.put(new HeWillNotPlead(), "kkkkh");
        Check.due("end(5) of 5", x.end(5), true);
        Check.due("all of them", x.count(13), 5);
        Check.due("end(4)", x.end(4), true);
        Check.due("the first four", x.law(), 4);
        Check.due("end(0) of none", x.end(0), true);
        x.sign(0);
        Check.due("end(0) of four", x.end(0), true);
        Check.due("none", x.count(13), 0);
    }

    private static void notSoMany() {
        HeWillNotPlead x = Check.put(new HeWillNotPlead(), "kkkk");
        int[] none = {5, 80, 81, Integer.MAX_VALUE, -1, -4, Integer.MIN_VALUE};
        for (int n : none) {
            Check.due("end(" + n + ")", x.end(n), false);
        }
        Check.due("it stays", x.law(), 4);
        Check.due("end(1) of none", x.end(1), false);
    }

    private static void emptyPrisoners() {
        HeWillNotPlead x = new HeWillNotPlead();
        Check.due("of nobody", x.prisoners(), 0);
        Check.put(x, SIX).prisoners();
        Check.due("of six", x.prisoners(), 0);
        Check.due("six", x.count(0), 6);
    }

    private static void wrongPrisoners(String text, int p) {
        HeWillNotPlead x = new HeWillNotPlead();
        Check.due("'" + text + "'", Check.put(x, text).prisoners(), -1 - p);
        Check.due("nobody came of '" + text + "'", x.count(0), 0);
    }

    private static void prisonersTooEarly() {
        String line = "12,34+0ab;";
        // BEARS 1, and 12, a comma, FEAR, - or +, HEIR: a LINE could end behind HEIR and GOODS alone
        int[] early = {1, 2, 3, 4, 5, 6, 10};
        for (int length : early) {
            wrongPrisoners(line.substring(0, length), length);
        }
        Check.due("behind HEIR", Check.put(new HeWillNotPlead(), line.substring(0, 7)).prisoners(), 1);
        Check.due("behind GOODS", Check.put(new HeWillNotPlead(), line.substring(0, 8)).prisoners(), 1);
    }

    /** No LINES can be so long: six of them have 55 signs at most. So the first wrong sign tells. */
    private static void seventySix() {
        String longest = "99,99+0abcdefgh;99,99+0;99,99+0;99,99+0;99,99+0;99,99+0";
        Check.due("the longest", longest.length(), 55);
        Check.due("six", Check.put(new HeWillNotPlead(), longest).prisoners(), 6);
        for (int length = 75; length <= 80; length++) {
            String text = longest + ";" + "9".repeat(length - 56);
            wrongPrisoners(text, 56);
            wrongPrisoners("5".repeat(length), 2);
        }
    }

    private static void bearsNothing() {
        wrongPrisoners("0,5+0", 0);
        wrongPrisoners("00,5+0", 1);
        wrongPrisoners("5,5+0;0,5+0", 6);
        wrongPrisoners("5,5+0;00,5+0", 7);
        wrongPrisoners("000,5+0", 1);
        Check.due("01 is not 0", Check.put(new HeWillNotPlead(), "01,5+0").prisoners(), 1);
        Check.due("10 is not 0", Check.put(new HeWillNotPlead(), "10,5+0").prisoners(), 1);
    }

    private static void noRoom() {
        HeWillNotPlead x = new HeWillNotPlead();
        Check.due("the seventh LINE", Check.put(x, SIX + ";5,5+0").prisoners(), -1 - 36);
        Check.due("the seventh LINE, a wrong one", Check.put(x, SIX + ";x").prisoners(), -1 - 36);
        Check.due("wrong ahead of it", Check.put(x, "x" + SIX + ";5,5+0").prisoners(), -1);
        Check.put(x, "5,5+0;5,5+0;5,5+0;5,5+0").prisoners();
        Check.due("the third of two", Check.put(x, "5,5+0ab;5,5+0;5,5+0").prisoners(), -1 - 14);
        Check.due("two have room", Check.put(x, "5,5+0ab;5,5+0").prisoners(), 2);
        Check.due("none has", Check.put(x, "5,5+0").prisoners(), -1);
        Check.due("none has, a wrong one", Check.put(x, "5,").prisoners(), -1);
    }

    private static void nothingComes() {
        HeWillNotPlead x = Check.with("7,7+0h", "");
        String before = Check.seen(x);
        Check.due("the second can't", Check.put(x, "5,5+0abc;5,5+9").prisoners(), -1 - 13);
        Check.same("nothing came", Check.seen(x), before);
        Check.due("its GOODS are free", Check.put(x, "5,5+0abc").prisoners(), 1);
        Check.due("he is the second", x.prisoner(1, 4), 7);
    }

    private static void emptyWitnesses() {
        HeWillNotPlead x = new HeWillNotPlead();
        Check.due("of nobody", x.witnesses(), 0);
        Check.put(x, "5,5+0").prisoners();
        Check.put(x, EIGHT).witnesses();
        Check.due("of eight", x.witnesses(), 0);
        Check.due("eight", x.count(1), 8);
    }

    private static void wrongWitnesses(String text, int p) {
        HeWillNotPlead x = Check.with("5,5+0;5,5+0", "");
        Check.due("'" + text + "'", Check.put(x, text).witnesses(), -1 - p);
        Check.due("nobody came of '" + text + "'", x.count(1), 0);
        Check.due("nor PROOF", x.prisoner(0, 9) + x.prisoner(1, 9), 0);
    }

    /** Eight LINES have 55 signs at most, so no text could go on at 60. */
    private static void witnessesAsPrisoners() {
        String line = "1,23,4;";
        int[] early = {1, 2, 3, 4, 5, 7};
        for (int length : early) {
            wrongWitnesses(line.substring(0, length), length);
        }
        wrongWitnesses(line + "1,23,4;2,3,4", 14);
        wrongWitnesses(EIGHT + ";0,5,5", 48);
        wrongWitnesses(EIGHT + ";x", 48);
        wrongWitnesses("0,5,5;" + "0".repeat(60), 7);
        HeWillNotPlead x = Check.with("5,5+0", "0,5,5;0,5,5;0,5,5;0,5,5;0,5,5;0,5,5");
        Check.due("the third of two", Check.put(x, "0,5,5;0,5,5;0,5,5").witnesses(), -1 - 12);
        Check.due("none of them came", x.count(1), 6);
        Check.due("two have room", Check.put(x, "0,5,5;0,5,5").witnesses(), 2);
        Check.due("none has", Check.put(x, "0,5,5").witnesses(), -1);
    }

    private static void digitOfNobody() {
        wrongWitnesses("2,5,5", 0);
        wrongWitnesses("9,5,5", 0);
        wrongWitnesses("0,5,5;2,5,5", 6);
        Check.due("nobody is there", Check.put(new HeWillNotPlead(), "0,5,5").witnesses(), -1);
        HeWillNotPlead x = Check.with(SIX, "");
        Check.due("the sixth", Check.put(x, "5,5,5").witnesses(), 1);
        Check.due("the seventh", Check.put(x, "6,5,5").witnesses(), -1);
    }

    private static void sums() {
        HeWillNotPlead x = new HeWillNotPlead();
        Check.due("least", Check.put(x, "0,0,0,0,0,0,0,0").values(), 0);
        Check.due("most", Check.put(x, "99,99,99,99,99,99,99,99").values(), 792);
        Check.due("the last alone", Check.put(x, "0,0,0,0,0,0,0,1").values(), 1);
    }

    private static void valuesTooEarly() {
        String text = "11,2,3,4,5,6,7,8";
        for (int length = 0; length < text.length(); length++) {
            HeWillNotPlead x = Check.with("5,5+0abcdefgh", "");
            Check.due("of " + length, Check.put(x, text.substring(0, length)).values(), -1 - length);
            Check.due("nothing changes", x.prisoner(0, 10), 80);
        }
        HeWillNotPlead x = new HeWillNotPlead();
        Check.due("all", Check.put(x, text).values(), 46);
        Check.due("a ninth", Check.put(x, text + ",9").values(), -1 - text.length());
        Check.due("a third digit", Check.put(x, "11,2,3,4,5,6,7,888").values(), -1 - 17);
        Check.due("80 signs", Check.put(x, "1".repeat(80)).values(), -1 - 2);
    }

    private static void kings() {
        String[] laws = {"hshs", "khhh", "hhhk", "khkh", "skkk", "kkkk"};
        int[] want = {0, 1, 1, 2, 3, 4};
        for (int k = 0; k < laws.length; k++) {
            Check.due(laws[k], Check.put(new HeWillNotPlead(), laws[k]).law(), want[k]);
        }
    }

    private static void lawTooEarly() {
        for (int length = 0; length < 4; length++) {
            HeWillNotPlead x = Court.withoutText();
            Check.due("of " + length, Check.put(x, "kkkk".substring(0, length)).law(), -1 - length);
            Check.due("THE LAW stays", x.parts(), 32 + 64 + 99);
        }
        HeWillNotPlead x = Court.withoutText();
        Check.due("a fifth", Check.put(x, "kkkkk").law(), -1 - 4);
        Check.due("80 signs", Check.put(x, "k".repeat(80)).law(), -1 - 4);
        Check.due("another sign", Check.put(x, "kkk ").law(), -1 - 3);
        Check.due("THE LAW stays", x.parts(), 32 + 64 + 99);
    }

    private static void emptyRule() {
        HeWillNotPlead x = Check.with("40,15+0", "");
        Check.due("none at first", x.rule(), 0);
        Check.due("LEFT", x.prisoner(0, 8), 40);
        Check.put(x, "b+1").rule();
        Check.due("LEFT by another", x.prisoner(0, 8), 41);
        Check.due("none again", x.rule(), 0);
        x.nights(1);
        Check.due("LEFT by water", x.prisoner(0, 8), 36);
    }

    private static void fortySigns() {
        String ones = "1+".repeat(19);
        wrongRule(ones, 38);
        wrongRule(ones + "1+", 40);
        rightRule(ones + "1", 20);
        rightRule(ones + "11", 30);
        wrongRule(ones + "11+", 40);
        wrongRule(ones + "111", 40);
        wrongRule(ones + "11x", 40);
        wrongRule(ones + "1+1", 40);
        wrongRule(ones + "1x1", 39);
        wrongRule("-".repeat(41), 40);
        wrongRule("-".repeat(80), 40);
        wrongRule("-".repeat(40) + "b", 40);
        rightRule("-".repeat(38) + "b", 40);
        wrongRule("(" + ones + "1", 40);
        wrongRule("(" + ones + "1)", 40);
        rightRule("(" + "1+".repeat(18) + "1)", 19);
        wrongRule("x" + ones + "11", 0);
    }

    private static void rightRule(String text, int left) {
        HeWillNotPlead x = Check.with("40,15+0", "");
        Check.due("'" + text + "'", Check.put(x, text).rule(), 0);
        Check.due("LEFT by '" + text + "'", x.prisoner(0, 8), left);
    }

    private static void wrongRule(String text, int p) {
        HeWillNotPlead x = Check.with("40,15+0", "");
        Check.put(x, "b+1").rule();
        Check.due("'" + text + "'", Check.put(x, text).rule(), -1 - p);
        Check.due("LEFT stays behind '" + text + "'", x.prisoner(0, 8), 41);
    }
}
