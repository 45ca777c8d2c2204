/** The boundary cases that the terms name. */
public final class EdgesOfTermsTest {
    public static void main(String[] args) throws Exception {
        Edges edges = new Edges();
        people(edges);
        rules(edges);
        nights(edges);
        rows(edges);
        edges.finish(0, 0);
    }

    private static void people(Edges edges) {
        edges.term("An object is used for at most 512 calls after it has been made", EdgesOfTermsTest::manyCalls);
        edges.term("PRISONERS 0 .. (at most 6)", EdgesOfTermsTest::sixPrisoners);
        edges.term("BEARS 1 .. 99", EdgesOfTermsTest::bears);
        edges.term("FEAR 0 .. 99", EdgesOfTermsTest::fear);
        edges.term("an HEIR 0 .. 3", EdgesOfTermsTest::heirs);
        edges.term("GOODS (of eight, a .. h: bits 0 .. 7)", EdgesOfTermsTest::goods);
        edges.term("SILENT (at first)", EdgesOfTermsTest::silentAtFirst);
        edges.term("LAID (weight on him, 0 at first), BORNE (nights under weight, 0 at first)",
                EdgesOfTermsTest::nothingLaidAtFirst);
        edges.term("BEARS (1 or 2 digits, not 0)", EdgesOfTermsTest::digitsOfBears);
        edges.term("FEAR (1 or 2 digits)", EdgesOfTermsTest::digitsOfFear);
        edges.term("LINES with ; between, each one more", EdgesOfTermsTest::linesBetween);
        edges.term("- (dumb) or + (not), a digit 0 .. 3 (HEIR)", EdgesOfTermsTest::dumbOrNot);
        edges.term("letters of GOODS (rising; none that a PRISONER has already)", EdgesOfTermsTest::lettersRise);
        edges.term("VALUES of GOODS a .. h: 0 .. 99 (at first 10 each)", EdgesOfTermsTest::values);
        edges.term("eight numbers (1 or 2 digits) with commas between", EdgesOfTermsTest::eightNumbers);
        edges.term("WITNESSES 0 .. (at most 8)", EdgesOfTermsTest::eightWitnesses);
        edges.term("WORD 0 .. 99, FADES 0 .. 9 (by night)", EdgesOfTermsTest::wordAndFades);
        edges.term("a digit (PRISONER, who is there)", EdgesOfTermsTest::whoIsThere);
        edges.term("At first hskh.", EdgesOfTermsTest::lawAtFirst);
        edges.term("a text of four such letters", EdgesOfTermsTest::fourLetters);
        edges.term("DAY (at first 0)", () -> Check.due("DAY", new HeWillNotPlead().count(2), 0));
        edges.term("THE END of the assize (a DAY 1 .. 99, at first 20)", EdgesOfTermsTest::theEnd);
        edges.term("WORD of all WITNESSES against him, added up", EdgesOfTermsTest::proofAddedUp);
    }

    private static void rules(Edges edges) {
        edges.term("(at first none: b-w-d*5-n*4)", EdgesOfTermsTest::ruleAtFirst);
        edges.term("(two; 1 or 0; not one behind the other)", EdgesOfTermsTest::notOneBehindTheOther);
        edges.term("then + - (from the left)", () -> left("9-3-2+1", 5));
        edges.term("then * / (from the left; by 0: 0; cut to 0)", EdgesOfTermsTest::divided);
        edges.term("then - ahead of a thing (any many)", EdgesOfTermsTest::minuses);
        edges.term("a NUMBER of 1 to 3 digits", EdgesOfTermsTest::digitsOfNumbers);
        edges.term("an EXPRESSION in ( ) (at most 4 in one another)", EdgesOfTermsTest::fourInOneAnother);
        edges.term("n DAY by 2 (rest: 0 bread, 1 water)", EdgesOfTermsTest::breadAndWater);
        edges.term("As ints, put to -999 .. 999", EdgesOfTermsTest::putToBounds);
    }

    private static void nights(Edges edges) {
        edges.term("each SILENT one with LAID above 0 has BORNE 1 more", EdgesOfTermsTest::borne);
        edges.term("if LEFT is 0 or below, he is DEAD", EdgesOfTermsTest::zeroLeft);
        edges.term("WORD of each WITNESS is FADES less (0 at least)", EdgesOfTermsTest::wordFades);
        edges.term("if it is THE END, each SILENT or PLEADED one is LEFT OVER", EdgesOfTermsTest::leftOver);
    }

    private static void rows(Edges edges) {
        edges.term("ROW: numbers told last by a call that says so.", EdgesOfTermsTest::toldLast);
        edges.term("Rows of numbers are compared from the first on.", EdgesOfTermsTest::comparedFromTheFirst);
        edges.term("Sets (of PRISONERS, GOODS) are bits.", EdgesOfTermsTest::bits);
        edges.term("Fractions are told in lowest terms, upper and lower number (0 by 1).", EdgesOfTermsTest::fractions);
        edges.term("Questions change nothing.", EdgesOfTermsTest::questions);
        edges.term("Refused calls answer NONE, or false, and change nothing but THE TEXT",
                EdgesOfTermsTest::refusedCalls);
        edges.term("THE TEXT, which a call that reads it empties", EdgesOfTermsTest::readingEmpties);
    }

    /** What grows by calls alone has room till the last of 512. */
    private static void manyCalls() {
        HeWillNotPlead x = Check.with("9,0-0", "0,9,0");
        Check.put(x, "1").rule();
        x.lay(0, 1);
        x.ends(99);
        int before = 30;
        // he is LEFT OVER on DAY 99, and bears no more
        for (int calls = before; calls < 508; calls++) {
            x.nights(60);
        }
        Check.due("DAY", x.count(2), 60 * (508 - before));
        Check.due("BORNE", x.prisoner(0, 7), 99);
        Check.due("what can be undone", x.count(11), 12);
        HeWillNotPlead y = new HeWillNotPlead();
        for (int calls = 0; calls < 510; calls++) {
            y.sign(0x6b6b6b6b);
        }
        Check.due("signs", y.count(13), 80);
        Check.due("law", y.law(), -5);
    }

    private static void sixPrisoners() {
        HeWillNotPlead x = new HeWillNotPlead();
        for (int k = 1; k <= 6; k++) {
            Check.due("one", Check.put(x, "5,5+0").prisoners(), 1);
            Check.due("so many", x.count(0), k);
        }
        Check.due("the seventh", Check.put(x, "5,5+0").prisoners(), -1);
        Check.due("six stay", x.count(0), 6);
    }

    private static void bears() {
        HeWillNotPlead x = Check.with("1,5+0;99,5+0", "");
        Check.due("BEARS 1", x.prisoner(0, 0), 1);
        Check.due("BEARS 99", x.prisoner(1, 0), 99);
        Check.due("BEARS 0", Check.put(x, "0,5+0").prisoners(), -1);
        Check.due("BEARS 100", Check.put(x, "100,5+0").prisoners(), -3);
    }

    private static void fear() {
        HeWillNotPlead x = Check.with("5,0+0;5,99+0", "");
        Check.due("FEAR 0", x.prisoner(0, 1), 0);
        Check.due("FEAR 99", x.prisoner(1, 1), 99);
        Check.due("FEAR 100", Check.put(x, "5,100+0").prisoners(), -5);
    }

    private static void heirs() {
        HeWillNotPlead x = Check.with("5,5+0;5,5+3", "");
        Check.due("HEIR 0", x.prisoner(0, 3), 0);
        Check.due("HEIR 3", x.prisoner(1, 3), 3);
        Check.due("HEIR 4", Check.put(x, "5,5+4").prisoners(), -5);
        Check.due("HEIR 10", Check.put(x, "5,5+10").prisoners(), -6);
    }

    private static void goods() {
        for (int g = 0; g < 8; g++) {
            HeWillNotPlead x = Check.with("5,5+0" + (char) ('a' + g), "");
            Check.due("GOODS " + g, x.prisoner(0, 4), 1 << g);
        }
        Check.due("all eight", Check.with("5,5+0abcdefgh", "").prisoner(0, 4), 255);
        Check.due("a ninth", Check.put(new HeWillNotPlead(), "5,5+0abcdefghi").prisoners(), -14);
        Check.due("what stands ahead of a", Check.put(new HeWillNotPlead(), "5,5+0`").prisoners(), -6);
    }

    private static void silentAtFirst() {
        HeWillNotPlead x = Check.with("5,5+0;5,5-0", "");
        Check.due("SILENT", x.count(4), 3);
        // also one who comes behind THE END, into the room of nobody
        x.nights(30);
        Check.put(x, "5,5+0").prisoners();
        Check.due("SILENT behind THE END", x.count(4), 4);
    }

    private static void nothingLaidAtFirst() {
        HeWillNotPlead x = Check.with("5,5+0", "");
        Check.due("LAID", x.prisoner(0, 6), 0);
        Check.due("BORNE", x.prisoner(0, 7), 0);
    }

    private static void digitsOfBears() {
        Check.due("01", Check.with("01,5+0", "").prisoner(0, 0), 1);
        Check.due("10", Check.with("10,5+0", "").prisoner(0, 0), 10);
        Check.due("no digit", Check.put(new HeWillNotPlead(), ",5+0").prisoners(), -1);
        Check.due("001", Check.put(new HeWillNotPlead(), "001,5+0").prisoners(), -2);
        Check.due("011", Check.put(new HeWillNotPlead(), "011,5+0").prisoners(), -3);
    }

    private static void digitsOfFear() {
        Check.due("00", Check.with("5,00+0", "").prisoner(0, 1), 0);
        Check.due("07", Check.with("5,07+0", "").prisoner(0, 1), 7);
        Check.due("no digit", Check.put(new HeWillNotPlead(), "5,+0").prisoners(), -3);
        Check.due("007", Check.put(new HeWillNotPlead(), "5,007+0").prisoners(), -5);
    }

    private static void linesBetween() {
        HeWillNotPlead x = new HeWillNotPlead();
        Check.due("; ahead", Check.put(x, ";5,5+0").prisoners(), -1);
        Check.due("; behind", Check.put(x, "5,5+0;").prisoners(), -7);
        Check.due("; twice", Check.put(x, "5,5+0;;5,5+0").prisoners(), -7);
        Check.due("another sign between", Check.put(x, "5,5+0:5,5+0").prisoners(), -6);
        Check.due("two", Check.put(x, "5,5+0;6,5+0").prisoners(), 2);
        Check.due("one more", Check.put(x, "7,5+0").prisoners(), 1);
        for (int p = 0; p < 3; p++) {
            Check.due("in their order", x.prisoner(p, 0), 5 + p);
        }
    }

    private static void dumbOrNot() {
        HeWillNotPlead x = Check.with("5,5-0;5,5+0", "");
        Check.due("-", x.prisoner(0, 2), 1);
        Check.due("+", x.prisoner(1, 2), 0);
        // , stands between + and -, * ahead of them, . behind
        for (String no : new String[] {",", "*", ".", "0"}) {
            Check.due("5,55" + no, Check.put(x, "5,55" + no + "0").prisoners(), -5);
        }
        Check.due("no HEIR", Check.put(x, "5,5-a").prisoners(), -5);
        Check.due("/ is no HEIR", Check.put(x, "5,5-/").prisoners(), -5);
    }

    private static void lettersRise() {
        Check.due("aa", Check.put(new HeWillNotPlead(), "5,5+0aa").prisoners(), -7);
        Check.due("ba", Check.put(new HeWillNotPlead(), "5,5+0ba").prisoners(), -7);
        Check.due("ha", Check.put(new HeWillNotPlead(), "5,5+0ha").prisoners(), -7);
        Check.due("of a LINE ahead", Check.put(new HeWillNotPlead(), "5,5+0h;5,5+0gh").prisoners(), -14);
        HeWillNotPlead x = Check.with("5,5+0b", "");
        Check.due("of a text ahead", Check.put(x, "5,5+0ab").prisoners(), -7);
        Check.due("others are free", Check.put(x, "5,5+0acdefgh").prisoners(), 1);
        Check.due("none are needed", Check.put(x, "5,5+0").prisoners(), 1);
    }

    private static void values() {
        HeWillNotPlead all = Check.with("5,5+0abcdefgh", "");
        Check.due("at first, all", all.prisoner(0, 10), 80);
        for (int g = 0; g < 8; g++) {
            Check.due("at first", Check.with("5,5+0" + (char) ('a' + g), "").prisoner(0, 10), 10);
        }
        Check.due("0 each", Check.put(all, "0,0,0,0,0,0,0,0").values(), 0);
        Check.due("0 each", all.prisoner(0, 10), 0);
        Check.due("99 each", Check.put(all, "99,99,99,99,99,99,99,99").values(), 792);
        Check.due("99 each", all.prisoner(0, 10), 792);
        Check.due("100", Check.put(all, "100,0,0,0,0,0,0,0").values(), -3);
    }

    private static void eightNumbers() {
        HeWillNotPlead x = new HeWillNotPlead();
        Check.due("seven", Check.put(x, "1,1,1,1,1,1,1").values(), -14);
        Check.due("eight", Check.put(x, "1,1,1,1,1,1,1,1").values(), 8);
        Check.due("nine", Check.put(x, "1,1,1,1,1,1,1,1,1").values(), -16);
        Check.due("no digit", Check.put(x, "1,,1,1,1,1,1,1").values(), -3);
        Check.due("two digits", Check.put(x, "01,00,1,1,1,1,1,1").values(), 7);
        Check.due("three digits", Check.put(x, "1,001,1,1,1,1,1,1").values(), -5);
    }

    private static void eightWitnesses() {
        HeWillNotPlead x = Check.with("5,5+0", "");
        for (int k = 1; k <= 8; k++) {
            Check.due("one", Check.put(x, "0,9,1").witnesses(), 1);
            Check.due("so many", x.count(1), k);
        }
        Check.due("the ninth", Check.put(x, "0,9,1").witnesses(), -1);
        Check.due("eight stay", x.count(1), 8);
        Check.due("PROOF of eight", x.prisoner(0, 9), 72);
    }

    private static void wordAndFades() {
        HeWillNotPlead x = Check.with("5,5+0", "0,0,0;0,99,9;0,05,9");
        Check.due("WORD 0", x.witness(0, 1), 0);
        Check.due("FADES 0", x.witness(0, 2), 0);
        Check.due("WORD 99", x.witness(1, 1), 99);
        Check.due("FADES 9", x.witness(1, 2), 9);
        Check.due("WORD 05", x.witness(2, 1), 5);
        Check.due("WORD 100", Check.put(x, "0,100,1").witnesses(), -5);
        Check.due("FADES 10", Check.put(x, "0,10,10").witnesses(), -7);
        Check.due("no WORD", Check.put(x, "0,,1").witnesses(), -3);
    }

    private static void whoIsThere() {
        HeWillNotPlead x = Check.with("5,5+0;5,5+0", "");
        Check.due("the last one", Check.put(x, "1,9,1").witnesses(), 1);
        Check.due("the one behind him", Check.put(x, "2,9,1").witnesses(), -1);
        Check.due("a dead one is there", deadOne().witnesses(), 1);
    }

    private static HeWillNotPlead deadOne() {
        HeWillNotPlead x = Check.with("5,5+0", "");
        x.lay(0, 50);
        x.nights(1);
        return Check.put(x, "0,9,1");
    }

    private static void lawAtFirst() {
        // of nobody's GOODS the LAW that serves best is the one that is: h 0, s 2, k 1, h 0
        Check.due("its number", new HeWillNotPlead().wants(0), 2 * 9 + 3);
        HeWillNotPlead x = Court.make();
        Check.due("the king's", x.parts(), 32 + 64 + 99);
        Check.row("HEIRS', their own", x, 1, 0, 0, 8, 16);
    }

    private static void fourLetters() {
        HeWillNotPlead x = new HeWillNotPlead();
        Check.due("three", Check.put(x, "hks").law(), -4);
        Check.due("four", Check.put(x, "hksh").law(), 1);
        Check.due("five", Check.put(x, "hkshk").law(), -5);
        Check.due("another letter", Check.put(x, "hksr").law(), -4);
    }

    private static void theEnd() {
        HeWillNotPlead x = new HeWillNotPlead();
        Check.due("at first", x.count(3), 20);
        Check.due("1", x.ends(1), 20);
        Check.due("99", x.ends(99), 1);
        Check.due("0", x.ends(0), -1);
        Check.due("100", x.ends(100), -1);
        Check.due("it stays", x.count(3), 99);
    }

    private static void proofAddedUp() {
        HeWillNotPlead x = Check.with("5,5+0;5,5+0;5,5+0", "0,99,0;1,1,0;0,99,0;0,99,0");
        Check.due("three", x.prisoner(0, 9), 297);
        Check.due("one", x.prisoner(1, 9), 1);
        Check.due("none", x.prisoner(2, 9), 0);
    }

    /** BEARS 40, LAID 7, BORNE 2, DAY 3, FEAR 15, his number 1. */
    private static HeWillNotPlead forRules() {
        HeWillNotPlead x = Check.with("5,5+0;40,15+0", "");
        x.lay(1, 7);
        x.nights(2);
        x.lay(1, -50);
        x.nights(1);
        x.lay(1, 7);
        return x;
    }

    private static void left(String rule, int want) {
        HeWillNotPlead x = forRules();
        Check.due("rule " + rule, Check.put(x, rule).rule(), 0);
        Check.due("LEFT by " + rule, x.prisoner(1, 8), want);
    }

    private static void wrongAt(String rule, int p) {
        HeWillNotPlead x = forRules();
        Check.due("rule " + rule, Check.put(x, rule).rule(), -1 - p);
        Check.due("LEFT stays behind " + rule, x.prisoner(1, 8), 40 - 7 - 10 - 4);
    }

    private static void ruleAtFirst() {
        Check.due("none told", forRules().prisoner(1, 8), 40 - 7 - 2 * 5 - 4);
        left("b-w-d*5-n*4", 40 - 7 - 2 * 5 - 4);
        HeWillNotPlead x = forRules();
        Check.put(x, "7").rule();
        Check.due("none again", x.rule(), 0);
        Check.due("none again", x.prisoner(1, 8), 40 - 7 - 2 * 5 - 4);
    }

    private static void notOneBehindTheOther() {
        left("3>2", 1);
        left("2>2", 0);
        left("2<2", 0);
        left("2=2", 1);
        left("2=-2", 0);
        wrongAt("1<2<3", 3);
        wrongAt("1=2>3", 3);
        wrongAt("(1>2=3)", 4);
        left("(1<2)<3", 1);
        left("1<(2<3)", 0);
    }

    private static void divided() {
        left("24/4/2", 3);
        left("24/4*2", 12);
        left("7/0", 0);
        left("-7/(b-40)", 0);
        left("0/0", 0);
        left("7/2", 3);
        left("-7/2", -3);
        left("7/-2", -3);
        left("1/2*2", 0);
        // the least int by -1 is itself, as ints
        left("(-512*512*64*128)/-1<0", 1);
    }

    private static void minuses() {
        left("-b", -40);
        left("--b", 40);
        left("2*---3", -6);
        left("1----1", 2);
        left("-".repeat(39) + "5", -5);
        wrongAt("-", 1);
        wrongAt("-+5", 1);
    }

    private static void digitsOfNumbers() {
        left("0", 0);
        left("000", 0);
        left("999", 999);
        left("b+09", 49);
        wrongAt("1000", 3);
        wrongAt("b+0000", 5);
        wrongAt("5b", 1);
    }

    private static void fourInOneAnother() {
        left("((((5))))", 5);
        wrongAt("(((((5)))))", 4);
        left("((((5))))+((((6))))", 11);
        left("(((5)+(6)))", 11);
        wrongAt("(1)+((((2+(3)))))", 10);
        wrongAt("((((5)))", 8);
        wrongAt("()", 1);
    }

    private static void breadAndWater() {
        HeWillNotPlead x = Check.with("5,5+0", "");
        Check.put(x, "n").rule();
        for (int day = 0; day < 5; day++) {
            Check.due("DAY " + day, x.prisoner(0, 8), day % 2);
            x.nights(1);
        }
    }

    private static void putToBounds() {
        left("999", 999);
        left("999+1", 999);
        left("-999", -999);
        left("-999-1", -999);
        left("999*999", 999);
        left("0-999*999", -999);
        // 2147483648 runs over to the least int, one less runs back
        left("512*512*64*128", -999);
        left("512*512*64*128-1", 999);
        // 65536 * 65536 runs over to 0
        left("256*256*256*256+7", 7);
    }

    private static void borne() {
        HeWillNotPlead x = Check.with("99,5-0;99,5-0;99,99+0", "");
        x.lay(0, 1);
        x.lay(2, 1);
        x.ask(2);
        x.nights(3);
        Check.due("LAID 1", x.prisoner(0, 7), 3);
        Check.due("LAID 0", x.prisoner(1, 7), 0);
        Check.due("not SILENT", x.prisoner(2, 7), 0);
    }

    private static void zeroLeft() {
        HeWillNotPlead x = Check.with("5,0-0;6,0-0;4,0-0", "");
        Check.put(x, "b-d*5").rule();
        for (int p = 0; p < 3; p++) {
            x.lay(p, 1);
        }
        x.nights(1);
        Check.due("LEFT 0", x.prisoner(0, 5), 2);
        Check.due("LEFT 1", x.prisoner(1, 5), 0);
        Check.due("LEFT -1", x.prisoner(2, 5), 2);
    }

    private static void wordFades() {
        HeWillNotPlead x = Check.with("5,5+0", "0,9,4;0,8,4;0,7,0");
        x.nights(2);
        Check.due("1 is left", x.witness(0, 1), 1);
        Check.due("0 is left", x.witness(1, 1), 0);
        x.nights(1);
        Check.due("not below 0", x.witness(0, 1), 0);
        Check.due("still 0", x.witness(1, 1), 0);
        Check.due("it does not fade", x.witness(2, 1), 7);
    }

    private static void leftOver() {
        HeWillNotPlead x = Court.make();
        x.lay(Court.SILENT, -50);
        x.nights(17);
        Check.due("DAY 19: LEFT OVER before alone", x.count(9), 1);
        x.nights(1);
        Check.due("THE END: SILENT and PLEADED ones", x.count(9), 1 + 2 + 4);
        Check.due("DEAD", x.count(6), 8);
        Check.due("FREED", x.count(7), 16);
        Check.due("CONVICTED", x.count(8), 32);
    }

    private static void toldLast() {
        HeWillNotPlead x = Court.withoutText();
        // calls that tell no ROW
        Check.put(x, "1,2,4,8,16,32,64,99").values();
        Check.put(x, "hskh").law();
        Check.put(x, "b").rule();
        x.rule();
        x.prisoners();
        x.witnesses();
        x.ends(30);
        x.sheet(3, 0, 0, 0);
        x.lay(Court.SILENT, 1);
        x.ask(Court.SILENT);
        x.undo();
        x.left(Court.SILENT, 3);
        x.mercy(Court.SILENT, 3);
        x.mercy(Court.SILENT, 60);
        x.till(Court.SILENT);
        x.sure(5, 5, 50);
        x.keep(0);
        x.again(0);
        Check.row("as dumb() told", x, 2, 3);
        // a row of fewer numbers takes the place of one of more
        x.parts();
        Check.due("five", x.count(12), 5);
        x.nights(0);
        Check.row("two", x, 0, 0);
        x.rests(50, 1);
        Check.row("none", x);
    }

    private static void comparedFromTheFirst() {
        // all can be CONVICTED in any order: of 0 1 2, .. 2 1 0 the first number tells
        HeWillNotPlead x = Check.with("9,9+0;9,9+0;9,9+0", "0,99,0;0,99,0;1,99,0;1,99,0;2,99,0;2,99,0");
        Check.put(x, "a0;a1;a2").assize();
        x.trials();
        Check.row("the least row", x, 0, 1, 2);
        // 1 must be first today, as he fades: 1 0 2 is less than 1 2 0
        HeWillNotPlead y = Check.with("9,9+0;9,9+0;9,9+0", "0,99,0;0,99,0;1,99,9;1,1,0;2,99,0;2,99,0");
        Check.put(y, "a0;a1;a2").assize();
        y.trials();
        Check.row("of rows with a like first", y, 1, 0, 2);
    }

    private static void bits() {
        HeWillNotPlead x = Court.make();
        Check.due("SILENT", x.count(4), 1 << Court.SILENT);
        Check.due("PLEADED", x.count(5), 1 << Court.PLEADED);
        Check.due("DEAD", x.count(6), 1 << Court.DEAD);
        Check.due("FREED", x.count(7), 1 << Court.FREED);
        Check.due("CONVICTED", x.count(8), 1 << Court.CONVICTED);
        Check.due("LEFT OVER", x.count(9), 1 << Court.LEFT_OVER);
        Check.due("GOODS", x.prisoner(Court.CONVICTED, 4), 32 + 64 + 128);
        Check.due("all GOODS", x.count(10), 255);
    }

    private static void fractions() {
        HeWillNotPlead x = new HeWillNotPlead();
        x.dumb(0, 0, 0);
        Check.row("0 by 1", x, 0, 1);
        x.dumb(0, 5, 12);
        Check.row("0 by 1, of great numbers", x, 0, 1);
        x.dumb(10, 0, 12);
        Check.row("1 by 1", x, 1, 1);
        x.dumb(4, 0, 12);
        Check.row("4 by 10", x, 2, 5);
    }

    private static void questions() {
        int s = Court.SILENT;
        Court.asksOnly("left", x -> x.left(s, 60));
        Court.asksOnly("dies", x -> x.dies(s));
        Court.asksOnly("speaks", x -> x.speaks(s, 30));
        Court.asksOnly("least", x -> x.least(s, 60));
        Court.asksOnly("mercy", x -> x.mercy(s, 60));
        Court.asksOnly("longest", x -> x.longest(s));
        Court.asksOnly("stones", x -> x.stones(400));
        Court.asksOnly("silent", x -> x.silent(60));
        Court.asksOnly("proof", x -> x.proof(s, 99));
        Court.asksOnly("till", x -> x.till(s));
        Court.asksOnly("gains", x -> x.gains(s, 60));
        Court.asksOnly("lacks", x -> x.lacks(s, 99));
        Court.asksOnly("best", x -> x.best(s));
        Court.asksOnly("trials", x -> x.trials());
        Court.asksOnly("docket", x -> x.docket());
        Court.asksOnly("parts", x -> x.parts());
        Court.asksOnly("hopes", x -> x.hopes(3));
        Court.asksOnly("wants", x -> x.wants(3));
        Court.asksOnly("dumb", x -> x.dumb(3, 3, 3));
        Court.asksOnly("sure", x -> x.sure(3, 3, 33));
        Court.asksOnly("house", x -> x.house(5, 96));
        Court.asksOnly("search", x -> x.search(5, 96));
        Court.asksOnly("rests", x -> x.rests(9, 1));
        Court.asksOnly("years", x -> x.years(5, 60));
        Court.asksOnly("count", x -> x.count(11));
        Court.asksOnly("prisoner", x -> x.prisoner(0, 8));
        Court.asksOnly("witness", x -> x.witness(0, 1));
        Court.asksOnly("row", x -> x.row(0));
        HeWillNotPlead x = Check.with("40,15+0;40,14+0", "");
        Check.due("alike", x.alike(0, 1), 5);
        x.parts();
        HeWillNotPlead y = Check.with("40,15+0;40,14+0", "");
        y.parts();
        Check.same("alike changes nothing", Court.everything(x), Court.everything(y));
    }

    private static void refusedCalls() {
        Court.refuses("end", x -> x.end(5) ? 1 : 0, 0);
        Court.refuses("ends", x -> x.ends(2), -1);
        Court.refuses("lay", x -> x.lay(Court.SILENT, 51), -1);
        Court.refuses("ask", x -> x.ask(6), -1);
        Court.refuses("judge", x -> x.judge(6), -1);
        Court.refuses("nights", x -> x.nights(61), -1);
        Court.refuses("keep", x -> x.keep(2) ? 1 : 0, 0);
        Court.refuses("again", x -> x.again(2) ? 1 : 0, 0);
        Court.refuses("sheet", x -> x.sheet(4, 1, 1, 1), -1);
        Court.refuses("count", x -> x.count(14), -1);
        HeWillNotPlead x = Check.put(Court.withoutText(), "k".repeat(77));
        Check.due("sign", x.sign(0), -1);
        HeWillNotPlead y = Check.put(Court.withoutText(), "k".repeat(77));
        Check.same("sign changes nothing", Court.everything(x), Court.everything(y));
    }

    private static void readingEmpties() {
        Court.refusesText("5,5+0;", x -> x.prisoners(), -1);
        Court.refusesText("5,5", x -> x.values(), -4);
        Court.refusesText("6,5,5", x -> x.witnesses(), -1);
        Court.refusesText("hhh", x -> x.law(), -4);
        Court.refusesText("b+", x -> x.rule(), -3);
        Court.refusesText("l15;n", x -> x.assize(), -6);
        Court.refusesText("hhhhh", x -> x.reading(), -10004);
        // such as are not refused, too
        HeWillNotPlead x = new HeWillNotPlead();
        Check.due("prisoners", Check.put(x, "5,5+0").prisoners() + x.count(13), 1);
        Check.due("witnesses", Check.put(x, "0,5,5").witnesses() + x.count(13), 1);
        Check.due("values", Check.put(x, "1,1,1,1,1,1,1,1").values() + x.count(13), 8);
        Check.due("law", Check.put(x, "kkkk").law() + x.count(13), 4);
        Check.due("rule", Check.put(x, "b").rule() + x.count(13), 0);
        Check.due("assize", Check.put(x, "n1").assize() + x.count(13), 1);
        Check.due("reading", Check.put(x, "hhhh").reading() + x.count(13), 0);
    }
}
