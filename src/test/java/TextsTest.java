/** Promises 1 to 8: a new object, sign, end, prisoners, values, witnesses, law, rule. */
public final class TextsTest {
    private static final String SIX = "5,5+0;5,5+0;5,5+0;5,5+0;5,5+0;5,5+0";

    public static void main(String[] args) {
        newObject();
        signs();
        ends();
        prisoners();
        wrongPrisoners();
        roomForPrisoners();
        values();
        witnesses();
        wrongWitnesses();
        noDigits();
        law();
        rule();
        wrongRules();
        rulesOfFortySigns();
        Check.finish();
    }

    private static void newObject() {
        HeWillNotPlead x = new HeWillNotPlead();
        for (int what = 0; what < 14; what++) {
            Check.due("new: count(" + what + ")", x.count(what), what == 3 ? 20 : 0);
        }
        Check.due("new: NONE", HeWillNotPlead.NONE, -1);
        Check.due("new: again(0)", x.again(0), false);
        Check.due("new: prisoner(0, 0)", Check.orThrows(() -> x.prisoner(0, 0)), Check.THROWS);
    }

    private static void signs() {
        HeWillNotPlead x = new HeWillNotPlead();
        for (int k = 1; k <= 20; k++) {
            Check.due("sign " + k, x.sign(0x31313131), 4 * k);
        }
        Check.due("sign beyond 80", x.sign(0x31313131), -1);
        Check.due("it stays", x.count(13), 80);
        x.end(78);
        Check.due("78 and 4 are more than 80", x.sign(0), -1);
        Check.due("a refused sign leaves the text", x.count(13), 78);
        x.end(77);
        Check.due("77 and 4 are more than 80", x.sign(0), -1);
        x.end(76);
        Check.due("76 and 4", x.sign(0), 80);
        // the highest byte first, bytes without sign
        HeWillNotPlead y = new HeWillNotPlead();
        Check.due("sign(hskk)", y.sign('h' << 24 | 's' << 16 | 'k' << 8 | 'k'), 4);
        Check.due("law of it", y.law(), 2);
        y.sign(0xffffffff);
        Check.due("a sign 255", y.law(), -1);
    }

    private static void ends() {
        HeWillNotPlead x = new HeWillNotPlead();
        x.sign(0x68736b6b);
        Check.due("end(5) of 4", x.end(5), false);
        Check.due("end(-1)", x.end(-1), false);
        Check.due("it stays", x.count(13), 4);
        Check.due("end(4)", x.end(4), true);
        Check.due("end(2)", x.end(2), true);
        Check.due("two signs", x.count(13), 2);
        Check.put(x, "hh");
        Check.due("the first two are kept", x.law(), 0);
        Check.due("reading empties", x.count(13), 0);
        Check.due("end(0) of nothing", x.end(0), true);
    }

    private static void prisoners() {
        HeWillNotPlead x = new HeWillNotPlead();
        Check.due("two LINES", Check.put(x, "07,0+3ach;99,99-0bg").prisoners(), 2);
        long[] first = {7, 0, 0, 3, 133, 0, 0, 0, 7, 0, 30};
        long[] second = {99, 99, 1, 0, 66, 0, 0, 0, 99, 0, 20};
        for (int what = 0; what < 11; what++) {
            Check.due("first, " + what, x.prisoner(0, what), first[what]);
            Check.due("second, " + what, x.prisoner(1, what), second[what]);
        }
        Check.due("one more", Check.put(x, "1,00+1").prisoners(), 1);
        Check.due("three", x.count(0), 3);
        Check.due("without GOODS", x.prisoner(2, 4), 0);
        Check.due("an empty text", x.prisoners(), 0);
        Check.due("still three", x.count(0), 3);
    }

    private static void wrongPrisoners() {
        String[] texts = {
            "0", "0x", "0,5+0", "00", "00,5+0", "x", ";", "100,5+0", "5", "5,", "5x", "5,5", "5,x",
            "5,5x", "5,5+", "5,5+4", "5,5-x", "5,5+0,", "5,5+0;", "5,5+0;;", "5,5+0i", "5,5+0aa",
            "5,5+0ca", "5,5+0ab;5,5+0b", "5,5+0;0", "5,5+0;0,1+0", "5,100+0", " 5,5+0", "5,5+0A",
            "5,5+0;5,5+0;5,5+9", "5,5+0 ", "5-0", "55+0", "0+0", ",5+0", "5,+0", "5,5+0a;5,5+0b;5,5+0a",
        };
        int[] wrongAt = {
            0, 0, 0, 1, 1, 0, 0, 2, 1, 2, 1, 3, 2,
            3, 4, 4, 4, 5, 6, 6, 5, 6,
            6, 13, 6, 6, 4, 0, 5,
            16, 5, 1, 2, 0, 0, 2, 19,
        };
        for (int k = 0; k < texts.length; k++) {
            HeWillNotPlead x = new HeWillNotPlead();
            Check.due("prisoners " + texts[k], Check.put(x, texts[k]).prisoners(), -1 - wrongAt[k]);
            Check.due("nobody came of " + texts[k], x.count(0), 0);
            Check.due("no GOODS came of " + texts[k], x.count(10), 0);
            Check.due("the text is empty behind " + texts[k], x.count(13), 0);
            Check.due("then they can come", Check.put(x, "5,5+0abcdefgh").prisoners(), 1);
        }
        HeWillNotPlead x = Check.with("5,5+0c", "");
        Check.due("GOODS of another", Check.put(x, "5,5+0bcd").prisoners(), -7);
        Check.due("GOODS of another, in the second LINE", Check.put(x, "5,5+0b;5,5+0ac").prisoners(), -14);
        Check.due("GOODS of a dead one", new World().reads("5,5+0c", y -> y.prisoners())
                .does(y -> y.lay(0, 50)).does(y -> y.nights(1))
                .reads("5,5+0ac", y -> Check.due("ac", y.prisoners(), -7)).make().count(6), 1);
    }

    private static void roomForPrisoners() {
        HeWillNotPlead x = new HeWillNotPlead();
        Check.due("seven", Check.put(x, SIX + ";5,5+0").prisoners(), -37);
        Check.due("none of seven came", x.count(0), 0);
        Check.due("six and ;", Check.put(x, SIX + ";").prisoners(), -37);
        Check.due("six", Check.put(x, SIX).prisoners(), 6);
        Check.due("no room for a right one", Check.put(x, "5,5+0").prisoners(), -1);
        Check.due("no room for a wrong one", Check.put(x, ";").prisoners(), -1);
        Check.due("an empty text needs none", x.prisoners(), 0);
        HeWillNotPlead y = Check.with("5,5+0;5,5+0;5,5+0;5,5+0;5,5+0", "");
        Check.due("the second has no room", Check.put(y, "5,5+0abc;6,6+0").prisoners(), -10);
        Check.due("nor comes the first", y.count(0), 5);
        Check.due("80 signs", Check.put(y, "5,5+0abcdefgh;" + "5".repeat(66)).prisoners(), -15);
    }

    private static void values() {
        HeWillNotPlead x = Check.with("5,5+0abcdefgh", "");
        Check.due("at first", x.prisoner(0, 10), 80);
        String[] texts = {
            "", "x", "1", "1,", "1,2,3,4,5,6,7", "1,2,3,4,5,6,7,", "1,2,3,4,5,6,7,8,",
            "1,2,3,4,5,6,7,888", "100,2,3,4,5,6,7,8", "1;2", "1,,", "1,2,3,4,5,6,7,8;",
        };
        int[] wrongAt = {0, 0, 1, 2, 13, 14, 15, 16, 2, 1, 2, 15};
        for (int k = 0; k < texts.length; k++) {
            Check.due("values " + texts[k], Check.put(x, texts[k]).values(), -1 - wrongAt[k]);
            Check.due("unchanged by " + texts[k], x.prisoner(0, 10), 80);
            Check.due("emptied " + texts[k], x.count(13), 0);
        }
        Check.due("the most", Check.put(x, "99,99,99,99,99,99,99,99").values(), 792);
        Check.due("others", Check.put(x, "0,00,1,02,3,4,50,60").values(), 120);
        Check.due("now", x.prisoner(0, 10), 120);
    }

    private static void witnesses() {
        HeWillNotPlead x = Check.with("5,5+0;5,5+0", "");
        Check.due("two", Check.put(x, "1,07,0;0,99,9").witnesses(), 2);
        Check.due("against", x.witness(0, 0), 1);
        Check.due("WORD", x.witness(0, 1), 7);
        Check.due("FADES", x.witness(1, 2), 9);
        Check.due("one more", Check.put(x, "1,0,5").witnesses(), 1);
        Check.due("three", x.count(1), 3);
        Check.due("an empty text", x.witnesses(), 0);
        Check.due("three more", Check.put(x, "1,1,1;1,1,1;1,1,1;1,1,1;1,1,1;1,1,1").witnesses(), -31);
        Check.due("none of these came", x.count(1), 3);
        Check.due("five more", Check.put(x, "1,1,1;1,1,1;1,1,1;1,1,1;1,1,1").witnesses(), 5);
        Check.due("no room", Check.put(x, "1,1,1").witnesses(), -1);
        Check.due("no room for a wrong one", Check.put(x, ";").witnesses(), -1);
        Check.due("eight", x.count(1), 8);
        Check.due("PROOF", x.prisoner(1, 9), 12);
    }

    private static void wrongWitnesses() {
        String[] texts = {
            "2,5,5", "9", "x", "0", "0,", "0x", "0,5", "0,x", "0,5,", "0,5x", "0,5,x", "0,5,55",
            "0,555,5", "0,5,5;", "0,5,5;;", "0,5,5;2,5,5", "0,5,5;1,5", "0,5,5,",
        };
        int[] wrongAt = {0, 0, 0, 1, 2, 1, 3, 2, 4, 3, 4, 5, 4, 6, 6, 6, 9, 5};
        for (int k = 0; k < texts.length; k++) {
            HeWillNotPlead x = Check.with("5,5+0;5,5+0", "");
            Check.due("witnesses " + texts[k], Check.put(x, texts[k]).witnesses(), -1 - wrongAt[k]);
            Check.due("nobody came of " + texts[k], x.count(1), 0);
            Check.due("no PROOF came of " + texts[k], x.prisoner(0, 9), 0);
            Check.due("emptied " + texts[k], x.count(13), 0);
        }
        Check.due("without PRISONERS", Check.put(new HeWillNotPlead(), "0,5,5").witnesses(), -1);
    }

    private static void law() {
        String[] texts = {"", "h", "hsk", "x", "hskx", "hskhh", "hskH", "hxkh"};
        int[] wrongAt = {0, 1, 3, 0, 3, 4, 3, 1};
        for (int k = 0; k < texts.length; k++) {
            HeWillNotPlead x = over();
            Check.due("law " + texts[k], Check.put(x, texts[k]).law(), -1 - wrongAt[k]);
            Check.due("emptied " + texts[k], x.count(13), 0);
            Check.due("THE LAW stays", x.parts(), 0);
            Check.row("THE LAW stays", x, 0, 0, 10, 0, 0);
        }
        HeWillNotPlead x = over();
        Check.due("no king's", Check.put(x, "hshs").law(), 0);
        x.parts();
        Check.row("his own", x, 0, 0, 0, 0, 10);
        Check.due("three king's", Check.put(x, "khkk").law(), 3);
        Check.due("the king's", x.parts(), 10);
    }

    /** : stands behind 9, / ahead of 0: neither is a digit. */
    private static void noDigits() {
        for (String no : new String[] {":", "/"}) {
            HeWillNotPlead x = Check.with("9,9+0", "");
            Check.due("BEARS " + no, Check.put(x, no + ",5+0").prisoners(), -1);
            Check.due("BEARS 5" + no, Check.put(x, "5" + no + ",5+0").prisoners(), -2);
            Check.due("FEAR " + no, Check.put(x, "5," + no + "+0").prisoners(), -3);
            Check.due("HEIR " + no, Check.put(x, "5,5+" + no).prisoners(), -5);
            Check.due("GOODS `", Check.put(x, "5,5+0`").prisoners(), -6);
            Check.due("VALUE " + no, Check.put(x, "1," + no).values(), -3);
            Check.due("against " + no, Check.put(x, no + ",5,5").witnesses(), -1);
            Check.due("WORD 5" + no, Check.put(x, "0,5" + no + ",5").witnesses(), -4);
            Check.due("FADES " + no, Check.put(x, "0,5," + no).witnesses(), -5);
            Check.due("PRISONER " + no, Check.put(x, "l" + no + "5").assize(), -2);
            Check.due("NIGHTS " + no, Check.put(x, "n" + no).assize(), -2);
            Check.due("NUMBER 5" + no + "5", Check.put(x, "b-5:5").rule(), -4);
        }
    }

    private static HeWillNotPlead over() {
        HeWillNotPlead x = Check.with("5,5+2d", "");
        x.nights(20);
        return x;
    }

    private static void rule() {
        // BEARS 40, FEAR 15, LAID 7, BORNE 2, DAY 3, his number 1
        String[] rules = {
            "", "b", "w", "d", "n", "f", "i", "0", "007", "999", "1<2", "2<1", "2>1", "1>1", "1=1",
            "1=2", "1+2*3", "10-3-2", "24/4/2", "24/4*2", "7/2", "-7/2", "7/-2", "-7/-2", "5/0",
            "--5", "---5", "2--3", "2*-3", "-b+1", "(1+2)*3", "((((5))))", "-(2-5)", "1+1<3",
            "1<1+1", "(1<2)=(3>2)", "b-w-d*5-n*4", "999*999", "0-999*999", "999*999*999*999",
            "65*999*999*99*99", "-2*2+1", "b*w/d", "-1<0", "(1)-(2)", "3-n-n-n", "b=40", "w<d",
            "-999-9", "b-(w>6)*9", "1/2*2", "2*1/2",
        };
        int[] left = {
            40 - 7 - 10 - 4, 40, 7, 2, 1, 15, 1, 0, 7, 999, 1, 0, 1, 0, 1,
            0, 7, 5, 3, 12, 3, -3, -3, 3, 0,
            5, -5, 5, -6, -39, 9, 5, 3, 1,
            1, 1, 19, 999, -999, put(999 * 999 * 999 * 999),
            put(65 * 999 * 999 * 99 * 99), -3, 140, 1, -1, 0, 1, 0,
            -999, 31, 0, 1,
        };
        HeWillNotPlead x = Check.with("5,5+0;40,15+0", "");
        x.lay(1, 7);
        x.nights(2);
        x.lay(1, -50);
        x.nights(1);
        x.lay(1, 7);
        for (int k = 0; k < rules.length; k++) {
            Check.due("rule " + rules[k], Check.put(x, rules[k]).rule(), 0);
            Check.due("LEFT by " + rules[k], x.prisoner(1, 8), left[k]);
        }
    }

    private static int put(int much) {
        return Math.max(-999, Math.min(999, much));
    }

    private static void wrongRules() {
        String[] rules = {
            "x", "+b", "b+", "b-", "b*", "b/", "b<", "-", "(", "()", "(b", "b)", "bb", "b5", "5b",
            "1000", "1<2<3", "1<2=3", "(1<2>3)", "(((((5)))))", "1+(((((5)))))", "b++b", "b*/b",
            "b<>b", "<b", "b ", "B", "1+2)", "(1)(2)", "-+b", "((1)+2", "a", "((((5)))",
        };
        int[] wrongAt = {
            0, 0, 2, 2, 2, 2, 2, 1, 1, 1, 2, 1, 1, 1, 1,
            3, 3, 3, 4, 4, 6, 2, 2,
            2, 0, 1, 0, 3, 3, 1, 6, 0, 8,
        };
        HeWillNotPlead x = Check.with("40,15+0", "");
        Check.put(x, "b+1").rule();
        for (int k = 0; k < rules.length; k++) {
            Check.due("rule " + rules[k], Check.put(x, rules[k]).rule(), -1 - wrongAt[k]);
            Check.due("THE RULE stays behind " + rules[k], x.prisoner(0, 8), 41);
            Check.due("emptied " + rules[k], x.count(13), 0);
        }
        Check.due("none", x.rule(), 0);
        Check.due("as at first", x.prisoner(0, 8), 40);
    }

    private static void rulesOfFortySigns() {
        HeWillNotPlead x = Check.with("40,15+0", "");
        String ones = "1+1+1+1+1+1+1+1+1+1+1+1+1+1+1+1+1+1+1+";
        Check.due("40 signs", Check.put(x, ones + "11").rule(), 0);
        Check.due("of 40 signs", x.prisoner(0, 8), 30);
        Check.due("41 signs, 40 could end", Check.put(x, ones + "111").rule(), -41);
        Check.due("41 signs, 40 could go on", Check.put(x, ones + "1+1").rule(), -41);
        Check.due("41 signs, the last one wrong", Check.put(x, ones + "11x").rule(), -41);
        Check.due("40 signs, too early", Check.put(x, ones + "1+").rule(), -41);
        Check.due("41 signs, one wrong ahead", Check.put(x, "x" + ones + "11").rule(), -1);
        Check.due("80 signs, the 40th wrong", Check.put(x, ones + "1x" + "1".repeat(40)).rule(), -40);
        Check.due("80 signs", Check.put(x, "-".repeat(80)).rule(), -41);
        Check.due("39 minuses", Check.put(x, "-".repeat(39) + "b").rule(), 0);
        Check.due("by 39 minuses", x.prisoner(0, 8), -40);
        Check.due("40 minuses", Check.put(x, "-".repeat(40)).rule(), -41);
    }
}
