/** Promises 9 to 12: prisoner, witness, ends, sheet. */
public final class PeopleTest {
    public static void main(String[] args) {
        prisoner();
        witness();
        ends();
        sheet();
        wrongSheets();
        Check.finish();
    }

    private static void prisoner() {
        HeWillNotPlead x = Check.with("40,15+3bd;9,0-1;1,99+2a", "0,60,5;1,30,3;0,70,0");
        Check.put(x, "1,2,3,4,5,6,7,8").values();
        x.lay(0, 12);
        x.ask(2);
        x.nights(1);
        long[][] due = {
            {40, 15, 0, 3, 10, 0, 12, 1, 40 - 12 - 5 - 4, 125, 6},
            {9, 0, 1, 1, 0, 0, 0, 0, 5, 27, 0},
            {1, 99, 0, 2, 1, 1, 0, 0, -3, 0, 1},
        };
        for (int p = 0; p < 3; p++) {
            for (int what = 0; what < 11; what++) {
                Check.due("prisoner(" + p + ", " + what + ")", x.prisoner(p, what), due[p][what]);
            }
        }
        int[][] none = {{-1, 0}, {3, 0}, {0, -1}, {0, 11}, {3, 11}, {Integer.MAX_VALUE, 0}, {0, Integer.MIN_VALUE}};
        for (int[] pair : none) {
            Check.due("prisoner(" + pair[0] + ", " + pair[1] + ")",
                    Check.orThrows(() -> x.prisoner(pair[0], pair[1])), Check.THROWS);
        }
    }

    private static void witness() {
        HeWillNotPlead x = Check.with("40,15+3;9,0-1", "0,60,5;1,4,3");
        x.nights(2);
        long[][] due = {{0, 50, 5}, {1, 0, 3}};
        for (int k = 0; k < 2; k++) {
            for (int what = 0; what < 3; what++) {
                Check.due("witness(" + k + ", " + what + ")", x.witness(k, what), due[k][what]);
            }
        }
        int[][] none = {{-1, 0}, {2, 0}, {0, -1}, {0, 3}, {Integer.MIN_VALUE, 0}};
        for (int[] pair : none) {
            Check.due("witness(" + pair[0] + ", " + pair[1] + ")",
                    Check.orThrows(() -> x.witness(pair[0], pair[1])), Check.THROWS);
        }
    }

    private static void ends() {
        HeWillNotPlead x = new HeWillNotPlead();
        Check.due("ends(0) on DAY 0", x.ends(0), -1);
        Check.due("ends(-1)", x.ends(-1), -1);
        Check.due("ends(100)", x.ends(100), -1);
        Check.due("THE END stays", x.count(3), 20);
        Check.due("ends(99)", x.ends(99), 20);
        Check.due("ends(1)", x.ends(1), 99);
        x.nights(5);
        Check.due("ends(5) on DAY 5", x.ends(5), -1);
        Check.due("ends(6) on DAY 5", x.ends(6), 1);
        Check.due("THE END", x.count(3), 6);
        for (int k = 0; k < 2; k++) {
            x.nights(60);
        }
        Check.due("ends(99) on DAY 125", x.ends(99), -1);
        Check.due("ends(126) on DAY 125", x.ends(126), -1);
        // THE END that is told anew comes again
        HeWillNotPlead y = Check.with("40,15+3", "");
        y.ends(2);
        y.nights(1);
        y.ends(3);
        y.nights(1);
        Check.due("no END on DAY 2", y.count(4), 1);
        y.nights(1);
        Check.due("THE END on DAY 3", y.count(9), 1);
    }

    private static void fears(String what, HeWillNotPlead x, int... want) {
        for (int p = 0; p < want.length; p++) {
            Check.due(what + ", FEAR of " + p, x.prisoner(p, 1), want[p]);
        }
    }

    private static void sheet() {
        HeWillNotPlead x = Check.with("5,5+0;5,5+0;5,5+0", "");
        Check.due("bytes", x.sheet(0, 3, 100, 30), 99);
        fears("100, 130, 160 as bytes", x, 99, 0, 0);
        Check.due("bytes with sign", x.sheet(0, 3, 250, 10), 4 + 14);
        fears("-6, 4, 14", x, 0, 4, 14);
        Check.due("shorts", x.sheet(1, 3, 65530, 10), 4 + 14);
        fears("shorts -6, 4, 14", x, 0, 4, 14);
        Check.due("shorts 32767, 32768", x.sheet(1, 2, 32767, 1), 99);
        fears("shorts", x, 99, 0, 0);
        Check.due("ints", x.sheet(2, 3, 65530, -65500), 99 + 30);
        fears("ints 65530, 30, -65470", x, 99, 30, 0);
        Check.due("ints run over", x.sheet(2, 3, Integer.MAX_VALUE, 5), 99);
        fears("ints run over", x, 99, 0, 0);
        Check.due("fewer entries", x.sheet(2, 1, 7, 100), 7);
        fears("those behind it", x, 7, 0, 0);
        Check.due("no entries", x.sheet(2, 0, 7, 1), 0);
        fears("no entries", x, 0, 0, 0);
        Check.due("more entries than PRISONERS", x.sheet(2, 6, 1, 1), 1 + 2 + 3);
        fears("more entries", x, 1, 2, 3);
    }

    private static void wrongSheets() {
        HeWillNotPlead x = Check.with("5,5+0;5,6+0;5,7+0", "");
        Check.due("kind 4", x.sheet(4, 1, 1, 1), -1);
        Check.due("kind -1", x.sheet(-1, -1, 1, 1), -1);
        Check.due("n 7", x.sheet(0, 7, 1, 1), -1);
        Check.due("n 7 of a missing one", x.sheet(3, 7, 1, 1), -1);
        Check.due("n -1", x.sheet(0, -1, 1, 1), -2);
        Check.due("n -1", x.sheet(1, -1, 1, 1), -2);
        Check.due("n least", x.sheet(2, Integer.MIN_VALUE, 1, 1), -2);
        fears("refused sheets", x, 5, 6, 7);
        Check.due("missing", x.sheet(3, 3, 1, 1), -3);
        fears("missing", x, 0, 0, 0);
        x.sheet(2, 3, 9, 1);
        Check.due("missing, n -1", x.sheet(3, -1, 1, 1), -3);
        fears("missing, n -1", x, 0, 0, 0);
        Check.due("of nobody", new HeWillNotPlead().sheet(2, 2, 9, 9), 0);
    }
}
