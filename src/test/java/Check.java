import java.util.NoSuchElementException;
import java.util.Random;
import java.util.function.LongSupplier;

/** What the tests share: answers that are due, and texts put in by fours. */
final class Check {
    static final long THROWS = Long.MIN_VALUE;
    private static int wrong = 0;
    private static int asked = 0;
    private static String heading = "";

    private Check() {
    }

    /** What is said ahead of each answer that is not as due. */
    static void under(String newHeading) {
        heading = newHeading.isEmpty() ? "" : newHeading + ": ";
    }

    static int asked() {
        return asked;
    }

    static void due(String what, long got, long want) {
        asked++;
        if (got != want) {
            wrong++;
            System.out.println(heading + what + " answered " + told(got) + ", due is " + told(want));
        }
    }

    static void due(String what, boolean got, boolean want) {
        due(what, got ? 1 : 0, want ? 1 : 0);
    }

    private static String told(long number) {
        return number == THROWS ? "NoSuchElementException" : Long.toString(number);
    }

    /** The answer, or THROWS for the one exception of the document. */
    static long orThrows(LongSupplier call) {
        try {
            return call.getAsLong();
        } catch (NoSuchElementException e) {
            return THROWS;
        }
    }

    static HeWillNotPlead put(HeWillNotPlead x, String text) {
        int before = x.count(13);
        for (int k = 0; k < text.length(); k += 4) {
            int four = 0;
            for (int j = k; j < k + 4; j++) {
                four = four << 8 | (j < text.length() ? text.charAt(j) : 0);
            }
            x.sign(four);
        }
        x.end(before + text.length());
        return x;
    }

    static HeWillNotPlead with(String prisoners, String witnesses) {
        HeWillNotPlead x = new HeWillNotPlead();
        put(x, prisoners).prisoners();
        put(x, witnesses).witnesses();
        return x;
    }

    static void row(String what, HeWillNotPlead x, long... want) {
        due(what + ", numbers of the row", x.count(12), want.length);
        for (int i = 0; i < want.length; i++) {
            int at = i;
            due(what + ", row(" + i + ")", orThrows(() -> x.row(at)), want[i]);
        }
    }

    /** Everything that can be seen, the row too. */
    static String seen(HeWillNotPlead x) {
        StringBuilder all = new StringBuilder(facts(x));
        all.append(x.count(11)).append(' ').append(x.count(12)).append(' ').append(x.count(13));
        for (int i = 0; i < x.count(12); i++) {
            all.append(' ').append(x.row(i));
        }
        return all.toString();
    }

    /** What is so of PRISONERS and WITNESSES, DAY and THE END. */
    static String facts(HeWillNotPlead x) {
        StringBuilder all = new StringBuilder();
        for (int what = 0; what < 11; what++) {
            all.append(x.count(what)).append(' ');
        }
        for (int p = 0; p < x.count(0); p++) {
            for (int what = 0; what < 11; what++) {
                all.append(x.prisoner(p, what)).append(' ');
            }
        }
        for (int k = 0; k < x.count(1); k++) {
            for (int what = 0; what < 3; what++) {
                all.append(x.witness(k, what)).append(' ');
            }
        }
        return all.toString();
    }

    static void same(String what, String got, String want) {
        asked++;
        if (!got.equals(want)) {
            wrong++;
            System.out.println(heading + what + ": seen " + got + ", due is " + want);
        }
    }

    static int between(Random random, int low, int high) {
        return low + random.nextInt(high - low + 1);
    }

    static void finish() {
        System.out.println(asked + " answers, " + wrong + " not as due");
        if (wrong != 0) {
            System.exit(1);
        }
    }
}
