import java.util.Random;
import java.util.function.ToIntFunction;
import java.util.regex.Matcher;
import java.util.regex.Pattern;

/** Where random texts are wrong, and what random rules say, by other means than the class's own. */
public final class GrammarTest {
    private static final String NUMBER = "[0-9]{1,2}";
    private static final Pattern VALUES = Pattern.compile(NUMBER + "(," + NUMBER + "){7}");
    private static final Pattern LAW = Pattern.compile("[hks]{4}");
    private static final Pattern WITNESSES = lines("[0-2]," + NUMBER + ",[0-9]");
    private static final Pattern ASSIZE = lines("([lo][0-9]" + NUMBER + "|[aj][0-9]|n" + NUMBER + ")");
    private static final Pattern RULE = Pattern.compile(expression(4));

    private static Pattern lines(String line) {
        return Pattern.compile(line + "(;" + line + ")*");
    }

    private static String expression(int depth) {
        String thing = "[0-9]{1,3}|[bwdnfi]" + (depth == 0 ? "" : "|\\((" + expression(depth - 1) + ")\\)");
        String signed = "-*(" + thing + ")";
        String sum = signed + "([-+*/]" + signed + ")*";
        return sum + "([<>=]" + sum + ")?";
    }

    public static void main(String[] args) {
        Random random = new Random(2);
        for (int k = 0; k < 4000; k++) {
            same(random, VALUES, 80, "0123456789,;x", World.values(random), x -> x.values());
            same(random, LAW, 80, "hksx", World.law(random), x -> x.law());
            same(random, ASSIZE, 60, "loajn0123;;x", assize(random), x -> x.assize());
            same(random, RULE, 40, "bwdnfi0123-+*/<>=()x", rule(random, 6).text, x -> x.rule());
            // eight LINES have room
            String bench = World.bench(random, 3);
            if (!bench.isEmpty()) {
                same(random, WITNESSES, 60, "012345,;x", bench, x -> x.witnesses());
            }
        }
        for (int k = 0; k < 20000; k++) {
            reckoned(random);
        }
        Check.finish();
    }

    /** The first sign that can't stand there, by trying ever longer beginnings; -1: none. */
    private static int wrongAt(Pattern pattern, int most, String text) {
        for (int length = 1; length <= Math.min(most, text.length()); length++) {
            Matcher matcher = pattern.matcher(text.substring(0, length));
            if (!matcher.matches() && !matcher.hitEnd()) {
                return length - 1;
            }
        }
        if (text.length() > most) {
            return most;
        }
        return pattern.matcher(text).matches() ? -1 : text.length();
    }

    private static void same(Random random, Pattern pattern, int most, String signs, String right,
            ToIntFunction<HeWillNotPlead> call) {
        StringBuilder text = new StringBuilder(right);
        int faults = random.nextInt(3);
        for (int k = 0; k < faults && text.length() > 0; k++) {
            int at = random.nextInt(text.length());
            char sign = signs.charAt(random.nextInt(signs.length()));
            switch (random.nextInt(4)) {
                case 0: text.setCharAt(at, sign); break;
                case 1: text.insert(at, sign); break;
                case 2: text.deleteCharAt(at); break;
                default: text.setLength(at); break;
            }
        }
        if (text.length() > 80) {
            text.setLength(80);
        }
        boolean isEmptyFine = pattern != VALUES && pattern != LAW;
        HeWillNotPlead x = Check.with("9,9+0;9,9+0;9,9+0", "");
        int want = text.length() == 0 && isEmptyFine ? -1 : wrongAt(pattern, most, text.toString());
        int got = call.applyAsInt(Check.put(x, text.toString()));
        if (want >= 0) {
            Check.due("wrong: " + text, got, -1 - want);
        } else {
            Check.due("right: " + text, got >= 0, true);
        }
        Check.due("emptied: " + text, x.count(13), 0);
    }

    private static String assize(Random random) {
        StringBuilder text = new StringBuilder();
        int acts = Check.between(random, 1, 18);
        for (int k = 0; k < acts; k++) {
            char letter = "loajn".charAt(random.nextInt(5));
            text.append(k == 0 ? "" : ";").append(letter);
            text.append(letter == 'n' ? "" : Integer.toString(random.nextInt(10)));
            text.append("aj".indexOf(letter) >= 0 ? "" : Integer.toString(random.nextInt(100)));
        }
        return text.toString();
    }

    /** A rule with what it says of b, w, d, n, f, i. */
    private record Told(String text, java.util.function.ToIntFunction<int[]> worth, int binds) {
    }

    private static Told wrapped(Told told, int atLeast) {
        return told.binds >= atLeast ? told : new Told("(" + told.text + ")", told.worth, 4);
    }

    private static Told rule(Random random, int size) {
        int kind = size <= 0 ? random.nextInt(2) : random.nextInt(9);
        switch (kind) {
            case 0: {
                int number = random.nextInt(random.nextBoolean() ? 1000 : 10);
                return new Told(Integer.toString(number), v -> number, 4);
            }
            case 1: {
                int thing = random.nextInt(6);
                return new Told("bwdnfi".substring(thing, thing + 1), v -> v[thing], 4);
            }
            case 2: {
                Told of = wrapped(rule(random, size - 1), 3);
                return new Told("-" + of.text, v -> -of.worth.applyAsInt(v), 3);
            }
            case 3: {
                Told of = rule(random, size - 1);
                return new Told("(" + of.text + ")", of.worth, 4);
            }
            case 4: {
                Told one = wrapped(rule(random, size - 2), 1);
                Told two = wrapped(rule(random, size - 3), 1);
                int which = random.nextInt(3);
                return new Told(one.text + "<>=".charAt(which) + two.text, v -> {
                    int c = Integer.compare(one.worth.applyAsInt(v), two.worth.applyAsInt(v));
                    return c == (which == 0 ? -1 : which == 1 ? 1 : 0) ? 1 : 0;
                }, 0);
            }
            case 5: case 6: {
                Told one = wrapped(rule(random, size - 2), 1);
                Told two = wrapped(rule(random, size - 3), 2);
                int sign = kind == 5 ? 1 : -1;
                return new Told(one.text + (kind == 5 ? "+" : "-") + two.text,
                        v -> one.worth.applyAsInt(v) + sign * two.worth.applyAsInt(v), 1);
            }
            case 7: {
                Told one = wrapped(rule(random, size - 2), 2);
                Told two = wrapped(rule(random, size - 3), 3);
                return new Told(one.text + "*" + two.text,
                        v -> one.worth.applyAsInt(v) * two.worth.applyAsInt(v), 2);
            }
            default: {
                Told one = wrapped(rule(random, size - 2), 2);
                Told two = wrapped(rule(random, size - 3), 3);
                return new Told(one.text + "/" + two.text, v -> {
                    int by = two.worth.applyAsInt(v);
                    return by == 0 ? 0 : one.worth.applyAsInt(v) / by;
                }, 2);
            }
        }
    }

    private static boolean isTooDeep(String text) {
        int depth = 0;
        int deepest = 0;
        for (char sign : text.toCharArray()) {
            depth += sign == '(' ? 1 : sign == ')' ? -1 : 0;
            deepest = Math.max(deepest, depth);
        }
        return deepest > 4;
    }

    private static void reckoned(Random random) {
        Told told = rule(random, 9);
        HeWillNotPlead x = Check.with("9,9+0;9,9+0;" + Check.between(random, 1, 99) + "," + random.nextInt(100) + "+0", "");
        x.nights(random.nextInt(3));
        x.lay(2, Check.between(random, 1, 50));
        int day = x.count(2);
        int answer = Check.put(x, told.text).rule();
        if (told.text.length() > 40 || isTooDeep(told.text)) {
            Check.due("too long or deep: " + told.text, answer < 0, true);
            return;
        }
        Check.due("rule " + told.text, answer, 0);
        int[] v = {x.prisoner(2, 0), x.prisoner(2, 6), x.prisoner(2, 7), day % 2, x.prisoner(2, 1), 2};
        int left = Math.max(-999, Math.min(999, told.worth.applyAsInt(v)));
        Check.due("LEFT by " + told.text, x.prisoner(2, 8), left);
        v[2] += 3;
        v[3] = (day + 3) % 2;
        left = Math.max(-999, Math.min(999, told.worth.applyAsInt(v)));
        Check.due("left() by " + told.text, x.left(2, 3), 1000 + left);
    }
}
