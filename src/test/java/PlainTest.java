import java.lang.reflect.InvocationTargetException;
import java.lang.reflect.Method;
import java.util.ArrayList;
import java.util.Arrays;
import java.util.List;
import java.util.NoSuchElementException;
import java.util.Random;

/** The class against Plain: the same random calls on both, the answers, the ROW and all that can be seen. */
public final class PlainTest {
    /** Each call with how often it comes, and the range of each argument; p is a PRISONER. */
    private static final String[] CALLS = {
        "ends 2 0:40", "ends 1 96:101", "sheet 1 -1:4 -1:7 -300:400 -90:90",
        "sheet 1 0:3 1:6 -70000:70000 -90:90", "lay 14 p -51:51", "ask 14 p", "judge 9 p", "nights 7 0:3",
        "nights 1 -1:61", "undo 5", "left 2 p -1:61", "dies 3 p", "speaks 3 p -1:100", "speaks 1 p 0:3",
        "least 1 p -1:61", "mercy 1 p -1:61", "longest 1 p", "alike 1 p p", "stones 1 -1:401",
        "stones 1 0:90", "silent 3 -1:61", "silent 2 0:8", "proof 2 p -1:100", "till 3 p",
        "gains 3 p -1:61", "lacks 2 p -1:100", "lacks 2 p 0:9", "best 3 p", "trials 4", "docket 4",
        "parts 3", "hopes 3 -1:4", "wants 2 -1:4", "dumb 1 -1:11 -1:11 -1:13", "sure 1 -1:11 -1:11 -1:101",
        "sure 1 1:3 1:4 90:100", "house 2 p -1:1000", "house 3 p 0:40", "search 4 p 0:40",
        "search 1 p 997:1001", "rests 1 -1:100 -1:10", "rests 1 0:30 0:3",
        "years 4 -2000000000:2000000000 -1:61", "keep 2 -1:2", "again 2 -1:2", "count 1 -1:14",
        "row 1 -1:7", "prisoner 1 p -1:11", "witness 1 -1:8 -1:3", "sign 1 -2000000000:2000000000",
        "end 1 -1:81",
    };
    private static final String[] READERS = {
        "prisoners", "witnesses", "witnesses", "values", "values", "law", "law", "rule", "rule", "rule", "assize",
        "assize", "assize", "reading", "reading",
    };
    private static final int MOST_CALLS = 512;

    private final HeWillNotPlead x = new HeWillNotPlead();
    private final Plain plain = new Plain();
    private final Random random;
    private final List<String> run = new ArrayList<>();
    private int made = 0;
    private boolean isSame = true;

    private PlainTest(Random random) {
        this.random = random;
    }

    public static void main(String[] args) throws Exception {
        int runs = args.length > 0 ? Integer.parseInt(args[0]) : 800;
        int seed = args.length > 1 ? Integer.parseInt(args[1]) : 1;
        for (int k = 0; k < runs; k++) {
            new PlainTest(new Random(1000L * seed + k)).goOn();
        }
        Check.finish();
    }

    private void goOn() throws Exception {
        if (random.nextInt(5) == 0) {
            // who comes behind THE END has none ahead of him
            calls("nights", Check.between(random, 15, 30));
        }
        if (random.nextInt(4) == 0) {
            reads("prisoners", mistaken());
        }
        if (random.nextInt(10) > 0) {
            reads("prisoners", random.nextInt(3) > 0 ? World.gang(random) : pleading());
            int there = Math.max(1, (int) plain.count(0));
            reads("witnesses", random.nextInt(3) > 0 ? World.bench(random, there) : hundreds());
            reads("values", World.values(random));
            reads("law", World.law(random));
        }
        // a text has 21 calls at most, a look behind it 88, a ROW 7
        for (int k = 0; isSame && made < MOST_CALLS - 220; k++) {
            if (random.nextInt(8) == 0) {
                String reader = READERS[random.nextInt(READERS.length)];
                reads(reader, textFor(reader));
            } else {
                callsOne();
            }
            if (k % 40 == 20) {
                looks();
            }
        }
        looks();
        Check.due("calls on one object", made <= MOST_CALLS, true);
    }

    // ---- calls

    private void callsOne() throws Exception {
        int all = 0;
        for (String call : CALLS) {
            all += Integer.parseInt(call.split(" ")[1]);
        }
        int which = random.nextInt(all);
        int k = -1;
        while (which >= 0) {
            k++;
            which -= Integer.parseInt(CALLS[k].split(" ")[1]);
        }
        String[] parts = CALLS[k].split(" ");
        int[] arguments = new int[parts.length - 2];
        for (int j = 0; j < arguments.length; j++) {
            arguments[j] = argument(parts[j + 2]);
        }
        calls(parts[0], arguments);
    }

    private int argument(String range) {
        if (range.equals("p")) {
            int there = (int) plain.count(0);
            return random.nextInt(20) == 0 || there == 0 ? Check.between(random, -1, 6) : random.nextInt(there);
        }
        String[] ends = range.split(":");
        int low = Integer.parseInt(ends[0]);
        int high = Integer.parseInt(ends[1]);
        int at = random.nextInt(24);
        int any = (int) (low + (long) (random.nextDouble() * ((long) high - low + 1)));
        return at == 0 ? low : at == 1 ? high : at == 2 ? low + 1 : at == 3 ? high - 1 : any;
    }

    private void calls(String name, int... arguments) throws Exception {
        run.add(name + Arrays.toString(arguments));
        plain.newCall();
        long want = answer(Plain.class, plain, name, arguments);
        long got = answer(HeWillNotPlead.class, x, name, arguments);
        made++;
        same(name + Arrays.toString(arguments), got, want);
        List<Long> row = plain.row();
        same("numbers of the ROW behind it", x.count(12), row.size());
        made++;
        for (int i = 0; isSame && i < row.size(); i++) {
            same("row(" + i + ") behind it", x.row(i), row.get(i));
            made++;
        }
    }

    private static long answer(Class<?> type, Object of, String name, int[] arguments) throws Exception {
        Class<?>[] types = new Class<?>[arguments.length];
        Arrays.fill(types, int.class);
        Method method = type.getDeclaredMethod(name, types);
        try {
            Object answer = method.invoke(of, Arrays.stream(arguments).boxed().toArray());
            return answer instanceof Boolean is ? (is ? 1 : 0) : ((Number) answer).longValue();
        } catch (InvocationTargetException e) {
            if (e.getCause() instanceof NoSuchElementException) {
                return Check.THROWS;
            }
            throw e;
        }
    }

    private void same(String what, long got, long want) {
        Check.due(what, got, want);
        if (got != want && isSame) {
            isSame = false;
            System.out.println("  after " + run);
        }
    }

    /** All that can be seen. */
    private void looks() throws Exception {
        for (int what = 0; what < 14; what++) {
            seesSame("count", what);
        }
        for (int p = 0; p < plain.count(0); p++) {
            for (int what = 0; what < 11; what++) {
                seesSame("prisoner", p, what);
            }
        }
        for (int k = 0; k < plain.count(1); k++) {
            seesSame("witness", k, 1);
        }
    }

    private void seesSame(String name, int... arguments) throws Exception {
        long want = answer(Plain.class, plain, name, arguments);
        same(name + Arrays.toString(arguments), answer(HeWillNotPlead.class, x, name, arguments), want);
        made++;
    }

    // ---- texts

    private void reads(String reader, String text) throws Exception {
        run.add("'" + text + "'");
        int before = (int) plain.count(13);
        for (int k = 0; k < text.length(); k += 4) {
            int four = 0;
            for (int j = k; j < k + 4; j++) {
                four = four << 8 | (j < text.length() ? text.charAt(j) : 0);
            }
            same("sign", x.sign(four), plain.sign(four));
            made++;
        }
        same("end", x.end(before + text.length()) ? 1 : 0, plain.end(before + text.length()));
        made++;
        calls(reader);
    }

    private String pleading() {
        StringBuilder text = new StringBuilder();
        int count = Check.between(random, 1, 6);
        for (int p = 0; p < count; p++) {
            text.append(p == 0 ? "" : ";").append(random.nextInt(9) + 1).append(",99+").append(random.nextInt(4));
            text.append(random.nextInt(4) == 0 ? "" : Character.toString('a' + p));
        }
        return text.toString();
    }

    /** BEARS that may be 0, GOODS that may be another's, sometimes a sign that is none of these. */
    private String mistaken() {
        StringBuilder text = new StringBuilder();
        int count = Check.between(random, 1, 3);
        for (int p = 0; p < count; p++) {
            text.append(p == 0 ? "" : random.nextInt(8) == 0 ? ":" : ";").append("0".repeat(random.nextInt(3)));
            text.append(random.nextInt(4) == 0 ? "" : "9").append(",9-0");
            text.append(Character.toString('a' + random.nextInt(3))).append("hi".charAt(random.nextInt(4) / 3));
        }
        return text.toString();
    }

    private String textFor(String reader) {
        String right;
        switch (reader) {
            case "prisoners": right = random.nextBoolean() ? World.gang(random) : oneMore(); break;
            case "witnesses": right = World.bench(random, 6); break;
            case "values": right = World.values(random); break;
            case "law": case "reading": right = World.law(random); break;
            case "rule": right = random.nextInt(3) > 0 ? expression(4, 4) : slow(); break;
            default: right = deeds(); break;
        }
        StringBuilder text = new StringBuilder(right);
        int faults = Math.max(0, random.nextInt(5) - 2);
        for (int k = 0; k < faults && text.length() > 0; k++) {
            int at = random.nextInt(text.length());
            char sign = "0123456789abcdefgh;,+-*/<>=()nwilojksx".charAt(random.nextInt(38));
            switch (random.nextInt(4)) {
                case 0: text.setCharAt(at, sign); break;
                case 1: text.insert(at, sign); break;
                case 2: text.deleteCharAt(at); break;
                default: text.setLength(at); break;
            }
        }
        if (text.length() > 80) {
            text.setLength(80);
        }
        return text.toString();
    }

    /** Two WITNESSES against each, whose WORDS are 100 together, or nearly so. */
    private String hundreds() {
        StringBuilder text = new StringBuilder();
        for (int p = 0; p < Math.min(4, plain.count(0)); p++) {
            int word = Check.between(random, 1, 99);
            text.append(p == 0 ? "" : ";").append(p).append(',').append(word).append(',').append(random.nextInt(2));
            int other = Math.min(99, 100 - word + random.nextInt(4));
            text.append(';').append(p).append(',').append(other).append(',').append(random.nextInt(3));
        }
        return text.toString();
    }

    /** Rules by which one speaks late, or under the heaviest alone. */
    private String slow() {
        switch (random.nextInt(5)) {
            case 0: return "f+" + Check.between(random, 58, 62) + "-d";
            case 1: return "f+1-(w=" + Check.between(random, 98, 99) + ")";
            case 2: return "f+1-(w>" + Check.between(random, 79, 99) + ")*(d>" + random.nextInt(3) + ")";
            case 3: return "((((b" + (random.nextBoolean() ? "-(d)" : "") + "))))-w*999*999*" + random.nextInt(999);
            default: return "-".repeat(Check.between(random, 20, 42)) + "b";
        }
    }

    private String oneMore() {
        return Check.between(random, 0, 99) + "," + random.nextInt(100) + "+" + random.nextInt(4);
    }

    private String expression(int size, int depth) {
        String sum = sum(size, depth);
        return random.nextInt(4) == 0 ? sum + "<>=".charAt(random.nextInt(3)) + sum(size - 1, depth) : sum;
    }

    private String sum(int size, int depth) {
        StringBuilder text = new StringBuilder(thing(size, depth));
        int more = random.nextInt(Math.max(1, size));
        for (int k = 0; k < more; k++) {
            text.append("+-*/--".charAt(random.nextInt(6))).append(thing(size - 1, depth));
        }
        return text.toString();
    }

    private String thing(int size, int depth) {
        switch (random.nextInt(8)) {
            case 0: return "-" + thing(size, depth);
            case 1: case 2: return Integer.toString(random.nextInt(random.nextBoolean() ? 1000 : 10));
            case 3: return depth > 0 || random.nextInt(4) == 0 ? "(" + expression(size - 1, depth - 1) + ")" : "b";
            default: return Character.toString("bbwwdnfi".charAt(random.nextInt(8)));
        }
    }

    private String deeds() {
        StringBuilder text = new StringBuilder();
        int count = random.nextInt(random.nextInt(4) == 0 ? 24 : 13);
        for (int k = 0; k < count; k++) {
            char letter = "loajjaan".charAt(random.nextInt(8));
            text.append(k == 0 ? "" : ";").append(letter);
            text.append(letter == 'n' ? "" : Integer.toString(random.nextInt(Math.max(1, (int) plain.count(0)))));
            boolean hasNumber = letter == 'l' || letter == 'o';
            text.append(hasNumber ? Integer.toString(Check.between(random, 1, 50)) : "");
            text.append(letter == 'n' ? Integer.toString(random.nextInt(random.nextInt(9) == 0 ? 70 : 4)) : "");
        }
        return text.toString();
    }
}
