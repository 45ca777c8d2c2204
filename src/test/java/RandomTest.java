import java.util.ArrayList;
import java.util.Arrays;
import java.util.List;
import java.util.NoSuchElementException;
import java.util.Random;

/** Any calls in any order: nothing but the document's exception comes, and questions change nothing. */
public final class RandomTest {
    private static final int[] EDGES = {
        Integer.MIN_VALUE, -10000, -100, -51, -50, -2, -1, 0, 1, 2, 3, 4, 5, 6, 7, 8, 9, 10, 11, 12, 13, 14, 20,
        50, 51, 60, 61, 90, 99, 100, 101, 400, 401, 999, 1000, Integer.MAX_VALUE,
    };
    private static final String[] NAMES = {
        "ends", "sheet", "lay", "ask", "judge", "nights", "undo", "left", "dies", "speaks", "least", "mercy",
        "longest", "alike", "stones", "silent", "proof", "till", "gains", "lacks", "best", "trials", "docket",
        "parts", "hopes", "wants", "dumb", "sure", "house", "search", "rests", "years", "keep", "again",
        "count", "row", "prisoner", "witness", "sign", "end", "prisoners", "values", "witnesses", "law",
        "rule", "assize", "reading",
    };
    private static final List<String> CHANGES = Arrays.asList("ends", "sheet", "lay", "ask", "judge",
            "nights", "undo", "keep", "again", "sign", "end", "prisoners", "values", "witnesses", "law",
            "rule", "assize", "reading");

    public static void main(String[] args) {
        Random random = new Random(7);
        for (int k = 0; k < 1500; k++) {
            World world = random.nextInt(8) == 0 ? new World() : World.random(random);
            List<String> first = run(world.make(), new Random(k));
            List<String> second = run(world.make(), new Random(k));
            Check.due("the same calls, the same answers", first.equals(second), true);
        }
        Check.finish();
    }

    private static List<String> run(HeWillNotPlead x, Random random) {
        List<String> answers = new ArrayList<>();
        for (int k = 0; k < 120; k++) {
            if (random.nextInt(6) == 0) {
                putSomeText(x, random);
            }
            String name = NAMES[random.nextInt(NAMES.length)];
            int[] a = new int[4];
            for (int j = 0; j < 4; j++) {
                boolean isSmall = random.nextInt(3) > 0;
                a[j] = isSmall ? random.nextInt(7) : EDGES[random.nextInt(EDGES.length)];
            }
            String before = CHANGES.contains(name) ? "" : factsAndTexts(x);
            String answer = answered(x, name, a);
            answers.add(name + Arrays.toString(a) + " " + answer);
            if (!before.isEmpty()) {
                Check.same(name + " changes nothing", factsAndTexts(x), before);
            }
        }
        return answers;
    }

    private static void putSomeText(HeWillNotPlead x, Random random) {
        String[] texts = {
            World.gang(random), World.bench(random, 2), World.law(random), World.values(random), "b-w-d*9",
            "l09;a0;n2;j0", "9,9+0", "0,50,5", "b*(w>3)-d*d", "x", "n9;n9;n9",
        };
        x.end(0);
        Check.put(x, texts[random.nextInt(texts.length)]);
    }

    private static String answered(HeWillNotPlead x, String name, int[] a) {
        boolean mayThrow = name.equals("prisoner") || name.equals("witness") || name.equals("row");
        try {
            return Long.toString(called(x, name, a));
        } catch (NoSuchElementException e) {
            Check.due(name + " may throw", mayThrow, true);
            return "throws";
        } catch (RuntimeException e) {
            Check.due(name + Arrays.toString(a) + " threw " + e, 1, 0);
            return "threw";
        }
    }

    private static long called(HeWillNotPlead x, String name, int[] a) {
        switch (name) {
            case "ends": return x.ends(a[0]);
            case "sheet": return x.sheet(a[0], a[1], a[2], a[3]);
            case "lay": return x.lay(a[0], a[1]);
            case "ask": return x.ask(a[0]);
            case "judge": return x.judge(a[0]);
            case "nights": return x.nights(a[0]);
            case "undo": return x.undo();
            case "left": return x.left(a[0], a[1]);
            case "dies": return x.dies(a[0]);
            case "speaks": return x.speaks(a[0], a[1]);
            case "least": return x.least(a[0], a[1]);
            case "mercy": return x.mercy(a[0], a[1]);
            case "longest": return x.longest(a[0]);
            case "alike": return x.alike(a[0], a[1]);
            case "stones": return x.stones(a[0]);
            case "silent": return x.silent(a[0]);
            case "proof": return x.proof(a[0], a[1]);
            case "till": return x.till(a[0]);
            case "gains": return x.gains(a[0], a[1]);
            case "lacks": return x.lacks(a[0], a[1]);
            case "best": return x.best(a[0]);
            case "trials": return x.trials();
            case "docket": return x.docket();
            case "parts": return x.parts();
            case "hopes": return x.hopes(a[0]);
            case "wants": return x.wants(a[0]);
            case "dumb": return x.dumb(a[0], a[1], a[2]);
            case "sure": return x.sure(a[0], a[1], a[2]);
            case "house": return x.house(a[0], a[1]);
            case "search": return x.search(a[0], a[1]);
            case "rests": return x.rests(a[0], a[1]);
            case "years": return x.years(a[0], a[1]);
            case "keep": return x.keep(a[0]) ? 1 : 0;
            case "again": return x.again(a[0]) ? 1 : 0;
            case "count": return x.count(a[0]);
            case "row": return x.row(a[0]);
            case "prisoner": return x.prisoner(a[0], a[1]);
            case "witness": return x.witness(a[0], a[1]);
            default: return calledWithText(x, name, a);
        }
    }

    private static long calledWithText(HeWillNotPlead x, String name, int[] a) {
        switch (name) {
            case "sign": return x.sign(a[0]);
            case "end": return x.end(a[0]) ? 1 : 0;
            case "prisoners": return x.prisoners();
            case "values": return x.values();
            case "witnesses": return x.witnesses();
            case "law": return x.law();
            case "rule": return x.rule();
            case "assize": return x.assize();
            case "reading": return x.reading();
            default: throw new IllegalArgumentException(name);
        }
    }

    private static String factsAndTexts(HeWillNotPlead x) {
        return Check.facts(x) + x.count(11) + " " + x.count(13);
    }
}
