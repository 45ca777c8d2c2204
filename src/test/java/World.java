import java.util.ArrayList;
import java.util.List;
import java.util.Random;
import java.util.function.Consumer;

/** Calls that can be made again on a new object: what is asked of one is acted on another. */
final class World {
    private static final String[] RULES = {
        "", "", "b-w-d*5-n*4", "b-w/2-d*3", "b-d*w/4", "b-(w>20)*30-d", "f+3-d*(w>9)", "w-b+d*2",
        "b-w-(d-3)*(d-3)", "(b>w)*b-d*n", "b*2-w-d*7*n", "1-(i=2)-(d>4)*9", "b-w-d*5+(d=3)*40",
    };
    private final List<Consumer<HeWillNotPlead>> steps = new ArrayList<>();
    int end = 20;
    String law = "hskh";
    String values = "10,10,10,10,10,10,10,10";

    static World random(Random random) {
        World world = new World();
        String gang = gang(random);
        int count = gang.split(";").length;
        world.reads(gang, x -> x.prisoners());
        world.reads(bench(random, count), x -> x.witnesses());
        world.values = values(random);
        world.reads(world.values, x -> x.values());
        world.law = law(random);
        world.reads(world.law, x -> x.law());
        world.reads(RULES[random.nextInt(RULES.length)], x -> x.rule());
        if (random.nextInt(3) > 0) {
            world.end = Check.between(random, 1, 30);
            world.does(x -> x.ends(world.end));
        }
        int acts = random.nextInt(12);
        for (int k = 0; k < acts; k++) {
            world.does(act(random, count));
        }
        return world;
    }

    static String gang(Random random) {
        int count = Check.between(random, 1, 6);
        StringBuilder text = new StringBuilder();
        int goods = 0;
        for (int p = 0; p < count; p++) {
            text.append(p == 0 ? "" : ";").append(Check.between(random, 1, 99));
            text.append(',').append(random.nextInt(random.nextBoolean() ? 99 : 20));
            text.append(random.nextInt(5) == 0 ? '-' : '+').append(random.nextInt(4));
            for (int g = 0; g < 8; g++) {
                if ((goods >> g & 1) == 0 && random.nextInt(3) == 0) {
                    goods |= 1 << g;
                    text.append((char) ('a' + g));
                }
            }
        }
        return text.toString();
    }

    static String bench(Random random, int count) {
        StringBuilder text = new StringBuilder();
        int lines = random.nextInt(9);
        for (int k = 0; k < lines; k++) {
            text.append(k == 0 ? "" : ";").append(random.nextInt(count)).append(',');
            text.append(Check.between(random, 30, 99)).append(',').append(random.nextInt(10));
        }
        return text.toString();
    }

    static String values(Random random) {
        StringBuilder text = new StringBuilder();
        int most = random.nextBoolean() ? 99 : 4;
        for (int g = 0; g < 8; g++) {
            text.append(g == 0 ? "" : ",").append(random.nextInt(most + 1));
        }
        return text.toString();
    }

    static String law(Random random) {
        StringBuilder text = new StringBuilder();
        for (int ending = 0; ending < 4; ending++) {
            text.append("hks".charAt(random.nextInt(3)));
        }
        return text.toString();
    }

    private static Consumer<HeWillNotPlead> act(Random random, int count) {
        int p = random.nextInt(count);
        int n = Check.between(random, 1, 50);
        switch (random.nextInt(6)) {
            case 0: return x -> x.lay(p, n);
            case 1: return x -> x.lay(p, -n);
            case 2: return x -> x.judge(p);
            case 3: return x -> x.nights(n % 5);
            default: return x -> x.ask(p);
        }
    }

    World does(Consumer<HeWillNotPlead> step) {
        steps.add(step);
        return this;
    }

    World reads(String text, Consumer<HeWillNotPlead> call) {
        return does(x -> call.accept(Check.put(x, text)));
    }

    HeWillNotPlead make() {
        HeWillNotPlead x = new HeWillNotPlead();
        for (Consumer<HeWillNotPlead> step : steps) {
            step.accept(x);
        }
        return x;
    }
}
