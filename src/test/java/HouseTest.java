import java.util.Random;

/** Promises 41 and 42: house, search. */
public final class HouseTest {
    public static void main(String[] args) {
        house();
        search();
        Random random = new Random(41);
        for (int k = 0; k < 500; k++) {
            World world = World.random(random);
            HeWillNotPlead x = world.make();
            int p = random.nextInt(x.count(0));
            byAllParts(world, x, p, random.nextInt(x.prisoner(p, 10) + 1));
        }
        Check.finish();
    }

    private static void house() {
        HeWillNotPlead x = Check.with("9,9+0abcd;9,9+0;9,9+0ef", "");
        Check.put(x, "1,2,3,3,0,5,9,9").values();
        Check.due("3", x.house(0, 3), 3);
        Check.row("ab, c, d", x, 3, 0);
        Check.due("8: bcd", x.house(0, 8), 1);
        Check.row("8: bcd", x, 14, 14);
        Check.due("7: acd", x.house(0, 7), 1);
        Check.row("7: acd", x, 13, 13);
        Check.due("6", x.house(0, 6), 3);
        Check.row("abc, abd, cd", x, 7, 0);
        Check.due("4: ac, ad", x.house(0, 4), 2);
        Check.row("4: ac, ad", x, 5, 1);
        Check.due("10", x.house(0, 10), 0);
        Check.row("10", x, -1, 0);
        Check.due("no GOODS, 0", x.house(1, 0), 1);
        Check.row("no GOODS, 0", x, 0, 0);
        Check.due("no GOODS, 1", x.house(1, 1), 0);
        Check.due("of VALUE 0", x.house(2, 5), 2);
        Check.row("of VALUE 0", x, 32, 32);
        Check.due("999", x.house(0, 999), 0);
        Check.due("1000", x.house(0, 1000), -1);
        Check.due("-1", x.house(0, -1), -1);
        Check.due("house(3, 0)", x.house(3, 0), -1);
        Check.due("house(-1, 0)", x.house(-1, 0), -1);
        x.lay(2, 50);
        x.nights(1);
        Check.due("of a DEAD one", x.house(2, 5), 2);
    }

    private static void search() {
        HeWillNotPlead x = Check.with("9,9+0abcd;9,9+0;9,9+0ef", "");
        Check.put(x, "1,2,3,3,0,5,9,9").values();
        // 3: ab, c, d: each is in one of three
        Check.due("3", x.search(0, 3), 0);
        Check.row("3", x, 2);
        // 4: ac, ad: a is in both, b in none, c in one
        Check.due("4", x.search(0, 4), 2);
        Check.row("4", x, 1);
        Check.due("of VALUE 0", x.search(2, 5), 4);
        Check.row("of VALUE 0", x, 1);
        Check.due("no such parts", x.search(0, 10), -2);
        Check.due("no GOODS", x.search(1, 0), -2);
        Check.row("nothing told", x, 1);
        Check.due("999", x.search(0, 999), -2);
        Check.due("1000", x.search(0, 1000), -1);
        Check.due("-1", x.search(0, -1), -1);
        Check.due("search(3, 0)", x.search(3, 0), -1);
        Check.due("search(-1, 0)", x.search(-1, 0), -1);
    }

    /** Parts as lists of GOODS, one by one. */
    private static void byAllParts(World world, HeWillNotPlead x, int p, int v) {
        String[] values = world.values.split(",");
        int goods = x.prisoner(p, 4);
        int count = 0;
        int least = -1;
        int inAll = goods;
        int[] with = new int[8];
        for (int part = 255; part >= 0; part--) {
            int sum = 0;
            for (int g = 0; g < 8; g++) {
                sum += (part >> g & 1) * Integer.parseInt(values[g]);
            }
            if (sum == v && (part | goods) == goods) {
                count++;
                least = part;
                inAll &= part;
                for (int g = 0; g < 8; g++) {
                    with[g] += part >> g & 1;
                }
            }
        }
        Check.due("house by all parts", x.house(p, v), count);
        Check.row("house by all parts", x, least, count == 0 ? 0 : inAll);
        searchByAllParts(x, p, v, count, with);
    }

    private static void searchByAllParts(HeWillNotPlead x, int p, int v, int count, int[] with) {
        int best = -2;
        int most = Integer.MAX_VALUE;
        for (int g = 7; g >= 0; g--) {
            int left = Math.max(with[g], count - with[g]);
            if ((x.prisoner(p, 4) >> g & 1) == 1 && count > 0 && left <= most) {
                best = g;
                most = left;
            }
        }
        Check.due("search by all parts", x.search(p, v), best);
        if (best >= 0) {
            Check.row("search by all parts", x, most);
        }
    }
}
