import java.math.BigInteger;
import java.util.ArrayDeque;
import java.util.ArrayList;
import java.util.Arrays;
import java.util.List;

/**
 * The document once more, in the slowest and plainest way: texts sign by sign, questions acted out on a copy,
 * choices by trying them all. It shares nothing with the class, so that both can be held against each other.
 */
final class Plain {
    static final int NO_END = 1_000_000;
    private static final String[] NAMES = {
        "SILENT", "PLEADED", "DEAD", "FREED", "CONVICTED", "LEFT OVER",
    };

    private static final class Man implements Cloneable {
        int number;
        int bears;
        int fear;
        boolean dumb;
        int heir;
        String goods = "";
        String is = "SILENT";
        int laid;
        int borne;
        int leftInNight;

        Man copy() {
            try {
                return (Man) clone();
            } catch (CloneNotSupportedException e) {
                throw new IllegalStateException(e);
            }
        }
    }

    private static final class Witness {
        int against;
        int word;
        int fades;

        Witness copy() {
            Witness other = new Witness();
            other.against = against;
            other.word = word;
            other.fades = fades;
            return other;
        }
    }

    private List<Man> men = new ArrayList<>();
    private List<Witness> bench = new ArrayList<>();
    private int[] values = {10, 10, 10, 10, 10, 10, 10, 10};
    private String law = "hskh";
    private String rule = "b-w-d*5-n*4";
    private int day = 0;
    private int end = 20;
    private String text = "";
    private List<Long> row = new ArrayList<>();
    private ArrayDeque<Plain> past = new ArrayDeque<>();
    private final Plain[] kept = new Plain[2];

    // ---- what is there

    private Plain copy() {
        Plain other = new Plain();
        men.forEach(man -> other.men.add(man.copy()));
        bench.forEach(one -> other.bench.add(one.copy()));
        other.values = values.clone();
        other.law = law;
        other.rule = rule;
        other.day = day;
        other.end = end;
        return other;
    }

    /** DAY, what PRISONERS are, LAID, BORNE, WORDS alone. */
    private void becomesAsIn(Plain other) {
        day = other.day;
        for (int p = 0; p < men.size(); p++) {
            men.get(p).is = other.men.get(p).is;
            men.get(p).laid = other.men.get(p).laid;
            men.get(p).borne = other.men.get(p).borne;
        }
        for (int k = 0; k < bench.size(); k++) {
            bench.get(k).word = other.bench.get(k).word;
        }
    }

    private void tell(long... numbers) {
        row = new ArrayList<>();
        for (long number : numbers) {
            row.add(number);
        }
    }

    List<Long> row() {
        return row;
    }

    private boolean none(int p) {
        return p < 0 || p >= men.size();
    }

    private static boolean out(int n, int from, int to) {
        return n < from || n > to;
    }

    private boolean silent(Man man) {
        return man.is.equals("SILENT");
    }

    private int those(String who) {
        int bits = 0;
        for (Man man : men) {
            bits += man.is.equals(who) ? 1 << man.number : 0;
        }
        return bits;
    }

    // ---- LEFT

    private int leftOf(Man man) {
        return Math.max(-999, Math.min(999, worth(rule, man)));
    }

    /** By cutting at the sign that binds least. */
    private int worth(String told, Man man) {
        int cut = lastAt(told, "<>=");
        cut = cut < 0 ? lastAt(told, "+-") : cut;
        cut = cut < 0 ? lastAt(told, "*/") : cut;
        if (cut >= 0) {
            int one = worth(told.substring(0, cut), man);
            int two = worth(told.substring(cut + 1), man);
            switch (told.charAt(cut)) {
                case '<': return one < two ? 1 : 0;
                case '>': return one > two ? 1 : 0;
                case '=': return one == two ? 1 : 0;
                case '+': return one + two;
                case '-': return one - two;
                case '*': return one * two;
                default: return two == 0 ? 0 : one / two;
            }
        }
        switch (told.charAt(0)) {
            case '-': return -worth(told.substring(1), man);
            case '(': return worth(told.substring(1, told.length() - 1), man);
            case 'b': return man.bears;
            case 'w': return man.laid;
            case 'd': return man.borne;
            case 'n': return day % 2;
            case 'f': return man.fear;
            case 'i': return man.number;
            default: return Integer.parseInt(told);
        }
    }

    /** The last of these signs between two things, not in ( ). */
    private static int lastAt(String told, String signs) {
        int depth = 0;
        int last = -1;
        for (int k = 0; k < told.length(); k++) {
            char sign = told.charAt(k);
            depth += sign == '(' ? 1 : sign == ')' ? -1 : 0;
            boolean isBetween = k > 0 && "<>=+-*/(".indexOf(told.charAt(k - 1)) < 0;
            last = depth == 0 && isBetween && signs.indexOf(sign) >= 0 ? k : last;
        }
        return last;
    }

    // ---- texts, sign by sign

    long sign(int v) {
        if (text.length() > 76) {
            return -1;
        }
        for (int k = 3; k >= 0; k--) {
            text += (char) (v >> 8 * k & 255);
        }
        return text.length();
    }

    long end(int n) {
        if (out(n, 0, text.length())) {
            return 0;
        }
        text = text.substring(0, n);
        return 1;
    }

    private String taken() {
        String was = text;
        text = "";
        return was;
    }

    private static boolean isDigit(char sign) {
        return sign >= '0' && sign <= '9';
    }

    /** What a text looks like. */
    private interface Stands {
        /** Whether this sign can stand behind these, which could go on. */
        boolean stands(String before, char sign);

        /** Whether the text can end here. */
        boolean ends(String all);
    }

    /** 0, or -1 - p. */
    private static int wrong(String told, int most, Stands form) {
        for (int k = 0; k < told.length(); k++) {
            if (k == most || !form.stands(told.substring(0, k), told.charAt(k))) {
                return -1 - k;
            }
        }
        return form.ends(told) ? 0 : -1 - told.length();
    }

    /** LINES with ; between. */
    private abstract static class LinesOf implements Stands {
        abstract boolean standsInLine(int n, String line, char sign, String ahead);

        abstract boolean endsLine(String line);

        public boolean stands(String before, char sign) {
            int cut = before.lastIndexOf(';');
            String line = before.substring(cut + 1);
            if (sign == ';') {
                return endsLine(line);
            }
            int n = (int) before.chars().filter(c -> c == ';').count();
            return standsInLine(n, line, sign, before.substring(0, cut + 1));
        }

        public boolean ends(String all) {
            return endsLine(all.substring(all.lastIndexOf(';') + 1));
        }
    }

    private final class Men extends LinesOf {
        boolean standsInLine(int n, String line, char sign, String ahead) {
            if (men.size() + n >= 6) {
                return false;
            }
            if (line.matches("") || line.matches("[0-9]+,")) {
                return isDigit(sign);
            }
            if (line.matches("[0-9]")) {
                return isDigit(sign) || sign == ',';
            }
            if (line.matches("[0-9][0-9]")) {
                return sign == ',';
            }
            if (line.matches("[0-9]+,[0-9]")) {
                return isDigit(sign) || sign == '+' || sign == '-';
            }
            if (line.matches("[0-9]+,[0-9][0-9]")) {
                return sign == '+' || sign == '-';
            }
            if (line.matches("[0-9]+,[0-9]+[-+]")) {
                return sign >= '0' && sign <= '3';
            }
            char last = line.charAt(line.length() - 1);
            boolean isRising = isDigit(last) || sign > last;
            return sign >= 'a' && sign <= 'h' && isRising && ahead.indexOf(sign) < 0 && allGoods().indexOf(sign) < 0;
        }

        boolean endsLine(String line) {
            return line.matches("[0-9]{1,2},[0-9]{1,2}[-+][0-3][a-h]*");
        }
    }

    /** BEARS 0 is wrong at its last digit, also if what comes behind is wrong, too. */
    private int wrongMen(String told) {
        int wrong = wrong(told, 76, new Men());
        int at = 0;
        for (String line : told.split(";", -1)) {
            int digits = 0;
            while (digits < line.length() && digits < 2 && isDigit(line.charAt(digits))) {
                digits++;
            }
            boolean isNought = digits > 0 && Integer.parseInt(line.substring(0, digits)) == 0;
            int last = at + digits - 1;
            if (isNought && (wrong == 0 || -1 - wrong > last)) {
                return -1 - last;
            }
            at += line.length() + 1;
        }
        return wrong;
    }

    long prisoners() {
        String told = taken();
        if (told.isEmpty()) {
            return 0;
        }
        int wrong = wrongMen(told);
        if (wrong < 0) {
            return wrong;
        }
        String[] lines = told.split(";");
        for (String line : lines) {
            String[] parts = line.split("[-+,]");
            Man man = new Man();
            man.number = men.size();
            man.bears = Integer.parseInt(parts[0]);
            man.fear = Integer.parseInt(parts[1]);
            man.dumb = line.indexOf('-') > 0;
            man.heir = parts[2].charAt(0) - '0';
            man.goods = parts[2].substring(1);
            men.add(man);
        }
        forget();
        return lines.length;
    }

    private void forget() {
        past.clear();
        kept[0] = null;
        kept[1] = null;
    }

    private String allGoods() {
        StringBuilder all = new StringBuilder();
        men.forEach(man -> all.append(man.goods));
        return all.toString();
    }

    long values() {
        String told = taken();
        int wrong = wrong(told, 99, new Stands() {
            public boolean stands(String before, char sign) {
                String number = before.substring(before.lastIndexOf(',') + 1);
                boolean isLast = before.chars().filter(c -> c == ',').count() == 7;
                return isDigit(sign) ? number.length() < 2 : sign == ',' && !number.isEmpty() && !isLast;
            }

            public boolean ends(String all) {
                return all.matches("([0-9]{1,2},){7}[0-9]{1,2}");
            }
        });
        if (wrong < 0) {
            return wrong;
        }
        values = Arrays.stream(told.split(",")).mapToInt(Integer::parseInt).toArray();
        return Arrays.stream(values).sum();
    }

    private final class Bench extends LinesOf {
        boolean standsInLine(int n, String line, char sign, String ahead) {
            if (bench.size() + n >= 8) {
                return false;
            }
            int comma = line.indexOf(',');
            if (line.isEmpty()) {
                return isDigit(sign) && sign - '0' < men.size();
            }
            if (comma < 0) {
                return sign == ',';
            }
            int second = line.indexOf(',', comma + 1);
            if (second >= 0) {
                return line.length() == second + 1 && isDigit(sign);
            }
            int digits = line.length() - comma - 1;
            return isDigit(sign) ? digits < 2 : sign == ',' && digits > 0;
        }

        boolean endsLine(String line) {
            return line.matches("[0-9],[0-9]{1,2},[0-9]");
        }
    }

    long witnesses() {
        String told = taken();
        if (told.isEmpty()) {
            return 0;
        }
        int wrong = wrong(told, 60, new Bench());
        if (wrong < 0) {
            return wrong;
        }
        String[] lines = told.split(";");
        for (String line : lines) {
            String[] parts = line.split(",");
            Witness one = new Witness();
            one.against = Integer.parseInt(parts[0]);
            one.word = Integer.parseInt(parts[1]);
            one.fades = Integer.parseInt(parts[2]);
            bench.add(one);
        }
        forget();
        return lines.length;
    }

    private static int wrongLaw(String told) {
        return wrong(told, 4, new Stands() {
            public boolean stands(String before, char sign) {
                return "hks".indexOf(sign) >= 0;
            }

            public boolean ends(String all) {
                return all.length() == 4;
            }
        });
    }

    long law() {
        String told = taken();
        int wrong = wrongLaw(told);
        if (wrong < 0) {
            return wrong;
        }
        law = told;
        return told.chars().filter(c -> c == 'k').count();
    }

    private static final class Expression implements Stands {
        private static boolean isThingAhead(String before) {
            return !before.isEmpty() && "<>=+-*/(".indexOf(before.charAt(before.length() - 1)) < 0;
        }

        /** What stands on the level of ( ) that is open: ( ) that are closed are one thing. */
        private static String level(String before) {
            String shorter = before;
            String last = "";
            while (!shorter.equals(last)) {
                last = shorter;
                shorter = shorter.replaceAll("\\([^()]*\\)", "b");
            }
            return shorter;
        }

        private static int depth(String before) {
            return (int) level(before).chars().filter(c -> c == '(').count();
        }

        public boolean stands(String before, char sign) {
            if (!isThingAhead(before)) {
                boolean isThing = isDigit(sign) || "bwdnfi-".indexOf(sign) >= 0;
                return isThing || sign == '(' && depth(before) < 4;
            }
            String level = level(before);
            String mine = level.substring(level.lastIndexOf('(') + 1);
            if (isDigit(sign)) {
                return before.matches("(.*[^0-9])?[0-9]{1,2}");
            }
            if (sign == ')') {
                return depth(before) > 0;
            }
            if ("<>=".indexOf(sign) >= 0) {
                return !mine.matches(".*[<>=].*");
            }
            return "+-*/".indexOf(sign) >= 0;
        }

        public boolean ends(String all) {
            return isThingAhead(all) && depth(all) == 0;
        }
    }

    long rule() {
        String told = taken();
        if (told.isEmpty()) {
            rule = "b-w-d*5-n*4";
            return 0;
        }
        int wrong = wrong(told, 40, new Expression());
        rule = wrong < 0 ? rule : told;
        return wrong;
    }

    private static final class Deeds extends LinesOf {
        boolean standsInLine(int n, String line, char sign, String ahead) {
            if (line.isEmpty()) {
                return "loajn".indexOf(sign) >= 0;
            }
            int most = "aj".indexOf(line.charAt(0)) >= 0 ? 2 : line.charAt(0) == 'n' ? 3 : 4;
            return isDigit(sign) && line.length() < most;
        }

        boolean endsLine(String line) {
            return line.matches("[lo][0-9]{2,3}|[aj][0-9]|n[0-9]{1,2}");
        }
    }

    // ---- of one

    long prisoner(int p, int what) {
        if (none(p) || out(what, 0, 10)) {
            return Check.THROWS;
        }
        Man man = men.get(p);
        long[] all = {
            man.bears, man.fear, man.dumb ? 1 : 0, man.heir, bits(man.goods), Arrays.asList(NAMES).indexOf(man.is),
            man.laid, man.borne, leftOf(man), proofOf(p), worthOf(man.goods),
        };
        return all[what];
    }

    private static int bits(String goods) {
        return goods.chars().map(c -> 1 << c - 'a').sum();
    }

    private int worthOf(String goods) {
        return goods.chars().map(c -> values[c - 'a']).sum();
    }

    private int proofOf(int p) {
        return bench.stream().filter(one -> one.against == p).mapToInt(one -> one.word).sum();
    }

    long witness(int k, int what) {
        if (out(k, 0, bench.size() - 1) || out(what, 0, 2)) {
            return Check.THROWS;
        }
        Witness one = bench.get(k);
        return what == 0 ? one.against : what == 1 ? one.word : one.fades;
    }

    long ends(int v) {
        if (out(v, day + 1, 99)) {
            return -1;
        }
        int was = end;
        end = v;
        return was;
    }

    long sheet(int kind, int n, int f, int step) {
        if (out(kind, 0, 3) || n > 6) {
            return -1;
        }
        if (kind < 3 && n < 0) {
            return -2;
        }
        long entry = f;
        long sum = 0;
        for (Man man : men) {
            long low = kind == 0 ? (byte) entry : kind == 1 ? (short) entry : (int) entry;
            man.fear = kind == 3 || man.number >= n ? 0 : (int) Math.max(0, Math.min(99, low));
            sum += man.fear;
            entry += step;
        }
        return kind == 3 ? -3 : sum;
    }

    // ---- the assize

    private long remember(Plain before, long answer) {
        if (answer >= 0) {
            past.push(before);
            if (past.size() > 12) {
                past.removeLast();
            }
        }
        return answer;
    }

    private long laid(int p, int n) {
        if (none(p) || n == 0 || out(n, -50, 50)) {
            return -1;
        }
        Man man = men.get(p);
        if (!silent(man)) {
            return -2;
        }
        man.laid += n;
        man.laid = man.laid < 0 ? 0 : man.laid > 99 ? 99 : man.laid;
        return man.laid;
    }

    private long asked(int p) {
        if (none(p)) {
            return -1;
        }
        Man man = men.get(p);
        if (!silent(man)) {
            return -2;
        }
        if (!man.dumb && leftOf(man) <= man.fear) {
            man.is = "PLEADED";
            man.laid = 0;
            return 1;
        }
        return 0;
    }

    private long tried(int p) {
        if (none(p)) {
            return -1;
        }
        if (!men.get(p).is.equals("PLEADED")) {
            return -2;
        }
        men.get(p).is = proofOf(p) >= 100 ? "CONVICTED" : "FREED";
        return proofOf(p) >= 100 ? 4 : 3;
    }

    private void night() {
        for (Man man : men) {
            if (silent(man) && man.laid > 0) {
                man.borne++;
                man.leftInNight = leftOf(man);
                man.is = man.leftInNight <= 0 ? "DEAD" : man.is;
            }
        }
        bench.forEach(one -> one.word = one.word > one.fades ? one.word - one.fades : 0);
        day++;
        if (day == end) {
            men.stream().filter(man -> silent(man) || man.is.equals("PLEADED")).forEach(man -> man.is = "LEFT OVER");
        }
    }

    private Plain in(int n) {
        Plain then = copy();
        for (int k = 0; k < n; k++) {
            then.night();
        }
        return then;
    }

    long lay(int p, int n) {
        return remember(copy(), laid(p, n));
    }

    long ask(int p) {
        return remember(copy(), asked(p));
    }

    long judge(int p) {
        long verdict = remember(copy(), tried(p));
        if (verdict > 0) {
            tell(proofOf(p));
        }
        return verdict;
    }

    long nights(int n) {
        if (out(n, 0, 60)) {
            return -1;
        }
        Plain before = copy();
        Plain then = in(n);
        becomesAsIn(then);
        if (n > 0) {
            remember(before, 0);
        }
        tell(those("DEAD") - before.those("DEAD"), those("LEFT OVER") - before.those("LEFT OVER"));
        return day;
    }

    long assize() {
        String told = taken();
        int wrong = told.isEmpty() ? 0 : wrong(told, 60, new Deeds());
        if (wrong < 0) {
            return wrong;
        }
        Plain before = copy();
        String[] deeds = told.isEmpty() ? new String[0] : told.split(";");
        int done = 0;
        while (done < deeds.length && done(deeds[done]) >= 0) {
            done++;
        }
        if (done > 0) {
            remember(before, 0);
        }
        tell(done == deeds.length ? 0 : 1, day);
        return done;
    }

    private long done(String deed) {
        int p = deed.charAt(1) - '0';
        switch (deed.charAt(0)) {
            case 'l': return laid(p, Integer.parseInt(deed.substring(2)));
            case 'o': return laid(p, -Integer.parseInt(deed.substring(2)));
            case 'a': return asked(p);
            case 'j': return tried(p);
            default: break;
        }
        int n = Integer.parseInt(deed.substring(1));
        if (n > 60) {
            return -1;
        }
        becomesAsIn(in(n));
        return day;
    }

    long undo() {
        if (past.isEmpty()) {
            return -1;
        }
        becomesAsIn(past.pop());
        return past.size();
    }

    // ---- what he bears

    long left(int p, int n) {
        if (none(p) || out(n, 0, 60)) {
            return -1;
        }
        Plain then = copy();
        for (int k = 0; k < n; k++) {
            then.men.get(p).borne += then.men.get(p).laid > 0 ? 1 : 0;
            then.day++;
        }
        return 1000 + then.leftOf(then.men.get(p));
    }

    long dies(int p) {
        if (none(p)) {
            return -1;
        }
        if (!silent(men.get(p))) {
            return -3;
        }
        Plain then = copy();
        for (int n = 1; n <= 60; n++) {
            then.night();
            if (then.men.get(p).is.equals("DEAD")) {
                tell(then.men.get(p).leftInNight);
                return n;
            }
        }
        return -2;
    }

    /** NIGHTS and LEFT then; null: never. */
    private int[] speaking(int p, int w) {
        Plain then = copy();
        then.men.get(p).laid = w;
        for (int n = 0; n <= 60; n++) {
            int left = then.leftOf(then.men.get(p));
            if (then.asked(p) == 1) {
                return new int[] {n, left};
            }
            then.night();
        }
        return null;
    }

    private int speaksIn(int p, int w) {
        int[] when = speaking(p, w);
        return when == null ? -2 : when[0];
    }

    long speaks(int p, int w) {
        if (none(p) || out(w, 0, 99)) {
            return -1;
        }
        if (!silent(men.get(p))) {
            return -3;
        }
        int[] when = speaking(p, w);
        if (when == null) {
            return -2;
        }
        tell(when[1]);
        return when[0];
    }

    long least(int p, int n) {
        if (none(p) || out(n, 0, 60)) {
            return -1;
        }
        if (!silent(men.get(p))) {
            return -3;
        }
        for (int w = 0; w < 100; w++) {
            if (!out(speaksIn(p, w), 0, n)) {
                tell(speaksIn(p, w));
                return w;
            }
        }
        return -2;
    }

    long mercy(int p, int n) {
        if (none(p) || out(n, 1, 60)) {
            return -1;
        }
        if (!silent(men.get(p))) {
            return -3;
        }
        int greatest = -1;
        for (int w = 0; w < 100; w++) {
            Plain then = copy();
            then.end = NO_END;
            then.men.get(p).laid = w;
            greatest = then.in(n).men.get(p).is.equals("DEAD") ? greatest : w;
        }
        return greatest;
    }

    long longest(int p) {
        if (none(p)) {
            return -1;
        }
        if (!silent(men.get(p))) {
            return -3;
        }
        for (int n = 60; n >= 0; n--) {
            for (int w = 0; w < 100; w++) {
                if (speaksInTable(p)[w] == n) {
                    tell(n);
                    return w;
                }
            }
        }
        return -2;
    }

    private int[][] table;

    private int[] speaksInTable(int p) {
        if (table == null) {
            table = new int[6][];
        }
        if (table[p] == null) {
            table[p] = new int[100];
            for (int w = 0; w < 100; w++) {
                table[p][w] = speaksIn(p, w);
            }
        }
        return table[p];
    }

    /** The table is of one call alone. */
    void newCall() {
        table = null;
    }

    long alike(int one, int other) {
        if (none(one) || none(other) || one == other) {
            return -1;
        }
        if (!silent(men.get(one)) || !silent(men.get(other))) {
            return -3;
        }
        List<Integer> differ = new ArrayList<>();
        for (int w = 0; w < 100; w++) {
            if (speaksInTable(one)[w] != speaksInTable(other)[w]) {
                differ.add(w);
            }
        }
        tell(differ.isEmpty() ? -1 : differ.get(0));
        return differ.size();
    }

    private int[] bestStones;
    private int bestCount;

    long stones(int n) {
        if (out(n, 0, 400)) {
            return -1;
        }
        bestStones = null;
        bestCount = -1;
        tryStones(new int[men.size()], 0, n, 0);
        tell(Arrays.stream(bestStones).asLongStream().toArray());
        return bestCount;
    }

    /** Goes through the rows, the least first. */
    private void tryStones(int[] on, int p, int rest, int count) {
        if (p == men.size()) {
            int sum = Arrays.stream(on).sum();
            int bestSum = bestStones == null ? 0 : Arrays.stream(bestStones).sum();
            if (count > bestCount || count == bestCount && sum < bestSum) {
                bestStones = on.clone();
                bestCount = count;
            }
            return;
        }
        boolean isSilent = silent(men.get(p));
        for (int w = 0; w <= 90 && w <= rest; w += 10) {
            boolean speaks = isSilent && speaksInTable(p)[w] >= 0;
            if (w == 0 || speaks) {
                on[p] = w;
                tryStones(on, p + 1, rest - w, count + (speaks ? 1 : 0));
            }
        }
        on[p] = 0;
    }

    long silent(int n) {
        if (out(n, 0, 60)) {
            return -1;
        }
        Plain then = in(n);
        tell(Integer.bitCount(then.those("DEAD")) - Integer.bitCount(those("DEAD")),
                Integer.bitCount(then.those("LEFT OVER")) - Integer.bitCount(those("LEFT OVER")));
        return then.those("SILENT");
    }

    // ---- proof

    long proof(int p, int n) {
        if (none(p) || out(n, 0, 99)) {
            return -1;
        }
        Plain then = in(n);
        tell(then.proofOf(p) > 99 ? 1 : 0,
                then.bench.stream().filter(one -> one.against == p && one.word != 0).count());
        return then.proofOf(p);
    }

    long till(int p) {
        if (none(p)) {
            return -1;
        }
        Plain then = copy();
        for (int n = 0; n < 200; n++) {
            if (then.proofOf(p) < 100) {
                return n == 0 ? -2 : n - 1;
            }
            then.night();
        }
        return -3;
    }

    private int ofHisOwn(Man man, String ending) {
        char whose = law.charAt(Arrays.asList(NAMES).indexOf(ending) - 2);
        return whose == 'k' ? 0 : worthOf(man.goods);
    }

    private String verdictIn(int p, int n) {
        return in(n).proofOf(p) >= 100 ? "CONVICTED" : "FREED";
    }

    long gains(int p, int n) {
        if (none(p) || out(n, 0, 60)) {
            return -1;
        }
        Man man = men.get(p);
        if (!silent(man)) {
            return -2;
        }
        int tried = ofHisOwn(man, verdictIn(p, n));
        int over = ofHisOwn(man, "LEFT OVER");
        tell(tried, over);
        return 1000 + tried - over;
    }

    long lacks(int p, int n) {
        if (none(p) || out(n, 0, 99)) {
            return -1;
        }
        Plain then = in(n);
        int mine = Math.max(0, 100 - then.proofOf(p));
        tell(men.stream().filter(man -> man.number != p && !man.is.equals("DEAD"))
                .filter(man -> Math.max(0, 100 - then.proofOf(man.number)) > mine).count());
        return mine;
    }

    long best(int p) {
        if (none(p)) {
            return -1;
        }
        Man man = men.get(p);
        if (!silent(man)) {
            return -2;
        }
        int best = 0;
        for (int n = 0; n <= 60; n++) {
            boolean isLate = end > day && day + n >= end;
            if (!isLate && ofHisOwn(man, verdictIn(p, n)) > ofHisOwn(man, verdictIn(p, best))) {
                best = n;
            }
        }
        tell(ofHisOwn(man, verdictIn(p, best)), ofHisOwn(man, "LEFT OVER"), ofHisOwn(man, "DEAD"));
        return best;
    }

    // ---- trials

    private List<int[]> turns(int[] turn, List<int[]> all) {
        all.add(turn);
        for (Man man : men) {
            boolean isNew = Arrays.stream(turn).noneMatch(p -> p == man.number);
            if (man.is.equals("PLEADED") && isNew) {
                int[] longer = Arrays.copyOf(turn, turn.length + 1);
                longer[turn.length] = man.number;
                turns(longer, all);
            }
        }
        return all;
    }

    /** How all is behind such trials; null: they can't be. */
    private Plain behind(int[] turn) {
        Plain then = copy();
        for (int p : turn) {
            if (then.tried(p) < 0) {
                return null;
            }
            then.night();
        }
        return then;
    }

    private static boolean isLess(int[] one, int[] other) {
        return Arrays.compare(one, other) < 0;
    }

    long trials() {
        int[] best = {};
        for (int[] turn : turns(new int[0], new ArrayList<>())) {
            Plain then = behind(turn);
            boolean isFine = then != null
                    && Arrays.stream(turn).allMatch(p -> then.men.get(p).is.equals("CONVICTED"));
            if (isFine && (turn.length > best.length || turn.length == best.length && isLess(turn, best))) {
                best = turn;
            }
        }
        tell(Arrays.stream(best).asLongStream().toArray());
        return best.length;
    }

    long docket() {
        int[] best = null;
        int most = -1;
        for (int[] turn : turns(new int[0], new ArrayList<>())) {
            Plain then = behind(turn);
            if (then == null) {
                continue;
            }
            int sum = 0;
            for (Man man : men) {
                String is = then.men.get(man.number).is;
                String ending = is.equals("PLEADED") ? "LEFT OVER" : is;
                sum += man.is.equals("PLEADED") ? worthOf(man.goods) - ofHisOwn(man, ending) : 0;
            }
            boolean isFewer = best != null && turn.length < best.length;
            boolean isEqual = best != null && turn.length == best.length && isLess(turn, best);
            if (sum > most || sum == most && (isFewer || isEqual)) {
                best = turn;
                most = sum;
            }
        }
        tell(Arrays.stream(best).asLongStream().toArray());
        return most;
    }

    // ---- whose goods

    /** HEIRS 0 .. 3, their own, the king's. */
    private long[] shares(String by) {
        long[] shares = new long[6];
        for (Man man : men) {
            int ending = Arrays.asList(NAMES).indexOf(man.is) - 2;
            if (ending >= 0) {
                char whose = by.charAt(ending);
                shares[whose == 'h' ? man.heir : whose == 's' ? 4 : 5] += worthOf(man.goods);
            }
        }
        return shares;
    }

    long parts() {
        long[] shares = shares(law);
        tell(Arrays.copyOf(shares, 5));
        return shares[5];
    }

    long hopes(int heir) {
        if (out(heir, 0, 3)) {
            return -1;
        }
        long[] more = new long[3];
        for (int k = 0; k < 3; k++) {
            Plain then = copy();
            for (Man man : then.men) {
                String verdict = then.verdictIn(man.number, 0);
                if (silent(man)) {
                    man.is = k == 0 ? "DEAD" : k == 1 ? "LEFT OVER" : verdict;
                }
            }
            more[k] = then.shares(law)[heir] - shares(law)[heir];
        }
        tell(more[1], more[2]);
        return more[0];
    }

    long reading() {
        String told = taken();
        int wrong = wrongLaw(told);
        if (wrong < 0) {
            return wrong - 9999;
        }
        tell(shares(told)[5], shares(law)[5]);
        return shares(told)[5] - shares(law)[5];
    }

    long wants(int heir) {
        if (out(heir, 0, 3)) {
            return -1;
        }
        int best = -1;
        long bestMark = -1;
        for (int number = 0; number < 81; number++) {
            String by = lawOf(number);
            int same = 0;
            for (int k = 0; k < 4; k++) {
                same += by.charAt(k) == law.charAt(k) ? 1 : 0;
            }
            long mark = shares(by)[heir] * 10 + same;
            if (mark > bestMark) {
                bestMark = mark;
                best = number;
            }
        }
        tell(shares(lawOf(best))[heir], shares(law)[heir]);
        return best;
    }

    private static String lawOf(int number) {
        String digits = Integer.toString(number + 81, 3).substring(1);
        return digits.replace('0', 'h').replace('1', 'k').replace('2', 's');
    }

    // ---- dumb or stubborn

    /** Upper and lower number, told anew behind each silence; null: it can't be so. */
    private static BigInteger[] dumbBehind(int q, int p, int n) {
        BigInteger dumb = BigInteger.valueOf(q);
        BigInteger stubborn = BigInteger.valueOf(10 - q);
        for (int k = 0; k < n; k++) {
            dumb = dumb.multiply(BigInteger.TEN);
            stubborn = stubborn.multiply(BigInteger.valueOf(10 - p));
        }
        BigInteger all = dumb.add(stubborn);
        if (all.signum() == 0) {
            return null;
        }
        BigInteger common = dumb.gcd(all);
        return new BigInteger[] {dumb.divide(common), all.divide(common)};
    }

    long dumb(int q, int p, int n) {
        if (out(q, 0, 10) || out(p, 0, 10) || out(n, 0, 12)) {
            return -1;
        }
        BigInteger[] likely = dumbBehind(q, p, n);
        if (likely == null) {
            return -2;
        }
        tell(likely[0].longValueExact(), likely[1].longValueExact());
        return 0;
    }

    long sure(int q, int p, int v) {
        if (out(q, 0, 10) || out(p, 0, 10) || out(v, 0, 100)) {
            return -1;
        }
        for (int n = 0; n <= 12; n++) {
            BigInteger[] likely = dumbBehind(q, p, n);
            if (likely != null && likely[0].multiply(BigInteger.valueOf(100))
                    .compareTo(likely[1].multiply(BigInteger.valueOf(v))) >= 0) {
                return n;
            }
        }
        return -2;
    }

    // ---- what was in it

    private List<String> partsOf(String goods, int v) {
        List<String> all = new ArrayList<>(List.of(""));
        for (char thing : goods.toCharArray()) {
            for (String part : List.copyOf(all)) {
                all.add(part + thing);
            }
        }
        all.removeIf(part -> worthOf(part) != v);
        return all;
    }

    long house(int p, int v) {
        if (none(p) || out(v, 0, 999)) {
            return -1;
        }
        List<String> all = partsOf(men.get(p).goods, v);
        int sure = 0;
        for (char thing : men.get(p).goods.toCharArray()) {
            boolean isIn = !all.isEmpty() && all.stream().allMatch(part -> part.indexOf(thing) >= 0);
            sure += isIn ? bits(String.valueOf(thing)) : 0;
        }
        tell(all.stream().mapToInt(Plain::bits).min().orElse(-1), sure);
        return all.size();
    }

    long search(int p, int v) {
        if (none(p) || out(v, 0, 999)) {
            return -1;
        }
        List<String> all = partsOf(men.get(p).goods, v);
        if (all.isEmpty() || men.get(p).goods.isEmpty()) {
            return -2;
        }
        int best = -1;
        long fewest = 0;
        for (char thing : men.get(p).goods.toCharArray()) {
            long with = all.stream().filter(part -> part.indexOf(thing) >= 0).count();
            long most = Math.max(with, all.size() - with);
            if (best < 0 || most < fewest) {
                best = thing - 'a';
                fewest = most;
            }
        }
        tell(fewest);
        return best;
    }

    // ---- threats, assizes

    long rests(int v, int c) {
        if (out(v, 0, 99) || out(c, 0, 9)) {
            return -1;
        }
        int[][] judge = new int[10][10];
        int[][] prisoner = new int[10][10];
        for (int threat = 0; threat < 10; threat++) {
            for (int holds = 0; holds < 10; holds++) {
                boolean keeps = holds >= threat;
                judge[threat][holds] = (keeps ? 0 : v) - c * threat;
                prisoner[threat][holds] = (keeps ? v : 0) - c * holds;
            }
        }
        int count = 0;
        tell();
        for (int threat = 9; threat >= 0; threat--) {
            for (int holds = 9; holds >= 0; holds--) {
                int mine = holds;
                int most = Arrays.stream(judge).mapToInt(of -> of[mine]).max().orElse(0);
                int mostHe = Arrays.stream(prisoner[threat]).max().orElse(0);
                if (judge[threat][holds] == most && prisoner[threat][holds] == mostHe) {
                    count++;
                    tell(threat, holds);
                }
            }
        }
        return count;
    }

    long years(int seed, int n) {
        if (men.isEmpty()) {
            return -2;
        }
        if (out(n, 1, 60)) {
            return -1;
        }
        Plain then = copy();
        int r = seed;
        int pleaded = 0;
        for (int k = 0; k < n; k++) {
            r = r * 1103515245 + 12345;
            int p = (int) (Integer.toUnsignedLong(r) / 65536 % men.size());
            r = r * 1103515245 + 12345;
            switch ((int) (Integer.toUnsignedLong(r) / 65536 % 4)) {
                case 0: then.laid(p, 10); break;
                case 1: then.laid(p, -10); break;
                case 2: pleaded += then.asked(p) == 1 ? 1 : 0; break;
                default: then.tried(p); break;
            }
            then.night();
        }
        tell(Integer.bitCount(then.those("DEAD")) - Integer.bitCount(those("DEAD")),
                Integer.bitCount(then.those("CONVICTED")) - Integer.bitCount(those("CONVICTED")));
        return pleaded;
    }

    // ---- kept

    long keep(int i) {
        if (out(i, 0, 1)) {
            return 0;
        }
        kept[i] = copy();
        return 1;
    }

    long again(int i) {
        if (out(i, 0, 1) || kept[i] == null) {
            return 0;
        }
        becomesAsIn(kept[i]);
        past.clear();
        return 1;
    }

    long count(int what) {
        if (what >= 4 && what <= 9) {
            return those(NAMES[what - 4]);
        }
        switch (what) {
            case 0: return men.size();
            case 1: return bench.size();
            case 2: return day;
            case 3: return end;
            case 10: return bits(allGoods());
            case 11: return past.size();
            case 12: return row.size();
            case 13: return text.length();
            default: return -1;
        }
    }

    long row(int i) {
        return out(i, 0, row.size() - 1) ? Check.THROWS : row.get(i);
    }
}
