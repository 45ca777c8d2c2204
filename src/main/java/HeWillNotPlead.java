import java.util.NoSuchElementException;

/** Prisoners who will not plead, what is laid on them, and whose their goods are in the end. */
public final class HeWillNotPlead {
    public static final int NONE = -1;

    private static final int CANNOT = -2;
    private static final int NEVER = -2;
    private static final int NOT_SILENT = -3;
    private static final int FOR_EVER = -3;
    private static final int MISSING = -3;

    private static final int SILENT = 0;
    private static final int PLEADED = 1;
    private static final int DEAD = 2;
    private static final int FREED = 3;
    private static final int CONVICTED = 4;
    private static final int LEFT_OVER = 5;

    private static final int TO_HEIR = 0;
    private static final int TO_KING = 1;
    private static final int TO_HIMSELF = 2;

    private static final int MOST_PRISONERS = 6;
    private static final int MOST_WITNESSES = 8;
    private static final int KINDS_OF_GOODS = 8;
    private static final int ENDINGS = 4;
    private static final int HEIRS = 4;
    private static final int MOST_NIGHTS = 60;
    private static final int MOST_FADING = 99;
    private static final int MOST_WEIGHT = 99;
    private static final int HEAVIEST_STONES = 90;
    private static final int ENOUGH_PROOF = 100;
    private static final int READINGS = 81;
    private static final int KEPT = 2;

    private final Text text = new Text();
    private final Row told = new Row();
    private final Gang gang = new Gang();
    private final Bench bench = new Bench(gang);
    private final Acts acts = new Acts();
    private final Rule measure = new Rule();
    private final Estate estate = new Estate(gang);
    private final Hall now = new Hall(gang, bench, measure);
    private final Hall then = new Hall(gang, bench, measure);
    private final Past past = new Past(gang, bench, measure);
    private final Turns turns = new Turns(now, estate);
    private final Hall[] kept = new Hall[KEPT];
    private final boolean[] isKept = new boolean[KEPT];
    private final int[] needs = new int[MOST_PRISONERS];
    private int theEnd = 20;

    public HeWillNotPlead() {
        for (int i = 0; i < KEPT; i++) {
            kept[i] = new Hall(gang, bench, measure);
        }
    }

    // ---- prisoners, goods, witnesses, the law

    public int sign(int v) {
        return text.add(v);
    }

    public boolean end(int n) {
        return text.cut(n);
    }

    public int prisoners() {
        int lines = gang.readAll(text, 76);
        text.empty();
        if (lines > 0) {
            now.receive(gang.count, gang.count + lines);
            gang.count += lines;
            forgetWhatWas();
        }
        return lines;
    }

    public int values() {
        int sum = estate.readValues(text);
        text.empty();
        return sum;
    }

    public int witnesses() {
        int lines = bench.readAll(text, 60);
        text.empty();
        if (lines > 0) {
            now.hear(bench.count, bench.count + lines);
            bench.count += lines;
            forgetWhatWas();
        }
        return lines;
    }

    public int law() {
        int kings = estate.readLaw(text);
        text.empty();
        if (kings >= 0) {
            estate.enact();
        }
        return kings;
    }

    public int rule() {
        int answer = measure.read(text);
        text.empty();
        return answer;
    }

    public int prisoner(int prisoner, int what) throws NoSuchElementException {
        if (!isThere(prisoner)) {
            throw new NoSuchElementException("no such prisoner");
        }
        switch (what) {
            case 0: return gang.bears[prisoner];
            case 1: return gang.fear[prisoner];
            case 2: return gang.isDumb[prisoner] ? 1 : 0;
            case 3: return gang.heir[prisoner];
            case 4: return gang.goods[prisoner];
            case 5: return now.state[prisoner];
            case 6: return now.laid[prisoner];
            case 7: return now.borne[prisoner];
            case 8: return now.leftNow(prisoner);
            case 9: return now.proofIn(prisoner, 0);
            case 10: return estate.worthOf(gang.goods[prisoner]);
            default: throw new NoSuchElementException("a prisoner has no such number");
        }
    }

    public int witness(int witness, int what) throws NoSuchElementException {
        if (witness < 0 || witness >= bench.count) {
            throw new NoSuchElementException("no such witness");
        }
        switch (what) {
            case 0: return bench.against[witness];
            case 1: return now.word[witness];
            case 2: return bench.fades[witness];
            default: throw new NoSuchElementException("a witness has no such number");
        }
    }

    public int ends(int v) {
        if (v <= now.day || v > 99) {
            return NONE;
        }
        int was = theEnd;
        theEnd = v;
        return was;
    }

    public int sheet(int kind, int n, int f, int step) {
        if (kind < 0 || kind > 3 || n > MOST_PRISONERS) {
            return NONE;
        }
        boolean isMissing = kind == 3;
        if (!isMissing && n < 0) {
            return CANNOT;
        }
        int sum = 0;
        for (int p = 0; p < gang.count; p++) {
            boolean isTold = !isMissing && p < n;
            gang.fear[p] = isTold ? fearOnSheet(kind, f + p * step) : 0;
            sum += gang.fear[p];
        }
        return isMissing ? MISSING : sum;
    }

    // ---- the assize

    public int lay(int prisoner, int n) {
        past.note(now);
        return doneBy(now.layOn(prisoner, n));
    }

    public int ask(int prisoner) {
        past.note(now);
        return doneBy(now.askOf(prisoner));
    }

    public int judge(int prisoner) {
        past.note(now);
        int verdict = doneBy(now.tryNow(prisoner));
        if (verdict >= 0) {
            told.tell(now.proofIn(prisoner, 0));
        }
        return verdict;
    }

    public int nights(int n) {
        if (n < 0 || n > MOST_NIGHTS) {
            return NONE;
        }
        past.note(now);
        int gone = now.pass(n, theEnd);
        if (n > 0) {
            past.seal();
        }
        told.tell(diedOf(gone), overOf(gone));
        return now.day;
    }

    public int assize() {
        int count = acts.readAll(text, 60);
        text.empty();
        if (count < 0) {
            return count;
        }
        past.note(now);
        int done = 0;
        while (done < count && now.perform(acts, done, theEnd) >= 0) {
            done++;
        }
        if (done > 0) {
            past.seal();
        }
        told.tell(done < count ? 1 : 0, now.day);
        return done;
    }

    public int undo() {
        if (!past.restore(now)) {
            return NONE;
        }
        return past.count;
    }

    // ---- what he bears

    public int left(int prisoner, int n) {
        if (!isThere(prisoner) || n < 0 || n > MOST_NIGHTS) {
            return NONE;
        }
        return 1000 + now.leftIn(prisoner, now.laid[prisoner], n);
    }

    public int dies(int prisoner) {
        if (!isThere(prisoner)) {
            return NONE;
        }
        if (!now.isSilent(prisoner)) {
            return NOT_SILENT;
        }
        int laid = now.laid[prisoner];
        int night = now.diesIn(prisoner, laid, MOST_NIGHTS, theEnd);
        if (night > 0) {
            told.tell(now.leftDying(prisoner, laid, night));
        }
        return night;
    }

    public int speaks(int prisoner, int w) {
        if (!isThere(prisoner) || w < 0 || w > MOST_WEIGHT) {
            return NONE;
        }
        if (!now.isSilent(prisoner)) {
            return NOT_SILENT;
        }
        int in = now.pleadsIn(prisoner, w, theEnd);
        if (in >= 0) {
            told.tell(now.leftIn(prisoner, w, in));
        }
        return in;
    }

    public int least(int prisoner, int n) {
        if (!isThere(prisoner) || n < 0 || n > MOST_NIGHTS) {
            return NONE;
        }
        if (!now.isSilent(prisoner)) {
            return NOT_SILENT;
        }
        for (int w = 0; w <= MOST_WEIGHT; w++) {
            int in = now.pleadsIn(prisoner, w, theEnd);
            if (in >= 0 && in <= n) {
                told.tell(in);
                return w;
            }
        }
        return CANNOT;
    }

    public int mercy(int prisoner, int n) {
        if (!isThere(prisoner) || n < 1 || n > MOST_NIGHTS) {
            return NONE;
        }
        if (!now.isSilent(prisoner)) {
            return NOT_SILENT;
        }
        for (int w = MOST_WEIGHT; w > 0; w--) {
            // NONE is no DAY: so no END comes
            if (now.diesIn(prisoner, w, n, NONE) == NEVER) {
                return w;
            }
        }
        return 0;
    }

    public int longest(int prisoner) {
        if (!isThere(prisoner)) {
            return NONE;
        }
        if (!now.isSilent(prisoner)) {
            return NOT_SILENT;
        }
        int best = CANNOT;
        int latest = NEVER;
        for (int w = 0; w <= MOST_WEIGHT; w++) {
            int in = now.pleadsIn(prisoner, w, theEnd);
            if (in > latest) {
                best = w;
                latest = in;
            }
        }
        if (best >= 0) {
            told.tell(latest);
        }
        return best;
    }

    public int alike(int one, int other) {
        if (!isThere(one) || !isThere(other) || one == other) {
            return NONE;
        }
        if (!now.isSilent(one) || !now.isSilent(other)) {
            return NOT_SILENT;
        }
        int count = 0;
        int first = NONE;
        for (int w = 0; w <= MOST_WEIGHT; w++) {
            if (now.pleadsIn(one, w, theEnd) != now.pleadsIn(other, w, theEnd)) {
                first = count == 0 ? w : first;
                count++;
            }
        }
        told.tell(first);
        return count;
    }

    public int stones(int n) {
        if (n < 0 || n > 400) {
            return NONE;
        }
        for (int p = 0; p < gang.count; p++) {
            needs[p] = leastStones(p);
        }
        int best = 0;
        for (int some = 1; some < 1 << gang.count; some++) {
            int weight = stonesOn(some);
            if (weight >= 0 && weight <= n && isBetterLaid(some, best)) {
                best = some;
            }
        }
        told.clear();
        for (int p = 0; p < gang.count; p++) {
            told.add(stonesOnOne(p, best));
        }
        return Integer.bitCount(best);
    }

    public int silent(int n) {
        if (n < 0 || n > MOST_NIGHTS) {
            return NONE;
        }
        then.take(now);
        int gone = then.pass(n, theEnd);
        told.tell(Integer.bitCount(diedOf(gone)), Integer.bitCount(overOf(gone)));
        return then.thoseWho(SILENT);
    }

    // ---- proof

    public int proof(int prisoner, int n) {
        if (!isThere(prisoner) || n < 0 || n > MOST_FADING) {
            return NONE;
        }
        int much = now.proofIn(prisoner, n);
        told.tell(much >= ENOUGH_PROOF ? 1 : 0, now.speakersIn(prisoner, n));
        return much;
    }

    public int till(int prisoner) {
        if (!isThere(prisoner)) {
            return NONE;
        }
        // by then every WORD that fades at all is 0
        if (now.proofIn(prisoner, MOST_FADING) >= ENOUGH_PROOF) {
            return FOR_EVER;
        }
        int last = CANNOT;
        for (int n = 0; n <= MOST_FADING; n++) {
            if (now.proofIn(prisoner, n) >= ENOUGH_PROOF) {
                last = n;
            }
        }
        return last;
    }

    public int gains(int prisoner, int n) {
        if (!isThere(prisoner) || n < 0 || n > MOST_NIGHTS) {
            return NONE;
        }
        if (!now.isSilent(prisoner)) {
            return CANNOT;
        }
        int tried = estate.heAndHeir(prisoner, now.verdictIn(prisoner, n));
        int over = estate.heAndHeir(prisoner, LEFT_OVER);
        told.tell(tried, over);
        return 1000 + tried - over;
    }

    public int lacks(int prisoner, int n) {
        if (!isThere(prisoner) || n < 0 || n > MOST_FADING) {
            return NONE;
        }
        int mine = now.lackIn(prisoner, n);
        int more = 0;
        for (int p = 0; p < gang.count; p++) {
            if (now.state[p] != DEAD && now.lackIn(p, n) > mine) {
                more++;
            }
        }
        told.tell(more);
        return mine;
    }

    public int best(int prisoner) {
        if (!isThere(prisoner)) {
            return NONE;
        }
        if (!now.isSilent(prisoner)) {
            return CANNOT;
        }
        int when = 0;
        int most = NONE;
        for (int n = 0; n <= MOST_NIGHTS && n < daysLeft(); n++) {
            int much = estate.heAndHeir(prisoner, now.verdictIn(prisoner, n));
            if (much > most) {
                when = n;
                most = much;
            }
        }
        told.tell(most, estate.heAndHeir(prisoner, LEFT_OVER), estate.heAndHeir(prisoner, DEAD));
        return when;
    }

    // ---- trials

    public int trials() {
        turns.findMostConvicted(daysLeft());
        tellTurns();
        return turns.bestWorth;
    }

    public int docket() {
        turns.findMostForKing(daysLeft());
        tellTurns();
        return turns.bestWorth;
    }

    // ---- whose goods

    public int parts() {
        told.clear();
        for (int heir = 0; heir < HEIRS; heir++) {
            told.add(fallsTo(estate.law, TO_HEIR, heir));
        }
        told.add(fallsTo(estate.law, TO_HIMSELF, NONE));
        return fallsTo(estate.law, TO_KING, NONE);
    }

    public int hopes(int heir) {
        if (heir < 0 || heir >= HEIRS) {
            return NONE;
        }
        int ifDead = 0;
        int ifOver = 0;
        int ifTried = 0;
        for (int p = 0; p < gang.count; p++) {
            if (now.isSilent(p) && gang.heir[p] == heir) {
                ifDead += estate.has(p, DEAD, TO_HEIR);
                ifOver += estate.has(p, LEFT_OVER, TO_HEIR);
                ifTried += estate.has(p, now.verdictIn(p, 0), TO_HEIR);
            }
        }
        told.tell(ifOver, ifTried);
        return ifDead;
    }

    public int reading() {
        int kings = estate.readLaw(text);
        text.empty();
        if (kings < 0) {
            // kings is -1 - p here
            return kings - 9999;
        }
        int byIt = fallsTo(estate.otherLaw, TO_KING, NONE);
        int byLaw = fallsTo(estate.law, TO_KING, NONE);
        told.tell(byIt, byLaw);
        return byIt - byLaw;
    }

    public int wants(int heir) {
        if (heir < 0 || heir >= HEIRS) {
            return NONE;
        }
        int best = 0;
        int most = NONE;
        int fewest = 0;
        for (int number = 0; number < READINGS; number++) {
            estate.tellReading(number);
            int much = fallsTo(estate.otherLaw, TO_HEIR, heir);
            int changed = estate.changedEndings();
            if (much > most || much == most && changed < fewest) {
                best = number;
                most = much;
                fewest = changed;
            }
        }
        told.tell(most, fallsTo(estate.law, TO_HEIR, heir));
        return best;
    }

    // ---- dumb or stubborn

    public int dumb(int q, int p, int n) {
        if (!isTenths(q) || !isTenths(p) || n < 0 || n > 12) {
            return NONE;
        }
        long upper = likelyDumb(q, n);
        long lower = likelyMute(q, p, n);
        if (lower == 0) {
            return CANNOT;
        }
        long common = commonDivisor(upper, lower);
        if (common == 0) {
            return CANNOT;
        }
        told.tell(upper / common, lower / common);
        return 0;
    }

    public int sure(int q, int p, int v) {
        if (!isTenths(q) || !isTenths(p) || v < 0 || v > 100) {
            return NONE;
        }
        for (int n = 0; n <= 12; n++) {
            long lower = likelyMute(q, p, n);
            if (lower > 0 && 100 * likelyDumb(q, n) >= v * lower) {
                return n;
            }
        }
        return CANNOT;
    }

    // ---- what was in it

    public int house(int prisoner, int v) {
        if (!isThere(prisoner) || v < 0 || v > 999) {
            return NONE;
        }
        int goods = gang.goods[prisoner];
        int count = 0;
        int least = NONE;
        int inAll = goods;
        for (int part = 0; part < 1 << KINDS_OF_GOODS; part++) {
            if (isSuchPart(part, goods, v)) {
                least = count == 0 ? part : least;
                inAll &= part;
                count++;
            }
        }
        told.tell(least, count == 0 ? 0 : inAll);
        return count;
    }

    public int search(int prisoner, int v) {
        if (!isThere(prisoner) || v < 0 || v > 999) {
            return NONE;
        }
        int goods = gang.goods[prisoner];
        int all = partsWith(goods, 0, v);
        int best = CANNOT;
        int fewest = all + 1;
        for (int g = 0; g < KINDS_OF_GOODS && all > 0; g++) {
            if ((goods >> g & 1) == 0) {
                continue;
            }
            int with = partsWith(goods, 1 << g, v);
            int most = Math.max(with, all - with);
            if (most < fewest) {
                best = g;
                fewest = most;
            }
        }
        if (best >= 0) {
            told.tell(fewest);
        }
        return best;
    }

    // ---- threats, assizes

    public int rests(int v, int c) {
        if (v < 0 || v > 99 || c < 0 || c > 9) {
            return NONE;
        }
        int count = 0;
        told.clear();
        for (int threat = 0; threat < 10; threat++) {
            for (int holds = 0; holds < 10; holds++) {
                if (!isAtRest(threat, holds, v, c)) {
                    continue;
                }
                if (count == 0) {
                    told.tell(threat, holds);
                }
                count++;
            }
        }
        return count;
    }

    public int years(int seed, int n) {
        if (gang.count == 0) {
            return CANNOT;
        }
        if (n < 1 || n > MOST_NIGHTS) {
            return NONE;
        }
        then.take(now);
        int random = seed;
        for (int day = 0; day < n; day++) {
            random = stirred(random);
            int who = drawn(random, gang.count);
            random = stirred(random);
            then.performDrawn(who, drawn(random, 4));
            then.night(theEnd);
        }
        int dead = then.thoseWho(DEAD) & ~now.thoseWho(DEAD);
        int convicted = then.thoseWho(CONVICTED) & ~now.thoseWho(CONVICTED);
        told.tell(Integer.bitCount(dead), Integer.bitCount(convicted));
        return then.pleas;
    }

    // ---- kept

    public boolean keep(int i) {
        if (i < 0 || i >= KEPT) {
            return false;
        }
        kept[i].take(now);
        isKept[i] = true;
        return true;
    }

    public boolean again(int i) {
        if (i < 0 || i >= KEPT || !isKept[i]) {
            return false;
        }
        now.take(kept[i]);
        past.forget();
        return true;
    }

    public int count(int what) {
        switch (what) {
            case 0: return gang.count;
            case 1: return bench.count;
            case 2: return now.day;
            case 3: return theEnd;
            case 4: return now.thoseWho(SILENT);
            case 5: return now.thoseWho(PLEADED);
            case 6: return now.thoseWho(DEAD);
            case 7: return now.thoseWho(FREED);
            case 8: return now.thoseWho(CONVICTED);
            case 9: return now.thoseWho(LEFT_OVER);
            case 10: return gang.allGoods();
            case 11: return past.count;
            case 12: return told.count;
            case 13: return text.length;
            default: return NONE;
        }
    }

    public long row(int i) throws NoSuchElementException {
        if (i < 0 || i >= told.count) {
            throw new NoSuchElementException("the row has no such number");
        }
        return told.numbers[i];
    }

    // ---- helpers

    private boolean isThere(int prisoner) {
        return prisoner >= 0 && prisoner < gang.count;
    }

    private int doneBy(int answer) {
        if (answer >= 0) {
            past.seal();
        }
        return answer;
    }

    /** What was noted ahead of new PRISONERS or WITNESSES does not know them. */
    private void forgetWhatWas() {
        past.forget();
        for (int i = 0; i < KEPT; i++) {
            isKept[i] = false;
        }
    }

    private static int fearOnSheet(int kind, int entry) {
        int fear = entry;
        if (kind == 0) {
            fear = (byte) entry;
        } else if (kind == 1) {
            fear = (short) entry;
        }
        return Math.max(0, Math.min(99, fear));
    }

    private static int diedOf(int gone) {
        return gone & 255;
    }

    private static int overOf(int gone) {
        return gone >> 8;
    }

    /** DAYS from today on that are ahead of THE END: many, if that is not to come. */
    private int daysLeft() {
        return theEnd > now.day ? theEnd - now.day : 1000;
    }

    private int leastStones(int p) {
        if (!now.isSilent(p)) {
            return NONE;
        }
        for (int w = 0; w <= HEAVIEST_STONES; w += 10) {
            if (now.pleadsIn(p, w, theEnd) >= 0) {
                return w;
            }
        }
        return NONE;
    }

    private int stonesOnOne(int p, int some) {
        return (some >> p & 1) == 0 ? 0 : needs[p];
    }

    /** What lies on some in all; NONE, if one of them speaks under nothing. */
    private int stonesOn(int some) {
        int sum = 0;
        for (int p = 0; p < gang.count; p++) {
            if (stonesOnOne(p, some) < 0) {
                return NONE;
            }
            sum += stonesOnOne(p, some);
        }
        return sum;
    }

    private boolean isBetterLaid(int some, int than) {
        int more = Integer.bitCount(some) - Integer.bitCount(than);
        int heavier = stonesOn(some) - stonesOn(than);
        if (more != 0 || heavier != 0) {
            return more > 0 || more == 0 && heavier < 0;
        }
        for (int p = 0; p < gang.count; p++) {
            int difference = stonesOnOne(p, some) - stonesOnOne(p, than);
            if (difference != 0) {
                return difference < 0;
            }
        }
        return false;
    }

    private void tellTurns() {
        told.clear();
        for (int k = 0; k < turns.bestLength; k++) {
            told.add(turns.best[k]);
        }
    }

    /** VALUES of GOODS of ended ones that fall to whom by a law; of HEIRS to that one alone. */
    private int fallsTo(int[] law, int whom, int heir) {
        int sum = 0;
        for (int p = 0; p < gang.count; p++) {
            int ending = now.state[p] - DEAD;
            boolean isHis = whom != TO_HEIR || gang.heir[p] == heir;
            if (ending >= 0 && ending < law.length && law[ending] == whom && isHis) {
                sum += estate.worthOf(gang.goods[p]);
            }
        }
        return sum;
    }

    private static boolean isTenths(int part) {
        return part >= 0 && part <= 10;
    }

    /** By tenths to the power of n + 1, as likelyMute(): that he is dumb. */
    private static long likelyDumb(int q, int n) {
        return q * power(10, n);
    }

    /** That he says nothing n times, dumb or stubborn. */
    private static long likelyMute(int q, int p, int n) {
        return likelyDumb(q, n) + (10 - q) * power(10 - p, n);
    }

    private static long power(int base, int n) {
        long product = 1;
        for (int k = 0; k < n; k++) {
            product *= base;
        }
        return product;
    }

    private static long commonDivisor(long one, long other) {
        long a = one;
        long b = other;
        for (int k = 0; k < 200 && b != 0; k++) {
            long rest = a % b;
            a = b;
            b = rest;
        }
        return a;
    }

    private boolean isSuchPart(int part, int goods, int v) {
        return (part & ~goods) == 0 && estate.worthOf(part) == v;
    }

    private int partsWith(int goods, int asked, int v) {
        int count = 0;
        for (int part = 0; part < 1 << KINDS_OF_GOODS; part++) {
            if ((part & asked) == asked && isSuchPart(part, goods, v)) {
                count++;
            }
        }
        return count;
    }

    private static boolean isAtRest(int threat, int holds, int v, int c) {
        int judgeHas = ofJudge(threat, holds, v, c);
        int prisonerHas = ofPrisoner(threat, holds, v, c);
        for (int other = 0; other < 10; other++) {
            if (ofJudge(other, holds, v, c) > judgeHas
                    || ofPrisoner(threat, other, v, c) > prisonerHas) {
                return false;
            }
        }
        return true;
    }

    private static int ofJudge(int threat, int holds, int v, int c) {
        return (holds < threat ? v : 0) - c * threat;
    }

    private static int ofPrisoner(int threat, int holds, int v, int c) {
        return (holds >= threat ? v : 0) - c * holds;
    }

    private static int stirred(int random) {
        return random * 1103515245 + 12345;
    }

    private static int drawn(int random, int n) {
        return n < 1 ? 0 : (random >>> 16) % n;
    }

    /** The ROW. */
    private static final class Row {
        final long[] numbers = new long[8];
        int count = 0;

        void clear() {
            count = 0;
        }

        void add(long number) {
            if (count < numbers.length) {
                numbers[count] = number;
                count++;
            }
        }

        void tell(long first) {
            clear();
            add(first);
        }

        void tell(long first, long second) {
            tell(first);
            add(second);
        }

        void tell(long first, long second, long third) {
            tell(first, second);
            add(third);
        }
    }

    /** THE TEXT, and where a reading of it stands. */
    private static final class Text {
        static final int ROOM = 80;
        final char[] signs = new char[ROOM];
        int length = 0;
        private int at = 0;
        private int stop = 0;

        int add(int v) {
            if (length + 4 > ROOM) {
                return NONE;
            }
            for (int shift = 24; shift >= 0; shift -= 8) {
                signs[length] = (char) (v >>> shift & 255);
                length++;
            }
            return length;
        }

        boolean cut(int n) {
            if (n < 0 || n > length) {
                return false;
            }
            length = n;
            return true;
        }

        void empty() {
            length = 0;
        }

        void open(int most) {
            at = 0;
            stop = Math.min(length, most);
        }

        /** False also at the most signs of a text that has more: the next one is the wrong one. */
        boolean isRead() {
            return at == length;
        }

        int wrong() {
            return -1 - at;
        }

        void back() {
            at = Math.max(0, at - 1);
        }

        boolean takes(char sign) {
            if (at >= stop || signs[at] != sign) {
                return false;
            }
            at++;
            return true;
        }

        /** Which of these signs comes next; NONE stays where it is. */
        int takesOneOf(String these) {
            if (at >= stop) {
                return NONE;
            }
            int which = these.indexOf(signs[at]);
            if (which >= 0) {
                at++;
            }
            return which;
        }

        int digit(int below) {
            if (at >= stop || signs[at] < '0' || signs[at] - '0' >= below) {
                return NONE;
            }
            int digit = signs[at] - '0';
            at++;
            return digit;
        }

        /** A number of 1 to so many digits. */
        int number(int digits) {
            int number = digit(10);
            int next = number;
            for (int k = 1; k < digits && next >= 0; k++) {
                next = digit(10);
                number = next < 0 ? number : number * 10 + next;
            }
            return number;
        }
    }

    /** What is told by a text of lines with ; between. */
    private abstract static class Lines {
        /** Reads line n (0 ..) of a text; false: the text stands at the wrong sign. */
        abstract boolean readsOne(Text text, int n);

        /** How many lines, or -1 - p. What they tell is left behind what is known already. */
        final int readAll(Text text, int most) {
            text.open(most);
            if (text.isRead()) {
                return 0;
            }
            for (int n = 0; n < Text.ROOM; n++) {
                if (!readsOne(text, n)) {
                    return text.wrong();
                }
                if (text.isRead()) {
                    return n + 1;
                }
                if (!text.takes(';')) {
                    return text.wrong();
                }
            }
            return text.wrong();
        }
    }

    /** What of PRISONERS stays as it was told. */
    private static final class Gang extends Lines {
        final int[] bears = new int[MOST_PRISONERS];
        final int[] fear = new int[MOST_PRISONERS];
        final boolean[] isDumb = new boolean[MOST_PRISONERS];
        final int[] heir = new int[MOST_PRISONERS];
        final int[] goods = new int[MOST_PRISONERS];
        int count = 0;
        private int taken = 0;

        boolean readsOne(Text text, int n) {
            int slot = count + n;
            if (slot < 0 || slot >= MOST_PRISONERS) {
                return false;
            }
            taken = n == 0 ? allGoods() : taken;
            return readsMan(text, slot) && readsRest(text, slot);
        }

        private boolean readsMan(Text text, int slot) {
            bears[slot] = text.number(2);
            if (bears[slot] == 0) {
                text.back();
            }
            if (bears[slot] <= 0 || !text.takes(',')) {
                return false;
            }
            fear[slot] = text.number(2);
            return fear[slot] >= 0;
        }

        private boolean readsRest(Text text, int slot) {
            int voice = text.takesOneOf("-+");
            if (voice < 0) {
                return false;
            }
            isDumb[slot] = voice == 0;
            heir[slot] = text.digit(HEIRS);
            if (heir[slot] < 0) {
                return false;
            }
            goods[slot] = readGoods(text);
            taken |= goods[slot];
            return true;
        }

        private int readGoods(Text text) {
            int mine = 0;
            for (int g = 0; g < KINDS_OF_GOODS; g++) {
                if ((taken >> g & 1) == 0 && text.takes((char) ('a' + g))) {
                    mine |= 1 << g;
                }
            }
            return mine;
        }

        int allGoods() {
            int all = 0;
            for (int p = 0; p < count; p++) {
                all |= goods[p];
            }
            return all;
        }
    }

    /** What of WITNESSES stays as it was told, and WORD as it was told. */
    private static final class Bench extends Lines {
        final int[] against = new int[MOST_WITNESSES];
        final int[] said = new int[MOST_WITNESSES];
        final int[] fades = new int[MOST_WITNESSES];
        int count = 0;
        private final Gang gang;

        Bench(Gang gang) {
            this.gang = gang;
        }

        boolean readsOne(Text text, int n) {
            int slot = count + n;
            if (slot < 0 || slot >= MOST_WITNESSES) {
                return false;
            }
            against[slot] = text.digit(gang.count);
            if (against[slot] < 0 || !text.takes(',')) {
                return false;
            }
            said[slot] = text.number(2);
            if (said[slot] < 0 || !text.takes(',')) {
                return false;
            }
            fades[slot] = text.digit(10);
            return fades[slot] >= 0;
        }
    }

    /** ACTS of AN ASSIZE. */
    private static final class Acts extends Lines {
        static final int LAY = 0;
        static final int TAKE_OFF = 1;
        static final int ASK = 2;
        static final int JUDGE = 3;
        static final int NIGHTS = 4;
        private static final String LETTERS = "loajn";
        // 60 signs have room for no more
        private static final int MOST = 20;

        final int[] kind = new int[MOST];
        final int[] who = new int[MOST];
        final int[] much = new int[MOST];

        boolean readsOne(Text text, int n) {
            if (n < 0 || n >= MOST) {
                return false;
            }
            kind[n] = text.takesOneOf(LETTERS);
            if (kind[n] < 0) {
                return false;
            }
            who[n] = kind[n] == NIGHTS ? 0 : text.digit(10);
            if (who[n] < 0) {
                return false;
            }
            boolean hasNumber = kind[n] != ASK && kind[n] != JUDGE;
            much[n] = hasNumber ? text.number(2) : 0;
            return much[n] >= 0;
        }
    }

    /** THE RULE, as a row of steps on a pile of numbers. */
    private static final class Rule {
        private static final int MOST = 40;
        private static final int DEEPEST = 4;
        private static final String THINGS = "bwdnfi";
        // a step below this puts that number on the pile; then come things, then what is done
        private static final int FIRST_THING = 1000;
        private static final int FIRST_DEED = 2000;
        private static final int LESS = 0;
        private static final int MORE = 1;
        private static final int SAME = 2;
        private static final int ADD = 3;
        private static final int SUBTRACT = 4;
        private static final int TIMES = 5;
        private static final int DIVIDE = 6;
        private static final int NEGATE = 7;

        private final int[] steps = new int[MOST];
        private int length = 0;
        private final int[] draft = new int[MOST];
        private int drafted = 0;
        private final int[] things = new int[THINGS.length()];
        private final int[] pile = new int[MOST];

        /** 0, or -1 - p. */
        int read(Text text) {
            text.open(MOST);
            drafted = 0;
            if (!text.isRead() && !(readsExpression(text, 0) && text.isRead())) {
                return text.wrong();
            }
            System.arraycopy(draft, 0, steps, 0, drafted);
            length = drafted;
            return 0;
        }

        private boolean readsExpression(Text text, int depth) {
            if (!readsSum(text, depth)) {
                return false;
            }
            int deed = text.takesOneOf("<>=");
            if (deed < 0) {
                return true;
            }
            return readsSum(text, depth) && drafts(FIRST_DEED + LESS + deed);
        }

        private boolean readsSum(Text text, int depth) {
            boolean isFine = readsProduct(text, depth);
            int deed = isFine ? text.takesOneOf("+-") : NONE;
            for (int k = 0; k < MOST && deed >= 0; k++) {
                isFine = readsProduct(text, depth) && drafts(FIRST_DEED + ADD + deed);
                deed = isFine ? text.takesOneOf("+-") : NONE;
            }
            return isFine;
        }

        private boolean readsProduct(Text text, int depth) {
            boolean isFine = readsSigned(text, depth);
            int deed = isFine ? text.takesOneOf("*/") : NONE;
            for (int k = 0; k < MOST && deed >= 0; k++) {
                isFine = readsSigned(text, depth) && drafts(FIRST_DEED + TIMES + deed);
                deed = isFine ? text.takesOneOf("*/") : NONE;
            }
            return isFine;
        }

        private boolean readsSigned(Text text, int depth) {
            int minuses = 0;
            while (minuses < MOST && text.takes('-')) {
                minuses++;
            }
            boolean isFine = readsThing(text, depth);
            for (int k = 0; k < minuses && isFine; k++) {
                isFine = drafts(FIRST_DEED + NEGATE);
            }
            return isFine;
        }

        private boolean readsThing(Text text, int depth) {
            int number = text.number(3);
            if (number >= 0) {
                return drafts(number);
            }
            int thing = text.takesOneOf(THINGS);
            if (thing >= 0) {
                return drafts(FIRST_THING + thing);
            }
            if (depth >= DEEPEST || !text.takes('(')) {
                return false;
            }
            return readsExpression(text, depth + 1) && text.takes(')');
        }

        private boolean drafts(int step) {
            if (drafted >= MOST) {
                return false;
            }
            draft[drafted] = step;
            drafted++;
            return true;
        }

        /** What the rule says of one, with things in the order of THINGS. */
        int worth(int bears, int laid, int borne, int water, int fear, int number) {
            if (length == 0) {
                return bears - laid - borne * 5 - water * 4;
            }
            things[0] = bears;
            things[1] = laid;
            things[2] = borne;
            things[3] = water;
            things[4] = fear;
            things[5] = number;
            int height = 0;
            for (int k = 0; k < length && height < MOST; k++) {
                int step = steps[k];
                int thing = step - FIRST_THING;
                if (step < FIRST_THING) {
                    pile[height] = step;
                    height++;
                } else if (thing < things.length) {
                    pile[height] = things[thing];
                    height++;
                } else if (step == FIRST_DEED + NEGATE && height > 0) {
                    pile[height - 1] = -pile[height - 1];
                } else if (height > 1) {
                    height--;
                    int deed = step - FIRST_DEED;
                    pile[height - 1] = joined(deed, pile[height - 1], pile[height]);
                }
            }
            return pile[0];
        }

        private static int joined(int deed, int first, int second) {
            switch (deed) {
                case LESS: return first < second ? 1 : 0;
                case MORE: return first > second ? 1 : 0;
                case SAME: return first == second ? 1 : 0;
                case ADD: return first + second;
                case SUBTRACT: return first - second;
                case TIMES: return first * second;
                case DIVIDE: return second == 0 ? 0 : first / second;
                default: return 0;
            }
        }
    }

    /** VALUES and THE LAW. */
    private static final class Estate {
        private static final String LETTERS = "hks";

        final int[] law = {TO_HEIR, TO_HIMSELF, TO_KING, TO_HEIR};
        /** Another law: as it was read, or as a reading tells it. */
        final int[] otherLaw = new int[ENDINGS];
        private final int[] values = {10, 10, 10, 10, 10, 10, 10, 10};
        private final int[] draft = new int[KINDS_OF_GOODS];
        private final Gang gang;

        Estate(Gang gang) {
            this.gang = gang;
        }

        /** Their sum, or -1 - p. */
        int readValues(Text text) {
            text.open(Text.ROOM);
            int sum = 0;
            for (int g = 0; g < KINDS_OF_GOODS; g++) {
                if (g > 0 && !text.takes(',')) {
                    return text.wrong();
                }
                draft[g] = text.number(2);
                if (draft[g] < 0) {
                    return text.wrong();
                }
                sum += draft[g];
            }
            if (!text.isRead()) {
                return text.wrong();
            }
            System.arraycopy(draft, 0, values, 0, KINDS_OF_GOODS);
            return sum;
        }

        /** Reads another law: how many endings are the king's, or -1 - p. */
        int readLaw(Text text) {
            text.open(Text.ROOM);
            int kings = 0;
            for (int ending = 0; ending < ENDINGS; ending++) {
                otherLaw[ending] = text.takesOneOf(LETTERS);
                if (otherLaw[ending] < 0) {
                    return text.wrong();
                }
                kings += otherLaw[ending] == TO_KING ? 1 : 0;
            }
            return text.isRead() ? kings : text.wrong();
        }

        void enact() {
            System.arraycopy(otherLaw, 0, law, 0, ENDINGS);
        }

        void tellReading(int number) {
            int rest = number;
            for (int ending = ENDINGS - 1; ending >= 0; ending--) {
                otherLaw[ending] = rest % 3;
                rest /= 3;
            }
        }

        int changedEndings() {
            int changed = 0;
            for (int ending = 0; ending < ENDINGS; ending++) {
                changed += otherLaw[ending] == law[ending] ? 0 : 1;
            }
            return changed;
        }

        int worthOf(int goods) {
            int sum = 0;
            for (int g = 0; g < KINDS_OF_GOODS; g++) {
                sum += (goods >> g & 1) == 0 ? 0 : values[g];
            }
            return sum;
        }

        /** What whom has of GOODS of a PRISONER by THE LAW, if he ends so. */
        int has(int p, int state, int whom) {
            int ending = state - DEAD;
            boolean isHis = ending >= 0 && ending < ENDINGS && law[ending] == whom;
            return isHis ? worthOf(gang.goods[p]) : 0;
        }

        int heAndHeir(int p, int state) {
            return has(p, state, TO_HEIR) + has(p, state, TO_HIMSELF);
        }
    }

    /** DAY, what PRISONERS are, LAID, BORNE, WORDS: what acts and NIGHTS change. */
    private static final class Hall {
        final int[] state = new int[MOST_PRISONERS];
        final int[] laid = new int[MOST_PRISONERS];
        final int[] borne = new int[MOST_PRISONERS];
        final int[] word = new int[MOST_WITNESSES];
        int day = 0;
        /** How often somebody pleaded since this was taken from another hall. */
        int pleas = 0;
        private final Gang gang;
        private final Bench bench;
        private final Rule rule;

        Hall(Gang gang, Bench bench, Rule rule) {
            this.gang = gang;
            this.bench = bench;
            this.rule = rule;
        }

        void take(Hall other) {
            System.arraycopy(other.state, 0, state, 0, MOST_PRISONERS);
            System.arraycopy(other.laid, 0, laid, 0, MOST_PRISONERS);
            System.arraycopy(other.borne, 0, borne, 0, MOST_PRISONERS);
            System.arraycopy(other.word, 0, word, 0, MOST_WITNESSES);
            day = other.day;
            pleas = 0;
        }

        void receive(int from, int to) {
            for (int p = from; p < to && p < MOST_PRISONERS; p++) {
                state[p] = SILENT;
                laid[p] = 0;
                borne[p] = 0;
            }
        }

        void hear(int from, int to) {
            for (int k = from; k < to && k < MOST_WITNESSES; k++) {
                word[k] = bench.said[k];
            }
        }

        private boolean has(int p) {
            return p >= 0 && p < gang.count;
        }

        boolean isSilent(int p) {
            return state[p] == SILENT;
        }

        int thoseWho(int are) {
            int bits = 0;
            for (int p = 0; p < gang.count; p++) {
                bits |= state[p] == are ? 1 << p : 0;
            }
            return bits;
        }

        int layOn(int p, int n) {
            if (!has(p) || n == 0 || n < -50 || n > 50) {
                return NONE;
            }
            if (!isSilent(p)) {
                return CANNOT;
            }
            laid[p] = Math.max(0, Math.min(MOST_WEIGHT, laid[p] + n));
            return laid[p];
        }

        int askOf(int p) {
            if (!has(p)) {
                return NONE;
            }
            if (!isSilent(p)) {
                return CANNOT;
            }
            if (gang.isDumb[p] || leftNow(p) > gang.fear[p]) {
                return 0;
            }
            state[p] = PLEADED;
            laid[p] = 0;
            pleas++;
            return 1;
        }

        int tryNow(int p) {
            if (!has(p)) {
                return NONE;
            }
            if (state[p] != PLEADED) {
                return CANNOT;
            }
            state[p] = verdictIn(p, 0);
            return state[p];
        }

        int perform(Acts acts, int k, int theEnd) {
            if (k < 0 || k >= acts.kind.length) {
                return NONE;
            }
            int who = acts.who[k];
            int much = acts.much[k];
            switch (acts.kind[k]) {
                case Acts.LAY: return layOn(who, much);
                case Acts.TAKE_OFF: return layOn(who, -much);
                case Acts.ASK: return askOf(who);
                case Acts.JUDGE: return tryNow(who);
                default: break;
            }
            if (much > MOST_NIGHTS) {
                return NONE;
            }
            pass(much, theEnd);
            return day;
        }

        void performDrawn(int who, int what) {
            switch (what) {
                case 0: layOn(who, 10); break;
                case 1: layOn(who, -10); break;
                case 2: askOf(who); break;
                default: tryNow(who); break;
            }
        }

        /** n NIGHTS: the bits of those who died, and those who are LEFT OVER 8 bits higher. */
        int pass(int n, int theEnd) {
            int gone = 0;
            for (int k = 0; k < n; k++) {
                gone |= night(theEnd);
            }
            return gone;
        }

        int night(int theEnd) {
            int gone = 0;
            for (int p = 0; p < gang.count; p++) {
                if (isSilent(p) && laid[p] > 0) {
                    borne[p]++;
                    if (leftWith(p, laid[p], borne[p], day) <= 0) {
                        state[p] = DEAD;
                        gone |= 1 << p;
                    }
                }
            }
            for (int k = 0; k < bench.count; k++) {
                word[k] = Math.max(0, word[k] - bench.fades[k]);
            }
            day++;
            return day == theEnd ? gone | leaveOver() << 8 : gone;
        }

        private int leaveOver() {
            int over = 0;
            for (int p = 0; p < gang.count; p++) {
                if (state[p] == SILENT || state[p] == PLEADED) {
                    state[p] = LEFT_OVER;
                    over |= 1 << p;
                }
            }
            return over;
        }

        private int leftWith(int p, int w, int d, int onDay) {
            int much = rule.worth(gang.bears[p], w, d, onDay & 1, gang.fear[p], p);
            return Math.max(-999, Math.min(999, much));
        }

        int leftNow(int p) {
            return leftWith(p, laid[p], borne[p], day);
        }

        /** LEFT behind n NIGHTS under w. */
        int leftIn(int p, int w, int n) {
            return leftWith(p, w, w > 0 ? borne[p] + n : borne[p], day + n);
        }

        /** LEFT in NIGHT n (1 ..) under w, when it is looked whether he dies: it is not DAY yet. */
        int leftDying(int p, int w, int n) {
            return leftWith(p, w, borne[p] + n, day + n - 1);
        }

        /** In which of so many NIGHTS he dies under w; NEVER, if in none, or THE END comes first. */
        int diesIn(int p, int w, int most, int theEnd) {
            if (w <= 0) {
                return NEVER;
            }
            for (int n = 1; n <= most; n++) {
                if (leftDying(p, w, n) <= 0) {
                    return n;
                }
                if (day + n == theEnd) {
                    return NEVER;
                }
            }
            return NEVER;
        }

        /** In how many NIGHTS he pleads under w, asked ahead of each. */
        int pleadsIn(int p, int w, int theEnd) {
            if (gang.isDumb[p]) {
                return NEVER;
            }
            for (int n = 0; n <= MOST_NIGHTS; n++) {
                if (leftIn(p, w, n) <= gang.fear[p]) {
                    return n;
                }
                boolean dies = w > 0 && leftDying(p, w, n + 1) <= 0;
                if (dies || day + n + 1 == theEnd) {
                    return NEVER;
                }
            }
            return NEVER;
        }

        int proofIn(int p, int n) {
            int sum = 0;
            for (int k = 0; k < bench.count; k++) {
                sum += bench.against[k] == p ? wordIn(k, n) : 0;
            }
            return sum;
        }

        /** How many WITNESSES against him have a WORD yet. */
        int speakersIn(int p, int n) {
            int count = 0;
            for (int k = 0; k < bench.count; k++) {
                count += bench.against[k] == p && wordIn(k, n) > 0 ? 1 : 0;
            }
            return count;
        }

        private int wordIn(int k, int n) {
            return Math.max(0, word[k] - bench.fades[k] * n);
        }

        int verdictIn(int p, int n) {
            return proofIn(p, n) >= ENOUGH_PROOF ? CONVICTED : FREED;
        }

        int lackIn(int p, int n) {
            return Math.max(0, ENOUGH_PROOF - proofIn(p, n));
        }
    }

    /** Halls as they were ahead of the latest acts. */
    private static final class Past {
        private static final int MOST = 12;
        // one more, for a hall that is noted while it is not sure that the act can be done
        private static final int SLOTS = 13;

        private final Hall[] halls = new Hall[SLOTS];
        private int next = 0;
        int count = 0;

        Past(Gang gang, Bench bench, Rule rule) {
            for (int k = 0; k < SLOTS; k++) {
                halls[k] = new Hall(gang, bench, rule);
            }
        }

        void note(Hall hall) {
            halls[next].take(hall);
        }

        void seal() {
            next = (next + 1) % SLOTS;
            count = Math.min(MOST, count + 1);
        }

        boolean restore(Hall hall) {
            if (count == 0) {
                return false;
            }
            next = (next + SLOTS - 1) % SLOTS;
            count--;
            hall.take(halls[next]);
            return true;
        }

        void forget() {
            count = 0;
        }
    }

    /** Which trials in turn are best, one each DAY from today on. */
    private static final class Turns {
        final int[] best = new int[MOST_PRISONERS];
        int bestLength = 0;
        int bestWorth = 0;
        private final int[] turn = new int[MOST_PRISONERS];
        private int days = 0;
        private boolean isForKing = false;
        private final Hall hall;
        private final Estate estate;

        Turns(Hall hall, Estate estate) {
            this.hall = hall;
            this.estate = estate;
        }

        void findMostConvicted(int daysLeft) {
            isForKing = false;
            find(daysLeft, 0);
        }

        void findMostForKing(int daysLeft) {
            isForKing = true;
            int untried = 0;
            for (int p = 0; p < MOST_PRISONERS; p++) {
                untried += isPleaded(p) ? estate.has(p, LEFT_OVER, TO_KING) : 0;
            }
            find(daysLeft, untried);
        }

        private void find(int daysLeft, int worthUntried) {
            days = Math.min(daysLeft, MOST_PRISONERS);
            bestLength = 0;
            bestWorth = worthUntried;
            goOn(0, 0, worthUntried);
        }

        private boolean isPleaded(int p) {
            return hall.state[p] == PLEADED;
        }

        /** Goes through all turns, the least rows first: of equal ones the first found stays. */
        private void goOn(int length, int used, int worth) {
            if (worth > bestWorth || worth == bestWorth && length < bestLength) {
                System.arraycopy(turn, 0, best, 0, length);
                bestLength = length;
                bestWorth = worth;
            }
            if (length >= days || length >= MOST_PRISONERS) {
                return;
            }
            for (int p = 0; p < MOST_PRISONERS; p++) {
                boolean isFree = isPleaded(p) && (used >> p & 1) == 0;
                int verdict = isFree ? hall.verdictIn(p, length) : FREED;
                if (isFree && (isForKing || verdict == CONVICTED)) {
                    turn[length] = p;
                    goOn(length + 1, used | 1 << p, worth + gainOf(p, verdict));
                }
            }
        }

        private int gainOf(int p, int verdict) {
            if (!isForKing) {
                return 1;
            }
            return estate.has(p, verdict, TO_KING) - estate.has(p, LEFT_OVER, TO_KING);
        }
    }
}
