import java.util.function.IntFunction;
import java.util.function.ToLongFunction;

/** One court with a prisoner in each state, and everything that can be seen of it. */
final class Court {
    static final int LEFT_OVER = 0;
    static final int SILENT = 1;
    static final int PLEADED = 2;
    static final int DEAD = 3;
    static final int FREED = 4;
    static final int CONVICTED = 5;
    static final int[] NOT_SILENT = {LEFT_OVER, PLEADED, DEAD, FREED, CONVICTED};
    static final int[] NOT_PLEADED = {LEFT_OVER, SILENT, DEAD, FREED, CONVICTED};
    static final int[] NONE_SUCH = {-1, 6, Integer.MIN_VALUE, Integer.MAX_VALUE};

    private Court() {
    }

    /** On DAY 2 of 20, with 9 acts to undo, both numbers kept, a ROW of two, and no text. */
    static HeWillNotPlead withoutText() {
        HeWillNotPlead x = Check.with("50,5+0a", "");
        x.ends(1);
        x.nights(1);
        x.ends(20);
        Check.put(x, "40,15+1b;30,99+2c;10,0-3d;20,99+0e;20,99+1fgh").prisoners();
        Check.put(x, "1,60,5;5,90,0;5,10,0;4,99,0;2,70,1;2,50,1").witnesses();
        Check.put(x, "1,2,4,8,16,32,64,99").values();
        x.keep(0);
        x.lay(DEAD, 10);
        x.ask(PLEADED);
        x.ask(FREED);
        x.judge(FREED);
        x.ask(CONVICTED);
        x.judge(CONVICTED);
        x.nights(1);
        x.lay(SILENT, 10);
        x.keep(1);
        x.lay(SILENT, 5);
        x.dumb(5, 5, 1);
        return x;
    }

    /** The same, and a text that could be a law. */
    static HeWillNotPlead make() {
        return Check.put(withoutText(), "kskk");
    }

    /** The call answers so, and nothing is seen of it. */
    static void refuses(String what, ToLongFunction<HeWillNotPlead> call, long want) {
        HeWillNotPlead x = make();
        Check.due(what, call.applyAsLong(x), want);
        Check.same(what + " changes nothing", everything(x), everything(make()));
    }

    /** The call reads a text that can't be, answers so, and nothing is seen of it but that the text is gone. */
    static void refusesText(String text, ToLongFunction<HeWillNotPlead> call, long want) {
        HeWillNotPlead x = Check.put(withoutText(), text);
        Check.due("'" + text + "'", call.applyAsLong(x), want);
        Check.due("'" + text + "' is emptied", x.count(13), 0);
        Check.same("'" + text + "' changes nothing", everything(x), everything(withoutText()));
    }

    /** The call throws NoSuchElementException, and nothing is seen of it. */
    static void throwsFor(String what, ToLongFunction<HeWillNotPlead> call) {
        refuses(what, x -> Check.orThrows(() -> call.applyAsLong(x)), Check.THROWS);
    }

    /** The call is a question: nothing but the ROW is another. */
    static void asksOnly(String what, ToLongFunction<HeWillNotPlead> call) {
        HeWillNotPlead x = make();
        call.applyAsLong(x);
        Check.same(what + " changes nothing", everythingButRow(x), everythingButRow(make()));
    }

    /** Refused for each who is not SILENT. */
    static void notSilent(IntFunction<ToLongFunction<HeWillNotPlead>> call, long want) {
        for (int p : NOT_SILENT) {
            refuses("of " + p, call.apply(p), want);
        }
    }

    /** Refused for each who is not there. */
    static void noneSuch(IntFunction<ToLongFunction<HeWillNotPlead>> call) {
        for (int p : NONE_SUCH) {
            refuses("of " + p, call.apply(p), -1);
        }
    }

    /** Refused for the last number below those that are right, the first above, and the very ends. */
    static void others(IntFunction<ToLongFunction<HeWillNotPlead>> call, int below, int above) {
        for (int n : new int[] {below, above, Integer.MIN_VALUE, Integer.MAX_VALUE}) {
            refuses("for " + n, call.apply(n), -1);
        }
    }

    static String everything(HeWillNotPlead x) {
        return row(x) + everythingButRow(x);
    }

    private static String everythingButRow(HeWillNotPlead x) {
        StringBuilder all = new StringBuilder(Check.facts(x));
        all.append(x.count(11)).append(' ').append(x.count(13));
        all.append(" LAW ").append(x.parts()).append(row(x));
        for (int heir = 0; heir < 4; heir++) {
            all.append(x.hopes(heir)).append(row(x)).append(x.wants(heir)).append(' ');
        }
        all.append("RULE");
        int prisoners = x.count(0);
        for (int p = 0; p < prisoners; p++) {
            all.append(' ').append(x.left(p, 3)).append(' ').append(x.speaks(p, 33));
        }
        all.append(" UNDONE");
        for (int left = x.undo(); left >= 0; left = x.undo()) {
            all.append(' ').append(left).append(':').append(changing(x));
        }
        for (int i = 0; i < 2; i++) {
            all.append(" KEPT ").append(x.again(i)).append(changing(x));
        }
        // what the signs are, if they could be a law
        return all.append(" TEXT ").append(x.law()).toString();
    }

    private static String row(HeWillNotPlead x) {
        StringBuilder row = new StringBuilder(" [");
        int numbers = x.count(12);
        for (int i = 0; i < numbers; i++) {
            row.append(x.row(i)).append(' ');
        }
        return row.append("] ").toString();
    }

    /** DAY, what PRISONERS are, LAID and BORNE, WORD of the first WITNESS; few calls, as an object has 512. */
    private static String changing(HeWillNotPlead x) {
        StringBuilder all = new StringBuilder();
        all.append(x.count(2));
        for (int are = 4; are <= 9; are++) {
            all.append('/').append(x.count(are));
        }
        int prisoners = x.count(0);
        for (int p = 0; p < prisoners; p++) {
            all.append(',').append(x.prisoner(p, 6)).append('/').append(x.prisoner(p, 7));
        }
        return all.append(',').append(x.count(1) == 0 ? 0 : x.witness(0, 1)).toString();
    }
}
