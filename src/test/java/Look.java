import java.util.ArrayList;
import java.util.List;

/**
 * All that can be asked of an object, as a row of answers: two objects made by the same calls show alike.
 * Each call that is looked at gets objects of its own, so that none is asked more than 512 times.
 */
final class Look {
    interface Maker {
        OnceVolume make();
    }

    interface Ask {
        long of(OnceVolume x);
    }

    private final OnceVolume x;
    private final List<String> row = new ArrayList<>();

    private Look(OnceVolume x) {
        this.x = x;
    }

    /** A call that is refused: NONE (or false, 0), and STATUS 1 is one more; all else stays. */
    static void refused(String call, Maker maker, Ask ask) {
        same(call, -1, 1, maker, ask);
    }

    static void refusedFalse(String call, Maker maker, Ask ask) {
        same(call, 0, 1, maker, ask);
    }

    /** A call that asks: it answers that, and all stays. */
    static void answers(String call, long want, Maker maker, Ask ask) {
        same(call, want, 0, maker, ask);
    }

    static void noSuch(String call, Maker maker, Ask ask) {
        same(call, Check.NO_SUCH, 0, maker, ask);
    }

    static void illegal(String call, Maker maker, Ask ask) {
        same(call, Check.ILLEGAL, 0, maker, ask);
    }

    private static void same(String call, long want, int refused, Maker maker, Ask ask) {
        OnceVolume asked = maker.make();
        OnceVolume left = maker.make();
        int status = left.count(20) + refused;
        Check.due(call, want, Check.answerOf(() -> ask.of(asked)));
        Check.due(call + " STATUS 1", status, asked.count(20));
        alike("behind " + call, left, asked);
    }

    /** Two objects show alike, but for STATUS 1. */
    static void alike(String what, OnceVolume want, OnceVolume got) {
        List<String> due = of(want);
        List<String> there = of(got);
        Check.due(what + ": as many answers", due.size(), there.size());
        for (int i = 0; i < Math.min(due.size(), there.size()); i++) {
            if (!due.get(i).equals(there.get(i))) {
                Check.due(what + ": " + there.get(i) + " is not " + due.get(i), true, false);
                return;
            }
        }
    }

    private static List<String> of(OnceVolume x) {
        Look look = new Look(x);
        look.counts("");
        look.blocks();
        look.files();
        look.history();
        look.forecasts();
        look.acts();
        look.image();
        return look.row;
    }

    private void see(String call, Check.Call c) {
        row.add(call + " = " + Check.show(Check.answerOf(c)));
    }

    private void counts(String when) {
        for (int what = 0; what < 20; what++) {
            int of = what;
            see(when + "count(" + what + ")", () -> x.count(of));
        }
        see(when + "fault()", x::fault);
    }

    private void blocks() {
        int head = x.count(4);
        for (int block = 0; block <= head && block < x.count(0); block++) {
            int at = block;
            see("block(" + block + ", 0)", () -> x.block(at, 0));
            see("tells(" + block + ", 0)", () -> x.tells(at, 0));
        }
        int map = x.count(9);
        for (int i = 0; i < 15 && map >= 0; i++) {
            int of = i;
            see("tells(" + map + ", " + i + ")", () -> x.tells(map, of));
        }
    }

    private void files() {
        for (int name = 0; name < 12; name++) {
            int of = name;
            see("file(" + name + ", 1)", () -> x.file(of, 1));
            if (Check.answerOf(() -> x.file(of, 0)) < 0) {
                continue;
            }
            see("file(" + name + ", 2)", () -> x.file(of, 2));
            see("file(" + name + ", 3)", () -> x.file(of, 3));
            for (int cell = 0; cell <= x.file(name, 0); cell++) {
                int at = cell;
                see("read(" + name + ", " + cell + ")", () -> x.read(of, at));
            }
        }
    }

    private void history() {
        int maps = x.count(12);
        for (int k = 0; k < maps && k < 3; k++) {
            int by = k;
            see("alike(" + k + ")", () -> x.alike(by));
            for (int name = 0; name < 12; name += 3) {
                int of = name;
                see("past(" + k + ", " + name + ", 0)", () -> x.past(by, of, 0));
            }
        }
    }

    private void forecasts() {
        see("ends()", x::ends);
        see("left()", x::left);
        see("apart()", x::apart);
        see("cost(1)", () -> x.cost(1));
        see("found()", () -> x.found(x.count(0)));
        see("years(1, 20, 0)", () -> x.years(1, 20, 0));
    }

    private void acts() {
        int acts = x.count(17);
        for (int i = 0; i <= acts && i <= 40; i++) {
            see("undo()", x::undo);
            see("then count(4)", () -> x.count(4));
            see("then count(8)", () -> x.count(8));
        }
    }

    private void image() {
        see("restore()", () -> x.restore() ? 1 : 0);
        counts("then ");
    }
}
