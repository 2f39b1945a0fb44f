import java.util.ArrayList;
import java.util.List;
import java.util.Random;

/** Random runs of calls on OnceVolume and on Model: each call must answer alike, or throw alike. */
public final class ModelTest {
    private static final int RUNS = 700;
    private static final int CALLS = 512;

    private final Random random;
    private final OnceVolume x = new OnceVolume();
    private final Model y = new Model();
    private final List<String> calls = new ArrayList<>();
    private boolean alike = true;

    private ModelTest(long seed) {
        random = new Random(seed);
    }

    public static void main(String[] args) {
        int runs = args.length > 0 ? Integer.parseInt(args[0]) : RUNS;
        long from = args.length > 1 ? Long.parseLong(args[1]) : 1;
        int unlike = 0;
        for (long seed = from; seed < from + runs && unlike < 3; seed++) {
            ModelTest run = new ModelTest(seed);
            if (!run.alikeAll()) {
                unlike++;
                System.out.println("run of seed " + seed + ", the latest calls:");
                List<String> calls = run.calls;
                calls.subList(Math.max(0, calls.size() - 60), calls.size()).forEach(System.out::println);
            }
            Check.due("run " + seed, true, run.alike);
        }
        Check.end();
    }

    private boolean alikeAll() {
        tell();
        while (calls.size() < CALLS && alike) {
            call();
        }
        return alike;
    }

    private void due(String call, Check.Call got, Check.Call want) {
        long g = Check.answerOf(got);
        long w = Check.answerOf(want);
        calls.add(call + " = " + Check.show(g) + (g == w ? "" : ", by the model " + Check.show(w)));
        alike &= g == w;
    }

    private int below(int n) {
        return random.nextInt(n);
    }

    private int pick(int... of) {
        return of[below(of.length)];
    }

    /** Mostly a number from least to most, now and then one beyond. */
    private int around(int least, int most) {
        int odd = below(40);
        if (odd == 0) {
            return pick(least - 1, most + 1, least - 2, most + 2, Integer.MIN_VALUE, Integer.MAX_VALUE);
        }
        return least + below(most - least + 1);
    }

    private void tell() {
        String text = text();
        if (below(6) == 0 && !text.isEmpty()) {
            text = spoil(text);
        }
        if (text.length() > 700) {
            text = text.substring(0, 700);
        }
        for (int at = 0; at < text.length(); at += 20) {
            int[] n = new int[5];
            for (int i = 0; i < 20; i++) {
                n[i / 4] = n[i / 4] << 8 | (at + i < text.length() ? text.charAt(at + i) & 255 : 32);
            }
            due("feed(" + n[0] + ", " + n[1] + ", " + n[2] + ", " + n[3] + ", " + n[4] + ")",
                () -> x.feed(n[0], n[1], n[2], n[3], n[4]), () -> y.feed(n[0], n[1], n[2], n[3], n[4]));
        }
        int length = below(20) == 0 ? text.length() + pick(-1, 1, 21) : text.length();
        due("disc(" + length + ") of '" + text + "'", () -> x.disc(length), () -> y.disc(length));
        due("fault()", x::fault, y::fault);
    }

    private String blank() {
        int kind = below(12);
        return kind == 0 ? "\n" : kind == 1 ? "  " : " ";
    }

    private String text() {
        List<String> clauses = new ArrayList<>();
        if (below(10) > 0) {
            int size = below(3) == 0 ? 40 + below(30) : around(40, 400);
            int packet = below(3) == 0 ? around(2, 16) : pick(2, 3, 4, 5, 6);
            clauses.add("disc" + blank() + size + blank() + packet + blank() + around(0, 4) + blank() + around(0, 8) + ";");
        }
        List<Integer> left = new ArrayList<>();
        int most = pick(30, 60, 120, 400);
        int bad = below(3) == 0 ? 0 : below(13);
        while (bad > 0) {
            int some = 1 + below(bad);
            StringBuilder clause = new StringBuilder("bad");
            for (int i = 0; i < some; i++) {
                int block = below(most);
                if (left.contains(block) && below(30) > 0) {
                    continue;
                }
                left.add(block);
                clause.append(blank()).append(block);
            }
            clauses.add(clause.append(clause.length() == 3 ? " 399;" : ";").toString());
            bad -= some;
        }
        int files = below(4) == 0 ? 0 : below(8);
        List<Integer> names = new ArrayList<>();
        for (int i = 0; i < files; i++) {
            int name = around(0, 11);
            if (names.contains(name) && below(40) > 0) {
                continue;
            }
            names.add(name);
            StringBuilder clause = new StringBuilder("file" + blank() + name);
            int cells = below(60) == 0 ? 9 : below(3) == 0 ? 0 : below(9);
            for (int cell = 0; cell < cells; cell++) {
                clause.append(blank()).append(below(5) == 0 ? below(1000) : below(4));
            }
            clauses.add(clause.append(";").toString());
        }
        java.util.Collections.shuffle(clauses, random);
        return String.join(below(3) == 0 ? "\n" : "", clauses);
    }

    private String spoil(String text) {
        int at = below(text.length());
        String[] odd = {"", ";", "x", " ", "9", "disc", "bad", "file", "\t", "A", "00001", " 12345 ", "\377", "-", "file 1;"};
        return text.substring(0, at) + odd[below(odd.length)] + text.substring(Math.min(text.length(), at + below(3)));
    }

    private int name() {
        return below(3) > 0 ? below(4) : around(0, 11);
    }

    private void call() {
        int kind = below(100);
        if (kind < 34) {
            change();
        } else if (kind < 47) {
            write();
        } else if (kind < 51) {
            back();
        } else if (kind < 75) {
            look();
        } else if (kind < 87) {
            remember();
        } else {
            foresee();
        }
        if (below(300) == 0) {
            tell();
        }
    }

    private void change() {
        int name = name();
        int to = name();
        int k = around(0, below(3) == 0 ? 6 : 1);
        switch (below(12)) {
            case 0:
                int cells = around(0, 5);
                due("cut(" + name + ", " + cells + ")", () -> x.cut(name, cells), () -> y.cut(name, cells));
                break;
            case 1:
                due("erase(" + name + ")", () -> x.erase(name), () -> y.erase(name));
                break;
            case 2:
                due("rename(" + name + ", " + to + ")", () -> x.rename(name, to) ? 1 : 0, () -> y.rename(name, to) ? 1 : 0);
                break;
            case 3:
                due("copy(" + name + ", " + to + ")", () -> x.copy(name, to), () -> y.copy(name, to));
                break;
            case 4:
                due("revert(" + name + ", " + k + ")", () -> x.revert(name, k), () -> y.revert(name, k));
                break;
            default:
                int cell = below(2) == 0 ? below(3) : around(0, 7);
                int number = below(4) == 0 ? around(0, 999) : below(4);
                due("set(" + name + ", " + cell + ", " + number + ")",
                    () -> x.set(name, cell, number), () -> y.set(name, cell, number));
        }
    }

    private void write() {
        switch (below(8)) {
            case 0: case 1:
                int blocks = below(3) == 0 ? around(0, 60) : around(0, 12);
                due("tear(" + blocks + ")", () -> x.tear(blocks), () -> y.tear(blocks));
                break;
            case 2:
                boolean imported = below(2) == 0;
                due("close(" + imported + ")", () -> x.close(imported), () -> y.close(imported));
                break;
            case 3:
                int k = around(0, below(3) == 0 ? 6 : 1);
                due("mount(" + k + ")", () -> x.mount(k), () -> y.mount(k));
                break;
            default:
                due("sync()", x::sync, y::sync);
        }
    }

    private void back() {
        switch (below(6)) {
            case 0:
                x.image();
                y.image();
                calls.add("image()");
                break;
            case 1:
                due("restore()", () -> x.restore() ? 1 : 0, () -> y.restore() ? 1 : 0);
                break;
            case 2:
                for (int i = below(45); i >= 0 && calls.size() < CALLS; i--) {
                    due("undo()", x::undo, y::undo);
                }
                break;
            default:
                due("undo()", x::undo, y::undo);
        }
    }

    private void look() {
        int name = name();
        int head = y.count(4);
        int block = below(4) == 0 ? around(0, y.count(0) - 1) : Math.max(0, head - 1 - below(12));
        switch (below(6)) {
            case 0: case 1:
                int what = around(0, 20);
                due("count(" + what + ")", () -> x.count(what), () -> y.count(what));
                break;
            case 2:
                int of = around(0, 1);
                due("block(" + block + ", " + of + ")", () -> x.block(block, of), () -> y.block(block, of));
                break;
            case 3:
                int i = below(2) == 0 ? below(3) : around(0, 14);
                due("tells(" + block + ", " + i + ")", () -> x.tells(block, i), () -> y.tells(block, i));
                break;
            case 4:
                int part = around(0, 3);
                due("file(" + name + ", " + part + ")", () -> x.file(name, part), () -> y.file(name, part));
                break;
            default:
                int way = around(0, 1);
                due("lie(" + name + ", " + way + ")", () -> x.lie(name, way), () -> y.lie(name, way));
        }
    }

    private void remember() {
        int name = name();
        int cell = below(2) == 0 ? below(2) : around(-1, 7);
        int k = around(0, below(3) == 0 ? 6 : 1);
        switch (below(5)) {
            case 0:
                due("read(" + name + ", " + cell + ")", () -> x.read(name, cell), () -> y.read(name, cell));
                break;
            case 1:
                due("past(" + k + ", " + name + ", " + cell + ")", () -> x.past(k, name, cell), () -> y.past(k, name, cell));
                break;
            case 2:
                due("versions(" + name + ")", () -> x.versions(name), () -> y.versions(name));
                break;
            case 3:
                int number = below(8) == 0 ? -1 : below(5);
                due("since(" + name + ", " + cell + ", " + number + ")",
                    () -> x.since(name, cell, number), () -> y.since(name, cell, number));
                break;
            default:
                due("alike(" + k + ")", () -> x.alike(k), () -> y.alike(k));
        }
    }

    private void foresee() {
        int two = around(0, 1);
        int three = around(0, 2);
        switch (below(9)) {
            case 0:
                due("cost(" + three + ")", () -> x.cost(three), () -> y.cost(three));
                break;
            case 1:
                due("apart()", x::apart, y::apart);
                break;
            case 2:
                int blocks = below(2) == 0 ? around(0, y.count(0)) : y.count(4) - below(8);
                due("found(" + blocks + ")", () -> x.found(blocks), () -> y.found(blocks));
                break;
            case 3:
                due("left()", x::left, y::left);
                break;
            case 4:
                due("ends()", x::ends, y::ends);
                break;
            case 5:
                due("toPack(" + two + ")", () -> x.toPack(two), () -> y.toPack(two));
                break;
            case 6:
                int place = below(5) == 0 ? pick(-1, -2, 0) : y.ends() + pick(0, 1, 2) * (y.count(1) + y.count(2));
                due("guess(" + place + ", " + two + ")", () -> x.guess(place, two), () -> y.guess(place, two));
                break;
            case 7:
                int spared = around(0, 5);
                int tenths = around(0, 10);
                due("storms(" + spared + ", " + tenths + ")", () -> x.storms(spared, tenths), () -> y.storms(spared, tenths));
                break;
            default:
                int seed = random.nextInt();
                int n = around(0, 60);
                due("years(" + seed + ", " + n + ", " + three + ")", () -> x.years(seed, n, three), () -> y.years(seed, n, three));
        }
    }
}
