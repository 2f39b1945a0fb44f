import java.math.BigInteger;
import java.util.ArrayDeque;
import java.util.ArrayList;
import java.util.Collections;
import java.util.Deque;
import java.util.HashMap;
import java.util.HashSet;
import java.util.List;
import java.util.Map;
import java.util.NoSuchElementException;
import java.util.Set;
import java.util.TreeMap;
import java.util.TreeSet;

/**
 * The document once more, as plainly as it can be told and without any care for room: each act keeps a
 * whole copy of all there is, and what would be is tried on a copy. ModelTest holds OnceVolume against it.
 */
final class Model {
    private record Block(int kind, List<Integer> told) {
    }

    /** A block of -1: it is NEW. */
    private record Cell(int number, int block) {
    }

    private static final class Doc {
        int virtual;
        boolean changed;
        List<Cell> cells = new ArrayList<>();

        Doc twin() {
            Doc d = new Doc();
            d.virtual = virtual;
            d.changed = changed;
            d.cells = new ArrayList<>(cells);
            return d;
        }

        List<Integer> numbers() {
            List<Integer> row = new ArrayList<>();
            for (Cell c : cells) {
                row.add(c.number);
            }
            return row;
        }

        int news() {
            int n = 0;
            for (Cell c : cells) {
                n += c.block < 0 ? 1 : 0;
            }
            return n;
        }
    }

    private static final class World {
        List<Block> disc = new ArrayList<>();
        TreeMap<Integer, Doc> files = new TreeMap<>();
        boolean directoryChanged;
        Map<Integer, Integer> written = new HashMap<>();
        int map = -1;
        int session;
        int spared;

        World twin() {
            World w = new World();
            w.disc = new ArrayList<>(disc);
            for (Map.Entry<Integer, Doc> e : files.entrySet()) {
                w.files.put(e.getKey(), e.getValue().twin());
            }
            w.directoryChanged = directoryChanged;
            w.written = new HashMap<>(written);
            w.map = map;
            w.session = session;
            w.spared = spared;
            return w;
        }
    }

    private List<Integer> tape = new ArrayList<>();
    private int size = 200;
    private int packet = 8;
    private int run = 1;
    private int out = 2;
    private Set<Integer> faulty = new HashSet<>();
    private World world = new World();
    private Deque<World> acts = new ArrayDeque<>();
    private int faultPlace = -1;
    private int refusedTexts;
    private int refusedActs;
    private World imageWorld;
    private Deque<World> imageActs;
    private int imageTexts;
    private int imageRefused;

    // ---- the TEXT

    int feed(int... numbers) {
        if (tape.size() + 20 > 700) {
            return -1;
        }
        for (int number : numbers) {
            for (int shift = 24; shift >= 0; shift -= 8) {
                tape.add(number >> shift & 255);
            }
        }
        return tape.size();
    }

    private record Token(char kind, String text, int at) {
    }

    private static List<Token> tokens(List<Integer> bytes) {
        List<Token> row = new ArrayList<>();
        int i = 0;
        while (i < bytes.size()) {
            int b = bytes.get(i);
            if (b == ' ' || b == '\n') {
                i++;
                continue;
            }
            int from = i;
            char kind = b >= 'a' && b <= 'z' ? 'w' : b >= '0' && b <= '9' ? 'n' : b == ';' ? ';' : '?';
            StringBuilder text = new StringBuilder();
            while (i < bytes.size()) {
                int c = bytes.get(i);
                boolean more = kind == 'w' ? c >= 'a' && c <= 'z' : kind == 'n' ? c >= '0' && c <= '9' : i == from;
                if (!more) {
                    break;
                }
                text.append((char) c);
                i++;
            }
            row.add(new Token(kind, text.toString(), from));
        }
        row.add(new Token('$', "", bytes.size()));
        return row;
    }

    private static final int[][] DISC_RANGE = {{40, 400}, {2, 16}, {0, 4}, {0, 8}};

    int disc(int n) {
        if (n < 0 || n > tape.size()) {
            throw new IllegalArgumentException();
        }
        List<Token> tokens = tokens(tape.subList(0, n));
        tape = new ArrayList<>();
        String clause = "";
        int numbers = 0;
        boolean discTold = false;
        List<Integer> discNumbers = new ArrayList<>(List.of(200, 8, 1, 2));
        List<Integer> bad = new ArrayList<>();
        List<Integer> names = new ArrayList<>();
        List<List<Integer>> rows = new ArrayList<>();
        for (Token t : tokens) {
            Set<Integer> faults = new TreeSet<>();
            boolean mayNumber = clause.equals("disc") && numbers < 4 || clause.equals("bad") || clause.equals("file");
            boolean mayEnd = clause.equals("disc") && numbers == 4
                || !clause.isEmpty() && !clause.equals("disc") && numbers > 0;
            boolean isWord = t.kind == 'w' && (t.text.equals("disc") || t.text.equals("bad") || t.text.equals("file"));
            boolean can = clause.isEmpty() ? isWord || t.kind == '$'
                : t.kind == 'n' && mayNumber || t.kind == ';' && mayEnd;
            if (!can) {
                faults.add(1);
            } else if (clause.isEmpty()) {
                if (t.text.equals("disc") && discTold) {
                    faults.add(5);
                }
                clause = t.text;
                numbers = 0;
                discTold |= clause.equals("disc");
            } else if (t.kind == ';') {
                clause = "";
            } else {
                BigInteger value = new BigInteger(t.text);
                int v = value.bitLength() > 20 ? 1 << 20 : value.intValue();
                if (t.text.length() > 4) {
                    faults.add(2);
                }
                if (clause.equals("disc")) {
                    if (v < DISC_RANGE[numbers][0] || v > DISC_RANGE[numbers][1]) {
                        faults.add(2);
                    }
                    discNumbers.set(numbers, v);
                } else if (clause.equals("bad")) {
                    if (v > 399 || bad.size() == 12) {
                        faults.add(2);
                    }
                    if (bad.contains(v)) {
                        faults.add(4);
                    }
                    bad.add(v);
                } else if (numbers == 0) {
                    if (v > 11) {
                        faults.add(2);
                    }
                    if (names.contains(v)) {
                        faults.add(4);
                    }
                    names.add(v);
                    rows.add(new ArrayList<>());
                } else {
                    if (v > 999 || numbers > 8) {
                        faults.add(2);
                    }
                    rows.get(rows.size() - 1).add(v);
                }
                numbers++;
            }
            if (!faults.isEmpty()) {
                faultPlace = t.at;
                refusedTexts++;
                return faults.iterator().next();
            }
        }
        faultPlace = -1;
        size = discNumbers.get(0);
        packet = discNumbers.get(1);
        run = discNumbers.get(2);
        out = discNumbers.get(3);
        faulty = new HashSet<>(bad);
        world = new World();
        for (int i = 0; i < names.size(); i++) {
            Doc d = new Doc();
            d.virtual = i + 1;
            d.changed = true;
            for (int number : rows.get(i)) {
                d.cells.add(new Cell(number, -1));
            }
            world.files.put(names.get(i), d);
            world.directoryChanged = true;
        }
        acts.clear();
        imageWorld = null;
        return 0;
    }

    int fault() {
        return faultPlace;
    }

    // ---- looking at the disc

    private boolean isGood(World w, int b) {
        if (b < 0 || b >= w.disc.size() || w.disc.get(b).kind != 6) {
            return false;
        }
        for (int i = b - packet + 1; i <= b; i++) {
            if (w.disc.get(i).kind == 8) {
                return false;
            }
        }
        return true;
    }

    private List<Integer> goodMaps(World w) {
        List<Integer> maps = new ArrayList<>();
        for (int b = 0; b < w.disc.size(); b++) {
            if (isGood(w, b)) {
                maps.add(b);
            }
        }
        return maps;
    }

    private static List<Integer> chain(World w, int from) {
        List<Integer> maps = new ArrayList<>();
        for (int m = from; m >= 0; m = w.disc.get(m).told.get(13)) {
            maps.add(m);
        }
        return maps;
    }

    private static World by(World w, int map) {
        World v = w.twin();
        v.files.clear();
        v.written.clear();
        v.directoryChanged = false;
        v.map = map;
        v.session = 0;
        if (map < 0) {
            return v;
        }
        List<Integer> told = w.disc.get(map).told;
        v.session = told.get(14);
        for (int i = 0; i <= 12; i++) {
            if (told.get(i) >= 0) {
                v.written.put(i, told.get(i));
            }
        }
        List<Integer> directory = w.disc.get(told.get(0)).told;
        for (int name = 0; name < 12; name++) {
            if (directory.get(name) >= 0) {
                Doc d = new Doc();
                d.virtual = directory.get(name);
                for (int block : w.disc.get(told.get(d.virtual)).told) {
                    d.cells.add(new Cell(w.disc.get(block).told.get(0), block));
                }
                v.files.put(name, d);
            }
        }
        return v;
    }

    private World mountedLast(World w) {
        List<Integer> maps = goodMaps(w);
        return by(w, maps.isEmpty() ? -1 : maps.get(maps.size() - 1));
    }

    private static Set<Integer> reached(World w, int map) {
        Set<Integer> blocks = new HashSet<>();
        if (map < 0) {
            return blocks;
        }
        World v = by(w, map);
        blocks.add(map);
        blocks.addAll(v.written.values());
        for (Doc d : v.files.values()) {
            for (Cell c : d.cells) {
                blocks.add(c.block);
            }
        }
        return blocks;
    }

    int count(int what) {
        World w = world;
        int n = 0;
        switch (what) {
            case 0: return size;
            case 1: return packet;
            case 2: return run;
            case 3: return out;
            case 4: return w.disc.size();
            case 5: return w.files.size();
            case 6:
                for (Doc d : w.files.values()) {
                    n += d.changed ? 1 : 0;
                }
                return n;
            case 7: return w.directoryChanged ? 1 : 0;
            case 8:
                for (Doc d : w.files.values()) {
                    n += d.news();
                }
                return n;
            case 9: return w.map;
            case 10: return w.session;
            case 11: return goodMaps(w).size();
            case 12: return chain(w, w.map).size();
            case 13:
                Set<Integer> reached = reached(w, w.map);
                for (int b = 0; b < w.disc.size(); b++) {
                    int kind = w.disc.get(b).kind;
                    n += (kind == 3 || kind == 4 || kind == 5 || kind == 6) && !reached.contains(b) ? 1 : 0;
                }
                return n;
            case 14:
                List<Integer> hidden = goodMaps(w);
                hidden.removeAll(chain(w, w.map));
                return hidden.size();
            case 15: return w.spared;
            case 16:
                for (Block b : w.disc) {
                    n += b.kind == 8 ? 1 : 0;
                }
                return n;
            case 17: return acts.size();
            case 18: return tape.size();
            case 19: return refusedTexts;
            case 20: return refusedActs;
            default: throw new NoSuchElementException();
        }
    }

    int block(int block, int what) {
        if (block < 0 || block >= size || what < 0 || what > 1) {
            throw new NoSuchElementException();
        }
        if (what == 0) {
            return block < world.disc.size() ? world.disc.get(block).kind : 0;
        }
        int n = 0;
        for (int map : goodMaps(world)) {
            n += reached(world, map).contains(block) ? 1 : 0;
        }
        return n;
    }

    int tells(int block, int i) {
        if (block < 0 || block >= world.disc.size() || i < 0 || i >= world.disc.get(block).told.size()) {
            throw new NoSuchElementException();
        }
        return world.disc.get(block).told.get(i);
    }

    private Doc doc(int name) {
        Doc d = world.files.get(name);
        if (d == null) {
            throw new NoSuchElementException();
        }
        return d;
    }

    int file(int name, int what) {
        Doc d = doc(name);
        switch (what) {
            case 0: return d.cells.size();
            case 1: return d.virtual;
            case 2: return world.written.getOrDefault(d.virtual, -1);
            case 3: return d.changed ? 1 : 0;
            default: throw new NoSuchElementException();
        }
    }

    int lie(int name, int what) {
        List<Cell> cells = doc(name).cells;
        if (what != 0 && what != 1) {
            throw new NoSuchElementException();
        }
        int runs = 0;
        int farthest = 0;
        for (int i = 0; i < cells.size(); i++) {
            int block = cells.get(i).block;
            if (block < 0) {
                continue;
            }
            boolean behind = i > 0 && cells.get(i - 1).block >= 0;
            if (!behind || cells.get(i - 1).block + 1 != block) {
                runs++;
            }
            if (behind) {
                farthest = Math.max(farthest, Math.max(block - cells.get(i - 1).block, cells.get(i - 1).block - block));
            }
        }
        return what == 0 ? runs : farthest;
    }

    int read(int name, int cell) {
        Doc d = doc(name);
        if (cell < 0 || cell >= d.cells.size()) {
            throw new NoSuchElementException();
        }
        return d.cells.get(cell).number;
    }

    private static void need(boolean there) {
        if (!there) {
            throw new NoSuchElementException();
        }
    }

    int past(int k, int name, int cell) {
        List<Integer> maps = chain(world, world.map);
        need(k >= 0 && k < maps.size() && name >= 0 && name <= 11 && cell >= -1 && cell <= 7);
        Doc d = by(world, maps.get(k)).files.get(name);
        if (d == null) {
            return -1;
        }
        if (cell == -1) {
            return d.cells.size();
        }
        return cell < d.cells.size() ? d.cells.get(cell).number : -1;
    }

    int versions(int name) {
        need(name >= 0 && name <= 11);
        Set<List<Integer>> rows = new HashSet<>();
        for (int map : chain(world, world.map)) {
            Doc d = by(world, map).files.get(name);
            if (d != null) {
                rows.add(d.numbers());
            }
        }
        return rows.size();
    }

    int since(int name, int cell, int number) {
        need(name >= 0 && name <= 11 && cell >= 0 && cell <= 7);
        List<Integer> maps = chain(world, world.map);
        for (int k = 0; k < maps.size(); k++) {
            Doc d = by(world, maps.get(k)).files.get(name);
            if (d != null && cell < d.cells.size() && d.cells.get(cell).number == number) {
                return k;
            }
        }
        return -1;
    }

    int alike(int k) {
        List<Integer> maps = chain(world, world.map);
        need(k >= 0 && k < maps.size());
        World then = by(world, maps.get(k));
        int bits = 0;
        for (int name = 0; name < 12; name++) {
            Doc a = then.files.get(name);
            Doc b = world.files.get(name);
            if (a == null ? b == null : b != null && a.numbers().equals(b.numbers())) {
                bits += 1 << name;
            }
        }
        return bits;
    }

    // ---- acts

    private int refuse() {
        refusedActs++;
        return -1;
    }

    private void act(World then) {
        acts.addLast(world);
        if (acts.size() > 40) {
            acts.removeFirst();
        }
        world = then;
    }

    private static int freeVirtual(World w) {
        Set<Integer> used = new HashSet<>();
        for (Doc d : w.files.values()) {
            used.add(d.virtual);
        }
        int v = 1;
        while (used.contains(v)) {
            v++;
        }
        return v;
    }

    /** Each of these answers what would be then; null: it can't be. */
    private static World setIn(World from, int name, int cell, int number) {
        if (name < 0 || name > 11 || number < 0 || number > 999 || cell < 0 || cell > 7) {
            return null;
        }
        World w = from.twin();
        Doc d = w.files.get(name);
        if (d == null) {
            if (cell != 0) {
                return null;
            }
            d = new Doc();
            d.virtual = freeVirtual(w);
            w.files.put(name, d);
            w.directoryChanged = true;
        }
        if (cell > d.cells.size()) {
            return null;
        }
        if (cell == d.cells.size()) {
            d.cells.add(null);
        }
        d.cells.set(cell, new Cell(number, -1));
        d.changed = true;
        return w;
    }

    private static World eraseIn(World from, int name) {
        World w = from.twin();
        Doc d = w.files.remove(name);
        if (d == null) {
            return null;
        }
        w.written.remove(d.virtual);
        w.directoryChanged = true;
        return w;
    }

    private static boolean anyChanged(World w) {
        boolean any = w.directoryChanged;
        for (Doc d : w.files.values()) {
            any |= d.changed;
        }
        return any;
    }

    private World closeIn(World from, boolean imported) {
        if (anyChanged(from) || from.disc.size() + out > size) {
            return null;
        }
        World w = from.twin();
        w.disc.addAll(Collections.nCopies(out, new Block(7, List.of())));
        w.session++;
        if (!imported) {
            w.files.clear();
            w.written.clear();
        }
        return w;
    }

    /** CONTENTS: dNAME.CELL, eNAME, dir, map. */
    private static List<String> contents(World w) {
        TreeMap<Integer, Integer> byVirtual = new TreeMap<>();
        for (int name : w.files.keySet()) {
            byVirtual.put(w.files.get(name).virtual, name);
        }
        List<String> row = new ArrayList<>();
        for (int name : byVirtual.values()) {
            Doc d = w.files.get(name);
            if (d.changed) {
                for (int cell = 0; cell < d.cells.size(); cell++) {
                    if (d.cells.get(cell).block < 0) {
                        row.add("d" + name + "." + cell);
                    }
                }
                row.add("e" + name);
            }
        }
        if (w.directoryChanged) {
            row.add("dir");
        }
        row.add("map");
        return row;
    }

    private static int ceil(int n, int by) {
        return n / by + (n % by == 0 ? 0 : 1);
    }

    private boolean canBegin(World w) {
        int packets = ceil(contents(w).size(), packet);
        return anyChanged(w) && w.disc.size() + packets * (run + packet) + out <= size;
    }

    private static final class Written {
        World world;
        boolean broken;
        int blocks;
    }

    private static Block content(World w, String what, Map<String, Integer> where) {
        List<Integer> told = new ArrayList<>();
        if (what.equals("pad")) {
            return new Block(2, told);
        }
        if (what.charAt(0) == 'd' && what.indexOf('.') > 0) {
            int dot = what.indexOf('.');
            int name = Integer.parseInt(what.substring(1, dot));
            told.add(w.files.get(name).cells.get(Integer.parseInt(what.substring(dot + 1))).number);
            return new Block(3, told);
        }
        if (what.charAt(0) == 'e') {
            int name = Integer.parseInt(what.substring(1));
            List<Cell> cells = w.files.get(name).cells;
            for (int i = 0; i < cells.size(); i++) {
                told.add(cells.get(i).block >= 0 ? cells.get(i).block : where.get("d" + name + "." + i));
            }
            return new Block(4, told);
        }
        if (what.equals("dir")) {
            for (int name = 0; name < 12; name++) {
                told.add(w.files.containsKey(name) ? w.files.get(name).virtual : -1);
            }
            return new Block(5, told);
        }
        for (int v = 0; v <= 12; v++) {
            told.add(w.written.getOrDefault(v, -1));
        }
        for (int name : w.files.keySet()) {
            if (where.containsKey("e" + name)) {
                told.set(w.files.get(name).virtual, where.get("e" + name));
            }
        }
        if (where.containsKey("dir")) {
            told.set(0, where.get("dir"));
        }
        told.add(w.map);
        told.add(w.session);
        return new Block(6, told);
    }

    /** The SYNC that can be begun, with one more FAULTY BLOCK (or -1); torn behind so many BLOCKS (or -1: not). */
    private Written write(World from, int extra, int torn) {
        World w = from.twin();
        List<String> row = contents(from);
        while (row.size() % packet != 0) {
            row.add(row.size() - 1, "pad");
        }
        Map<String, Integer> where = new HashMap<>();
        Written result = new Written();
        int start = w.disc.size();
        int done = 0;
        while (done < row.size()) {
            if (w.disc.size() + run + packet + out > size) {
                result.broken = true;
                break;
            }
            List<Block> laid = new ArrayList<>(Collections.nCopies(run, new Block(1, List.of())));
            List<String> inside = row.subList(done, done + packet);
            for (int i = 0; i < packet; i++) {
                where.put(inside.get(i), w.disc.size() + run + i);
            }
            boolean spared = false;
            for (int i = 0; i < packet; i++) {
                int at = w.disc.size() + run + i;
                boolean lost = faulty.contains(at) || at == extra;
                spared |= lost;
                laid.add(lost ? new Block(8, List.of()) : content(from, inside.get(i), where));
            }
            int left = torn < 0 ? Integer.MAX_VALUE : torn - (w.disc.size() - start);
            if (left < laid.size()) {
                w.disc.addAll(laid.subList(0, left));
                result.world = mountedLast(w);
                result.blocks = w.disc.size() - start;
                return result;
            }
            w.disc.addAll(laid);
            if (spared) {
                w.spared++;
            } else {
                done += packet;
            }
        }
        result.blocks = w.disc.size() - start;
        result.world = result.broken ? mountedLast(w) : by(w, w.disc.size() - 1);
        return result;
    }

    int set(int name, int cell, int number) {
        World then = setIn(world, name, cell, number);
        if (then == null) {
            return refuse();
        }
        act(then);
        return world.files.get(name).cells.size();
    }

    int cut(int name, int cells) {
        Doc d = world.files.get(name);
        if (d == null || cells < 0 || cells >= d.cells.size()) {
            return refuse();
        }
        World w = world.twin();
        Doc e = w.files.get(name);
        e.cells = new ArrayList<>(e.cells.subList(0, cells));
        e.changed = true;
        act(w);
        return d.cells.size();
    }

    int erase(int name) {
        World then = eraseIn(world, name);
        if (then == null) {
            return refuse();
        }
        int had = world.files.get(name).cells.size();
        act(then);
        return had;
    }

    private boolean canGo(int name, int to) {
        return world.files.containsKey(name) && to >= 0 && to <= 11 && !world.files.containsKey(to);
    }

    boolean rename(int name, int to) {
        if (!canGo(name, to)) {
            refuse();
            return false;
        }
        World w = world.twin();
        w.files.put(to, w.files.remove(name));
        w.directoryChanged = true;
        act(w);
        return true;
    }

    int copy(int name, int to) {
        if (!canGo(name, to)) {
            return refuse();
        }
        World w = world.twin();
        Doc d = w.files.get(name).twin();
        d.virtual = freeVirtual(w);
        d.changed = true;
        w.files.put(to, d);
        w.directoryChanged = true;
        act(w);
        return d.virtual;
    }

    int revert(int name, int k) {
        List<Integer> maps = chain(world, world.map);
        if (!world.files.containsKey(name) || k < 0 || k >= maps.size()) {
            return refuse();
        }
        Doc then = by(world, maps.get(k)).files.get(name);
        if (then == null) {
            return refuse();
        }
        World w = world.twin();
        w.files.get(name).cells = then.cells;
        w.files.get(name).changed = true;
        act(w);
        return then.cells.size();
    }

    int sync() {
        if (!canBegin(world)) {
            return refuse();
        }
        Written written = write(world, -1, -1);
        act(written.world);
        return written.broken ? -2 : written.blocks;
    }

    private World tearIn(World from, int blocks) {
        if (!canBegin(from) || blocks < 0 || blocks >= write(from, -1, -1).blocks) {
            return null;
        }
        return write(from, -1, blocks).world;
    }

    int tear(int blocks) {
        World then = tearIn(world, blocks);
        if (then == null) {
            return refuse();
        }
        act(then);
        return world.disc.size();
    }

    int close(boolean imported) {
        World then = closeIn(world, imported);
        if (then == null) {
            return refuse();
        }
        act(then);
        return world.session;
    }

    int mount(int k) {
        List<Integer> good = goodMaps(world);
        List<Integer> maps = good.isEmpty() ? new ArrayList<>(List.of(-1)) : chain(world, good.get(good.size() - 1));
        if (k < 0 || k >= maps.size()) {
            return refuse();
        }
        act(by(world, maps.get(k)));
        return world.files.size();
    }

    int undo() {
        if (acts.isEmpty()) {
            return -1;
        }
        world = acts.removeLast();
        return acts.size();
    }

    // ---- what would be

    int cost(int what) {
        need(what >= 0 && what <= 2);
        if (!anyChanged(world)) {
            return 0;
        }
        int n = contents(world).size();
        int packets = ceil(n, packet);
        return what == 0 ? packets : what == 1 ? packets * (run + packet) : packets * packet - n;
    }

    int apart() {
        if (!anyChanged(world)) {
            return 0;
        }
        TreeMap<Integer, Integer> counts = new TreeMap<>();
        for (Doc d : world.files.values()) {
            if (d.changed) {
                counts.put(d.virtual, d.news() + 2);
            }
        }
        if (counts.isEmpty()) {
            counts.put(0, 1);
        }
        if (world.directoryChanged) {
            counts.merge(counts.firstKey(), 1, Integer::sum);
        }
        int sum = 0;
        for (int n : counts.values()) {
            sum += ceil(n, packet) * (run + packet);
        }
        return sum;
    }

    int found(int blocks) {
        if (blocks < 0 || blocks > size) {
            throw new IllegalArgumentException();
        }
        int last = -1;
        for (int map : goodMaps(world)) {
            last = map < blocks ? map : last;
        }
        return last;
    }

    int left() {
        int n = 0;
        for (int head = world.disc.size(); head + ceil(3, packet) * (run + packet) + out <= size; n++) {
            head += ceil(3, packet) * (run + packet);
        }
        return n;
    }

    private int endWith(int extra) {
        if (!canBegin(world)) {
            return -1;
        }
        Written written = write(world, extra, -1);
        return written.broken ? -2 : written.world.disc.size();
    }

    int ends() {
        return endWith(-1);
    }

    int toPack(int what) {
        need(what == 0 || what == 1);
        if (!anyChanged(world)) {
            return -1;
        }
        TreeMap<Integer, Integer> which = new TreeMap<>();
        for (int p = 16; p >= 2; p--) {
            which.put(ceil(contents(world).size(), p) * (run + p), p);
        }
        return what == 0 ? which.firstEntry().getValue() : which.firstKey();
    }

    int guess(int place, int what) {
        need(what == 0 || what == 1);
        List<Integer> blocks = new ArrayList<>();
        for (int b = 0; b < size; b++) {
            if (!faulty.contains(b) && endWith(b) == place) {
                blocks.add(b);
            }
        }
        return what == 0 ? blocks.size() : blocks.isEmpty() ? -1 : blocks.get(0);
    }

    private static BigInteger likely(int packets, int spared, int tenths) {
        if (packets == 0) {
            return BigInteger.TEN.pow(spared);
        }
        BigInteger good = likely(packets - 1, spared, tenths).multiply(BigInteger.valueOf(10 - tenths));
        return spared == 0 ? good : good.add(likely(packets, spared - 1, tenths).multiply(BigInteger.valueOf(tenths)));
    }

    long storms(int spared, int tenths) {
        if (spared < 0 || spared > 5 || tenths < 0 || tenths > 10) {
            throw new IllegalArgumentException();
        }
        if (!anyChanged(world) || cost(0) + spared > 15) {
            return -1;
        }
        return likely(cost(0), spared, tenths).longValueExact();
    }

    private static int draw(int[] seed, int n) {
        seed[0] = seed[0] * 1103515245 + 12345;
        return (seed[0] >> 16 & 32767) % n;
    }

    int years(int seed, int n, int what) {
        need(what >= 0 && what <= 2);
        if (n < 0 || n > 60) {
            throw new IllegalArgumentException();
        }
        int[] s = {seed};
        World w = world;
        for (int i = 0; i < n; i++) {
            World then = null;
            switch (draw(s, 7)) {
                case 0: case 1:
                    int[] args = {draw(s, 12), draw(s, 8), draw(s, 1000)};
                    then = setIn(w, args[0], args[1], args[2]);
                    break;
                case 2:
                    then = eraseIn(w, draw(s, 12));
                    break;
                case 3: case 4:
                    then = canBegin(w) ? write(w, -1, -1).world : null;
                    break;
                case 5:
                    then = tearIn(w, draw(s, 30));
                    break;
                default:
                    then = closeIn(w, draw(s, 2) == 1);
            }
            w = then == null ? w : then;
        }
        return what == 0 ? w.disc.size() - world.disc.size() : what == 1 ? w.files.size() : w.spared - world.spared;
    }

    void image() {
        imageWorld = world;
        imageActs = new ArrayDeque<>(acts);
        imageTexts = refusedTexts;
        imageRefused = refusedActs;
    }

    boolean restore() {
        if (imageWorld == null) {
            return false;
        }
        world = imageWorld;
        acts = new ArrayDeque<>(imageActs);
        refusedTexts = imageTexts;
        refusedActs = imageRefused;
        return true;
    }
}
