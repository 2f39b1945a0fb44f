import java.util.Arrays;
import java.util.NoSuchElementException;

/**
 * A volume on a disc each block of which is written once. The document DOC.md says what it
 * promises; words in its capitals stand in the comments as it means them.
 */
public final class OnceVolume {
    public static final int NONE = -1;

    private static final int BROKEN_OFF = -2;

    private static final int MOST_BYTES = 700;
    private static final int BYTES_FED = 20;
    private static final int MOST_DIGITS = 4;
    private static final int MOST_BLOCKS = 400;
    private static final int MOST_BAD = 12;
    private static final int NAMES = 12;
    private static final int MOST_CELLS = 8;
    private static final int MOST_NUMBER = 999;
    private static final int VIRTUALS = 13;
    private static final int LEAST_PACKET = 2;
    private static final int MOST_PACKET = 16;
    private static final int MOST_ACTS = 40;
    private static final int MOST_SPARED = 5;
    private static final int MOST_POWER = 15;
    private static final int MOST_YEARS = 60;
    /** All CELLS of all FILES with their ENTRIES, the DIRECTORY, the MAP, and the PADS ahead of it. */
    private static final int MOST_CONTENTS = NAMES * (MOST_CELLS + 1) + 2 + MOST_PACKET;

    private static final int BLANK = 0;
    private static final int LINK = 1;
    private static final int PAD = 2;
    private static final int DATA = 3;
    private static final int ENTRY = 4;
    private static final int DIRECTORY = 5;
    private static final int MAP = 6;
    private static final int RUN_OUT = 7;
    private static final int BAD = 8;

    /** Where a MAP tells PREVIOUS and the SESSION, behind its VIRTUALS. */
    private static final int PREVIOUS = 13;
    private static final int SESSION = 14;
    private static final int MOST_TOLD = 15;

    private static final int TEXT_ENDS = 0;
    private static final int WORD = 1;
    private static final int NUMBER = 2;
    private static final int SEMICOLON = 3;
    private static final int NO_TOKEN = 4;

    private static final int MISPLACED = 1;
    private static final int TOO_MUCH = 2;
    private static final int TOLD_ALREADY = 4;
    private static final int SECOND_DISC = 5;

    private final int[] tape;
    private int tapeLength;
    private final Reader reader;
    private int faultPlace;
    private final Disc disc;
    private final State state;
    private final Contents contents;
    private final Acts acts;
    private int refusedTexts;
    private int refusedActs;
    private final Image kept;
    private final State beforeYears;
    private final Draws draws;
    private final int[] unlikeEntries;

    public OnceVolume() {
        tape = new int[MOST_BYTES];
        reader = new Reader();
        faultPlace = NONE;
        disc = new Disc();
        state = new State();
        contents = new Contents();
        acts = new Acts();
        kept = new Image();
        beforeYears = new State();
        draws = new Draws();
        unlikeEntries = new int[MOST_BLOCKS];
        reader.readText(tape, 0);
        beginAnew();
    }

    public int feed(int a, int b, int c, int d, int e) {
        if (tapeLength + BYTES_FED > MOST_BYTES) {
            return NONE;
        }
        feedNumber(a);
        feedNumber(b);
        feedNumber(c);
        feedNumber(d);
        feedNumber(e);
        return tapeLength;
    }

    private void feedNumber(int number) {
        for (int shift = 24; shift >= 0; shift -= 8) {
            tape[tapeLength] = (number >>> shift) & 255;
            tapeLength++;
        }
    }

    public int disc(int n) throws IllegalArgumentException {
        if (n < 0 || n > tapeLength) {
            throw new IllegalArgumentException("the tape has not so many bytes");
        }
        tapeLength = 0;
        reader.readText(tape, n);
        faultPlace = reader.place;
        if (reader.fault != 0) {
            refusedTexts++;
            return reader.fault;
        }
        beginAnew();
        return 0;
    }

    private void beginAnew() {
        disc.takeOver(reader);
        state.takeOver(reader);
        acts.forget();
        kept.present = false;
    }

    public int fault() {
        return faultPlace;
    }

    public int count(int what) throws NoSuchElementException {
        switch (what) {
            case 0: return disc.size;
            case 1: return disc.packet;
            case 2: return disc.run;
            case 3: return disc.out;
            case 4: return state.head;
            case 5: return state.fileCount();
            case 6: return state.changedCount();
            case 7: return state.directoryChanged ? 1 : 0;
            case 8: return state.newCount();
            case 9: return state.map;
            case 10: return state.session;
            case 11: return disc.goodMaps(state.head);
            case 12: return disc.mapsAlong(state.map);
            case 13: return disc.deadBlocks(state.map, state.head);
            // each MAP along PREVIOUS is a GOOD one, so all the others are HIDDEN
            case 14: return disc.goodMaps(state.head) - disc.mapsAlong(state.map);
            case 15: return state.spared;
            case 16: return disc.badBlocks(state.head);
            case 17: return acts.count;
            case 18: return tapeLength;
            case 19: return refusedTexts;
            case 20: return refusedActs;
            default: throw new NoSuchElementException("no such count");
        }
    }

    public int block(int block, int what) throws NoSuchElementException {
        checkBlock(block);
        checkWhat(what, 1);
        if (what == 0) {
            return disc.kindOf(block, state.head);
        }
        return disc.mapsReaching(block, state.head);
    }

    public int tells(int block, int i) throws NoSuchElementException {
        checkBlock(block);
        if (block >= state.head || i < 0 || i >= disc.lengthOf(block)) {
            throw new NoSuchElementException("the block tells nothing such");
        }
        return disc.toldBy(block, i);
    }

    private void checkBlock(int block) {
        if (block < 0 || block >= disc.size) {
            throw new NoSuchElementException("no such block");
        }
    }

    private static void checkWhat(int what, int most) {
        if (what < 0 || what > most) {
            throw new NoSuchElementException("no such what");
        }
    }

    public int file(int name, int what) throws NoSuchElementException {
        checkFile(name);
        checkWhat(what, 3);
        switch (what) {
            case 0: return state.lengths[name];
            case 1: return state.virtuals[name];
            case 2: return state.entryOf(name);
            default: return state.changed[name] ? 1 : 0;
        }
    }

    public int lie(int name, int what) throws NoSuchElementException {
        checkFile(name);
        checkWhat(what, 1);
        return what == 0 ? state.runs(name) : state.farthest(name);
    }

    public int read(int name, int cell) throws NoSuchElementException {
        checkFile(name);
        if (cell < 0 || cell >= state.lengths[name]) {
            throw new NoSuchElementException("no such cell");
        }
        return state.numberOf(name, cell);
    }

    private void checkFile(int name) {
        if (!state.has(name)) {
            throw new NoSuchElementException("no such file");
        }
    }

    public int past(int k, int name, int cell) throws NoSuchElementException {
        int map = mapOrThrow(k);
        checkName(name);
        if (cell != NONE) {
            checkCell(cell);
        }
        int entry = disc.entryBy(map, name);
        if (entry == NONE) {
            return NONE;
        }
        return cell == NONE ? disc.lengthOf(entry) : disc.numberBy(entry, cell);
    }

    private int mapOrThrow(int k) {
        int map = disc.mapAlong(state.map, k);
        if (map == NONE) {
            throw new NoSuchElementException("no such map");
        }
        return map;
    }

    private static void checkName(int name) {
        if (!isName(name)) {
            throw new NoSuchElementException("no such name");
        }
    }

    private static void checkCell(int cell) {
        if (cell < 0 || cell >= MOST_CELLS) {
            throw new NoSuchElementException("no such cell");
        }
    }

    public int versions(int name) throws NoSuchElementException {
        checkName(name);
        int unlike = 0;
        int map = state.map;
        for (int k = 0; k < MOST_BLOCKS && map != NONE; k++) {
            int entry = disc.entryBy(map, name);
            if (entry != NONE && !isLikeOneOf(entry, unlike)) {
                unlikeEntries[unlike] = entry;
                unlike++;
            }
            map = disc.toldBy(map, PREVIOUS);
        }
        return unlike;
    }

    private boolean isLikeOneOf(int entry, int entries) {
        for (int i = 0; i < entries; i++) {
            if (disc.tellAlike(entry, unlikeEntries[i])) {
                return true;
            }
        }
        return false;
    }

    public int since(int name, int cell, int number) throws NoSuchElementException {
        checkName(name);
        checkCell(cell);
        int map = state.map;
        for (int k = 0; k < MOST_BLOCKS && map != NONE; k++) {
            int entry = disc.entryBy(map, name);
            // what isn't there answers NONE, which no CELL can be
            if (cell < disc.lengthOf(entry) && disc.numberBy(entry, cell) == number) {
                return k;
            }
            map = disc.toldBy(map, PREVIOUS);
        }
        return NONE;
    }

    public int alike(int k) throws NoSuchElementException {
        int map = mapOrThrow(k);
        int bits = 0;
        for (int name = 0; name < NAMES; name++) {
            int entry = disc.entryBy(map, name);
            boolean same = entry == NONE ? !state.has(name) : state.isLike(name, disc, entry);
            if (same) {
                bits |= 1 << name;
            }
        }
        return bits;
    }

    public int set(int name, int cell, int number) {
        if (number < 0 || number > MOST_NUMBER || !state.canSet(name, cell)) {
            return refuse();
        }
        acts.keep(state);
        state.setCell(name, cell, number);
        return state.lengths[name];
    }

    private int refuse() {
        refusedActs++;
        return NONE;
    }

    public int cut(int name, int cells) {
        if (!state.has(name) || cells < 0 || cells >= state.lengths[name]) {
            return refuse();
        }
        acts.keep(state);
        int had = state.lengths[name];
        state.lengths[name] = cells;
        state.changed[name] = true;
        return had;
    }

    public int erase(int name) {
        if (!state.has(name)) {
            return refuse();
        }
        acts.keep(state);
        int had = state.lengths[name];
        state.eraseFile(name);
        return had;
    }

    public boolean rename(int name, int to) {
        if (!state.canGoTo(name, to)) {
            refusedActs++;
            return false;
        }
        acts.keep(state);
        state.renameFile(name, to);
        return true;
    }

    public int copy(int name, int to) {
        if (!state.canGoTo(name, to)) {
            return refuse();
        }
        acts.keep(state);
        state.copyFile(name, to);
        return state.virtuals[to];
    }

    public int revert(int name, int k) {
        if (!state.has(name)) {
            return refuse();
        }
        int entry = disc.entryBy(disc.mapAlong(state.map, k), name);
        if (entry == NONE) {
            return refuse();
        }
        acts.keep(state);
        state.takeCells(name, disc, entry);
        state.changed[name] = true;
        return state.lengths[name];
    }

    public int sync() {
        if (!canBegin()) {
            return refuse();
        }
        acts.keep(state);
        int from = state.head;
        return writeAll() ? state.head - from : BROKEN_OFF;
    }

    private int packetsNow() {
        return disc.packetsFor(state.contentCount());
    }

    private boolean canBegin() {
        int packets = packetsNow();
        return packets > 0 && state.head + packets * (disc.run + disc.packet) + disc.out <= disc.size;
    }

    /** The SYNC that can be begun; false if it is BROKEN OFF. */
    private boolean writeAll() {
        contents.plan(state, disc.packet);
        boolean done = contents.lay(state, disc, MOST_BLOCKS);
        if (done) {
            state.settle(state.head - 1);
        } else {
            mountLast();
        }
        return done;
    }

    private void mountLast() {
        state.mountMap(disc, disc.lastGoodMap(state.head));
    }

    public int tear(int blocks) {
        if (!canTear(blocks)) {
            return refuse();
        }
        acts.keep(state);
        writeTorn(blocks);
        return state.head;
    }

    private boolean canTear(int blocks) {
        if (blocks < 0 || !canBegin()) {
            return false;
        }
        return blocks < disc.foresee(state.head, packetsNow(), NONE) - state.head;
    }

    private void writeTorn(int blocks) {
        contents.plan(state, disc.packet);
        contents.lay(state, disc, blocks);
        mountLast();
    }

    public int close(boolean imported) {
        if (!canClose()) {
            return refuse();
        }
        acts.keep(state);
        closeSession(imported);
        return state.session;
    }

    private boolean canClose() {
        return !state.anyChanged() && state.head + disc.out <= disc.size;
    }

    private void closeSession(boolean imported) {
        for (int i = 0; i < disc.out; i++) {
            disc.write(state.head, RUN_OUT, 0);
            state.head++;
        }
        state.session++;
        if (!imported) {
            state.dropFiles();
        }
    }

    public int mount(int k) {
        int last = disc.lastGoodMap(state.head);
        int map = disc.mapAlong(last, k);
        if (map == NONE && k != 0) {
            return refuse();
        }
        acts.keep(state);
        state.mountMap(disc, map);
        return state.fileCount();
    }

    public int undo() {
        if (acts.count == 0) {
            return NONE;
        }
        acts.takeBack(state);
        return acts.count;
    }

    public int cost(int what) throws NoSuchElementException {
        checkWhat(what, 2);
        int packets = packetsNow();
        switch (what) {
            case 0: return packets;
            case 1: return packets * (disc.run + disc.packet);
            default: return packets * disc.packet - state.contentCount();
        }
    }

    public int apart() {
        if (!state.anyChanged()) {
            return 0;
        }
        int directory = state.directoryChanged ? 1 : 0;
        int blocks = 0;
        for (int virtual = 1; virtual < VIRTUALS; virtual++) {
            int name = state.nameOf(virtual);
            if (name != NONE && state.changed[name]) {
                blocks += disc.costOf(state.newCells(name) + 1 + directory + 1);
                directory = 0;
            }
        }
        return blocks == 0 ? disc.costOf(directory + 1) : blocks;
    }

    public int found(int blocks) throws IllegalArgumentException {
        if (blocks < 0 || blocks > disc.size) {
            throw new IllegalArgumentException("the disc has not so many blocks");
        }
        return disc.lastGoodMap(Math.min(blocks, state.head));
    }

    public int left() {
        int each = disc.costOf(3);
        int room = disc.size - disc.out - state.head;
        return room < 0 || each < 1 ? 0 : room / each;
    }

    public int ends() {
        return canBegin() ? endWith(packetsNow(), NONE) : NONE;
    }

    /** ENDS of a SYNC that can be begun, were one more BLOCK FAULTY. */
    private int endWith(int packets, int extra) {
        int end = disc.foresee(state.head, packets, extra);
        return disc.foreseenBroken ? BROKEN_OFF : end;
    }

    public int toPack(int what) throws NoSuchElementException {
        checkWhat(what, 1);
        if (!state.anyChanged()) {
            return NONE;
        }
        int count = state.contentCount();
        int best = LEAST_PACKET;
        int fewest = blocksBy(best, count);
        for (int packet = LEAST_PACKET + 1; packet <= MOST_PACKET; packet++) {
            int blocks = blocksBy(packet, count);
            if (blocks < fewest) {
                best = packet;
                fewest = blocks;
            }
        }
        return what == 0 ? best : fewest;
    }

    private int blocksBy(int packet, int count) {
        return packetsBy(packet, count) * (disc.run + packet);
    }

    private static int packetsBy(int packet, int count) {
        return packet < 1 ? 0 : (count + packet - 1) / packet;
    }

    public int guess(int place, int what) throws NoSuchElementException {
        checkWhat(what, 1);
        boolean begun = canBegin();
        int packets = packetsNow();
        int guesses = 0;
        int first = NONE;
        for (int block = 0; block < disc.size; block++) {
            if (disc.isFaulty(block) || (begun ? endWith(packets, block) : NONE) != place) {
                continue;
            }
            if (guesses == 0) {
                first = block;
            }
            guesses++;
        }
        return what == 0 ? guesses : first;
    }

    public long storms(int spared, int tenths) throws IllegalArgumentException {
        if (spared < 0 || spared > MOST_SPARED || tenths < 0 || tenths > 10) {
            throw new IllegalArgumentException("spared is 0 to 5, tenths are 0 to 10");
        }
        int packets = packetsNow();
        if (packets == 0 || packets + spared > MOST_POWER) {
            return NONE;
        }
        // the last writing is always a good one: the SPARED ones lie anyhow among those ahead of it
        long ways = 1;
        long sum = 0;
        for (int i = 0; i <= spared; i++) {
            sum += ways * power(tenths, i) * power(10, spared - i);
            ways = ways * (packets + i) / (i + 1);
        }
        return sum * power(10 - tenths, packets);
    }

    private static long power(int base, int exponent) {
        long result = 1;
        for (int i = 0; i < exponent; i++) {
            result *= base;
        }
        return result;
    }

    public int years(int seed, int n, int what) throws NoSuchElementException, IllegalArgumentException {
        checkWhat(what, 2);
        if (n < 0 || n > MOST_YEARS) {
            throw new IllegalArgumentException("n is 0 to 60");
        }
        beforeYears.takeFrom(state);
        draws.seed = seed;
        for (int year = 0; year < n; year++) {
            liveYear();
        }
        int written = state.head - beforeYears.head;
        int files = state.fileCount();
        int spared = state.spared - beforeYears.spared;
        state.takeFrom(beforeYears);
        return what == 0 ? written : what == 1 ? files : spared;
    }

    private void liveYear() {
        int act = draws.draw(7);
        if (act <= 1) {
            setDrawn();
        } else if (act == 2) {
            int name = draws.draw(NAMES);
            if (state.has(name)) {
                state.eraseFile(name);
            }
        } else if (act <= 4) {
            if (canBegin()) {
                writeAll();
            }
        } else if (act == 5) {
            int blocks = draws.draw(30);
            if (canTear(blocks)) {
                writeTorn(blocks);
            }
        } else {
            boolean imported = draws.draw(2) == 1;
            if (canClose()) {
                closeSession(imported);
            }
        }
    }

    private void setDrawn() {
        int name = draws.draw(NAMES);
        int cell = draws.draw(MOST_CELLS);
        int number = draws.draw(MOST_NUMBER + 1);
        if (state.canSet(name, cell)) {
            state.setCell(name, cell, number);
        }
    }

    public void image() {
        kept.present = true;
        kept.disc.takeBlocks(disc, state.head);
        kept.state.takeFrom(state);
        kept.acts.takeFrom(acts);
        kept.refusedTexts = refusedTexts;
        kept.refusedActs = refusedActs;
    }

    public boolean restore() {
        if (!kept.present) {
            return false;
        }
        disc.takeBlocks(kept.disc, kept.state.head);
        state.takeFrom(kept.state);
        acts.takeFrom(kept.acts);
        refusedTexts = kept.refusedTexts;
        refusedActs = kept.refusedActs;
        return true;
    }

    private static boolean isName(int name) {
        return name >= 0 && name < NAMES;
    }

    /** The TOKENS of a TEXT, of which one is looked at. */
    private static final class Tokens {
        private int[] text = new int[0];
        private int end;
        private int next;
        int at;
        int kind;
        int value;
        int digits;

        void begin(int[] bytes, int length) {
            text = bytes;
            end = Math.min(length, bytes.length);
            next = 0;
            advance();
        }

        void advance() {
            at = next;
            while (at < end && (text[at] == 32 || text[at] == 10)) {
                at++;
            }
            if (at >= end) {
                kind = TEXT_ENDS;
                next = at;
                return;
            }
            next = endOfRow('a', 'z');
            kind = WORD;
            if (next == at) {
                next = endOfRow('0', '9');
                kind = NUMBER;
                takeValue();
            }
            if (next == at) {
                kind = text[at] == ';' ? SEMICOLON : NO_TOKEN;
                next = at + 1;
            }
        }

        private int endOfRow(int least, int most) {
            int i = at;
            while (i < end && text[i] >= least && text[i] <= most) {
                i++;
            }
            return i;
        }

        private void takeValue() {
            digits = next - at;
            value = 0;
            for (int i = at; i < next && i < at + MOST_DIGITS; i++) {
                value = value * 10 + text[i] - '0';
            }
        }

        boolean isWord(String word) {
            if (kind != WORD || next - at != word.length()) {
                return false;
            }
            for (int i = 0; i < word.length(); i++) {
                if (text[at + i] != word.charAt(i)) {
                    return false;
                }
            }
            return true;
        }
    }

    /** Reads a TEXT: what it tells, or its FAULT. */
    private static final class Reader {
        private final Tokens tokens = new Tokens();
        int fault;
        int place;
        private boolean discTold;
        int size;
        int packet;
        int run;
        int out;
        final boolean[] bad = new boolean[MOST_BLOCKS];
        private int badCount;
        final int[] names = new int[NAMES];
        final int[] lengths = new int[NAMES];
        final int[] numbers = new int[NAMES * MOST_CELLS];
        int files;

        void readText(int[] text, int length) {
            forgetAll();
            tokens.begin(text, length);
            for (int clause = 0; clause <= length && fault == 0 && tokens.kind != TEXT_ENDS; clause++) {
                readClause();
            }
        }

        private void forgetAll() {
            fault = 0;
            place = NONE;
            discTold = false;
            size = 200;
            packet = 8;
            run = 1;
            out = 2;
            for (int block = 0; block < MOST_BLOCKS; block++) {
                bad[block] = false;
            }
            badCount = 0;
            files = 0;
        }

        private void readClause() {
            if (tokens.isWord("disc")) {
                readDisc();
            } else if (tokens.isWord("bad")) {
                readBad();
            } else if (tokens.isWord("file")) {
                readFile();
            } else {
                fail(MISPLACED);
            }
            if (fault == 0) {
                readSemicolon();
            }
        }

        private void fail(int what) {
            fault = what;
            place = tokens.at;
        }

        private void readSemicolon() {
            if (tokens.kind == SEMICOLON) {
                tokens.advance();
            } else {
                fail(MISPLACED);
            }
        }

        private void readDisc() {
            if (discTold) {
                fail(SECOND_DISC);
                return;
            }
            discTold = true;
            tokens.advance();
            size = readNumber(40, MOST_BLOCKS);
            packet = readNumber(LEAST_PACKET, MOST_PACKET);
            run = readNumber(0, 4);
            out = readNumber(0, 8);
        }

        /** 0 behind a FAULT: nothing of that TEXT is taken over. */
        private int readNumber(int least, int most) {
            if (fault != 0 || !isFit(least, most)) {
                return 0;
            }
            int number = tokens.value;
            tokens.advance();
            return number;
        }

        private boolean isFit(int least, int most) {
            if (tokens.kind != NUMBER) {
                fail(MISPLACED);
                return false;
            }
            if (tokens.digits > MOST_DIGITS || tokens.value < least || tokens.value > most) {
                fail(TOO_MUCH);
                return false;
            }
            return true;
        }

        private void readBad() {
            tokens.advance();
            readBadBlock();
            for (int i = 0; i <= MOST_BAD && fault == 0 && tokens.kind == NUMBER; i++) {
                readBadBlock();
            }
        }

        private void readBadBlock() {
            if (!isFit(0, MOST_BLOCKS - 1)) {
                return;
            }
            if (badCount >= MOST_BAD) {
                fail(TOO_MUCH);
            } else if (bad[tokens.value]) {
                fail(TOLD_ALREADY);
            } else {
                bad[tokens.value] = true;
                badCount++;
                tokens.advance();
            }
        }

        private void readFile() {
            tokens.advance();
            if (!isFit(0, NAMES - 1)) {
                return;
            }
            if (isTold(tokens.value) || files >= NAMES) {
                fail(TOLD_ALREADY);
                return;
            }
            names[files] = tokens.value;
            lengths[files] = 0;
            tokens.advance();
            for (int i = 0; i <= MOST_CELLS && fault == 0 && tokens.kind == NUMBER; i++) {
                readCell();
            }
            files++;
        }

        private boolean isTold(int name) {
            for (int i = 0; i < files; i++) {
                if (names[i] == name) {
                    return true;
                }
            }
            return false;
        }

        private void readCell() {
            if (!isFit(0, MOST_NUMBER)) {
                return;
            }
            if (lengths[files] >= MOST_CELLS) {
                fail(TOO_MUCH);
                return;
            }
            numbers[files * MOST_CELLS + lengths[files]] = tokens.value;
            lengths[files]++;
            tokens.advance();
        }
    }

    /**
     * The DISC: what is told of it, and what its BLOCKS tell. BLOCKS from HEAD on may still hold what an
     * UNDONE act wrote there; they are BLANK all the same, so that HEAD alone tells what is written.
     */
    private static final class Disc {
        int size;
        int packet;
        int run;
        int out;
        boolean foreseenBroken;
        /** Of each BLOCK how many ahead of it are FAULTY, so that a row of them is looked at in one step. */
        private final int[] faultyAhead = new int[MOST_BLOCKS + 1];
        private final int[] kinds = new int[MOST_BLOCKS];
        private final int[] lengths = new int[MOST_BLOCKS];
        private final int[] told = new int[MOST_BLOCKS * MOST_TOLD];
        /** Of each BLOCK the latest look that REACHED it, so that no look has to clear the row. */
        private final int[] reached = new int[MOST_BLOCKS];
        private int look;

        void takeOver(Reader reader) {
            size = reader.size;
            packet = reader.packet;
            run = reader.run;
            out = reader.out;
            for (int block = 0; block < MOST_BLOCKS; block++) {
                faultyAhead[block + 1] = faultyAhead[block] + (reader.bad[block] ? 1 : 0);
            }
        }

        void takeBlocks(Disc other, int head) {
            System.arraycopy(other.kinds, 0, kinds, 0, head);
            System.arraycopy(other.lengths, 0, lengths, 0, head);
            System.arraycopy(other.told, 0, told, 0, head * MOST_TOLD);
        }

        boolean isBlock(int block) {
            return block >= 0 && block < size;
        }

        boolean isFaulty(int block) {
            return isBlock(block) && faultyAhead[block + 1] > faultyAhead[block];
        }

        private boolean hasFaulty(int from, int behind) {
            return from >= 0 && from < behind && behind <= size && faultyAhead[behind] > faultyAhead[from];
        }

        int kindOf(int block, int head) {
            return isBlock(block) && block < head ? kinds[block] : BLANK;
        }

        int lengthOf(int block) {
            return block >= 0 && block < size ? lengths[block] : 0;
        }

        /** NONE, too, where it tells nothing such. */
        int toldBy(int block, int i) {
            if (block < 0 || block >= size || i < 0 || i >= lengths[block]) {
                return NONE;
            }
            return told[block * MOST_TOLD + i];
        }

        /** A FAULTY BLOCK keeps nothing: it becomes BAD, but for LINKS and run-outs, that tell nothing. */
        void write(int block, int kind, int length) {
            if (block < 0 || block >= size) {
                return;
            }
            boolean faulty = faultyAhead[block + 1] > faultyAhead[block];
            boolean lost = faulty && kind != LINK && kind != RUN_OUT;
            kinds[block] = lost ? BAD : kind;
            lengths[block] = lost ? 0 : length;
        }

        /** Goes for nothing where the BLOCK is BAD. */
        void tell(int block, int i, int number) {
            if (block >= 0 && block < size && i >= 0 && i < lengths[block]) {
                told[block * MOST_TOLD + i] = number;
            }
        }

        int packetsFor(int count) {
            return packetsBy(packet, count);
        }

        int costOf(int count) {
            return packetsFor(count) * (run + packet);
        }

        boolean hasRoomForPacket(int head) {
            return head + run + packet + out <= size;
        }

        boolean wouldSpare(int head) {
            return hasFaulty(head + run, head + run + packet);
        }

        /** HEAD behind so many PACKETS, were one more BLOCK FAULTY; keeps whether they are BROKEN OFF there. */
        int foresee(int head, int packets, int extra) {
            int end = head;
            int done = 0;
            foreseenBroken = false;
            for (int turn = 0; turn < MOST_BLOCKS && done < packets; turn++) {
                if (!hasRoomForPacket(end)) {
                    foreseenBroken = true;
                    return end;
                }
                int behind = end + run + packet;
                boolean spared = wouldSpare(end) || (extra >= end + run && extra < behind);
                end = behind;
                if (!spared) {
                    done++;
                }
            }
            return end;
        }

        private boolean isGoodMap(int block) {
            if (kinds[block] != MAP) {
                return false;
            }
            for (int i = Math.max(0, block - packet + 1); i < block; i++) {
                if (kinds[i] == BAD) {
                    return false;
                }
            }
            return true;
        }

        int lastGoodMap(int head) {
            for (int block = Math.min(head, size) - 1; block >= 0; block--) {
                if (isGoodMap(block)) {
                    return block;
                }
            }
            return NONE;
        }

        int goodMaps(int head) {
            int maps = 0;
            for (int block = 0; block < head && block < size; block++) {
                if (isGoodMap(block)) {
                    maps++;
                }
            }
            return maps;
        }

        int mapAlong(int map, int k) {
            if (k < 0) {
                return NONE;
            }
            int at = map;
            for (int i = 0; i < k && at != NONE; i++) {
                at = toldBy(at, PREVIOUS);
            }
            return at;
        }

        int mapsAlong(int map) {
            int maps = 0;
            int at = map;
            while (maps < MOST_BLOCKS && at != NONE) {
                maps++;
                at = toldBy(at, PREVIOUS);
            }
            return maps;
        }

        int entryBy(int map, int name) {
            int virtual = toldBy(toldBy(map, 0), name);
            return virtual == NONE ? NONE : toldBy(map, virtual);
        }

        int numberBy(int entry, int cell) {
            return toldBy(toldBy(entry, cell), 0);
        }

        boolean tellAlike(int entry, int other) {
            if (lengthOf(entry) != lengthOf(other)) {
                return false;
            }
            for (int cell = 0; cell < lengthOf(entry); cell++) {
                if (numberBy(entry, cell) != numberBy(other, cell)) {
                    return false;
                }
            }
            return true;
        }

        private void reach(int map) {
            look++;
            reachBlock(map);
            for (int virtual = 0; virtual < VIRTUALS; virtual++) {
                reachBlock(toldBy(map, virtual));
            }
            for (int name = 0; name < NAMES; name++) {
                int entry = entryBy(map, name);
                for (int cell = 0; cell < lengthOf(entry); cell++) {
                    reachBlock(toldBy(entry, cell));
                }
            }
        }

        private void reachBlock(int block) {
            if (isBlock(block)) {
                reached[block] = look;
            }
        }

        int mapsReaching(int block, int head) {
            if (!isBlock(block)) {
                return 0;
            }
            int maps = 0;
            // no MAP tells of what is written behind it
            for (int map = block; map < head && map < size; map++) {
                if (isGoodMap(map)) {
                    reach(map);
                    maps += reached[block] == look ? 1 : 0;
                }
            }
            return maps;
        }

        int deadBlocks(int map, int head) {
            reach(map);
            int dead = 0;
            for (int block = 0; block < head && block < size; block++) {
                if (kinds[block] >= DATA && kinds[block] <= MAP && reached[block] != look) {
                    dead++;
                }
            }
            return dead;
        }

        int badBlocks(int head) {
            int bad = 0;
            for (int block = 0; block < head && block < size; block++) {
                if (kinds[block] == BAD) {
                    bad++;
                }
            }
            return bad;
        }
    }

    /** All that ACTS change but what BLOCKS tell: what is IN MIND, HEAD, and how many PACKETS were SPARED. */
    private static final class State {
        /** 0 where there is no FILE of that NAME. */
        final int[] virtuals = new int[NAMES];
        final int[] lengths = new int[NAMES];
        final boolean[] changed = new boolean[NAMES];
        /** Of each CELL the BLOCK; NONE where it is NEW. */
        private final int[] blocks = new int[NAMES * MOST_CELLS];
        private final int[] numbers = new int[NAMES * MOST_CELLS];
        final int[] written = new int[VIRTUALS];
        boolean directoryChanged;
        int map;
        int session;
        int head;
        int spared;

        void takeFrom(State other) {
            System.arraycopy(other.virtuals, 0, virtuals, 0, NAMES);
            System.arraycopy(other.lengths, 0, lengths, 0, NAMES);
            for (int name = 0; name < NAMES; name++) {
                changed[name] = other.changed[name];
            }
            System.arraycopy(other.blocks, 0, blocks, 0, NAMES * MOST_CELLS);
            System.arraycopy(other.numbers, 0, numbers, 0, NAMES * MOST_CELLS);
            System.arraycopy(other.written, 0, written, 0, VIRTUALS);
            directoryChanged = other.directoryChanged;
            map = other.map;
            session = other.session;
            head = other.head;
            spared = other.spared;
        }

        void takeOver(Reader reader) {
            dropFiles();
            map = NONE;
            session = 0;
            head = 0;
            spared = 0;
            directoryChanged = reader.files > 0;
            for (int i = 0; i < reader.files && i < NAMES; i++) {
                int name = reader.names[i];
                virtuals[name] = i + 1;
                lengths[name] = reader.lengths[i];
                changed[name] = true;
                for (int cell = 0; cell < lengths[name]; cell++) {
                    putCell(name, cell, NONE, reader.numbers[i * MOST_CELLS + cell]);
                }
            }
        }

        void dropFiles() {
            Arrays.fill(virtuals, 0);
            Arrays.fill(lengths, 0);
            Arrays.fill(written, NONE);
            settleChanges();
        }

        private void settleChanges() {
            for (int name = 0; name < NAMES; name++) {
                changed[name] = false;
            }
            directoryChanged = false;
        }

        /** Behind the MAP of a SYNC. */
        void settle(int newMap) {
            map = newMap;
            settleChanges();
        }

        void mountMap(Disc disc, int from) {
            dropFiles();
            map = from;
            session = from == NONE ? 0 : disc.toldBy(from, SESSION);
            for (int virtual = 0; virtual < VIRTUALS; virtual++) {
                written[virtual] = disc.toldBy(from, virtual);
            }
            for (int name = 0; name < NAMES; name++) {
                int virtual = disc.toldBy(written[0], name);
                if (virtual != NONE) {
                    virtuals[name] = virtual;
                    takeCells(name, disc, disc.toldBy(from, virtual));
                }
            }
        }

        void takeCells(int name, Disc disc, int entry) {
            lengths[name] = Math.min(disc.lengthOf(entry), MOST_CELLS);
            for (int cell = 0; cell < lengths[name]; cell++) {
                int block = disc.toldBy(entry, cell);
                putCell(name, cell, block, disc.toldBy(block, 0));
            }
        }

        private void putCell(int name, int cell, int block, int number) {
            blocks[name * MOST_CELLS + cell] = block;
            numbers[name * MOST_CELLS + cell] = number;
        }

        boolean has(int name) {
            return isName(name) && virtuals[name] != 0;
        }

        int blockOf(int name, int cell) {
            return blocks[name * MOST_CELLS + cell];
        }

        int numberOf(int name, int cell) {
            return numbers[name * MOST_CELLS + cell];
        }

        int entryOf(int name) {
            return written[virtuals[name]];
        }

        int nameOf(int virtual) {
            for (int name = 0; name < NAMES; name++) {
                if (virtuals[name] == virtual) {
                    return name;
                }
            }
            return NONE;
        }

        private int freeVirtual() {
            int virtual = 1;
            while (virtual < VIRTUALS - 1 && nameOf(virtual) != NONE) {
                virtual++;
            }
            return virtual;
        }

        int fileCount() {
            int files = 0;
            for (int name = 0; name < NAMES; name++) {
                files += has(name) ? 1 : 0;
            }
            return files;
        }

        int changedCount() {
            int files = 0;
            for (int name = 0; name < NAMES; name++) {
                files += changed[name] ? 1 : 0;
            }
            return files;
        }

        boolean anyChanged() {
            return directoryChanged || changedCount() > 0;
        }

        int newCells(int name) {
            int cells = 0;
            for (int cell = 0; cell < lengths[name]; cell++) {
                cells += blocks[name * MOST_CELLS + cell] == NONE ? 1 : 0;
            }
            return cells;
        }

        int newCount() {
            int cells = 0;
            for (int name = 0; name < NAMES; name++) {
                cells += newCells(name);
            }
            return cells;
        }

        /** CONTENTS of a SYNC now, without PADS; 0 if nothing has CHANGED. */
        int contentCount() {
            int count = directoryChanged ? 1 : 0;
            for (int name = 0; name < NAMES; name++) {
                count += changed[name] ? newCells(name) + 1 : 0;
            }
            return count == 0 ? 0 : count + 1;
        }

        boolean canSet(int name, int cell) {
            return isName(name) && cell >= 0 && cell <= lengths[name] && cell < MOST_CELLS;
        }

        void setCell(int name, int cell, int number) {
            if (!has(name)) {
                beginFile(name);
            }
            putCell(name, cell, NONE, number);
            lengths[name] = Math.max(lengths[name], cell + 1);
            changed[name] = true;
        }

        private void beginFile(int name) {
            virtuals[name] = freeVirtual();
            written[virtuals[name]] = NONE;
            directoryChanged = true;
        }

        void eraseFile(int name) {
            written[virtuals[name]] = NONE;
            forget(name);
            directoryChanged = true;
        }

        private void forget(int name) {
            virtuals[name] = 0;
            lengths[name] = 0;
            changed[name] = false;
        }

        boolean canGoTo(int name, int to) {
            return has(name) && isName(to) && !has(to);
        }

        void renameFile(int name, int to) {
            virtuals[to] = virtuals[name];
            changed[to] = changed[name];
            copyCells(name, to);
            forget(name);
            directoryChanged = true;
        }

        void copyFile(int name, int to) {
            beginFile(to);
            copyCells(name, to);
            changed[to] = true;
        }

        private void copyCells(int name, int to) {
            lengths[to] = lengths[name];
            for (int cell = 0; cell < lengths[name]; cell++) {
                putCell(to, cell, blockOf(name, cell), numberOf(name, cell));
            }
        }

        boolean isLike(int name, Disc disc, int entry) {
            if (!has(name) || lengths[name] != disc.lengthOf(entry)) {
                return false;
            }
            for (int cell = 0; cell < lengths[name]; cell++) {
                if (numberOf(name, cell) != disc.numberBy(entry, cell)) {
                    return false;
                }
            }
            return true;
        }

        int runs(int name) {
            int runs = 0;
            int ahead = NONE;
            for (int cell = 0; cell < lengths[name]; cell++) {
                int block = blockOf(name, cell);
                if (block != NONE && (ahead == NONE || block != ahead + 1)) {
                    runs++;
                }
                ahead = block;
            }
            return runs;
        }

        int farthest(int name) {
            int farthest = 0;
            for (int cell = 1; cell < lengths[name]; cell++) {
                int block = blockOf(name, cell);
                int ahead = blockOf(name, cell - 1);
                if (block != NONE && ahead != NONE) {
                    farthest = Math.max(farthest, Math.abs(block - ahead));
                }
            }
            return farthest;
        }
    }

    /** The CONTENTS of a SYNC in their order, PADS and all, and the writing of them. */
    private static final class Contents {
        private final int[] kinds = new int[MOST_CONTENTS];
        private final int[] names = new int[MOST_CONTENTS];
        private final int[] cells = new int[MOST_CONTENTS];
        private int count;

        void plan(State state, int packet) {
            count = 0;
            for (int virtual = 1; virtual < VIRTUALS; virtual++) {
                int name = state.nameOf(virtual);
                if (name != NONE && state.changed[name]) {
                    addFile(state, name);
                }
            }
            if (state.directoryChanged) {
                add(DIRECTORY, NONE, NONE);
            }
            int pads = packetsBy(packet, count + 1) * packet - count - 1;
            for (int i = 0; i < pads; i++) {
                add(PAD, NONE, NONE);
            }
            add(MAP, NONE, NONE);
        }

        private void addFile(State state, int name) {
            for (int cell = 0; cell < state.lengths[name]; cell++) {
                if (state.blockOf(name, cell) == NONE) {
                    add(DATA, name, cell);
                }
            }
            add(ENTRY, name, NONE);
        }

        private void add(int kind, int name, int cell) {
            if (count < MOST_CONTENTS) {
                kinds[count] = kind;
                names[count] = name;
                cells[count] = cell;
                count++;
            }
        }

        /** Writes at most so many BLOCKS; whether the MAP stands in a PACKET without BAD. */
        boolean lay(State state, Disc disc, int most) {
            int left = most;
            int first = 0;
            for (int turn = 0; turn < MOST_BLOCKS && first < count; turn++) {
                if (!disc.hasRoomForPacket(state.head)) {
                    return false;
                }
                boolean spared = disc.wouldSpare(state.head);
                int whole = disc.run + disc.packet;
                int blocks = Math.min(whole, left);
                placePacket(state, first, state.head + disc.run, disc.packet);
                for (int i = 0; i < blocks; i++) {
                    writeBlock(state, disc, i < disc.run ? NONE : first + i - disc.run);
                }
                left -= blocks;
                if (blocks < whole) {
                    return false;
                }
                if (spared) {
                    state.spared++;
                } else {
                    first += disc.packet;
                }
            }
            return true;
        }

        /** Ahead of the writing, so that what stands in one PACKET tells of this very writing of it. */
        private void placePacket(State state, int first, int start, int packet) {
            for (int i = first; i < first + packet && i < count; i++) {
                int block = start + i - first;
                if (kinds[i] == DATA) {
                    state.blocks[names[i] * MOST_CELLS + cells[i]] = block;
                } else if (kinds[i] == ENTRY) {
                    state.written[state.virtuals[names[i]]] = block;
                } else if (kinds[i] == DIRECTORY) {
                    state.written[0] = block;
                }
            }
        }

        /** At HEAD one of the CONTENTS, or a LINK. */
        private void writeBlock(State state, Disc disc, int i) {
            int kind = i >= 0 && i < count ? kinds[i] : LINK;
            switch (kind) {
                case DATA:
                    disc.write(state.head, DATA, 1);
                    disc.tell(state.head, 0, state.numberOf(names[i], cells[i]));
                    break;
                case ENTRY:
                    writeEntry(state, disc, names[i]);
                    break;
                case DIRECTORY:
                    writeDirectory(state, disc);
                    break;
                case MAP:
                    writeMap(state, disc);
                    break;
                default:
                    disc.write(state.head, kind, 0);
            }
            state.head++;
        }

        private static void writeEntry(State state, Disc disc, int name) {
            disc.write(state.head, ENTRY, state.lengths[name]);
            for (int cell = 0; cell < state.lengths[name]; cell++) {
                disc.tell(state.head, cell, state.blockOf(name, cell));
            }
        }

        private static void writeDirectory(State state, Disc disc) {
            disc.write(state.head, DIRECTORY, NAMES);
            for (int name = 0; name < NAMES; name++) {
                disc.tell(state.head, name, state.virtuals[name] == 0 ? NONE : state.virtuals[name]);
            }
        }

        private static void writeMap(State state, Disc disc) {
            disc.write(state.head, MAP, MOST_TOLD);
            for (int virtual = 0; virtual < VIRTUALS; virtual++) {
                disc.tell(state.head, virtual, state.written[virtual]);
            }
            disc.tell(state.head, PREVIOUS, state.map);
            disc.tell(state.head, SESSION, state.session);
        }
    }

    /** What was ahead of each of the latest ACTS, in a ring. */
    private static final class Acts {
        private final State[] ahead = new State[MOST_ACTS];
        private int next;
        int count;

        Acts() {
            for (int i = 0; i < MOST_ACTS; i++) {
                ahead[i] = new State();
            }
        }

        void forget() {
            next = 0;
            count = 0;
        }

        void keep(State state) {
            ahead[next].takeFrom(state);
            next = next + 1 < MOST_ACTS ? next + 1 : 0;
            count = Math.min(count + 1, MOST_ACTS);
        }

        void takeBack(State state) {
            next = next > 0 ? next - 1 : MOST_ACTS - 1;
            state.takeFrom(ahead[next]);
            count--;
        }

        void takeFrom(Acts other) {
            for (int i = 0; i < MOST_ACTS; i++) {
                ahead[i].takeFrom(other.ahead[i]);
            }
            next = other.next;
            count = other.count;
        }
    }

    /** AN IMAGE, with room for one from the beginning. */
    private static final class Image {
        boolean present;
        final Disc disc = new Disc();
        final State state = new State();
        final Acts acts = new Acts();
        int refusedTexts;
        int refusedActs;
    }

    /** DRAWS by a seed. */
    private static final class Draws {
        int seed;

        int draw(int n) {
            seed = seed * 1103515245 + 12345;
            return n < 1 ? 0 : ((seed >>> 16) & 32767) % n;
        }
    }
}
