/** Boundary cases, sentence by sentence: promises 6 to 14, and what the Terms say of looking back. */
public final class EdgesOfLooksTest {
    private static final int[] NO_NAMES = {-1, 12, 13, Integer.MAX_VALUE, Integer.MIN_VALUE};

    public static void main(String[] args) {
        blockOfNoBlock();
        blockOfAnotherWhat();
        blockAtTheEnds();
        reachedFromNone();
        tellsOfNoBlock();
        tellsOfData();
        tellsOfAnEntry();
        tellsOfADirectory();
        tellsOfAMap();
        tellsOfAllElse();
        fileOfNone();
        fileOfAnotherWhat();
        fileNeverWritten();
        lieOfNone();
        runsAtTheirEdges();
        farthestAtItsEdges();
        readOfNone();
        pastOfNoMap();
        pastOfNoName();
        pastOfNoCell();
        pastOfNone();
        versionsOfNone();
        versionsUnlike();
        sinceOfNone();
        sinceTheLeast();
        alikeOfNoMap();
        alikeNotThere();
        deadWithoutAMap();
        hiddenMaps();
        blankFromHeadOn();
        Check.end();
    }

    /** GOOD MAPS 9, 14 and 26; a SESSION closed behind the second; 20 is BAD in a PACKET that is SPARED. */
    private static OnceVolume used() {
        OnceVolume x = Check.told("disc 60 4 1 2;bad 20;file 3 7 9;file 0;");
        x.sync();
        x.set(3, 1, 8);
        x.sync();
        x.close(true);
        x.set(5, 0, 1);
        x.sync();
        x.image();
        x.erase(9);
        x.set(3, 0, 6);
        return x;
    }

    // NoSuchElementException: no such BLOCK, another what
    private static void blockOfNoBlock() {
        int[] wrong = {-1, 60, 61, 399, 400, Integer.MAX_VALUE, Integer.MIN_VALUE};
        for (int block : wrong) {
            Look.noSuch("block(" + block + ", 0)", EdgesOfLooksTest::used, x -> x.block(block, 0));
            Look.noSuch("block(" + block + ", 1)", EdgesOfLooksTest::used, x -> x.block(block, 1));
        }
    }

    private static void blockOfAnotherWhat() {
        int[] wrong = {-1, 2, Integer.MAX_VALUE, Integer.MIN_VALUE};
        for (int what : wrong) {
            Look.noSuch("block(9, " + what + ")", EdgesOfLooksTest::used, x -> x.block(9, what));
        }
        Look.answers("block(9, 0)", 6, EdgesOfLooksTest::used, x -> x.block(9, 0));
        Look.answers("block(9, 1)", 1, EdgesOfLooksTest::used, x -> x.block(9, 1));
    }

    private static void blockAtTheEnds() {
        OnceVolume x = used();
        Check.due("the first", 1, x.block(0, 0));
        Check.due("the last written", x.count(9), x.count(4) - 1);
        Check.due("its kind", 6, x.block(x.count(4) - 1, 0));
        Check.due("the one at HEAD", 0, x.block(x.count(4), 0));
        Check.due("the last of 60", 0, x.block(59, 0));
        OnceVolume y = Check.told("disc 400 16 4 0;file 0 1;");
        Check.due("the last of 400", 0, y.block(399, 0));
        Check.noSuch("block(400, 0)", () -> y.block(400, 0));
        OnceVolume z = Check.told("disc 40 16 4 0;bad 4;file 0 1;");
        Check.due("full to the last", 40, z.sync());
        Check.due("the last of 40", 6, z.block(39, 0));
        Check.due("REACHED, the last of 40", 1, z.block(39, 1));
        Check.noSuch("block(40, 0)", () -> z.block(40, 0));
        Check.noSuch("tells(40, 0)", () -> z.tells(40, 0));
        Check.due("tells(39, 14)", 0, z.tells(39, 14));
    }

    // from how many GOOD MAPS it is REACHED: MAPS that aren't GOOD, and PREVIOUS, are no matter
    private static void reachedFromNone() {
        OnceVolume x = Check.told("disc 60 4 1 2;bad 2;file 1 5;");
        x.sync();
        int[] due = {0, 0, 0, 0, 0, 0, 1, 1, 1, 1, 0};
        for (int block = 0; block < due.length; block++) {
            Check.due("REACHED " + block, due[block], x.block(block, 1));
        }
        x.set(2, 0, 6);
        x.sync();
        Check.due("the MAP ahead is PREVIOUS alone", 1, x.block(9, 1));
        Check.due("DATA from both", 2, x.block(6, 1));
        Check.due("an ENTRY from both", 2, x.block(7, 1));
        Check.due("the DIRECTORY of the first", 1, x.block(8, 1));
        x.mount(1);
        Check.due("HIDDEN MAPS count, too", 2, x.block(6, 1));
        x.undo();
        x.undo();
        Check.due("an undone one doesn't", 1, x.block(6, 1));
        OnceVolume y = Check.told("disc 60 8 0 2;file 11 5 6;file 0 7 8;");
        y.sync();
        int[] all = {1, 1, 1, 1, 1, 1, 1, 1, 0};
        for (int block = 0; block < all.length; block++) {
            Check.due("REACHED of the first and the last NAME: " + block, all[block], y.block(block, 1));
        }
        Check.due("none is DEAD", 0, y.count(13));
        y.mount(0);
        Check.due("the last CELL of NAME 0", 8, y.read(0, 1));
        Check.due("the last CELL of NAME 11", 6, y.read(11, 1));
        y.erase(11);
        y.sync();
        Check.due("DEAD: DATA, DATA, ENTRY, DIRECTORY, MAP", 5, y.count(13));
    }

    // NoSuchElementException: no such BLOCK, it tells nothing such
    private static void tellsOfNoBlock() {
        int[] wrong = {-1, 60, 61, Integer.MAX_VALUE, Integer.MIN_VALUE};
        for (int block : wrong) {
            Look.noSuch("tells(" + block + ", 0)", EdgesOfLooksTest::used, x -> x.tells(block, 0));
        }
    }

    private static void tellsBut(OnceVolume x, int block, int kind, int many) {
        Check.due("the kind of " + block, kind, x.block(block, 0));
        if (many > 0) {
            Check.due(block + " tells " + (many - 1), true, Check.answerOf(() -> x.tells(block, many - 1)) >= -1);
            Check.due(block + " tells 0", true, Check.answerOf(() -> x.tells(block, 0)) >= -1);
        }
        int[] wrong = {many, many + 1, -1, 15, Integer.MAX_VALUE, Integer.MIN_VALUE};
        for (int i : wrong) {
            Check.noSuch("tells(" + block + ", " + i + ")", () -> x.tells(block, i));
        }
    }

    // of DATA the number (i 0)
    private static void tellsOfData() {
        OnceVolume x = Check.told("disc 60 4 0 2;file 3 999 0;");
        x.sync();
        tellsBut(x, 0, 3, 1);
        Check.due("the greatest", 999, x.tells(0, 0));
        Check.due("the least", 0, x.tells(1, 0));
    }

    // an ENTRY: no such CELL
    private static void tellsOfAnEntry() {
        OnceVolume x = Check.told("disc 60 16 0 2;file 3;file 4 1;file 5 1 2 3 4 5 6 7 8;");
        x.sync();
        tellsBut(x, 0, 4, 0);
        tellsBut(x, 2, 4, 1);
        tellsBut(x, 11, 4, 8);
        Check.due("CELL 0", 1, x.tells(2, 0));
        Check.due("CELL 7", 10, x.tells(11, 7));
        OnceVolume y = Check.told("disc 60 4 0 2;file 3 7;");
        y.sync();
        Check.due("BLOCK 0", 0, y.tells(1, 0));
    }

    // of a DIRECTORY the VIRTUAL of NAME i; NONE where it tells none
    private static void tellsOfADirectory() {
        OnceVolume x = Check.told("disc 60 4 0 2;file 11;file 0;");
        x.sync();
        tellsBut(x, 2, 5, 12);
        Check.due("NAME 0", 2, x.tells(2, 0));
        Check.due("NAME 11", 1, x.tells(2, 11));
        Check.due("NAME 1", -1, x.tells(2, 1));
        x.erase(0);
        x.erase(11);
        x.sync();
        tellsBut(x, 4, 5, 12);
        Check.due("an empty one", -1, x.tells(4, 0));
        Check.due("an empty one, the last", -1, x.tells(4, 11));
    }

    // of a MAP the BLOCK of VIRTUAL i, PREVIOUS (i 13), the SESSION (i 14); NONE where it tells none
    private static void tellsOfAMap() {
        OnceVolume x = Check.told("disc 60 4 0 0;file 11;file 0;");
        x.sync();
        tellsBut(x, 3, 6, 15);
        Check.due("the DIRECTORY", 2, x.tells(3, 0));
        Check.due("VIRTUAL 1", 0, x.tells(3, 1));
        Check.due("VIRTUAL 2", 1, x.tells(3, 2));
        Check.due("VIRTUAL 3", -1, x.tells(3, 3));
        Check.due("VIRTUAL 12", -1, x.tells(3, 12));
        Check.due("no PREVIOUS", -1, x.tells(3, 13));
        Check.due("the SESSION", 0, x.tells(3, 14));
        x.close(true);
        x.set(0, 0, 1);
        x.sync();
        Check.due("PREVIOUS", 3, x.tells(7, 13));
        Check.due("the SESSION then", 1, x.tells(7, 14));
    }

    // LINK, PAD, OUT, BAD, BLANK tell nothing
    private static void tellsOfAllElse() {
        OnceVolume x = Check.told("disc 60 4 1 2;bad 2;file 1;");
        x.sync();
        x.close(true);
        tellsBut(x, 0, 1, 0);
        tellsBut(x, 2, 8, 0);
        tellsBut(x, 8, 2, 0);
        tellsBut(x, 10, 7, 0);
        tellsBut(x, 12, 0, 0);
        tellsBut(x, 59, 0, 0);
    }

    // NoSuchElementException: no such FILE, another what
    private static void fileOfNone() {
        for (int name : NO_NAMES) {
            Look.noSuch("file(" + name + ", 0)", EdgesOfLooksTest::used, x -> x.file(name, 0));
        }
        Look.noSuch("file(9, 0) of none", EdgesOfLooksTest::used, x -> x.file(9, 0));
        OnceVolume x = Check.told("file 0;file 11;");
        Check.due("NAME 0", 1, x.file(0, 1));
        Check.due("NAME 11", 2, x.file(11, 1));
    }

    private static void fileOfAnotherWhat() {
        int[] wrong = {-1, 4, Integer.MAX_VALUE, Integer.MIN_VALUE};
        for (int what : wrong) {
            Look.noSuch("file(3, " + what + ")", EdgesOfLooksTest::used, x -> x.file(3, what));
        }
        int[] due = {2, 1, 12, 1};
        for (int what = 0; what < 4; what++) {
            int of = what;
            Look.answers("file(3, " + what + ")", due[what], EdgesOfLooksTest::used, x -> x.file(3, of));
        }
    }

    // the BLOCK of its ENTRY that was written last (2; NONE)
    private static void fileNeverWritten() {
        OnceVolume x = Check.told("disc 60 4 0 0;file 1;");
        Check.due("as it was told", -1, x.file(1, 2));
        x.sync();
        Check.due("BLOCK 0", 0, x.file(1, 2));
        x.set(2, 0, 1);
        Check.due("as it was set", -1, x.file(2, 2));
        x.copy(1, 3);
        Check.due("as it was copied", -1, x.file(3, 2));
        x.erase(1);
        x.set(1, 0, 1);
        Check.due("as it was erased and set", -1, x.file(1, 2));
        Check.due("by its old VIRTUAL", 1, x.file(1, 1));
    }

    private static void lieOfNone() {
        for (int name : NO_NAMES) {
            Look.noSuch("lie(" + name + ", 0)", EdgesOfLooksTest::used, x -> x.lie(name, 0));
        }
        Look.noSuch("lie(9, 0) of none", EdgesOfLooksTest::used, x -> x.lie(9, 0));
        int[] wrong = {-1, 2, Integer.MAX_VALUE, Integer.MIN_VALUE};
        for (int what : wrong) {
            Look.noSuch("lie(3, " + what + ")", EdgesOfLooksTest::used, x -> x.lie(3, what));
        }
    }

    private static void lies(String when, OnceVolume x, int runs, int farthest) {
        Check.due("RUNS " + when, runs, x.lie(1, 0));
        Check.due("FARTHEST " + when, farthest, x.lie(1, 1));
    }

    // RUNS: the first; one behind a NEW one; one whose BLOCK isn't that of the CELL ahead and 1
    private static void runsAtTheirEdges() {
        OnceVolume x = Check.told("disc 60 4 0 0;file 1;");
        lies("of no CELLS", x, 0, 0);
        x.set(1, 0, 5);
        lies("of a NEW one", x, 0, 0);
        x.sync();
        lies("of the first alone, in BLOCK 0", x, 1, 0);
        x.set(1, 1, 6);
        lies("ahead of a NEW one", x, 1, 0);
        x.set(1, 0, 7);
        lies("of NEW ones alone", x, 0, 0);
        x.sync();
        // BLOCKS 4, 5
        lies("right behind", x, 1, 1);
        x.set(1, 0, 8);
        lies("of one behind a NEW one", x, 1, 0);
        x.sync();
        // BLOCKS 8, 5
        lies("backward", x, 2, 3);
        x.set(1, 1, 9);
        x.sync();
        // BLOCKS 8, 12
        lies("not right behind", x, 2, 4);
    }

    // FARTHEST: the most BLOCKS between two such CELLS side by side (0 without such two)
    private static void farthestAtItsEdges() {
        OnceVolume x = Check.told("disc 80 8 0 0;file 1 1 2 3 4;");
        x.sync();
        x.set(1, 3, 9);
        x.sync();
        // BLOCKS 0, 1, 2, 8
        lies("of the last two", x, 2, 6);
        x.set(1, 2, 9);
        lies("0, 1, NEW, 8", x, 2, 1);
        x.set(1, 0, 9);
        lies("NEW, 1, NEW, 8", x, 2, 0);
    }

    // NoSuchElementException: no such FILE, CELL
    private static void readOfNone() {
        for (int name : NO_NAMES) {
            Look.noSuch("read(" + name + ", 0)", EdgesOfLooksTest::used, x -> x.read(name, 0));
        }
        Look.noSuch("read(9, 0) of none", EdgesOfLooksTest::used, x -> x.read(9, 0));
        Look.noSuch("read(0, 0) of no CELLS", EdgesOfLooksTest::used, x -> x.read(0, 0));
        int[] wrong = {-1, 2, 7, 8, Integer.MAX_VALUE, Integer.MIN_VALUE};
        for (int cell : wrong) {
            Look.noSuch("read(3, " + cell + ")", EdgesOfLooksTest::used, x -> x.read(3, cell));
        }
        Look.answers("read(3, 0)", 6, EdgesOfLooksTest::used, x -> x.read(3, 0));
        Look.answers("read(3, 1)", 8, EdgesOfLooksTest::used, x -> x.read(3, 1));
        OnceVolume y = Check.told("file 1 1 2 3 4 5 6 7 8;");
        Check.due("CELL 7", 8, y.read(1, 7));
        Check.noSuch("CELL 8 of 8", () -> y.read(1, 8));
    }

    // NoSuchElementException: there is no k-th MAP
    private static void pastOfNoMap() {
        int[] wrong = {-1, 3, 4, Integer.MAX_VALUE, Integer.MIN_VALUE};
        for (int k : wrong) {
            Look.noSuch("past(" + k + ", 3, 0)", EdgesOfLooksTest::used, x -> x.past(k, 3, 0));
            Look.noSuch("past(" + k + ", 9, -1)", EdgesOfLooksTest::used, x -> x.past(k, 9, -1));
        }
        Look.answers("past(2, 3, 1)", 9, EdgesOfLooksTest::used, x -> x.past(2, 3, 1));
        Look.answers("past(0, 3, 1)", 8, EdgesOfLooksTest::used, x -> x.past(0, 3, 1));
        OnceVolume y = Check.told("file 3 7;");
        Check.noSuch("past(0, 3, 0) without a MAP", () -> y.past(0, 3, 0));
    }

    // no NAME
    private static void pastOfNoName() {
        for (int name : NO_NAMES) {
            Look.noSuch("past(0, " + name + ", 0)", EdgesOfLooksTest::used, x -> x.past(0, name, 0));
            Look.noSuch("past(0, " + name + ", -1)", EdgesOfLooksTest::used, x -> x.past(0, name, -1));
        }
    }

    // CELL not 0 to 7
    private static void pastOfNoCell() {
        int[] wrong = {-2, 8, 9, Integer.MAX_VALUE, Integer.MIN_VALUE};
        for (int cell : wrong) {
            Look.noSuch("past(0, 3, " + cell + ")", EdgesOfLooksTest::used, x -> x.past(0, 3, cell));
            Look.noSuch("past(0, 9, " + cell + ") of none", EdgesOfLooksTest::used, x -> x.past(0, 9, cell));
        }
        OnceVolume y = Check.told("file 1 1 2 3 4 5 6 7 999;");
        y.sync();
        Check.due("CELL 7", 999, y.past(0, 1, 7));
        Check.due("8 CELLS", 8, y.past(0, 1, -1));
    }

    // NONE: the FILE wasn't there, or had not so many CELLS
    private static void pastOfNone() {
        OnceVolume x = used();
        Check.due("not so many", -1, x.past(0, 3, 2));
        Check.due("CELL 7", -1, x.past(0, 3, 7));
        Check.due("there, without CELLS", -1, x.past(0, 0, 0));
        Check.due("how many of these", 0, x.past(0, 0, -1));
        Check.due("not there yet", -1, x.past(1, 5, 0));
        Check.due("how many, not there yet", -1, x.past(1, 5, -1));
        Check.due("there by the next", 1, x.past(0, 5, -1));
        Check.due("never there", -1, x.past(2, 11, -1));
    }

    // VERSIONS. NoSuchElementException: no NAME
    private static void versionsOfNone() {
        for (int name : NO_NAMES) {
            Look.noSuch("versions(" + name + ")", EdgesOfLooksTest::used, x -> x.versions(name));
        }
        Look.answers("never there", 0, EdgesOfLooksTest::used, x -> x.versions(11));
        Look.answers("two", 2, EdgesOfLooksTest::used, x -> x.versions(3));
        Look.answers("without CELLS", 1, EdgesOfLooksTest::used, x -> x.versions(0));
        Check.due("without MAPS", 0, Check.told("file 3 7;").versions(3));
    }

    // how many unlike rows of CELLS (without the FILE: not counted)
    private static void versionsUnlike() {
        OnceVolume x = Check.told("disc 200 2 0 0;file 1;");
        x.sync();
        x.set(1, 0, 0);
        x.sync();
        Check.due("no CELLS, and a 0", 2, x.versions(1));
        x.set(1, 1, 0);
        x.sync();
        Check.due("0 and 0 0", 3, x.versions(1));
        x.set(1, 1, 1);
        x.sync();
        Check.due("0 0 and 0 1", 4, x.versions(1));
        x.set(1, 0, 1);
        x.set(1, 1, 0);
        x.sync();
        Check.due("0 1 and 1 0", 5, x.versions(1));
        x.erase(1);
        x.sync();
        Check.due("erased", 5, x.versions(1));
        x.set(1, 0, 0);
        x.sync();
        Check.due("a 0 again", 5, x.versions(1));
        x.close(false);
        Check.due("not IMPORTED", 5, x.versions(1));
    }

    // SINCE; NONE: none. NoSuchElementException: no NAME, CELL not 0 to 7
    private static void sinceOfNone() {
        for (int name : NO_NAMES) {
            Look.noSuch("since(" + name + ", 0, 7)", EdgesOfLooksTest::used, x -> x.since(name, 0, 7));
        }
        int[] wrong = {-1, -2, 8, Integer.MAX_VALUE, Integer.MIN_VALUE};
        for (int cell : wrong) {
            Look.noSuch("since(3, " + cell + ", 7)", EdgesOfLooksTest::used, x -> x.since(3, cell, 7));
        }
        int[] never = {-1, 1000, 5, Integer.MAX_VALUE, Integer.MIN_VALUE};
        for (int number : never) {
            Look.answers("since(3, 0, " + number + ")", -1, EdgesOfLooksTest::used, x -> x.since(3, 0, number));
            Look.answers("since(3, 7, " + number + ")", -1, EdgesOfLooksTest::used, x -> x.since(3, 7, number));
            Look.answers("since(9, 0, " + number + ")", -1, EdgesOfLooksTest::used, x -> x.since(9, 0, number));
        }
        Check.due("IN MIND alone", -1, used().since(3, 0, 6));
        Check.due("without MAPS", -1, Check.told("file 3 7;").since(3, 0, 7));
    }

    // the least k by which a CELL of a FILE was a number
    private static void sinceTheLeast() {
        Look.answers("by all", 0, EdgesOfLooksTest::used, x -> x.since(3, 0, 7));
        Look.answers("by 0 and 1", 0, EdgesOfLooksTest::used, x -> x.since(3, 1, 8));
        Look.answers("by the first of all alone", 2, EdgesOfLooksTest::used, x -> x.since(3, 1, 9));
        OnceVolume x = Check.told("disc 60 4 0 0;file 1 0 1 2 3 4 5 6 999;");
        x.sync();
        x.erase(1);
        x.sync();
        Check.due("the least number", 1, x.since(1, 0, 0));
        Check.due("CELL 7, the greatest number", 1, x.since(1, 7, 999));
    }

    // ALIKE. NoSuchElementException: there is no k-th MAP
    private static void alikeOfNoMap() {
        int[] wrong = {-1, 3, Integer.MAX_VALUE, Integer.MIN_VALUE};
        for (int k : wrong) {
            Look.noSuch("alike(" + k + ")", EdgesOfLooksTest::used, x -> x.alike(k));
        }
        Look.answers("alike(0)", 4095 - 8, EdgesOfLooksTest::used, x -> x.alike(0));
        Look.answers("alike(2)", 4095 - 8 - 32, EdgesOfLooksTest::used, x -> x.alike(2));
        OnceVolume y = Check.told("file 3 7;");
        Check.noSuch("alike(0) without a MAP", () -> y.alike(0));
    }

    // not there in both, too
    private static void alikeNotThere() {
        OnceVolume x = Check.told("disc 60 4 0 0;file 0;file 11 5;");
        x.sync();
        Check.due("all", 4095, x.alike(0));
        x.erase(0);
        Check.due("without CELLS, and not there", 4094, x.alike(0));
        x.set(1, 0, 1);
        x.cut(1, 0);
        Check.due("not there, and without CELLS", 4092, x.alike(0));
        x.erase(11);
        Check.due("NAME 11", 4092 - 2048, x.alike(0));
        x.set(11, 0, 5);
        Check.due("NAME 11 by another VIRTUAL", 4092, x.alike(0));
        x.sync();
        x.erase(1);
        x.erase(11);
        x.sync();
        Check.due("none by both", 4095, x.alike(0));
    }

    // DEAD: DATA, ENTRIES, DIRECTORIES, MAPS that aren't REACHED from the MAP that all is from
    private static void deadWithoutAMap() {
        OnceVolume x = Check.told("disc 60 4 1 2;bad 7;file 1 5 6;");
        Check.due("on an empty DISC", 0, x.count(13));
        // LINK DATA DATA ENTRY DIRECTORY, LINK PAD BAD PAD MAP
        x.tear(10);
        Check.due("all but LINKS, PADS and BAD", 5, x.count(13));
        x.undo();
        x.sync();
        Check.due("the MAP of the SPARED PACKET", 1, x.count(13));
        x.close(false);
        Check.due("as before: the MAP stays", 1, x.count(13));
    }

    // HIDDEN: GOOD MAPS that aren't that one, nor along PREVIOUS from it
    private static void hiddenMaps() {
        OnceVolume x = Check.told("disc 60 4 0 0;bad 9;file 1;");
        Check.due("without MAPS", 0, x.count(14));
        x.sync();
        x.set(1, 0, 1);
        x.sync();
        x.set(1, 0, 2);
        x.sync();
        Check.due("all along", 0, x.count(14));
        Check.due("GOOD ones", 3, x.count(11));
        x.mount(1);
        Check.due("one behind", 1, x.count(14));
        x.mount(2);
        Check.due("two behind", 2, x.count(14));
        x.set(1, 0, 3);
        x.sync();
        Check.due("gone on from the first", 2, x.count(14));
        Check.due("along", 2, x.count(12));
    }

    /** BLOCKS that UNDONE ACTS wrote are BLANK, those right at a new HEAD, too. */
    private static void blankFromHeadOn() {
        OnceVolume x = Check.told("disc 60 4 0 3;file 1 5;");
        x.sync();
        x.undo();
        x.tear(3);
        Check.due("where the MAP was", 0, x.block(3, 0));
        Check.due("no GOOD MAP", 0, x.count(11));
        Check.due("not HIDDEN", 0, x.count(14));
        Check.due("not found", -1, x.found(60));
        Check.due("REACHED by none", 0, x.block(0, 1));
        Check.due("mount(0)", 0, x.mount(0));
        Check.due("DEAD: DATA ENTRY DIRECTORY", 3, x.count(13));
        Check.noSuch("tells(3, 13)", () -> x.tells(3, 13));
        OnceVolume y = Check.told("disc 60 4 0 3;bad 3;file 1 5;");
        y.sync();
        y.undo();
        y.tear(3);
        Check.due("where a BAD one was", 0, y.block(3, 0));
        Check.due("none is BAD", 0, y.count(16));
    }
}
