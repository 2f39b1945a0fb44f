/** Promises 6, 7 and 21 to 24: what is written, where, what it tells; tearing, sessions, mounting. */
public final class SyncTest {
    public static void main(String[] args) {
        plain();
        tellsWrongly();
        spared();
        sparedLast();
        faultyMapAndPad();
        faultyLinksAndOuts();
        cellsInAnotherPacket();
        filledToTheLast();
        orderByVirtuals();
        greatest();
        cannotBegin();
        brokenOff();
        brokenOffByOut();
        brokenOffToTheMap();
        tear();
        close();
        mount();
        reached();
        Check.end();
    }

    private static void kinds(OnceVolume x, String what, int... kinds) {
        for (int block = 0; block < kinds.length; block++) {
            Check.due(what + ": kind of " + block, kinds[block], x.block(block, 0));
        }
        if (kinds.length < x.count(0)) {
            Check.due(what + ": BLANK behind", 0, x.block(kinds.length, 0));
        }
        Check.due(what + ": HEAD", kinds.length, x.count(4));
    }

    private static void tells(OnceVolume x, int block, int... told) {
        for (int i = 0; i < told.length; i++) {
            Check.due("tells(" + block + ", " + i + ")", told[i], x.tells(block, i));
        }
        Check.noSuch("tells(" + block + ", " + told.length + ")", () -> x.tells(block, told.length));
        Check.noSuch("tells(" + block + ", -1)", () -> x.tells(block, -1));
    }

    private static void plain() {
        OnceVolume x = Check.told("disc 60 4 1 2;file 3 7 9;file 0;");
        Check.due("sync", 10, x.sync());
        kinds(x, "plain", 1, 3, 3, 4, 4, 1, 5, 2, 2, 6);
        tells(x, 1, 7);
        tells(x, 2, 9);
        tells(x, 3, 1, 2);
        tells(x, 4);
        tells(x, 6, 2, -1, -1, 1, -1, -1, -1, -1, -1, -1, -1, -1);
        tells(x, 9, 6, 3, 4, -1, -1, -1, -1, -1, -1, -1, -1, -1, -1, -1, 0);
        Check.due("nothing has changed", -1, x.sync());
        Check.due("refused", 1, x.count(20));
        x.set(3, 1, 8);
        Check.due("DATA ENTRY PAD MAP", 5, x.sync());
        kinds(x, "second", 1, 3, 3, 4, 4, 1, 5, 2, 2, 6, 1, 3, 4, 2, 6);
        tells(x, 12, 1, 11);
        tells(x, 14, 6, 12, 4, -1, -1, -1, -1, -1, -1, -1, -1, -1, -1, 9, 0);
        Check.due("its entry", 12, x.file(3, 2));
        Check.due("the map", 14, x.count(9));
        Check.due("nothing new", 0, x.count(8));
        Check.due("nothing changed", 0, x.count(6) + x.count(7));
    }

    private static void tellsWrongly() {
        OnceVolume x = Check.told("disc 60 4 1 2;bad 12;file 3 7 9;file 0;");
        x.sync();
        x.close(true);
        x.set(3, 0, 1);
        Check.noSuch("LINK", () -> x.tells(0, 0));
        Check.noSuch("PAD", () -> x.tells(7, 0));
        Check.noSuch("OUT", () -> x.tells(10, 0));
        Check.noSuch("BLANK", () -> x.tells(13, 0));
        Check.noSuch("block 60", () -> x.tells(60, 0));
        Check.noSuch("block -1", () -> x.tells(-1, 0));
        Check.noSuch("a large i", () -> x.tells(9, Integer.MAX_VALUE));
        Check.noSuch("a small i", () -> x.tells(9, Integer.MIN_VALUE));
        Check.noSuch("block(60, 0)", () -> x.block(60, 0));
        Check.noSuch("block(-1, 0)", () -> x.block(-1, 0));
        Check.noSuch("block(0, 2)", () -> x.block(0, 2));
        Check.noSuch("block(0, -1)", () -> x.block(0, -1));
        Check.due("block(59, 0)", 0, x.block(59, 0));
        Check.due("block(59, 1)", 0, x.block(59, 1));
    }

    private static void spared() {
        OnceVolume x = Check.told("disc 60 4 1 2;bad 3;file 1 5 6 7;");
        Check.due("sync", 15, x.sync());
        kinds(x, "spared", 1, 3, 3, 8, 4, 1, 3, 3, 3, 4, 1, 5, 2, 2, 6);
        tells(x, 4, 1, 2, 3);
        tells(x, 9, 6, 7, 8);
        tells(x, 3);
        Check.due("the entry", 9, x.tells(14, 1));
        Check.due("SPARED", 1, x.count(15));
        Check.due("BAD", 1, x.count(16));
        Check.due("GOOD MAPS", 1, x.count(11));
        Check.due("DEAD", 3, x.count(13));
        Check.due("lie", 1, x.lie(1, 0));
        OnceVolume y = Check.told("disc 60 4 1 2;bad 3 4 8 11;file 1 5 6 7;");
        Check.due("spared thrice", 25, y.sync());
        Check.due("SPARED", 3, y.count(15));
        Check.due("BAD", 4, y.count(16));
        Check.due("the map's entry", 19, y.tells(24, 1));
    }

    private static void sparedLast() {
        OnceVolume x = Check.told("disc 60 2 0 0;bad 3;file 1 5;");
        Check.due("sync", 6, x.sync());
        kinds(x, "last spared", 3, 4, 5, 8, 5, 6);
        Check.due("directory anew", 4, x.tells(5, 0));
        Check.due("entry ahead", 1, x.tells(5, 1));
        OnceVolume y = Check.told("disc 60 4 1 2;bad 2;file 1 5;");
        Check.due("sync", 10, y.sync());
        kinds(y, "map in a spared packet", 1, 3, 8, 5, 6, 1, 3, 4, 5, 6);
        Check.due("of this very writing", 3, y.tells(4, 0));
        Check.due("though it is BAD", 2, y.tells(4, 1));
        Check.due("PREVIOUS", -1, y.tells(4, 13));
        Check.due("PREVIOUS of the good one", -1, y.tells(9, 13));
        Check.due("anew", 8, y.tells(9, 0));
        Check.due("one GOOD MAP", 1, y.count(11));
        Check.due("DEAD: DATA, DIRECTORY, MAP", 3, y.count(13));
        Check.due("found ahead of it", -1, y.found(9));
    }

    private static void faultyMapAndPad() {
        OnceVolume x = Check.told("disc 60 4 1 2;bad 4;file 1 5;");
        Check.due("sync", 10, x.sync());
        kinds(x, "faulty map", 1, 3, 4, 5, 8, 1, 3, 4, 5, 6);
        OnceVolume y = Check.told("disc 60 4 1 2;bad 3;file 1;");
        Check.due("sync", 10, y.sync());
        kinds(y, "faulty pad", 1, 4, 5, 8, 6, 1, 4, 5, 2, 6);
    }

    private static void faultyLinksAndOuts() {
        OnceVolume x = Check.told("disc 60 4 2 2;bad 0 1 6 7;file 1 5;");
        Check.due("sync", 6, x.sync());
        Check.due("close", 1, x.close(true));
        kinds(x, "faulty links", 1, 1, 3, 4, 5, 6, 7, 7);
        Check.due("none BAD", 0, x.count(16));
        Check.due("none SPARED", 0, x.count(15));
    }

    private static void cellsInAnotherPacket() {
        OnceVolume x = Check.told("disc 60 3 1 2;bad 2 6;file 1 5 6 7 8;");
        // DATA DATA DATA | DATA ENTRY DIRECTORY | PAD PAD MAP
        Check.due("sync", 20, x.sync());
        kinds(x, "three", 1, 3, 8, 3, 1, 3, 8, 3, 1, 3, 3, 3, 1, 3, 4, 5, 1, 2, 2, 6);
        tells(x, 14, 9, 10, 11, 13);
        Check.due("SPARED", 2, x.count(15));
        Check.due("RUNS", 2, x.lie(1, 0));
        Check.due("FARTHEST", 2, x.lie(1, 1));
    }

    private static void filledToTheLast() {
        OnceVolume x = Check.told("disc 60 3 1 2;file 1 5;");
        Check.due("DATA ENTRY DIRECTORY | PAD PAD MAP", 8, x.sync());
        kinds(x, "pads alone", 1, 3, 4, 5, 1, 2, 2, 6);
        x.erase(1);
        x.set(1, 0, 3);
        x.set(2, 0, 4);
        Check.due("DATA ENTRY DATA | ENTRY DIRECTORY MAP", 8, x.sync());
        Check.due("no pad", 6, x.block(15, 0));
        Check.due("the directory ahead", 5, x.block(14, 0));
    }

    private static void orderByVirtuals() {
        OnceVolume x = Check.told("disc 60 8 0 0;file 9 1;file 4 2;file 0 3;");
        x.sync();
        kinds(x, "by virtuals", 3, 4, 3, 4, 3, 4, 5, 6);
        Check.due("first told first", 1, x.tells(0, 0));
        Check.due("second", 2, x.tells(2, 0));
        Check.due("third", 3, x.tells(4, 0));
        x.erase(9);
        x.set(11, 0, 6);
        x.set(0, 0, 5);
        x.sync();
        Check.due("virtual 1", 6, x.tells(8, 0));
        Check.due("virtual 3", 5, x.tells(10, 0));
    }

    /** All CELLS that there can be, and as many PADS as these can need: 110 and 10. */
    private static void greatest() {
        OnceVolume x = Check.told("disc 400 15 4 8;bad 0 399;");
        for (int name = 0; name < 12; name++) {
            for (int cell = 0; cell < 8; cell++) {
                x.set(name, cell, 10 * name + cell);
            }
        }
        Check.due("PADS", 10, x.cost(2));
        Check.due("8 PACKETS of 19", 152, x.sync());
        Check.due("the MAP", 6, x.block(151, 0));
        Check.due("the PADS ahead of it", 2, x.block(141, 0));
        Check.due("the DIRECTORY", 5, x.block(140, 0));
        Check.due("the last ENTRY", 4, x.block(139, 0));
        Check.due("told by the MAP", 139, x.tells(151, 12));
        Check.due("told by the DIRECTORY", 12, x.tells(140, 11));
        x.mount(0);
        for (int name = 0; name < 12; name++) {
            for (int cell = 0; cell < 8; cell++) {
                Check.due("cell " + cell + " of " + name, 10 * name + cell, x.read(name, cell));
            }
        }
        Check.due("none DEAD", 0, x.count(13));
    }

    private static void cannotBegin() {
        String files = "file 0 1 1 1 1 1 1 1 1;file 1 1 1 1 1 1 1 1 1;";
        OnceVolume x = Check.told("disc 40 16 4 1;" + files);
        Check.due("40 blocks and 1", -1, x.sync());
        Check.due("torn", -1, x.tear(0));
        Check.due("ends", -1, x.ends());
        Check.due("refused", 2, x.count(20));
        Check.due("no acts", 0, x.count(17));
        Check.due("still changed", 2, x.count(6));
        Check.due("close", -1, x.close(true));
        OnceVolume y = Check.told("disc 40 16 4 0;" + files);
        Check.due("just fits", 40, y.sync());
        Check.due("close without a block", 1, y.close(true));
        Check.due("HEAD", 40, y.count(4));
        y.set(0, 0, 2);
        Check.due("full", -1, y.sync());
    }

    private static void brokenOff() {
        OnceVolume x = Check.told("disc 40 16 4 0;bad 10;file 1 5;");
        Check.due("anew just fits", 40, x.sync());
        OnceVolume y = Check.told("disc 40 16 4 0;bad 10 30;file 1 5;");
        Check.due("ends", -2, y.ends());
        Check.due("sync", -2, y.sync());
        int[] due = {40, 16, 4, 0, 40, 0, 0, 0, 0, -1, 0, 0, 0};
        for (int what = 0; what < due.length; what++) {
            Check.due("broken off count " + what, due[what], y.count(what));
        }
        Check.due("SPARED", 2, y.count(15));
        Check.due("what is written stays", 8, y.block(30, 0));
        Check.due("the map, too", 6, y.block(39, 0));
        Check.due("DEAD: DATA ENTRY DIRECTORY MAP twice", 8, y.count(13));
        Check.due("not refused", 0, y.count(20));
        Check.due("an act", 1, y.count(17));
        Check.due("undo", 0, y.undo());
        Check.due("the file again", 5, y.read(1, 0));
        Check.due("tear at its end", -1, y.tear(40));
        Check.due("tear ahead of it", 39, y.tear(39));
        Check.due("SPARED", 1, y.count(15));
    }

    private static void brokenOffByOut() {
        OnceVolume x = Check.told("disc 40 16 4 1;bad 10;file 1 5;");
        Check.due("no room for OUT anew", -2, x.sync());
        Check.due("HEAD", 20, x.count(4));
        Check.due("SPARED", 1, x.count(15));
        x.undo();
        Check.due("tear", -1, x.tear(20));
        Check.due("tear", 19, x.tear(19));
    }

    private static void brokenOffToTheMap() {
        OnceVolume x = Check.told("disc 40 16 0 2;bad 20;file 1 5;");
        Check.due("sync", 16, x.sync());
        x.close(true);
        x.set(1, 0, 6);
        x.set(2, 0, 7);
        Check.due("18 and 16 and 2", 36, x.count(4) + x.cost(1) + x.count(3));
        Check.due("no room anew", -2, x.sync());
        Check.due("by the map", 15, x.count(9));
        Check.due("its session", 0, x.count(10));
        Check.due("its file", 5, x.read(1, 0));
        Check.due("no other", 1, x.count(5));
        Check.due("nothing new", 0, x.count(8));
        Check.due("nothing changed", 0, x.count(6) + x.count(7));
        Check.due("its entry", x.tells(15, 1), x.file(1, 2));
    }

    private static void tear() {
        OnceVolume x = Check.told("disc 60 4 1 2;bad 8;file 1 5;");
        Check.due("sync", 5, x.sync());
        Check.due("nothing changed", -1, x.tear(0));
        x.set(1, 0, 6);
        x.set(1, 1, 7);
        Check.due("tear(10)", -1, x.tear(10));
        Check.due("tear(-1)", -1, x.tear(-1));
        Check.due("refused", 3, x.count(20));
        Check.due("tear(0)", 5, x.tear(0));
        Check.due("an act", 4, x.count(17));
        Check.due("mounted", 5, x.read(1, 0));
        Check.due("nothing changed", 0, x.count(6));
        x.undo();
        for (int blocks = 1; blocks < 10; blocks++) {
            Check.due("tear(" + blocks + ")", 5 + blocks, x.tear(blocks));
            Check.due("SPARED behind " + blocks, blocks < 5 ? 0 : 1, x.count(15));
            Check.due("BAD behind " + blocks, blocks < 4 ? 0 : 1, x.count(16));
            Check.due("the map behind " + blocks, 4, x.count(9));
            Check.due("GOOD MAPS behind " + blocks, 1, x.count(11));
            Check.due("as it was behind " + blocks, 1, x.file(1, 0));
            x.undo();
        }
        x.tear(9);
        kinds(x, "torn", 1, 3, 4, 5, 6, 1, 3, 3, 8, 6, 1, 3, 3, 4);
        x.set(1, 0, 8);
        Check.due("behind the torn ones", 5, x.sync());
        Check.due("PREVIOUS", 4, x.tells(18, 13));
        OnceVolume y = Check.told("file 1 5;");
        Check.due("torn without a map", 3, y.tear(3));
        Check.due("no files", 0, y.count(5));
        Check.due("nothing changed", 0, y.count(7));
        Check.due("no map", -1, y.count(9));
    }

    private static void close() {
        OnceVolume x = Check.told("disc 60 4 1 2;file 1 4;");
        Check.due("anything has changed", -1, x.close(true));
        x.sync();
        Check.due("close imported", 1, x.close(true));
        kinds(x, "closed", 1, 3, 4, 5, 6, 7, 7);
        Check.due("the file", 4, x.read(1, 0));
        Check.due("its entry", 2, x.file(1, 2));
        x.set(1, 0, 9);
        x.sync();
        Check.due("the session", 1, x.tells(11, 14));
        Check.due("PREVIOUS", 4, x.tells(11, 13));
        Check.due("the directory of before", 3, x.tells(11, 0));
        Check.due("close, hidden", 2, x.close(false));
        Check.due("no files", 0, x.count(5));
        Check.due("nothing changed", 0, x.count(7));
        Check.due("the map stays", 11, x.count(9));
        Check.due("the maps stay", 2, x.count(12));
        Check.due("nothing to sync", -1, x.sync());
        x.set(2, 0, 3);
        Check.due("the least virtual", 1, x.file(2, 1));
        Check.due("never written", -1, x.file(2, 2));
        x.sync();
        Check.due("entry", 16, x.tells(18, 1));
        Check.due("session", 2, x.tells(18, 14));
        Check.due("PREVIOUS", 11, x.tells(18, 13));
        Check.due("the directory without the hidden", -1, x.tells(17, 1));
        x.erase(2);
        Check.due("the directory has changed", -1, x.close(false));
        OnceVolume y = Check.told("disc 40 2 0 8;");
        for (int i = 1; i <= 5; i++) {
            Check.due("close " + i, i, y.close(i % 2 == 0));
        }
        Check.due("no room", -1, y.close(true));
        Check.due("refused", 1, y.count(20));
        Check.due("HEAD", 40, y.count(4));
        Check.due("an OUT", 7, y.block(39, 0));
        Check.due("left", 0, y.left());
    }

    private static void mount() {
        OnceVolume x = Check.told("disc 80 4 1 2;file 1 4;");
        Check.due("mount(1) of none", -1, x.mount(1));
        Check.due("mount(-1) of none", -1, x.mount(-1));
        Check.due("mount(0) of none", 0, x.mount(0));
        Check.due("nothing changed", 0, x.count(6) + x.count(7));
        x.undo();
        x.sync();
        x.close(true);
        x.set(1, 0, 5);
        x.set(2, 0, 6);
        x.sync();
        // 7 LINK, DATA ENTRY DATA ENTRY, LINK, DIRECTORY PAD PAD 16 MAP
        x.erase(1);
        x.sync();
        // 17 LINK, DIRECTORY PAD PAD 21 MAP
        x.set(3, 0, 1);
        Check.due("mount(0)", 1, x.mount(0));
        Check.due("the last", 21, x.count(9));
        Check.due("what was new is gone", 0, x.count(8));
        Check.due("its virtual", 2, x.file(2, 1));
        Check.due("mount(1)", 2, x.mount(1));
        Check.due("its map", 16, x.count(9));
        Check.due("its session", 1, x.count(10));
        Check.due("its cell", 5, x.read(1, 0));
        Check.due("its entry", 9, x.file(1, 2));
        Check.due("HEAD stays", 22, x.count(4));
        Check.due("HIDDEN", 1, x.count(14));
        Check.due("mount(2) is from the last", 1, x.mount(2));
        Check.due("the first", 4, x.count(9));
        Check.due("HIDDEN", 2, x.count(14));
        Check.due("along", 1, x.count(12));
        Check.due("mount(3)", -1, x.mount(3));
        Check.due("mount(-1)", -1, x.mount(-1));
        Check.due("mount(most)", -1, x.mount(Integer.MAX_VALUE));
        Check.due("refused", 5, x.count(20));
        x.set(1, 0, 77);
        Check.due("gone on from", 5, x.sync());
        Check.due("PREVIOUS", 4, x.tells(26, 13));
        Check.due("the session", 0, x.tells(26, 14));
        Check.due("HIDDEN", 2, x.count(14));
        Check.due("GOOD MAPS", 4, x.count(11));
        Check.due("mount(1) goes along PREVIOUS", 1, x.mount(1));
        Check.due("the first again", 4, x.count(9));
        Check.due("mount(2)", -1, x.mount(2));
        Check.due("an act each", 14, x.count(17));
    }

    private static void reached() {
        OnceVolume x = Check.told("disc 60 4 1 2;file 3 7 9;file 0;");
        x.sync();
        int[] first = {0, 1, 1, 1, 1, 0, 1, 0, 0, 1};
        for (int block = 0; block < first.length; block++) {
            Check.due("reached " + block, first[block], x.block(block, 1));
        }
        Check.due("none DEAD", 0, x.count(13));
        x.copy(3, 5);
        x.erase(3);
        // 10 LINK, ENTRY DIRECTORY PAD 14 MAP
        x.sync();
        int[] then = {0, 2, 2, 1, 2, 0, 1, 0, 0, 1, 0, 1, 1, 0, 1};
        for (int block = 0; block < then.length; block++) {
            Check.due("reached then " + block, then[block], x.block(block, 1));
        }
        Check.due("DEAD: an ENTRY, a DIRECTORY, a MAP", 3, x.count(13));
        x.mount(1);
        Check.due("DEAD from the first: ENTRY, DIRECTORY, MAP", 3, x.count(13));
    }
}
