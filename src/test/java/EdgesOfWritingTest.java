/** Boundary cases, sentence by sentence: promises 21 to 24, and what the Terms say of writing. */
public final class EdgesOfWritingTest {
    public static void main(String[] args) {
        packetsFull();
        packetsLeastAndGreatest();
        contentsAtTheirMost();
        noLinksAndFour();
        sparedByEachBlock();
        sparedAgainAndAgain();
        sparedOneOfMany();
        badAheadOfThePacket();
        contentsOfAFileAlone();
        syncOfNothing();
        syncThatJustFits();
        syncWithoutRoom();
        brokenOffInTheMidst();
        brokenOffBehindASparedOne();
        brokenOffJustNot();
        brokenOffIsAnAct();
        tearOfNothing();
        tearBelowZero();
        tearNotFewer();
        tearBehindEach();
        tearWhereItIsBrokenOff();
        tearWithoutRoom();
        tearWithoutAMap();
        closeOfChanges();
        closeThatJustFits();
        closeWithoutRoom();
        closeWithoutOut();
        closeNotImported();
        closeOfNoFiles();
        mountOfNone();
        mountWithoutAMap();
        mountOfTheLast();
        goodMapsAlone();
        Check.end();
    }

    private static void kinds(OnceVolume x, String what, int from, int... kinds) {
        for (int i = 0; i < kinds.length; i++) {
            Check.due(what + ": kind of " + (from + i), kinds[i], x.block(from + i, 0));
        }
        Check.due(what + ": HEAD", from + kinds.length, x.count(4));
    }

    // PACKET CONTENTS each, but the MAP is the last one of the last PACKET, PADS ahead of it as are needed
    private static void packetsFull() {
        OnceVolume x = Check.told("disc 80 4 0 0;file 1 5;");
        Check.due("just one", 4, x.sync());
        kinds(x, "no PAD", 0, 3, 4, 5, 6);
        OnceVolume y = Check.told("disc 80 4 0 0;file 1 5 6;");
        Check.due("one more", 8, y.sync());
        kinds(y, "the MAP in a PACKET of PADS", 0, 3, 3, 4, 5, 2, 2, 2, 6);
        OnceVolume z = Check.told("disc 80 4 0 0;file 1 5 6 7 8 9;");
        Check.due("just two", 8, z.sync());
        kinds(z, "no PAD of two", 0, 3, 3, 3, 3, 3, 4, 5, 6);
        OnceVolume w = Check.told("disc 80 4 0 0;file 1;");
        Check.due("one fewer", 4, w.sync());
        kinds(w, "one PAD", 0, 4, 5, 2, 6);
    }

    // PACKET (2 to 16)
    private static void packetsLeastAndGreatest() {
        OnceVolume x = Check.told("disc 80 2 1 0;file 1;");
        Check.due("ENTRY DIRECTORY | PAD MAP", 6, x.sync());
        kinds(x, "of 2", 0, 1, 4, 5, 1, 2, 6);
        x.cut(1, x.set(1, 0, 1) - 1);
        Check.due("ENTRY MAP", 3, x.sync());
        kinds(x, "no PAD of 2", 6, 1, 4, 6);
        OnceVolume y = Check.told("disc 80 16 1 0;file 1;");
        Check.due("of 16", 17, y.sync());
        kinds(y, "of 16", 0, 1, 4, 5, 2, 2, 2, 2, 2, 2, 2, 2, 2, 2, 2, 2, 2, 6);
        OnceVolume z = Check.told("disc 80 16 1 0;file 1 1 1 1 1 1 1;file 2 1 1 1 1 1 1;");
        Check.due("16 CONTENTS", 17, z.sync());
        Check.due("no PAD", 5, z.block(15, 0));
        OnceVolume w = Check.told("disc 80 16 1 0;file 1 1 1 1 1 1 1;file 2 1 1 1 1 1 1 1;");
        Check.due("17 CONTENTS", 34, w.sync());
        Check.due("the DIRECTORY is the 16th", 5, w.block(16, 0));
        Check.due("PADS ahead of the MAP", 2, w.block(32, 0));
        Check.due("the MAP", 6, w.block(33, 0));
    }

    /** All CELLS that there can be: 96, with 12 ENTRIES, the DIRECTORY and the MAP 110 CONTENTS. */
    private static void contentsAtTheirMost() {
        int[] packets = {2, 10, 11, 15, 16};
        int[] blocks = {110, 110, 110, 120, 112};
        for (int i = 0; i < packets.length; i++) {
            OnceVolume x = Check.told("disc 400 " + packets[i] + " 0 0;");
            for (int name = 0; name < 12; name++) {
                for (int cell = 0; cell < 8; cell++) {
                    x.set(name, cell, 100 * cell + name);
                }
            }
            Check.due("by " + packets[i], blocks[i], x.sync());
            Check.due("the last ENTRY by " + packets[i], 107, x.file(11, 2));
            Check.due("the DIRECTORY by " + packets[i], 5, x.block(108, 0));
            Check.due("PADS by " + packets[i], blocks[i] > 110 ? 2 : 5, x.block(blocks[i] - 2, 0));
            Check.due("mounted by " + packets[i], 12, x.mount(0));
            for (int name = 0; name < 12; name++) {
                Check.due("the last CELL of " + name + " by " + packets[i], 700 + name, x.read(name, 7));
            }
        }
    }

    // RUN LINKS (0 to 4), then its BLOCKS
    private static void noLinksAndFour() {
        OnceVolume x = Check.told("disc 80 2 0 0;file 1 5;");
        Check.due("without LINKS", 4, x.sync());
        kinds(x, "without LINKS", 0, 3, 4, 5, 6);
        OnceVolume y = Check.told("disc 80 2 4 0;bad 0 1 2 3 6 7 8 9;file 1 5;");
        Check.due("four FAULTY LINKS each", 12, y.sync());
        kinds(y, "four", 0, 1, 1, 1, 1, 3, 4, 1, 1, 1, 1, 5, 6);
        Check.due("none is SPARED", 0, y.count(15));
        Check.due("none is BAD", 0, y.count(16));
    }

    // If one of its BLOCKS (LINKS not) is FAULTY: each of them, and not the ones right beside them
    private static void sparedByEachBlock() {
        for (int bad = 0; bad <= 8; bad++) {
            OnceVolume x = Check.told("disc 60 4 2 2;bad " + bad + ";file 1 5;");
            boolean spared = bad >= 2 && bad <= 5;
            Check.due("sync by " + bad, spared ? 12 : 6, x.sync());
            Check.due("SPARED by " + bad, spared ? 1 : 0, x.count(15));
            Check.due("BAD by " + bad, spared ? 1 : 0, x.count(16));
            Check.due("GOOD MAPS by " + bad, 1, x.count(11));
            Check.due("the MAP by " + bad, spared ? 11 : 5, x.count(9));
            Check.due("the FILE by " + bad, 5, x.read(1, 0));
            Check.due("its ENTRY by " + bad, spared ? 9 : 3, x.file(1, 2));
            Check.due("its DATA by " + bad, spared ? 8 : 2, x.tells(x.file(1, 2), 0));
        }
    }

    // it is written anew behind, LINKS, too, and again, if need be
    private static void sparedAgainAndAgain() {
        OnceVolume x = Check.told("disc 60 4 0 0;bad 0 4 8 12 16 20 24 28 32 36 40 44;file 1 5;");
        Check.due("twelve times anew", 52, x.sync());
        Check.due("SPARED", 12, x.count(15));
        Check.due("BAD", 12, x.count(16));
        Check.due("the MAP", 51, x.count(9));
        Check.due("its ENTRY", 49, x.tells(51, 1));
        OnceVolume y = Check.told("disc 60 4 0 0;bad 0 1 2 3;file 1 5;");
        Check.due("all FAULTY: anew once", 8, y.sync());
        kinds(y, "all BAD", 0, 8, 8, 8, 8, 3, 4, 5, 6);
        Check.due("SPARED once", 1, y.count(15));
    }

    private static void sparedOneOfMany() {
        OnceVolume x = Check.told("disc 60 2 1 0;bad 4;file 1 5 6 7;");
        // DATA DATA | DATA ENTRY | DIRECTORY MAP: the second one anew
        Check.due("sync", 12, x.sync());
        kinds(x, "the second of three", 0, 1, 3, 3, 1, 8, 4, 1, 3, 4, 1, 5, 6);
        int[] data = {1, 2, 7};
        for (int cell = 0; cell < 3; cell++) {
            Check.due("CELL " + cell, data[cell], x.tells(8, cell));
        }
        Check.due("the ENTRY", 8, x.tells(11, 1));
        Check.due("of the very writing", 4, x.tells(5, 2));
    }

    // A GOOD MAP: it, and as many ahead of it as PACKET tells in all
    private static void badAheadOfThePacket() {
        OnceVolume x = Check.told("disc 60 4 0 0;bad 3;file 1 5;");
        Check.due("anew right behind a BAD one", 8, x.sync());
        kinds(x, "right behind", 0, 3, 4, 5, 8, 3, 4, 5, 6);
        Check.due("GOOD", 1, x.count(11));
        Check.due("found", 7, x.found(8));
        OnceVolume y = Check.told("disc 60 4 0 0;bad 0;file 1 5;");
        Check.due("by the first of its PACKET", 8, y.sync());
        Check.due("the MAP that isn't GOOD", 6, y.block(3, 0));
        Check.due("not found", -1, y.found(7));
        Check.due("found", 7, y.found(8));
        Check.due("one GOOD", 1, y.count(11));
    }

    // FILE by FILE that has CHANGED; the DIRECTORY, if it has CHANGED; the MAP
    private static void contentsOfAFileAlone() {
        OnceVolume x = Check.told("disc 60 2 0 0;file 1 5;file 2 6;");
        x.sync();
        int head = x.count(4);
        x.revert(2, 0);
        Check.due("ENTRY MAP", 2, x.sync());
        kinds(x, "reverted", head, 4, 6);
        x.rename(1, 3);
        Check.due("DIRECTORY MAP", 2, x.sync());
        kinds(x, "renamed", head + 2, 5, 6);
    }

    // NONE (STATUS 1): nothing has CHANGED
    private static void syncOfNothing() {
        Look.refused("of a new one", OnceVolume::new, OnceVolume::sync);
        Look.refused("behind a sync", EdgesOfWritingTest::synced, OnceVolume::sync);
        Look.refused("behind a close", () -> {
            OnceVolume x = synced();
            x.close(false);
            return x;
        }, OnceVolume::sync);
        Look.refused("behind a mount", () -> {
            OnceVolume x = synced();
            x.set(1, 0, 9);
            x.mount(0);
            return x;
        }, OnceVolume::sync);
    }

    private static OnceVolume synced() {
        OnceVolume x = Check.told("disc 60 4 1 2;bad 7;file 1 5;");
        x.sync();
        x.set(1, 0, 6);
        x.image();
        x.sync();
        return x;
    }

    // if HEAD, and what it costs without FAULTY ones, and OUT together are SIZE at most
    private static void syncThatJustFits() {
        String files = "file 0 1 1 1 1 1 1 1 1;file 1 1 1 1 1 1 1 1 1;";
        // 20 CONTENTS: 2 PACKETS of 16 and RUN
        OnceVolume x = Check.told("disc 40 16 4 0;" + files);
        Check.due("40 and OUT 0 of 40", 40, x.sync());
        Check.due("HEAD is SIZE", 40, x.count(4));
        OnceVolume y = Check.told("disc 42 16 4 2;" + files);
        Check.due("40 and OUT 2 of 42", 40, y.sync());
        Check.due("and a close", 1, y.close(true));
        OnceVolume z = Check.told("disc 60 4 0 8;file 1 5;");
        for (int sync = 1; sync <= 13; sync++) {
            Check.due("sync " + sync, 4, z.sync());
            z.set(1, 0, sync);
        }
        Check.due("HEAD", 52, z.count(4));
        Check.due("the 14th", -1, z.sync());
    }

    // NONE (STATUS 1): it can't be begun
    private static void syncWithoutRoom() {
        String files = "file 0 1 1 1 1 1 1 1 1;file 1 1 1 1 1 1 1 1 1;";
        Look.refused("40 and OUT 1 of 40", () -> Check.told("disc 40 16 4 1;" + files), OnceVolume::sync);
        Look.refused("40 and OUT 2 of 41", () -> Check.told("disc 41 16 4 2;" + files), OnceVolume::sync);
        Look.refused("a full DISC", () -> {
            OnceVolume x = Check.told("disc 40 16 4 0;" + files);
            x.sync();
            x.set(0, 0, 2);
            return x;
        }, OnceVolume::sync);
    }

    // If in the midst HEAD, RUN, PACKET, OUT together would be above SIZE for a PACKET: it is BROKEN OFF
    private static void brokenOffInTheMidst() {
        // the first PACKET of two is SPARED: written anew, there is no room for the second
        OnceVolume x = Check.told("disc 40 14 0 8;bad 5;file 0 1 1 1 1 1 1 1 1;file 1 1 1 1 1 1 1;");
        Check.due("sync", -2, x.sync());
        Check.due("two PACKETS stand", 28, x.count(4));
        Check.due("SPARED", 1, x.count(15));
        Check.due("no MAP", -1, x.count(9));
        Check.due("no FILES", 0, x.count(5));
        Check.due("nothing has CHANGED", 0, x.count(6) + x.count(7));
        Check.due("no CELL is NEW", 0, x.count(8));
        Check.due("what is written stays", 8, x.block(5, 0));
        Check.due("anew, too", 3, x.block(19, 0));
    }

    private static void brokenOffBehindASparedOne() {
        OnceVolume x = Check.told("disc 40 16 4 1;bad 10;file 1 5;");
        Check.due("no room for the SPARED one", -2, x.sync());
        Check.due("it stands", 20, x.count(4));
        Check.due("it counts", 1, x.count(15));
        Check.due("its MAP isn't GOOD", 0, x.count(11));
    }

    private static void brokenOffJustNot() {
        OnceVolume x = Check.told("disc 40 16 4 0;bad 10;file 1 5;");
        Check.due("anew it just fits", 40, x.sync());
        OnceVolume y = Check.told("disc 41 16 4 2;bad 10;file 1 5;");
        Check.due("but for one", -2, y.sync());
        OnceVolume z = Check.told("disc 42 16 4 2;bad 10;file 1 5;");
        Check.due("with it", 40, z.sync());
    }

    // -2: it was BROKEN OFF: all is MOUNTED, what is written stays
    private static void brokenOffIsAnAct() {
        OnceVolume x = Check.told("disc 40 8 0 2;bad 20 29;file 1 5;");
        x.sync();
        x.close(true);
        // 10 on; 18 to 25, 26 to 33 are SPARED
        x.set(1, 0, 6);
        x.sync();
        x.set(1, 0, 7);
        x.set(2, 0, 8);
        int status = x.count(20);
        Check.due("sync", -2, x.sync());
        Check.due("not refused", status, x.count(20));
        Check.due("an ACT", 7, x.count(17));
        Check.due("HEAD", 34, x.count(4));
        Check.due("the last GOOD MAP", 17, x.count(9));
        Check.due("by it", 6, x.read(1, 0));
        Check.due("FILES by it", 1, x.count(5));
        Check.due("SESSION by it", 1, x.count(10));
        Check.due("undo", 6, x.undo());
        Check.due("IN MIND again", 8, x.read(2, 0));
        Check.due("HEAD again", 18, x.count(4));
        Check.due("SPARED again", 0, x.count(15));
    }

    // NONE (STATUS 1): nothing has CHANGED
    private static void tearOfNothing() {
        Look.refused("of a new one", OnceVolume::new, x -> x.tear(0));
        Look.refused("behind a sync", EdgesOfWritingTest::synced, x -> x.tear(0));
        Look.refused("behind a sync, 1", EdgesOfWritingTest::synced, x -> x.tear(1));
    }

    private static OnceVolume toTear() {
        OnceVolume x = synced();
        x.set(1, 1, 7);
        x.set(2, 0, 8);
        return x;
    }

    // below 0
    private static void tearBelowZero() {
        Look.refused("tear(-1)", EdgesOfWritingTest::toTear, x -> x.tear(-1));
        Look.refused("tear(least)", EdgesOfWritingTest::toTear, x -> x.tear(Integer.MIN_VALUE));
    }

    // not fewer than it would write
    private static void tearNotFewer() {
        int would = toTear().ends() - toTear().count(4);
        Check.due("it would write", 10, would);
        int[] wrong = {would, would + 1, Integer.MAX_VALUE};
        for (int blocks : wrong) {
            Look.refused("tear(" + blocks + ")", EdgesOfWritingTest::toTear, x -> x.tear(blocks));
        }
        Check.due("one fewer", 24, toTear().tear(would - 1));
        OnceVolume y = Check.told("disc 60 4 1 2;bad 2;file 1 5;");
        Check.due("SPARED ones, too, are counted", 9, y.tear(9));
        y.undo();
        Check.due("all of them", -1, y.tear(10));
    }

    // stops behind so many BLOCKS (0 on, all counted, SPARED ones, too); then the 0th is MOUNTED
    private static void tearBehindEach() {
        for (int blocks = 0; blocks < 15; blocks++) {
            OnceVolume x = Check.told("disc 60 4 1 2;bad 6 13;file 1 5;");
            x.sync();
            x.set(1, 0, 6);
            int[] due = {1, 8, 4, 2, 6, 1, 3, 4, 8, 6, 1, 3, 4, 2, 6};
            Check.due("tear(" + blocks + ")", 5 + blocks, x.tear(blocks));
            for (int i = 0; i < 15; i++) {
                Check.due("behind " + blocks + " kind " + i, i < blocks ? due[i] : 0, x.block(5 + i, 0));
            }
            Check.due("SPARED behind " + blocks, blocks / 5, x.count(15));
            Check.due("MAP behind " + blocks, 4, x.count(9));
            Check.due("the CELL behind " + blocks, 5, x.read(1, 0));
            Check.due("nothing NEW behind " + blocks, 0, x.count(8) + x.count(6) + x.count(7));
        }
    }

    // also where it would be BROKEN OFF
    private static void tearWhereItIsBrokenOff() {
        Look.Maker maker = () -> Check.told("disc 40 16 4 1;bad 10;file 1 5;");
        Check.due("it would be", -2, maker.make().ends());
        Look.refused("tear(20)", maker, x -> x.tear(20));
        Look.refused("tear(21)", maker, x -> x.tear(21));
        Check.due("tear(19)", 19, maker.make().tear(19));
        OnceVolume x = maker.make();
        x.tear(19);
        Check.due("not SPARED yet", 0, x.count(15));
    }

    // it can't be begun
    private static void tearWithoutRoom() {
        Look.Maker maker = () -> Check.told("disc 40 16 4 1;file 0 1 1 1 1 1 1 1 1;file 1 1 1 1 1 1 1 1 1;");
        Look.refused("tear(0)", maker, x -> x.tear(0));
        Look.refused("tear(1)", maker, x -> x.tear(1));
    }

    private static void tearWithoutAMap() {
        OnceVolume x = Check.told("disc 60 4 1 2;file 1 5;");
        Check.due("tear(0)", 0, x.tear(0));
        Check.due("no FILES", 0, x.count(5));
        Check.due("nothing has CHANGED", 0, x.count(6) + x.count(7));
        Check.due("an ACT", 1, x.count(17));
        x.undo();
        Check.due("the FILE again", 5, x.read(1, 0));
        Check.due("but for the MAP", 4, x.tear(4));
        Check.due("no MAP", -1, x.count(9));
        x.set(1, 0, 7);
        Check.due("behind what is torn", 5, x.sync());
        Check.due("no PREVIOUS", -1, x.tells(8, 13));
    }

    // NONE (STATUS 1): anything has CHANGED
    private static void closeOfChanges() {
        Look.refused("a FILE", EdgesOfWritingTest::toTear, x -> x.close(true));
        Look.refused("a FILE, not IMPORTED", EdgesOfWritingTest::toTear, x -> x.close(false));
        Look.refused("the DIRECTORY alone", () -> {
            OnceVolume x = synced();
            x.rename(1, 2);
            return x;
        }, x -> x.close(true));
        Look.refused("the DIRECTORY alone, without FILES", () -> {
            OnceVolume x = synced();
            x.erase(1);
            return x;
        }, x -> x.close(false));
        Look.refused("a FILE alone", () -> {
            OnceVolume x = synced();
            x.cut(1, 0);
            return x;
        }, x -> x.close(true));
    }

    // HEAD and OUT together are SIZE at most
    private static void closeThatJustFits() {
        OnceVolume x = Check.told("disc 40 2 0 8;");
        for (int session = 1; session <= 5; session++) {
            Check.due("close " + session, session, x.close(true));
            Check.due("HEAD", 8 * session, x.count(4));
        }
        Check.due("the last is OUT", 7, x.block(39, 0));
        Check.due("one more", -1, x.close(true));
        OnceVolume y = Check.told("disc 60 4 0 8;bad 59;file 1 5;");
        for (int sync = 1; sync <= 13; sync++) {
            y.sync();
            y.set(1, 0, sync);
        }
        y.mount(0);
        Check.due("HEAD", 52, y.count(4));
        Check.due("52 and 8 of 60", 1, y.close(true));
        Check.due("a FAULTY one is OUT all the same", 7, y.block(59, 0));
        Check.due("none is BAD", 0, y.count(16));
    }

    // there is no room
    private static void closeWithoutRoom() {
        Look.Maker maker = () -> {
            OnceVolume x = Check.told("disc 47 2 0 8;");
            for (int session = 1; session <= 5; session++) {
                x.close(true);
            }
            return x;
        };
        Look.refused("40 and 8 of 47", maker, x -> x.close(true));
        Look.refused("40 and 8 of 47, not IMPORTED", maker, x -> x.close(false));
    }

    private static void closeWithoutOut() {
        OnceVolume x = Check.told("disc 40 16 4 0;bad 5;file 0 1;");
        x.sync();
        Check.due("full", 40, x.count(4));
        for (int session = 1; session <= 50; session++) {
            Check.due("close " + session, session, x.close(session % 2 == 0 || session < 10));
        }
        Check.due("HEAD", 40, x.count(4));
        Check.due("the SESSION", 50, x.count(10));
    }

    // if its FILES are not IMPORTED, there are none then, no VIRTUAL is written, nothing has CHANGED
    private static void closeNotImported() {
        OnceVolume x = synced();
        int map = x.count(9);
        Check.due("close", 1, x.close(false));
        Check.due("FILES", 0, x.count(5));
        Check.due("CHANGED", 0, x.count(6) + x.count(7));
        Check.due("the MAP stays", map, x.count(9));
        Check.due("MAPS along", 2, x.count(12));
        x.set(4, 0, 1);
        Check.due("VIRTUAL 1", 1, x.file(4, 1));
        Check.due("never written", -1, x.file(4, 2));
        Check.due("the DIRECTORY has CHANGED", 1, x.count(7));
        x.sync();
        int[] due = {x.count(4) - 2, x.count(4) - 3, -1, -1, -1, -1, -1, -1, -1, -1, -1, -1, -1, map, 1};
        for (int i = 0; i < 15; i++) {
            Check.due("the MAP then tells " + i, due[i], x.tells(x.count(9), i));
        }
        Check.due("mount(1): the FILES of before", 1, x.mount(1));
        Check.due("its CELL", 6, x.read(1, 0));
        Check.due("its SESSION", 0, x.count(10));
        OnceVolume y = synced();
        Check.due("close, IMPORTED", 1, y.close(true));
        Check.due("the FILE", 6, y.read(1, 0));
        Check.due("its ENTRY", synced().file(1, 2), y.file(1, 2));
    }

    private static void closeOfNoFiles() {
        OnceVolume x = new OnceVolume();
        Check.due("IMPORTED", 1, x.close(true));
        Check.due("not IMPORTED", 2, x.close(false));
        Check.due("HEAD", 4, x.count(4));
        Check.due("no MAP", -1, x.count(9));
        Check.due("mount(0)", 0, x.mount(0));
        Check.due("SESSION 0", 0, x.count(10));
    }

    // NONE (STATUS 1): there is no k-th
    private static void mountOfNone() {
        int[] wrong = {-1, 2, 3, Integer.MAX_VALUE, Integer.MIN_VALUE};
        for (int k : wrong) {
            Look.refused("mount(" + k + ")", EdgesOfWritingTest::toTear, x -> x.mount(k));
        }
        int[] none = {-1, 1, 2, Integer.MAX_VALUE, Integer.MIN_VALUE};
        for (int k : none) {
            Look.refused("mount(" + k + ") without a MAP", () -> Check.told("file 3 7;"), x -> x.mount(k));
        }
        Check.due("mount(0)", 1, toTear().mount(0));
        Check.due("mount(1)", 1, toTear().mount(1));
    }

    // If there is no GOOD MAP (k 0): no FILES, nothing has CHANGED, SESSION 0
    private static void mountWithoutAMap() {
        OnceVolume x = Check.told("disc 60 4 1 2;bad 7;file 3 7 8 9;");
        // the second PACKET is SPARED; anew, but for its MAP
        x.tear(14);
        x.close(true);
        x.close(true);
        x.set(1, 0, 2);
        Check.due("SESSION", 2, x.count(10));
        Check.due("mount(0)", 0, x.mount(0));
        Check.due("SESSION 0", 0, x.count(10));
        Check.due("nothing has CHANGED", 0, x.count(6) + x.count(7) + x.count(8));
        Check.due("no MAP", -1, x.count(9));
        Check.due("HEAD stays", 18, x.count(4));
        Check.due("an ACT", 5, x.count(17));
        Check.due("undo", 4, x.undo());
        Check.due("the FILE again", 2, x.read(1, 0));
        Check.due("the SESSION again", 2, x.count(10));
    }

    // 0 is the last GOOD MAP on the DISC, 1 the PREVIOUS of that, and so on
    private static void mountOfTheLast() {
        OnceVolume x = Check.told("disc 60 4 0 0;file 1 1;");
        x.sync();
        x.set(1, 0, 2);
        x.sync();
        x.mount(1);
        x.set(1, 0, 3);
        x.sync();
        // MAPS 3, 7, 11; the PREVIOUS of the last is the first
        Check.due("mount(0)", 11, x.mount(0) == 1 ? x.count(9) : -1);
        Check.due("mount(1)", 3, x.mount(1) == 1 ? x.count(9) : -1);
        Check.due("mount(2)", -1, x.mount(2));
        Check.due("from the last, wherever all is from", 11, x.mount(0) == 1 ? x.count(9) : -1);
    }

    private static void goodMapsAlone() {
        OnceVolume x = Check.told("disc 60 4 1 2;bad 8;file 1 5;");
        x.sync();
        x.set(1, 0, 6);
        // the MAP of the SPARED PACKET stands, but isn't GOOD
        Check.due("tear behind it", 10, x.tear(5));
        Check.due("it stands", 6, x.block(9, 0));
        Check.due("mount(0)", 4, x.mount(0) == 1 ? x.count(9) : -1);
        Check.due("the CELL", 5, x.read(1, 0));
        Check.due("mount(1)", -1, x.mount(1));
        x.set(1, 0, 7);
        x.sync();
        Check.due("PREVIOUS is the GOOD one", 4, x.tells(14, 13));
    }
}
