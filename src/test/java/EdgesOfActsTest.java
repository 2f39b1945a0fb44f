/** Boundary cases, sentence by sentence: promises 15 to 20 and 25, and what the Terms say of FILES in mind. */
public final class EdgesOfActsTest {
    private static final int[] NO_NAMES = {-1, 12, 13, Integer.MAX_VALUE, Integer.MIN_VALUE};

    public static void main(String[] args) {
        setOfNoName();
        setOfNoCell();
        setOfNoNumber();
        setOneOfItsCells();
        setBehindTheLast();
        setOfAFileThatIsNot();
        setTheLeastVirtual();
        cutOfNone();
        cutToNotFewer();
        cutToNone();
        eraseOfNone();
        eraseTheLast();
        renameOfNone();
        renameToNoName();
        renameLeavesTheFile();
        copyOfNone();
        copyToNoName();
        copyTheTwelfth();
        revertOfNone();
        revertToNoMap();
        revertWhenItWasNotThere();
        undoOfNone();
        undoForty();
        undoOfRefusedOnes();
        undoEachKind();
        Check.end();
    }

    /** FILES 0 (no CELLS), 3 (two), 5 (eight); MAPS of before, ACTS, an image, refused calls. */
    private static OnceVolume used() {
        OnceVolume x = Check.told("disc 80 4 1 2;bad 17;file 3 7 9;file 0;file 5 1 2 3 4 5 6 7 8;");
        x.sync();
        x.image();
        x.set(3, 1, 8);
        x.sync();
        x.close(true);
        x.erase(9);
        x.set(3, 0, 6);
        return x;
    }

    // NONE (STATUS 1): no NAME
    private static void setOfNoName() {
        for (int name : NO_NAMES) {
            Look.refused("set(" + name + ", 0, 1)", EdgesOfActsTest::used, x -> x.set(name, 0, 1));
        }
        OnceVolume x = new OnceVolume();
        Check.due("NAME 0", 1, x.set(0, 0, 1));
        Check.due("NAME 11", 1, x.set(11, 0, 1));
    }

    // no .. CELL
    private static void setOfNoCell() {
        int[] wrong = {-1, 3, 4, 7, 8, Integer.MAX_VALUE, Integer.MIN_VALUE};
        for (int cell : wrong) {
            Look.refused("set(3, " + cell + ", 1)", EdgesOfActsTest::used, x -> x.set(3, cell, 1));
            Look.refused("set(9, " + cell + ", 1) of none", EdgesOfActsTest::used, x -> x.set(9, cell, 1));
        }
        Look.refused("set(9, 1, 1) of none", EdgesOfActsTest::used, x -> x.set(9, 1, 1));
        Look.refused("set(0, 1, 1) of no CELLS", EdgesOfActsTest::used, x -> x.set(0, 1, 1));
        Look.refused("set(5, 8, 1) of 8", EdgesOfActsTest::used, x -> x.set(5, 8, 1));
    }

    // number not as told
    private static void setOfNoNumber() {
        int[] wrong = {-1, 1000, Integer.MAX_VALUE, Integer.MIN_VALUE};
        for (int number : wrong) {
            Look.refused("set(3, 0, " + number + ")", EdgesOfActsTest::used, x -> x.set(3, 0, number));
            Look.refused("set(9, 0, " + number + ")", EdgesOfActsTest::used, x -> x.set(9, 0, number));
        }
        OnceVolume x = used();
        Check.due("number 0", 2, x.set(3, 0, 0));
        Check.due("it is", 0, x.read(3, 0));
        Check.due("number 999", 2, x.set(3, 0, 999));
        Check.due("it is", 999, x.read(3, 0));
    }

    // one of its CELLS .. is NEW, that number; it has CHANGED
    private static void setOneOfItsCells() {
        OnceVolume x = Check.told("disc 80 4 1 2;file 5 1 2 3 4 5 6 7 8;");
        x.sync();
        Check.due("CELL 0", 8, x.set(5, 0, 1));
        Check.due("NEW, though the same number", 1, x.count(8));
        Check.due("CELL 7", 8, x.set(5, 7, 9));
        Check.due("NEW", 2, x.count(8));
        Check.due("NEW once more", 8, x.set(5, 7, 8));
        Check.due("no more NEW", 2, x.count(8));
        Check.due("the DIRECTORY hasn't CHANGED", 0, x.count(7));
        Check.due("CHANGED", 1, x.file(5, 3));
        Check.due("CELL 6 stays", 7, x.read(5, 6));
    }

    // or the one behind the last (fewer than 8 are)
    private static void setBehindTheLast() {
        OnceVolume x = Check.told("disc 80 4 1 2;file 0;");
        x.sync();
        for (int cell = 0; cell < 8; cell++) {
            Check.due("behind " + cell, cell + 1, x.set(0, cell, 10 + cell));
            Check.due("it is", 10 + cell, x.read(0, cell));
        }
        Check.due("the 9th", -1, x.set(0, 8, 1));
        Check.due("8 CELLS", 8, x.file(0, 0));
        x.cut(0, 7);
        Check.due("behind 7 again", 8, x.set(0, 7, 1));
    }

    // if there is no such FILE, and the CELL is 0, there is one then
    private static void setOfAFileThatIsNot() {
        OnceVolume x = Check.told("disc 80 4 1 2;file 3 7;");
        x.sync();
        Check.due("set", 1, x.set(11, 0, 5));
        Check.due("FILES", 2, x.count(5));
        Check.due("never written", -1, x.file(11, 2));
        Check.due("it has CHANGED", 1, x.file(11, 3));
        Check.due("the DIRECTORY has", 1, x.count(7));
        Check.due("the other hasn't", 0, x.file(3, 3));
        Check.due("behind its first", 2, x.set(11, 1, 5));
    }

    // the least VIRTUAL (from 1 on) that none there has
    private static void setTheLeastVirtual() {
        OnceVolume x = Check.told("file 0;file 1;file 2;file 3;file 4;file 5;file 6;file 7;file 8;file 9;file 10;");
        Check.due("the 12th", 1, x.set(11, 0, 1));
        Check.due("VIRTUAL 12", 12, x.file(11, 1));
        x.erase(0);
        x.set(0, 0, 1);
        Check.due("VIRTUAL 1 again", 1, x.file(0, 1));
        x.erase(11);
        x.set(11, 0, 1);
        Check.due("VIRTUAL 12 again", 12, x.file(11, 1));
        x.erase(4);
        x.erase(2);
        x.erase(7);
        x.set(7, 0, 1);
        Check.due("the least of three", 3, x.file(7, 1));
        x.set(2, 0, 1);
        Check.due("the next", 5, x.file(2, 1));
        x.set(4, 0, 1);
        Check.due("the last", 8, x.file(4, 1));
        Check.due("twelve", 12, x.count(5));
    }

    // NONE (STATUS 1): no such FILE
    private static void cutOfNone() {
        for (int name : NO_NAMES) {
            Look.refused("cut(" + name + ", 0)", EdgesOfActsTest::used, x -> x.cut(name, 0));
        }
        Look.refused("cut(9, 0) of none", EdgesOfActsTest::used, x -> x.cut(9, 0));
    }

    // not 0 to fewer than it has
    private static void cutToNotFewer() {
        int[] wrong = {-1, 2, 3, 8, Integer.MAX_VALUE, Integer.MIN_VALUE};
        for (int cells : wrong) {
            Look.refused("cut(3, " + cells + ")", EdgesOfActsTest::used, x -> x.cut(3, cells));
        }
        Look.refused("cut(0, 0) of no CELLS", EdgesOfActsTest::used, x -> x.cut(0, 0));
        Look.refused("cut(5, 8) of 8", EdgesOfActsTest::used, x -> x.cut(5, 8));
        OnceVolume x = used();
        Check.due("cut(5, 7)", 8, x.cut(5, 7));
        Check.due("7 then", 7, x.file(5, 0));
        Check.noSuch("CELL 7", () -> x.read(5, 7));
        Check.due("CELL 6", 7, x.read(5, 6));
        Check.due("cut(3, 1)", 2, x.cut(3, 1));
    }

    private static void cutToNone() {
        OnceVolume x = used();
        Check.due("cut(5, 0)", 8, x.cut(5, 0));
        Check.due("it is there", 3, x.count(5));
        Check.due("no CELLS", 0, x.file(5, 0));
        Check.due("it has CHANGED", 1, x.file(5, 3));
        Check.due("the DIRECTORY hasn't", 0, x.count(7));
        Check.due("its ENTRY stays as it was", used().file(5, 2), x.file(5, 2));
        Check.due("cut(3, 0) of a NEW one", 2, x.cut(3, 0));
        Check.due("none is NEW", 0, x.count(8));
    }

    // NONE (STATUS 1): no such FILE
    private static void eraseOfNone() {
        for (int name : NO_NAMES) {
            Look.refused("erase(" + name + ")", EdgesOfActsTest::used, x -> x.erase(name));
        }
        Look.refused("erase(9) of none", EdgesOfActsTest::used, x -> x.erase(9));
        Look.refused("erase(3) of an empty DISC", OnceVolume::new, x -> x.erase(3));
    }

    private static void eraseTheLast() {
        OnceVolume x = used();
        Check.due("no CELLS", 0, x.erase(0));
        Check.due("two", 2, x.erase(3));
        Check.due("eight", 8, x.erase(5));
        Check.due("none is there", 0, x.count(5));
        Check.due("none has CHANGED", 0, x.count(6));
        Check.due("none is NEW", 0, x.count(8));
        Check.due("the DIRECTORY has", 1, x.count(7));
        Check.due("again", -1, x.erase(5));
        Check.due("DIRECTORY PAD PAD MAP", 5, x.sync());
        int map = x.count(9);
        for (int virtual = 1; virtual <= 12; virtual++) {
            Check.due("no VIRTUAL " + virtual, -1, x.tells(map, virtual));
        }
        Check.due("an empty DIRECTORY", map - 3, x.tells(map, 0));
        Check.due("mounted", 0, x.mount(0));
    }

    // False (STATUS 1): no such FILE, no such NAME, a FILE has it
    private static void renameOfNone() {
        for (int name : NO_NAMES) {
            Look.refusedFalse("rename(" + name + ", 9)", EdgesOfActsTest::used, x -> x.rename(name, 9) ? 1 : 0);
        }
        Look.refusedFalse("rename(9, 10) of none", EdgesOfActsTest::used, x -> x.rename(9, 10) ? 1 : 0);
        Look.refusedFalse("rename(9, 9) of none", EdgesOfActsTest::used, x -> x.rename(9, 9) ? 1 : 0);
    }

    private static void renameToNoName() {
        for (int to : NO_NAMES) {
            Look.refusedFalse("rename(3, " + to + ")", EdgesOfActsTest::used, x -> x.rename(3, to) ? 1 : 0);
        }
        Look.refusedFalse("rename(3, 5), which one has", EdgesOfActsTest::used, x -> x.rename(3, 5) ? 1 : 0);
        Look.refusedFalse("rename(3, 0), which an empty one has", EdgesOfActsTest::used, x -> x.rename(3, 0) ? 1 : 0);
        Look.refusedFalse("rename(3, 3)", EdgesOfActsTest::used, x -> x.rename(3, 3) ? 1 : 0);
        OnceVolume x = used();
        Check.due("to 11", true, x.rename(3, 11));
        Check.due("to 3", true, x.rename(0, 3));
        Check.due("to 0", true, x.rename(11, 0));
    }

    private static void renameLeavesTheFile() {
        OnceVolume x = Check.told("disc 80 4 1 2;file 3 7;");
        x.sync();
        x.rename(3, 0);
        Check.due("the DIRECTORY has CHANGED", 1, x.count(7));
        Check.due("the FILE hasn't", 0, x.count(6));
        Check.due("its VIRTUAL", 1, x.file(0, 1));
        Check.due("its ENTRY", 2, x.file(0, 2));
        Check.due("DIRECTORY PAD PAD MAP", 2, x.cost(2));
        x.rename(0, 3);
        Check.due("back again, CHANGED all the same", 1, x.count(7));
        x.set(3, 1, 8);
        x.rename(3, 11);
        Check.due("its CELLS", 2, x.file(11, 0));
        Check.due("its first", 7, x.read(11, 0));
        Check.due("its last", 8, x.read(11, 1));
        Check.due("CHANGED as it was", 1, x.file(11, 3));
        Check.due("NEW as it was", 1, x.count(8));
        Check.noSuch("no FILE of the old NAME", () -> x.file(3, 0));
    }

    // NONE (STATUS 1): no such FILE, no such NAME, a FILE has it
    private static void copyOfNone() {
        for (int name : NO_NAMES) {
            Look.refused("copy(" + name + ", 9)", EdgesOfActsTest::used, x -> x.copy(name, 9));
        }
        Look.refused("copy(9, 10) of none", EdgesOfActsTest::used, x -> x.copy(9, 10));
        Look.refused("copy(9, 9) of none", EdgesOfActsTest::used, x -> x.copy(9, 9));
    }

    private static void copyToNoName() {
        for (int to : NO_NAMES) {
            Look.refused("copy(3, " + to + ")", EdgesOfActsTest::used, x -> x.copy(3, to));
        }
        Look.refused("copy(3, 5), which one has", EdgesOfActsTest::used, x -> x.copy(3, 5));
        Look.refused("copy(3, 0), which an empty one has", EdgesOfActsTest::used, x -> x.copy(3, 0));
        Look.refused("copy(3, 3)", EdgesOfActsTest::used, x -> x.copy(3, 3));
        OnceVolume x = used();
        Check.due("to 11", 4, x.copy(3, 11));
        Check.due("of no CELLS", 5, x.copy(0, 1));
        Check.due("no CELLS", 0, x.file(1, 0));
        Check.due("of 8", 6, x.copy(5, 2));
        Check.due("8 CELLS", 8, x.file(2, 0));
        Check.due("its last", 8, x.read(2, 7));
        Check.due("NEW ones: CELL 0 of 3, and of its copy", 2, x.count(8));
    }

    // the least VIRTUAL that none has, never written
    private static void copyTheTwelfth() {
        OnceVolume x = Check.told("file 0 1;file 1;file 2;file 3;file 4;file 5;file 6;file 7;file 8;file 9;file 10;");
        Check.due("the 12th", 12, x.copy(0, 11));
        for (int to = 0; to < 12; to++) {
            Check.due("no NAME is left: " + to, -1, x.copy(0, to));
        }
        x.sync();
        x.erase(2);
        Check.due("the least", 3, x.copy(11, 2));
        Check.due("never written", -1, x.file(2, 2));
        Check.due("told by the same BLOCK", 0, x.count(8));
    }

    // NONE (STATUS 1): no such FILE
    private static void revertOfNone() {
        for (int name : NO_NAMES) {
            Look.refused("revert(" + name + ", 0)", EdgesOfActsTest::used, x -> x.revert(name, 0));
        }
        Look.refused("revert(9, 0) of none", EdgesOfActsTest::used, x -> x.revert(9, 0));
        OnceVolume x = used();
        x.erase(3);
        Check.due("of one that isn't there now", -1, x.revert(3, 0));
    }

    // no k-th MAP
    private static void revertToNoMap() {
        int[] wrong = {-1, 2, 3, Integer.MAX_VALUE, Integer.MIN_VALUE};
        for (int k : wrong) {
            Look.refused("revert(3, " + k + ")", EdgesOfActsTest::used, x -> x.revert(3, k));
        }
        Look.refused("without a MAP", () -> Check.told("file 3 7;"), x -> x.revert(3, 0));
        OnceVolume x = used();
        Check.due("to the first", 2, x.revert(3, 1));
        Check.due("its CELL 1", 9, x.read(3, 1));
        Check.due("none is NEW", 0, x.count(8));
        Check.due("to the last", 2, x.revert(3, 0));
        Check.due("its CELL 1", 8, x.read(3, 1));
        Check.due("of no CELLS", 0, x.revert(0, 0));
        Check.due("of 8", 8, x.revert(5, 1));
        Check.due("CHANGED, though all is as it was", 3, x.count(6));
    }

    // it wasn't there
    private static void revertWhenItWasNotThere() {
        Look.Maker maker = () -> {
            OnceVolume x = Check.told("disc 80 4 1 2;file 3 7;");
            x.sync();
            x.set(4, 0, 5);
            x.sync();
            x.set(5, 0, 6);
            return x;
        };
        Look.refused("by the first", maker, x -> x.revert(4, 1));
        Look.refused("by the last", maker, x -> x.revert(5, 0));
        Check.due("there by the last", 1, maker.make().revert(4, 0));
        OnceVolume x = maker.make();
        x.set(4, 1, 1);
        x.cut(3, 0);
        Check.due("shorter then", 1, x.revert(4, 0));
        Check.noSuch("its CELL 1", () -> x.read(4, 1));
        Check.due("longer then", 1, x.revert(3, 1));
        Check.due("its CELL 0", 7, x.read(3, 0));
    }

    // NONE: there is none
    private static void undoOfNone() {
        Look.answers("of a new one", -1, OnceVolume::new, OnceVolume::undo);
        Look.answers("of one that was told", -1, () -> Check.told("file 3 7;"), OnceVolume::undo);
        Look.answers("of one that is UNDONE", -1, () -> {
            OnceVolume x = Check.told("file 3 7;");
            x.set(3, 0, 1);
            x.undo();
            return x;
        }, OnceVolume::undo);
    }

    // at most 40 are kept, the latest ones
    private static void undoForty() {
        int[] made = {39, 40, 41, 79, 80, 81, 121};
        for (int acts : made) {
            OnceVolume x = new OnceVolume();
            for (int i = 1; i <= acts; i++) {
                x.set(1, 0, i);
            }
            int kept = Math.min(acts, 40);
            Check.due("kept of " + acts, kept, x.count(17));
            for (int left = kept - 1; left >= 0; left--) {
                Check.due("left of " + acts, left, x.undo());
                int number = acts - kept + left;
                Check.due("the number then", number == 0 ? Check.NO_SUCH : number, Check.answerOf(() -> x.read(1, 0)));
            }
            Check.due("none is left of " + acts, -1, x.undo());
        }
    }

    private static void undoOfRefusedOnes() {
        OnceVolume x = used();
        int acts = x.count(17);
        x.set(12, 0, 0);
        x.cut(3, 2);
        x.erase(9);
        x.rename(3, 3);
        x.copy(3, 3);
        x.revert(3, 7);
        x.close(true);
        x.mount(5);
        x.tear(-1);
        Check.due("no ACTS", acts, x.count(17));
        Check.due("STATUS 1", 10, x.count(20));
        Check.due("undo of the last one that was done", acts - 1, x.undo());
        Check.due("its CELL", 7, x.read(3, 0));
        Check.due("STATUS isn't UNDONE", 10, x.count(20));
    }

    private static void undone(String act, Look.Ask ask) {
        OnceVolume x = used();
        int acts = x.count(17);
        ask.of(x);
        Check.due(act + " is an ACT", acts + 1, x.count(17));
        Check.due("undo of " + act, acts, x.undo());
        Look.alike("behind the undo of " + act, used(), x);
    }

    // a CELL is SET; a FILE is CUT, ERASED, RENAMED, COPIED, REVERTED; a SYNC; one that is TORN; a MAP is MOUNTED
    private static void undoEachKind() {
        undone("a set", x -> x.set(3, 2, 1));
        undone("a set of none", x -> x.set(9, 0, 1));
        undone("a cut", x -> x.cut(5, 0));
        undone("an erase", x -> x.erase(5));
        undone("a rename", x -> x.rename(5, 1) ? 1 : 0);
        undone("a copy", x -> x.copy(5, 1));
        undone("a revert", x -> x.revert(3, 1));
        undone("a sync", OnceVolume::sync);
        undone("a tear of none", x -> x.tear(0));
        undone("a tear", x -> x.tear(4));
        undone("a mount", x -> x.mount(0));
        undone("a mount of the first", x -> x.mount(1));
        OnceVolume y = Check.told("disc 60 4 1 2;file 1 5;");
        y.sync();
        y.close(false);
        Check.due("undo of a close", 1, y.undo());
        Check.due("the FILE again", 5, y.read(1, 0));
        Check.due("its ENTRY again", 2, y.file(1, 2));
        Check.due("the SESSION again", 0, y.count(10));
        Check.due("BLANK again", 0, y.block(5, 0));
    }
}
