/** Promises 8, 10 and 15 to 20, and 25: FILES in mind, and how they are changed and UNDONE. */
public final class ActsTest {
    public static void main(String[] args) {
        file();
        read();
        set();
        setMakesFiles();
        cut();
        erase();
        rename();
        copy();
        revert();
        undo();
        undoKeepsForty();
        undoOfWriting();
        Check.end();
    }

    private static void file() {
        OnceVolume x = Check.told("disc 60 4 1 2;file 3 7 9;file 0;");
        x.sync();
        int[] three = {2, 1, 3, 0};
        int[] zero = {0, 2, 4, 0};
        for (int what = 0; what < 4; what++) {
            Check.due("file(3, " + what + ")", three[what], x.file(3, what));
            Check.due("file(0, " + what + ")", zero[what], x.file(0, what));
        }
        x.set(3, 2, 1);
        Check.due("cells then", 3, x.file(3, 0));
        Check.due("its entry still", 3, x.file(3, 2));
        Check.due("changed", 1, x.file(3, 3));
        Check.due("the other not", 0, x.file(0, 3));
        Check.noSuch("file(3, 4)", () -> x.file(3, 4));
        Check.noSuch("file(3, -1)", () -> x.file(3, -1));
        Check.noSuch("file(1, 0)", () -> x.file(1, 0));
        Check.noSuch("file(12, 0)", () -> x.file(12, 0));
        Check.noSuch("file(-1, 0)", () -> x.file(-1, 0));
    }

    private static void read() {
        OnceVolume x = Check.told("file 3 7 9;");
        Check.due("a new cell", 9, x.read(3, 1));
        x.sync();
        Check.due("a written cell", 9, x.read(3, 1));
        x.set(3, 1, 0);
        Check.due("as it is in mind", 0, x.read(3, 1));
        Check.noSuch("read(3, 2)", () -> x.read(3, 2));
        Check.noSuch("read(3, -1)", () -> x.read(3, -1));
        Check.noSuch("read(2, 0)", () -> x.read(2, 0));
        Check.noSuch("read(12, 0)", () -> x.read(12, 0));
        Check.noSuch("read(-1, 0)", () -> x.read(-1, 0));
    }

    private static void set() {
        OnceVolume x = Check.told("disc 60 4 1 2;file 3 7 9;");
        x.sync();
        Check.due("one of its cells", 2, x.set(3, 0, 999));
        Check.due("new", 1, x.count(8));
        Check.due("the same number is new, too", 2, x.set(3, 1, 9));
        Check.due("both new", 2, x.count(8));
        for (int cell = 2; cell < 8; cell++) {
            Check.due("cell " + cell, cell + 1, x.set(3, cell, cell));
        }
        Check.due("refused ahead", 0, x.count(20));
        Check.due("cell 8", -1, x.set(3, 8, 1));
        Check.due("cell -1", -1, x.set(3, -1, 1));
        Check.due("cell 1 of none", -1, x.set(4, 1, 1));
        Check.due("number 1000", -1, x.set(3, 0, 1000));
        Check.due("number -1", -1, x.set(3, 0, -1));
        Check.due("name 12", -1, x.set(12, 0, 1));
        Check.due("name -1", -1, x.set(-1, 0, 1));
        Check.due("refused", 7, x.count(20));
        Check.due("acts", 9, x.count(17));
        x.cut(3, 3);
        Check.due("a gap", -1, x.set(3, 4, 1));
        Check.due("behind the last", 4, x.set(3, 3, 1));
    }

    private static void setMakesFiles() {
        OnceVolume x = Check.told("disc 60 4 1 2;file 3 7;file 5 8;file 7 9;");
        x.sync();
        x.erase(5);
        x.sync();
        Check.due("a file there is then", 1, x.set(0, 0, 4));
        Check.due("the least virtual", 2, x.file(0, 1));
        Check.due("never written", -1, x.file(0, 2));
        Check.due("changed", 1, x.file(0, 3));
        Check.due("the directory, too", 1, x.count(7));
        Check.due("one more", 1, x.set(11, 0, 4));
        Check.due("the next virtual", 4, x.file(11, 1));
        OnceVolume y = new OnceVolume();
        for (int name = 11; name >= 0; name--) {
            y.set(name, 0, name);
            Check.due("virtual of " + name, 12 - name, y.file(name, 1));
        }
        Check.due("twelve", 12, y.count(5));
    }

    private static void cut() {
        OnceVolume x = Check.told("disc 60 4 1 2;file 3 7 9 8;");
        x.sync();
        Check.due("cut(3, 3)", -1, x.cut(3, 3));
        Check.due("cut(3, -1)", -1, x.cut(3, -1));
        Check.due("cut(2, 0)", -1, x.cut(2, 0));
        Check.due("cut(12, 0)", -1, x.cut(12, 0));
        Check.due("cut(-1, 0)", -1, x.cut(-1, 0));
        Check.due("refused", 5, x.count(20));
        Check.due("cut(3, 1)", 3, x.cut(3, 1));
        Check.due("cells then", 1, x.file(3, 0));
        Check.due("changed", 1, x.file(3, 3));
        Check.due("the directory not", 0, x.count(7));
        Check.due("no new cells", 0, x.count(8));
        Check.noSuch("read(3, 1)", () -> x.read(3, 1));
        Check.due("cut(3, 0)", 1, x.cut(3, 0));
        Check.due("the file is there", 0, x.file(3, 0));
        Check.due("cut to 0 of 0", -1, x.cut(3, 0));
        Check.due("ENTRY PAD PAD MAP", 5, x.sync());
        Check.noSuch("an entry of none", () -> x.tells(x.count(4) - 4, 0));
        Check.due("set anew", 1, x.set(3, 0, 1));
        x.cut(3, 0);
        Check.due("a new cell that is cut isn't", 0, x.count(8));
    }

    private static void erase() {
        OnceVolume x = Check.told("disc 60 4 1 2;file 3 7 9;file 4;");
        x.sync();
        Check.due("erase(2)", -1, x.erase(2));
        Check.due("erase(12)", -1, x.erase(12));
        Check.due("erase(-1)", -1, x.erase(-1));
        Check.due("refused", 3, x.count(20));
        Check.due("erase(3)", 2, x.erase(3));
        Check.due("files", 1, x.count(5));
        Check.due("directory", 1, x.count(7));
        Check.due("no file has changed", 0, x.count(6));
        Check.due("erase(3) again", -1, x.erase(3));
        Check.due("DIRECTORY PAD PAD MAP", 5, x.sync());
        Check.due("its virtual is none", -1, x.tells(14, 1));
        Check.due("the other is there", 4, x.tells(14, 2));
        Check.due("the directory", 11, x.tells(14, 0));
        Check.due("without it", -1, x.tells(11, 3));
        Check.due("with the other", 2, x.tells(11, 4));
        x.set(6, 0, 5);
        Check.due("its virtual anew", 1, x.file(6, 1));
        Check.due("never written", -1, x.file(6, 2));
        Check.due("erased though new", 1, x.erase(6));
        Check.due("no new cells", 0, x.count(8));
        Check.due("the directory has changed", 1, x.count(7));
    }

    private static void rename() {
        OnceVolume x = Check.told("disc 60 4 1 2;file 3 7 9;file 4 5;");
        x.sync();
        Check.due("rename(2, 1)", false, x.rename(2, 1));
        Check.due("rename(3, 4)", false, x.rename(3, 4));
        Check.due("rename(3, 3)", false, x.rename(3, 3));
        Check.due("rename(3, 12)", false, x.rename(3, 12));
        Check.due("rename(3, -1)", false, x.rename(3, -1));
        Check.due("rename(12, 1)", false, x.rename(12, 1));
        Check.due("rename(-1, 1)", false, x.rename(-1, 1));
        Check.due("refused", 7, x.count(20));
        Check.due("rename(3, 11)", true, x.rename(3, 11));
        Check.due("its virtual", 1, x.file(11, 1));
        Check.due("its entry", 3, x.file(11, 2));
        Check.due("it hasn't changed", 0, x.file(11, 3));
        Check.due("the directory has", 1, x.count(7));
        Check.due("its cells", 9, x.read(11, 1));
        Check.noSuch("the old name", () -> x.file(3, 0));
        x.set(4, 0, 6);
        x.rename(4, 3);
        Check.due("changed with it", 1, x.file(3, 3));
        Check.due("new with it", 1, x.count(8));
        Check.due("its number with it", 6, x.read(3, 0));
        Check.due("one changed", 1, x.count(6));
    }

    private static void copy() {
        OnceVolume x = Check.told("disc 60 4 1 2;file 3 7 9;file 4 5;");
        x.sync();
        x.set(3, 0, 1);
        Check.due("copy(2, 1)", -1, x.copy(2, 1));
        Check.due("copy(3, 4)", -1, x.copy(3, 4));
        Check.due("copy(3, 3)", -1, x.copy(3, 3));
        Check.due("copy(3, 12)", -1, x.copy(3, 12));
        Check.due("copy(3, -1)", -1, x.copy(3, -1));
        Check.due("copy(12, 1)", -1, x.copy(12, 1));
        Check.due("refused", 6, x.count(20));
        Check.due("directory not yet", 0, x.count(7));
        Check.due("copy(3, 0)", 3, x.copy(3, 0));
        Check.due("cells", 2, x.file(0, 0));
        Check.due("never written", -1, x.file(0, 2));
        Check.due("changed", 1, x.file(0, 3));
        Check.due("directory", 1, x.count(7));
        Check.due("a new cell each", 2, x.count(8));
        Check.due("its number", 1, x.read(0, 0));
        Check.due("copy of one that hasn't changed", 4, x.copy(4, 5));
        Check.due("it stays so", 0, x.file(4, 3));
        Check.due("the copy has changed", 1, x.file(5, 3));
        Check.due("no new cell of it", 2, x.count(8));
        x.set(0, 1, 44);
        Check.due("the first is as it was", 9, x.read(3, 1));
        // 0 LINK, 1 2 DATA, 3 ENTRY, 4 DATA, 5 LINK, 6 ENTRY, 7 DIRECTORY, 8 PAD, 9 MAP;
        // 10 LINK, 11 DATA 12 ENTRY (3), 13 14 DATA, 15 LINK, 16 ENTRY (0), 17 ENTRY (5), 18 DIRECTORY, 19 MAP
        Check.due("sync", 10, x.sync());
        Check.due("the first's new cell", 11, x.tells(12, 0));
        Check.due("the first's old cell", 2, x.tells(12, 1));
        Check.due("the copy's own", 13, x.tells(16, 0));
        Check.due("the copy's own, too", 14, x.tells(16, 1));
        Check.due("told by the same block", 4, x.tells(17, 0));
        Check.due("the other's entry stays", 6, x.tells(19, 2));
    }

    private static void revert() {
        OnceVolume x = Check.told("disc 60 4 1 2;file 3 7 9;");
        Check.due("no map yet", -1, x.revert(3, 0));
        x.sync();
        x.cut(3, 1);
        x.sync();
        x.set(3, 0, 5);
        x.set(4, 0, 6);
        x.sync();
        // MAPS 9, 14 and, of DATA ENTRY DATA ENTRY | DIRECTORY PAD PAD MAP, 24
        Check.due("by the last map", 24, x.count(9));
        Check.due("revert(3, 3)", -1, x.revert(3, 3));
        Check.due("revert(3, -1)", -1, x.revert(3, -1));
        Check.due("revert(4, 1)", -1, x.revert(4, 1));
        Check.due("revert(5, 0)", -1, x.revert(5, 0));
        Check.due("revert(12, 0)", -1, x.revert(12, 0));
        Check.due("revert(-1, 0)", -1, x.revert(-1, 0));
        Check.due("refused", 7, x.count(20));
        Check.due("revert(3, 2)", 2, x.revert(3, 2));
        Check.due("its cell then", 7, x.read(3, 0));
        Check.due("the other cell", 9, x.read(3, 1));
        Check.due("changed", 1, x.file(3, 3));
        Check.due("directory not", 0, x.count(7));
        Check.due("told by their blocks", 0, x.count(8));
        Check.due("ENTRY PAD PAD MAP", 5, x.sync());
        Check.due("the old block", 1, x.tells(26, 0));
        Check.due("the old block, too", 2, x.tells(26, 1));
        x.set(3, 1, 1);
        Check.due("to the map all is from", 2, x.revert(3, 0));
        Check.due("as it was", 9, x.read(3, 1));
        Check.due("changed all the same", 1, x.file(3, 3));
        x.erase(4);
        x.rename(3, 4);
        Check.due("by its name now", 1, x.revert(4, 1));
        Check.due("what that name was", 6, x.read(4, 0));
        Check.due("its virtual stays", 1, x.file(4, 1));
    }

    private static void undo() {
        OnceVolume x = Check.told("disc 60 4 1 2;file 3 7 9;");
        x.sync();
        x.set(3, 0, 5);
        x.cut(3, 1);
        x.rename(3, 2);
        x.copy(2, 1);
        x.erase(2);
        x.mount(0);
        x.set(3, 0, 6);
        x.revert(3, 0);
        Check.due("acts", 9, x.count(17));
        x.set(9, 9, 9);
        Check.due("undo revert", 8, x.undo());
        Check.due("the cell that was set", 6, x.read(3, 0));
        Check.due("undo set", 7, x.undo());
        Check.due("as it was mounted", 7, x.read(3, 0));
        Check.due("undo mount", 6, x.undo());
        Check.due("one file", 1, x.count(5));
        Check.due("directory changed", 1, x.count(7));
        Check.due("undo erase", 5, x.undo());
        Check.due("two files", 2, x.count(5));
        Check.due("undo copy", 4, x.undo());
        Check.noSuch("the copy is gone", () -> x.file(1, 0));
        Check.due("undo rename", 3, x.undo());
        Check.due("cells", 1, x.file(3, 0));
        Check.due("directory hasn't changed", 0, x.count(7));
        Check.due("undo cut", 2, x.undo());
        Check.due("cells", 2, x.file(3, 0));
        Check.due("undo set", 1, x.undo());
        Check.due("nothing changed", 0, x.count(6));
        Check.due("undo sync", 0, x.undo());
        Check.due("HEAD", 0, x.count(4));
        Check.due("changed again", 1, x.file(3, 3));
        Check.due("no map", -1, x.count(9));
        Check.due("none is left", -1, x.undo());
        Check.due("STATUS isn't undone, nor counts undo", 1, x.count(20));
    }

    private static void undoKeepsForty() {
        OnceVolume x = new OnceVolume();
        for (int i = 0; i < 45; i++) {
            x.set(1, 0, i);
        }
        Check.due("forty are kept", 40, x.count(17));
        for (int i = 39; i >= 0; i--) {
            Check.due("undo to " + i, i, x.undo());
            Check.due("the number then", i + 4, x.read(1, 0));
        }
        Check.due("no more", -1, x.undo());
        Check.due("the oldest state", 4, x.read(1, 0));
        x.set(1, 0, 99);
        Check.due("kept again", 1, x.count(17));
    }

    private static void undoOfWriting() {
        OnceVolume x = Check.told("disc 60 4 1 2;bad 7;file 3 7 9;");
        x.sync();
        Check.due("PACKET 2 SPARED", 1, x.count(15));
        Check.due("HEAD", 15, x.count(4));
        x.close(false);
        Check.due("undo close", 1, x.undo());
        Check.due("the files again", 1, x.count(5));
        Check.due("the session", 0, x.count(10));
        Check.due("BLANK again", 0, x.block(15, 0));
        x.set(3, 0, 1);
        x.tear(3);
        Check.due("torn HEAD", 18, x.count(4));
        Check.due("undo tear", 2, x.undo());
        Check.due("HEAD again", 15, x.count(4));
        Check.due("new again", 1, x.count(8));
        Check.due("BLANK", 0, x.block(16, 0));
        Check.noSuch("it tells nothing", () -> x.tells(16, 0));
        x.undo();
        x.undo();
        Check.due("never SPARED", 0, x.count(15));
        Check.due("none BAD", 0, x.count(16));
        Check.due("the BAD one is BLANK", 0, x.block(7, 0));
        Check.due("no good map", 0, x.count(11));
        Check.due("written as at first", 15, x.sync());
        OnceVolume y = Check.told("disc 60 4 0 0;file 3 7;");
        y.sync();
        y.undo();
        Check.due("a BLANK one at HEAD", 0, y.block(0, 0));
        Check.noSuch("tells nothing", () -> y.tells(0, 0));
        Check.due("no MAP to find", -1, y.found(60));
        Check.due("none REACHED", 0, y.block(0, 1));
        Check.due("none DEAD", 0, y.count(13));
    }
}
