/** Promises 35 and 36: AN IMAGE is kept, and all is as it again. */
public final class ImageTest {
    public static void main(String[] args) {
        none();
        keepsAll();
        inPlaceOfAnother();
        keepsBlocksThatAreUndone();
        keepsAllFortyActs();
        leavesTheTape();
        Check.end();
    }

    private static void none() {
        OnceVolume x = new OnceVolume();
        Check.due("none", false, x.restore());
        Check.due("not counted as refused", 0, x.count(20));
        x.image();
        Check.due("of nothing", true, x.restore());
        Check.due("again", true, x.restore());
        x.disc(0);
        Check.due("gone with the disc", false, x.restore());
    }

    private static void keepsAll() {
        OnceVolume x = Check.told("disc 60 4 1 2;bad 3;file 3 7 9;");
        x.sync();
        x.close(true);
        x.set(3, 0, 1);
        x.erase(8);
        int[] counts = new int[21];
        for (int what = 0; what <= 20; what++) {
            counts[what] = x.count(what);
        }
        x.image();
        Check.feed(x, "bad");
        x.disc(3);
        x.erase(8);
        x.sync();
        x.erase(3);
        x.mount(1);
        x.set(5, 0, 5);
        x.tear(2);
        Check.due("two refused", 2, x.count(20));
        Check.due("restore", true, x.restore());
        for (int what = 0; what <= 20; what++) {
            Check.due("as the image: count " + what, counts[what], x.count(what));
        }
        Check.due("the fault's place isn't in it", 3, x.fault());
        Check.due("the cell", 1, x.read(3, 0));
        Check.due("the acts", 2, x.undo());
        Check.due("undone", 7, x.read(3, 0));
        Check.due("the acts", 1, x.undo());
        Check.due("the session", 0, x.count(10));
        Check.due("the acts", 0, x.undo());
        Check.due("HEAD", 0, x.count(4));
        Check.due("restored again", true, x.restore());
        Check.due("HEAD again", counts[4], x.count(4));
        Check.due("the acts again", counts[17], x.count(17));
        Check.due("the cell again", 1, x.read(3, 0));
    }

    private static void inPlaceOfAnother() {
        OnceVolume x = Check.told("file 3 7;");
        x.image();
        x.set(3, 0, 8);
        x.image();
        x.set(3, 0, 9);
        x.restore();
        Check.due("the second", 8, x.read(3, 0));
    }

    private static void keepsBlocksThatAreUndone() {
        OnceVolume x = Check.told("disc 60 4 1 2;file 3 7;");
        x.sync();
        x.set(3, 0, 8);
        x.sync();
        x.image();
        x.undo();
        x.undo();
        x.undo();
        x.set(3, 1, 444);
        x.sync();
        x.close(true);
        x.rename(3, 4);
        x.sync();
        x.restore();
        Check.due("the data", 8, x.tells(6, 0));
        Check.due("the entry", 6, x.tells(7, 0));
        Check.due("the map", 7, x.tells(9, 1));
        Check.due("the first data", 7, x.tells(1, 0));
        Check.due("the first entry's length", 1, x.past(1, 3, -1));
        Check.due("a PAD", 2, x.block(8, 0));
        Check.due("BLANK behind", 0, x.block(10, 0));
        Check.due("undo", 2, x.undo());
        Check.due("HEAD by the undo", 5, x.count(4));
        Check.due("new again", 8, x.read(3, 0));
    }

    private static void keepsAllFortyActs() {
        OnceVolume x = new OnceVolume();
        for (int i = 0; i < 45; i++) {
            x.set(1, 0, i);
        }
        x.image();
        for (int i = 45; i < 100; i++) {
            x.set(1, 0, i);
        }
        x.restore();
        for (int i = 39; i >= 0; i--) {
            Check.due("undo to " + i, i, x.undo());
            Check.due("the number then", i + 4, x.read(1, 0));
        }
        Check.due("no more", -1, x.undo());
    }

    private static void leavesTheTape() {
        OnceVolume x = new OnceVolume();
        x.image();
        x.feed(1, 2, 3, 4, 5);
        x.restore();
        Check.due("the tape is as it was", 20, x.count(18));
    }
}
