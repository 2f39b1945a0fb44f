/** Boundary cases, sentence by sentence: promises 35 and 36. */
public final class EdgesOfImageTest {
    public static void main(String[] args) {
        restoreOfNone();
        restoreAgainAndAgain();
        imageInPlaceOfAnother();
        imageOfANewOne();
        imageOfAFullOne();
        imageKeepsActs();
        imageKeepsStatus();
        imageIsGoneWithATextAlone();
        imageIsNoAct();
        Check.end();
    }

    private static OnceVolume used() {
        OnceVolume x = Check.told("disc 60 4 1 2;bad 7;file 3 7 9;file 0;");
        x.sync();
        x.set(3, 0, 5);
        x.sync();
        x.erase(9);
        x.close(true);
        x.set(0, 0, 4);
        return x;
    }

    // False: there is none
    private static void restoreOfNone() {
        Look.answers("of a new one", 0, OnceVolume::new, x -> x.restore() ? 1 : 0);
        Look.answers("of one that was told", 0, () -> Check.told("file 3 7;"), x -> x.restore() ? 1 : 0);
        Look.answers("of one that is used", 0, EdgesOfImageTest::used, x -> x.restore() ? 1 : 0);
    }

    // It is as the IMAGE again: true
    private static void restoreAgainAndAgain() {
        OnceVolume x = imaged();
        for (int i = 0; i < 3; i++) {
            x.undo();
            x.undo();
            x.set(3, 0, 100 + i);
            x.sync();
            x.close(false);
            Check.due("restore", true, x.restore());
        }
        Look.alike("behind restores", imaged(), x);
        OnceVolume y = imaged();
        Check.due("right behind the image", true, y.restore());
        Look.alike("right behind the image", imaged(), y);
        OnceVolume z = imaged();
        for (int i = 0; i < 5; i++) {
            z.undo();
        }
        Check.due("all is UNDONE", 0, z.count(4));
        z.restore();
        Look.alike("all that was UNDONE", imaged(), z);
    }

    private static OnceVolume imaged() {
        OnceVolume x = used();
        x.image();
        return x;
    }

    // in place of another one
    private static void imageInPlaceOfAnother() {
        OnceVolume x = imaged();
        x.set(3, 1, 77);
        x.sync();
        x.image();
        x.mount(1);
        x.restore();
        Check.due("the second", 77, x.read(3, 1));
        x.undo();
        x.undo();
        x.image();
        x.set(3, 1, 78);
        x.restore();
        Look.alike("the third is as the first", imaged(), x);
    }

    private static void imageOfANewOne() {
        OnceVolume x = new OnceVolume();
        x.image();
        x.set(1, 0, 2);
        x.sync();
        x.close(false);
        Check.due("restore", true, x.restore());
        OnceVolume y = new OnceVolume();
        y.image();
        Look.alike("as a new one", y, x);
    }

    private static OnceVolume full() {
        OnceVolume x = Check.told("disc 40 16 4 0;bad 5;file 0 1 2 3 4 5 6 7 8;");
        x.sync();
        x.image();
        return x;
    }

    private static void imageOfAFullOne() {
        OnceVolume x = full();
        Check.due("full", 40, x.count(4));
        x.undo();
        x.set(0, 7, 9);
        x.rename(0, 11);
        x.sync();
        Check.due("restore", true, x.restore());
        Look.alike("full again", full(), x);
        OnceVolume y = full();
        y.undo();
        y.restore();
        Check.due("its last BLOCK", 0, y.tells(39, 14));
        Check.due("its last CELL", 8, y.past(0, 0, 7));
    }

    // ACTS that are kept
    private static void imageKeepsActs() {
        int[] before = {0, 1, 39, 40, 41};
        for (int acts : before) {
            OnceVolume x = new OnceVolume();
            for (int i = 1; i <= acts; i++) {
                x.set(1, 0, i);
            }
            x.image();
            for (int i = 0; i < 60; i++) {
                x.set(2, 0, i);
            }
            x.restore();
            int kept = Math.min(acts, 40);
            Check.due("ACTS of " + acts, kept, x.count(17));
            for (int left = kept - 1; left >= 0; left--) {
                Check.due("undo of " + acts, left, x.undo());
            }
            Check.due("none is left of " + acts, -1, x.undo());
            Check.due("FILES of " + acts, acts <= 40 ? 0 : 1, x.count(5));
        }
    }

    // STATUS
    private static void imageKeepsStatus() {
        OnceVolume x = used();
        Check.feed(x, "x");
        x.disc(1);
        x.image();
        Check.feed(x, "  x");
        x.disc(3);
        x.erase(9);
        x.sync();
        x.sync();
        Check.due("STATUS 0", 2, x.count(19));
        Check.due("STATUS 1", 3, x.count(20));
        x.feed(1, 2, 3, 4, 5);
        x.restore();
        Check.due("STATUS 0 of the image", 1, x.count(19));
        Check.due("STATUS 1 of the image", 1, x.count(20));
        Check.due("the tape isn't in it", 20, x.count(18));
        Check.due("the FAULT's place isn't in it", 2, x.fault());
    }

    // disc: ACTS, the image are gone; with a FAULT all stays
    private static void imageIsGoneWithATextAlone() {
        OnceVolume x = imaged();
        Check.feed(x, "bad");
        x.disc(3);
        Check.due("it stays with a FAULT", true, x.restore());
        Check.illegal("disc(1)", () -> x.disc(1));
        Check.due("it stays with what is thrown", true, x.restore());
        x.disc(0);
        Check.due("it is gone with a TEXT", false, x.restore());
        x.image();
        Check.due("another one", true, x.restore());
    }

    private static void imageIsNoAct() {
        OnceVolume x = used();
        int acts = x.count(17);
        x.image();
        Check.due("no ACT", acts, x.count(17));
        x.restore();
        Check.due("no ACT, too", acts, x.count(17));
        Check.due("the undo is of the last ACT", acts - 1, x.undo());
        Check.noSuch("its CELL", () -> x.read(0, 0));
    }
}
