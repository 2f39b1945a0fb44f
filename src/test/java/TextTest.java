/** Promises 1 to 5: a new object, the tape, the TEXT and its FAULTS, the counts. */
public final class TextTest {
    public static void main(String[] args) {
        newObject();
        tape();
        bytesOfTheTape();
        discOfTheTape();
        goodTexts();
        misplaced();
        tooMuch();
        toldAlready();
        firstFaultAndLeast();
        faultLeavesAll();
        discForgetsAll();
        counts();
        Check.end();
    }

    private static void newObject() {
        OnceVolume x = new OnceVolume();
        int[] due = {200, 8, 1, 2, 0, 0, 0, 0, 0, -1, 0, 0, 0, 0, 0, 0, 0, 0, 0, 0, 0};
        for (int what = 0; what < due.length; what++) {
            Check.due("new count " + what, due[what], x.count(what));
        }
        Check.due("new fault", -1, x.fault());
        Check.due("new undo", -1, x.undo());
        Check.due("new restore", false, x.restore());
        Check.due("new block", 0, x.block(199, 0));
        Check.due("new ends", -1, x.ends());
        Check.due("new left", 22, x.left());
        Check.due("NONE", -1, OnceVolume.NONE);
    }

    private static void tape() {
        OnceVolume x = new OnceVolume();
        for (int i = 1; i <= 35; i++) {
            Check.due("feed " + i, 20 * i, x.feed(0x20202020, 0x20202020, 0x0a0a0a0a, 0, 0));
        }
        Check.due("feed beyond 700", -1, x.feed(1, 2, 3, 4, 5));
        Check.due("the tape stays", 700, x.count(18));
        Check.due("no refused text", 0, x.count(19));
        Check.due("no refused act", 0, x.count(20));
        Check.due("zeros are no token", 1, x.disc(700));
        Check.due("behind the blanks", 12, x.fault());
        Check.due("it is empty then", 0, x.count(18));
        Check.due("feed anew", 20, x.feed(1, 2, 3, 4, 5));
    }

    private static void bytesOfTheTape() {
        OnceVolume x = new OnceVolume();
        x.feed(0x64697363, 0x20363120, 0x33203220, 0x343b6669, 0x6c652037);
        x.feed(0x3b808182, -1, 0, 0, 0);
        Check.due("disc 61 3 2 4;file 7;", 0, x.disc(21));
        Check.due("SIZE by the bytes", 61, x.count(0));
        Check.due("PACKET by the bytes", 3, x.count(1));
        Check.due("RUN by the bytes", 2, x.count(2));
        Check.due("OUT by the bytes", 4, x.count(3));
        Check.due("the file's name", 1, x.file(7, 1));
        x.feed(-1, -1, -1, -1, -1);
        Check.due("byte 255", 1, x.disc(1));
        Check.due("byte 255's place", 0, x.fault());
    }

    private static void discOfTheTape() {
        OnceVolume x = new OnceVolume();
        Check.due("disc(0)", 0, x.disc(0));
        Check.illegal("disc(1) of none", () -> x.disc(1));
        Check.illegal("disc(-1)", () -> x.disc(-1));
        Check.feed(x, "file 1 2 3;;");
        Check.illegal("disc(21) of 20", () -> x.disc(21));
        Check.illegal("disc(-1) of 20", () -> x.disc(-1));
        Check.illegal("disc(least)", () -> x.disc(Integer.MIN_VALUE));
        Check.due("nothing has changed", 20, x.count(18));
        Check.due("no fault by it", -1, x.fault());
        Check.due("not counted", 0, x.count(19));
        Check.due("the second semicolon", 1, x.disc(12));
        Check.due("its place", 11, x.fault());
        Check.illegal("the tape is empty behind a fault", () -> x.disc(1));
        Check.due("the fault's place stays", 11, x.fault());
        Check.feed(x, "file 1 2 3;xx");
        Check.due("the first bytes alone", 0, x.disc(11));
        Check.due("without a fault", -1, x.fault());
        Check.due("empty behind it", 0, x.count(18));
    }

    private static void fault(String text, int fault, int place) {
        OnceVolume x = new OnceVolume();
        Check.feed(x, text);
        Check.due("disc of '" + text + "'", fault, x.disc(text.length()));
        Check.due("fault() of '" + text + "'", place, x.fault());
        Check.due("refused of '" + text + "'", fault == 0 ? 0 : 1, x.count(19));
        if (fault != 0) {
            Check.due("SIZE behind '" + text + "'", 200, x.count(0));
            Check.due("FILES behind '" + text + "'", 0, x.count(5));
        }
    }

    private static void good(String text) {
        fault(text, 0, -1);
    }

    private static void goodTexts() {
        good("");
        good("  \n ");
        good("disc 40 2 0 0;");
        good("disc 400 16 4 8;");
        good("disc40 2 0 0;");
        good("\n disc\n0400 0016 04 08 ; ");
        good("bad 0 399;");
        good("bad 1 2 3 4 5 6;bad 7 8 9 10 11 12;");
        good("file 0;file 11;");
        good("file 0 0 999 1 2 3 4 5 6;");
        good("file1 2;bad3;disc40 2 0 0;file2;");
        good("file 0;file 1;file 2;file 3;file 4;file 5;file 6;file 7;file 8;file 9;file 10;file 11;");
        OnceVolume x = Check.told("file 5 10 20;bad 50;disc 60 4 0 1;file 2;file 9 30;");
        Check.due("first told", 1, x.file(5, 1));
        Check.due("second told", 2, x.file(2, 1));
        Check.due("third told", 3, x.file(9, 1));
        Check.due("its cell", 20, x.read(5, 1));
        Check.due("no cells", 0, x.file(2, 0));
        Check.due("never written", -1, x.file(5, 2));
        Check.due("changed", 1, x.file(2, 3));
        Check.due("all changed", 3, x.count(6));
        Check.due("the directory, too", 1, x.count(7));
        Check.due("all cells new", 3, x.count(8));
        Check.due("SIZE told behind", 60, x.count(0));
    }

    private static void misplaced() {
        fault(";", 1, 0);
        fault("7;", 1, 0);
        fault(" discs 60 4 1 2;", 1, 1);
        fault("dis 60 4 1 2;", 1, 0);
        fault("Disc 60 4 1 2;", 1, 0);
        fault("risc 60 4 1 2;", 1, 0);
        fault("mad 1;", 1, 0);
        fault("filf 1;", 1, 0);
        fault("disc", 1, 4);
        fault("disc 60 4 1", 1, 11);
        fault("disc 60 4 1 2", 1, 13);
        fault("disc 60 4 1 2  ", 1, 15);
        fault("disc 60 4 1;", 1, 11);
        fault("disc 60 4 1 2 3;", 1, 14);
        fault("disc 60 4 1 2 12345;", 1, 14);
        fault("disc file 4 1 2;", 1, 5);
        fault("bad;", 1, 3);
        fault("bad", 1, 3);
        fault("bad x;", 1, 4);
        fault("bad 4 x;", 1, 6);
        fault("bad 4", 1, 5);
        fault("file;", 1, 4);
        fault("file 1", 1, 6);
        fault("file 1 file", 1, 7);
        fault("file 1,2;", 1, 6);
        fault("file 1 -2;", 1, 7);
        fault("file\t1;", 1, 4);
        fault("file 1;\r", 1, 7);
        fault("file 1; x", 1, 8);
        fault("12345", 1, 0);
        fault("file bad;", 1, 5);
    }

    private static void tooMuch() {
        fault("disc 39 4 1 2;", 2, 5);
        fault("disc 401 4 1 2;", 2, 5);
        fault("disc 60 1 1 2;", 2, 8);
        fault("disc 60 17 1 2;", 2, 8);
        fault("disc 60 4 5 2;", 2, 10);
        fault("disc 60 4 1 9;", 2, 12);
        fault("disc 00060 4 1 2;", 2, 5);
        fault("disc 60 4 1 00002;", 2, 12);
        fault("bad 400;", 2, 4);
        fault("bad 9999;", 2, 4);
        fault("bad 00001;", 2, 4);
        fault("bad 99999999999999999999;", 2, 4);
        fault("bad 1 2 3 4 5 6 7 8 9 10 11 12 13;", 2, 31);
        fault("bad 1 2 3 4 5 6;bad 7 8 9 10 11 12;bad 13;", 2, 39);
        fault("bad 1 2 3 4 5 6 7 8 9 10 11 12 1;", 2, 31);
        fault("file 12;", 2, 5);
        fault("file 00001;", 2, 5);
        fault("file 1 1000;", 2, 7);
        fault("file 1 00001;", 2, 7);
        fault("file 1 1 2 3 4 5 6 7 8 9;", 2, 23);
        fault("file 1 1 2 3 4 5 6 7 8 x;", 1, 23);
    }

    private static void toldAlready() {
        fault("bad 4 4;", 4, 6);
        fault("bad 4;bad 5 04;", 4, 12);
        fault("file 1 2;file 2;file 1;", 4, 21);
        fault("disc 60 4 1 2;disc 60 4 1 2;", 5, 14);
        fault("disc 60 4 1 2;bad 1; disc", 5, 21);
    }

    private static void firstFaultAndLeast() {
        fault("bad 4 4 400 x", 4, 6);
        fault("bad 400 x", 2, 4);
        fault("file 12 1000;", 2, 5);
        fault("disc 60 4 1 2;discs", 1, 14);
        fault("bad 1 2 3 4 5 6 7 8 9 10 11 12 x;", 1, 31);
    }

    private static void faultLeavesAll() {
        OnceVolume x = Check.told("disc 60 4 1 2;file 3 7;");
        x.sync();
        x.image();
        x.set(3, 0, 8);
        Check.feed(x, "disc 80 4 1 2;file 3 7");
        Check.due("ends too soon", 1, x.disc(22));
        Check.due("SIZE stays", 60, x.count(0));
        Check.due("ACTS stay", 2, x.count(17));
        Check.due("the cell stays", 8, x.read(3, 0));
        Check.due("HEAD stays", 5, x.count(4));
        Check.due("STATUS 0", 1, x.count(19));
        Check.due("the image stays", true, x.restore());
        Check.due("as the image", 7, x.read(3, 0));
    }

    private static void discForgetsAll() {
        OnceVolume x = Check.told("disc 60 4 1 2;bad 2;file 3 7;");
        x.sync();
        x.close(true);
        x.image();
        x.erase(9);
        Check.feed(x, "file 12;");
        x.disc(8);
        Check.feed(x, "disc 50 4 1 2;");
        Check.due("disc anew", 0, x.disc(14));
        int[] due = {50, 4, 1, 2, 0, 0, 0, 0, 0, -1, 0, 0, 0, 0, 0, 0, 0, 0, 0};
        for (int what = 0; what < due.length; what++) {
            Check.due("anew count " + what, due[what], x.count(what));
        }
        Check.due("the fault is gone", -1, x.fault());
        Check.due("the image is gone", false, x.restore());
        Check.due("ACTS are gone", -1, x.undo());
        Check.due("BLANK again", 0, x.block(9, 0));
        Check.due("STATUS 0 stays", 1, x.count(19));
        Check.due("STATUS 1 stays", 1, x.count(20));
        x.set(0, 0, 1);
        Check.due("block 2 isn't FAULTY any more", 5, x.sync());
    }

    private static void counts() {
        OnceVolume x = Check.told("disc 60 4 1 2;bad 2;file 3 7 9;file 1;");
        Check.due("FILES", 2, x.count(5));
        Check.due("CHANGED", 2, x.count(6));
        Check.due("DIRECTORY", 1, x.count(7));
        Check.due("NEW", 2, x.count(8));
        x.sync();
        // 0 LINK, 1 DATA, 2 BAD, 3 and 4 ENTRIES; anew 5 LINK, 6 7 DATA, 8 9 ENTRIES; 10 LINK, 11 DIRECTORY, PADS, 14 MAP
        int[] due = {60, 4, 1, 2, 15, 2, 0, 0, 0, 14, 0, 1, 1, 3, 0, 1, 1, 1, 0, 0, 0};
        for (int what = 0; what < due.length; what++) {
            Check.due("synced count " + what, due[what], x.count(what));
        }
        x.set(3, 0, 1);
        x.close(true);
        Check.due("CHANGED by a set", 1, x.count(6));
        Check.due("DIRECTORY not by it", 0, x.count(7));
        Check.due("NEW by a set", 1, x.count(8));
        Check.due("STATUS 1", 1, x.count(20));
        Check.due("two ACTS", 2, x.count(17));
        Check.noSuch("count(21)", () -> x.count(21));
        Check.noSuch("count(-1)", () -> x.count(-1));
    }
}
