/** Promises 26 to 34: what a SYNC would cost, where it would end, how likely, and YEARS. */
public final class ForecastTest {
    public static void main(String[] args) {
        cost();
        apart();
        found();
        left();
        ends();
        toPack();
        guess();
        guessMore();
        storms();
        years();
        yearsOfFaultyOnes();
        yearsLeaveAll();
        Check.end();
    }

    private static void costs(OnceVolume x, int packets, int blocks, int pads) {
        Check.due("PACKETS", packets, x.cost(0));
        Check.due("BLOCKS", blocks, x.cost(1));
        Check.due("PADS", pads, x.cost(2));
    }

    private static void cost() {
        OnceVolume x = Check.told("disc 60 4 2 2;bad 3 4 5;file 3 7 9;file 0;");
        costs(x, 2, 12, 2);
        x.sync();
        costs(x, 0, 0, 0);
        x.set(3, 0, 1);
        costs(x, 1, 6, 1);
        x.set(3, 1, 1);
        costs(x, 1, 6, 0);
        x.set(3, 2, 1);
        costs(x, 2, 12, 3);
        x.mount(0);
        x.rename(3, 4);
        costs(x, 1, 6, 2);
        Check.noSuch("cost(3)", () -> x.cost(3));
        Check.noSuch("cost(-1)", () -> x.cost(-1));
        OnceVolume y = Check.told("disc 40 2 0 0;");
        for (int name = 0; name < 12; name++) {
            for (int cell = 0; cell < 8; cell++) {
                y.set(name, cell, cell);
            }
        }
        costs(y, 55, 110, 0);
        Check.due("no room", -1, y.sync());
    }

    private static void apart() {
        OnceVolume x = Check.told("disc 200 4 1 2;file 3 7 9;file 0;");
        // DATA DATA ENTRY DIRECTORY MAP, and ENTRY MAP
        Check.due("two files", 15, x.apart());
        x.sync();
        Check.due("nothing", 0, x.apart());
        x.rename(0, 1);
        Check.due("the directory alone", 5, x.apart());
        x.set(1, 0, 1);
        // DATA ENTRY DIRECTORY MAP
        Check.due("with one file", 5, x.apart());
        x.set(3, 1, 1);
        // DATA ENTRY DIRECTORY MAP by the file of virtual 1, DATA ENTRY MAP
        Check.due("with two files", 10, x.apart());
        x.set(3, 0, 1);
        // DATA DATA ENTRY DIRECTORY MAP, DATA ENTRY MAP
        Check.due("the directory in the first", 15, x.apart());
        OnceVolume y = Check.told("disc 200 4 1 2;file 9 7;file 0 7 9;");
        // DATA ENTRY DIRECTORY MAP, DATA DATA ENTRY MAP: the other way round it were 15
        Check.due("by virtuals, not by names", 10, y.apart());
        y.sync();
        y.cut(0, 1);
        Check.due("ENTRY MAP", 5, y.apart());
    }

    private static void found() {
        OnceVolume x = Check.told("disc 60 4 1 2;bad 7;file 3 7;");
        x.sync();
        x.set(3, 0, 8);
        x.sync();
        // MAPS 4, 9 (not good), 14
        int[] at = {0, 4, 5, 9, 10, 14, 15, 16, 60};
        int[] due = {-1, -1, 4, 4, 4, 4, 14, 14, 14};
        for (int i = 0; i < at.length; i++) {
            Check.due("found(" + at[i] + ")", due[i], x.found(at[i]));
        }
        Check.illegal("found(61)", () -> x.found(61));
        Check.illegal("found(-1)", () -> x.found(-1));
        x.undo();
        Check.due("undone", 4, x.found(60));
        OnceVolume y = new OnceVolume();
        Check.due("of nothing", -1, y.found(200));
    }

    private static void left() {
        OnceVolume x = Check.told("disc 60 2 1 2;bad 30 31 32;file 3 7;");
        // DATA ENTRY | PAD MAP: 6 each
        Check.due("58 by 6", 9, x.left());
        x.sync();
        Check.due("52 by 6", 8, x.left());
        x.close(true);
        Check.due("50 by 6", 8, x.left());
        OnceVolume y = Check.told("disc 40 3 1 8;");
        Check.due("32 by 4", 8, y.left());
        OnceVolume z = Check.told("disc 40 3 1 0;");
        Check.due("40 by 4", 10, z.left());
        OnceVolume w = Check.told("disc 40 16 4 8;");
        w.close(true);
        w.close(true);
        w.close(true);
        Check.due("no room at all", 0, w.left());
        w.close(true);
        w.close(true);
        Check.due("full", 0, w.left());
    }

    private static void ends() {
        OnceVolume x = Check.told("disc 60 4 1 2;bad 3 7 10;file 1 5;");
        Check.due("ends", 15, x.ends());
        Check.due("as many are written", 15, x.sync());
        Check.due("nothing changed", -1, x.ends());
        x.set(1, 0, 1);
        Check.due("ends", 20, x.ends());
        Check.due("HEAD stays", 15, x.count(4));
        OnceVolume y = Check.told("disc 40 16 4 1;bad 10;file 1 5;");
        Check.due("broken off", -2, y.ends());
    }

    private static void toPack() {
        OnceVolume x = Check.told("disc 200 4 0 2;file 3 7;");
        // 4 CONTENTS: by 2 and by 4 they are 4
        Check.due("the least of like ones", 2, x.toPack(0));
        Check.due("how many", 4, x.toPack(1));
        x.set(3, 1, 1);
        // 5 CONTENTS
        Check.due("which of 5", 5, x.toPack(0));
        Check.due("how many of 5", 5, x.toPack(1));
        x.sync();
        Check.due("nothing changed", -1, x.toPack(0));
        Check.due("nothing changed", -1, x.toPack(1));
        Check.noSuch("toPack(2)", () -> x.toPack(2));
        Check.noSuch("toPack(-1)", () -> x.toPack(-1));
        OnceVolume y = Check.told("disc 200 2 4 2;file 3 1 2 3 4 5 6 7 8;file 4 1 2 3 4 5 6 7 8;");
        // 20 CONTENTS and 4 LINKS a PACKET: by 10 twice 14
        Check.due("which of 20", 10, y.toPack(0));
        Check.due("how many of 20", 28, y.toPack(1));
        OnceVolume z = Check.told("disc 200 2 4 2;file 3 1 2 3 4 5 6;file 4 1 2 3 4 5 6;");
        Check.due("which of 16", 16, z.toPack(0));
        Check.due("how many of 16", 20, z.toPack(1));
        Check.noSuch("toPack(2) with changes", () -> z.toPack(2));
    }

    private static void guess() {
        OnceVolume x = Check.told("disc 60 4 1 2;bad 12;file 1 5;");
        x.sync();
        // 5 LINK, 6 to 9
        x.set(1, 0, 6);
        Check.due("as it is", 55, x.guess(10, 0));
        Check.due("the first", 0, x.guess(10, 1));
        Check.due("spared once, and once more by 12", 4, x.guess(20, 0));
        Check.due("the first of them", 6, x.guess(20, 1));
        Check.due("none", 0, x.guess(15, 0));
        Check.due("none, first", -1, x.guess(15, 1));
        Check.due("no place", 0, x.guess(-5, 0));
        Check.noSuch("guess(10, 2)", () -> x.guess(10, 2));
        Check.noSuch("guess(10, -1)", () -> x.guess(10, -1));
        Check.due("HEAD stays", 5, x.count(4));
        Check.due("not spared", 0, x.count(15));
        Check.due("and ends as ever", 10, x.ends());
    }

    private static void guessMore() {
        OnceVolume x = Check.told("disc 60 4 1 2;bad 6;file 1 5;file 2 6;");
        // DATA ENTRY DATA ENTRY | DIRECTORY PAD PAD MAP: 0 to 4, 5 to 9 spared, 10 to 14
        Check.due("ends", 15, x.ends());
        Check.due("by 1 to 4 and by 11 to 14", 8, x.guess(20, 0));
        Check.due("the first", 1, x.guess(20, 1));
        Check.due("all the others", 51, x.guess(15, 0));
        OnceVolume y = Check.told("disc 40 16 4 0;bad 10;file 1 5;");
        Check.due("ends", 40, y.ends());
        Check.due("broken off by 24 to 39", 16, y.guess(-2, 0));
        Check.due("the first", 24, y.guess(-2, 1));
        Check.due("by all the others, in the same packet, too", 23, y.guess(40, 0));
    }

    private static void storms() {
        OnceVolume x = Check.told("disc 60 4 1 2;file 1 5;");
        long[] one = {7, 91, 973, 9919, 99757, 999271};
        for (int spared = 0; spared <= 5; spared++) {
            Check.due("one packet, " + spared, one[spared], x.storms(spared, 3));
        }
        x.set(2, 0, 1);
        // two PACKETS: 0.49; 2 * 0.3 * 0.49 more; 3 * 0.09 * 0.49 more
        Check.due("two packets, 0", 49, x.storms(0, 3));
        Check.due("two packets, 1", 784, x.storms(1, 3));
        Check.due("two packets, 2", 9163, x.storms(2, 3));
        Check.due("never spared", 10000, x.storms(2, 0));
        Check.due("never spared, 0", 100, x.storms(0, 0));
        Check.due("always spared", 0, x.storms(5, 10));
        Check.illegal("storms(6, 3)", () -> x.storms(6, 3));
        Check.illegal("storms(-1, 3)", () -> x.storms(-1, 3));
        Check.illegal("storms(0, 11)", () -> x.storms(0, 11));
        Check.illegal("storms(0, -1)", () -> x.storms(0, -1));
        x.sync();
        Check.due("nothing changed", -1, x.storms(0, 3));
        Check.illegal("storms(6, 3) without changes", () -> x.storms(6, 3));
        OnceVolume y = Check.told("disc 40 2 0 0;file 0 1 2 3 4 5 6 7 8;file 1 1 2 3 4 5 6;");
        // 8 and 1, 6 and 1, 1, 1: 18 CONTENTS, 9 PACKETS; room is no matter
        Check.due("9 packets", 1000000000L, y.storms(0, 0));
        Check.due("of 10 to the power of 14", 100000000000000L, y.storms(5, 0));
        y.set(2, 0, 1);
        Check.due("10 packets: 15", 1000000000000000L, y.storms(5, 0));
        y.set(2, 1, 1);
        Check.due("11 packets: 16", -1, y.storms(5, 0));
        Check.due("11 packets: 15", 1000000000000000L, y.storms(4, 0));
        Check.due("half, 11 packets", 48828125L, y.storms(0, 5));
    }

    private static int seed;

    private static int draw(int n) {
        seed = seed * 1103515245 + 12345;
        return (seed >>> 16 & 0x7fff) % n;
    }

    /** YEARS by the calls themselves: what can't be isn't done. */
    private static void years(String text, int from, int n) {
        OnceVolume x = Check.told(text);
        int blocks = x.years(from, n, 0);
        int files = x.years(from, n, 1);
        int spared = x.years(from, n, 2);
        seed = from;
        for (int year = 0; year < n; year++) {
            int act = draw(7);
            if (act < 2) {
                int name = draw(12);
                int cell = draw(8);
                x.set(name, cell, draw(1000));
            } else if (act == 2) {
                x.erase(draw(12));
            } else if (act < 5) {
                x.sync();
            } else if (act == 5) {
                x.tear(draw(30));
            } else {
                x.close(draw(2) == 1);
            }
        }
        String call = "years(" + from + ", " + n + ") of " + text;
        Check.due(call + " BLOCKS", x.count(4), blocks);
        Check.due(call + " FILES", x.count(5), files);
        Check.due(call + " SPARED", x.count(15), spared);
    }

    private static void years() {
        String[] texts = {"", "file 3 1 2 3;file 0 5;", "disc 60 2 0 0;file 1 1;", "disc 400 16 4 8;file 11;"};
        for (String text : texts) {
            for (int n = 0; n <= 60; n += 15) {
                years(text, 1, n);
                years(text, -987654321, n);
                years(text, 20261118, n);
            }
        }
        OnceVolume x = new OnceVolume();
        Check.noSuch("years(1, 1, 3)", () -> x.years(1, 1, 3));
        Check.noSuch("years(1, 1, -1)", () -> x.years(1, 1, -1));
        Check.noSuch("years(1, 61, 3)", () -> x.years(1, 61, 3));
        Check.illegal("years(1, 61, 0)", () -> x.years(1, 61, 0));
        Check.illegal("years(1, -1, 0)", () -> x.years(1, -1, 0));
        Check.due("no years", 0, x.years(1, 0, 0));
    }

    private static void yearsOfFaultyOnes() {
        for (int from = 0; from < 40; from++) {
            years("disc 120 4 1 2;bad 3 9 17 22 38 40 51 60 77 78 90 101;file 3 1 2 3;file 0 5;", from, 60);
        }
    }

    private static void yearsLeaveAll() {
        OnceVolume x = Check.told("disc 120 4 1 2;bad 3 9 17 22 38;file 3 1 2 3;file 0 5;");
        x.sync();
        x.set(3, 0, 9);
        x.sync();
        x.set(3, 1, 9);
        x.erase(7);
        int before = x.count(15);
        int head = x.count(4);
        int[] counts = new int[21];
        for (int what = 0; what <= 20; what++) {
            counts[what] = x.count(what);
        }
        for (int from = 0; from < 20; from++) {
            x.years(from, 60, 0);
        }
        for (int what = 0; what <= 20; what++) {
            Check.due("behind the years: count " + what, counts[what], x.count(what));
        }
        Check.due("BLANK again", 0, x.block(head, 0));
        Check.due("the cell in mind", 9, x.read(3, 1));
        Check.due("the cell by the map ahead", 1, x.past(1, 3, 0));
        int more = 0;
        for (int from = 0; from < 20; from++) {
            more = Math.max(more, x.years(from, 60, 2));
        }
        Check.due("SPARED ahead are not counted", true, before > 0 && more > 0 && more <= 3);
    }
}
