import java.math.BigInteger;

/** Boundary cases, sentence by sentence: promises 26 to 34, and what the Terms say of these. */
public final class EdgesOfForecastsTest {
    public static void main(String[] args) {
        costOfAnotherWhat();
        costOfNothing();
        costAtItsEdges();
        apartOfNothing();
        apartAtItsEdges();
        foundOfNoBlocks();
        foundAtItsEdges();
        leftAtItsEdges();
        endsOfNone();
        endsAtItsEdges();
        toPackOfAnotherWhat();
        toPackOfNothing();
        toPackOfLikeOnes();
        toPackAtItsEdges();
        guessOfAnotherWhat();
        guessOfNone();
        guessOfEachBlock();
        guessWithoutRoom();
        stormsOfNoTenths();
        stormsOfNothing();
        stormsOfMoreThan15();
        stormsOfAllAndNone();
        stormsAsTheyAre();
        yearsOfAnotherWhat();
        yearsOfNone();
        yearsOfSixty();
        yearsBySeedsThatWrap();
        yearsWhatCannotBe();
        yearsLeaveAll();
        Check.end();
    }

    /** DATA and ENTRY of FILE 3, and the DIRECTORY, are to be written behind 27. */
    private static OnceVolume used() {
        OnceVolume x = Check.told("disc 60 4 1 2;bad 12;file 3 7 9;file 0;");
        x.sync();
        x.set(3, 1, 8);
        x.image();
        x.sync();
        x.close(true);
        x.erase(9);
        x.set(3, 0, 6);
        x.rename(0, 1);
        return x;
    }

    private static OnceVolume unchanged() {
        OnceVolume x = used();
        x.mount(0);
        return x;
    }

    private static OnceVolume full() {
        OnceVolume x = Check.told("disc 40 16 4 0;bad 5;file 0 1;");
        x.sync();
        x.set(0, 0, 2);
        return x;
    }

    // NoSuchElementException: another what
    private static void costOfAnotherWhat() {
        int[] wrong = {-1, 3, Integer.MAX_VALUE, Integer.MIN_VALUE};
        for (int what : wrong) {
            Look.noSuch("cost(" + what + ")", EdgesOfForecastsTest::used, x -> x.cost(what));
            Look.noSuch("cost(" + what + ") of nothing", EdgesOfForecastsTest::unchanged, x -> x.cost(what));
        }
        int[] due = {1, 5, 0};
        for (int what = 0; what < 3; what++) {
            int of = what;
            Look.answers("cost(" + what + ")", due[what], EdgesOfForecastsTest::used, x -> x.cost(of));
        }
    }

    // 0 each, if nothing has CHANGED
    private static void costOfNothing() {
        for (int what = 0; what < 3; what++) {
            int of = what;
            Look.answers("cost(" + what + ") of nothing", 0, EdgesOfForecastsTest::unchanged, x -> x.cost(of));
            Look.answers("cost(" + what + ") of a new one", 0, OnceVolume::new, x -> x.cost(of));
        }
    }

    private static void costs(String text, int packets, int blocks, int pads) {
        OnceVolume x = Check.told(text);
        Check.due("PACKETS of " + text, packets, x.cost(0));
        Check.due("BLOCKS of " + text, blocks, x.cost(1));
        Check.due("PADS of " + text, pads, x.cost(2));
    }

    // COST of a SYNC now, without FAULTY ones: PACKETS, BLOCKS, PADS
    private static void costAtItsEdges() {
        costs("disc 60 4 1 2;file 1 5;", 1, 5, 0);
        costs("disc 60 4 1 2;file 1 5 6;", 2, 10, 3);
        costs("disc 60 4 0 2;file 1;", 1, 4, 1);
        costs("disc 60 2 4 2;file 1;", 2, 12, 1);
        costs("disc 60 16 4 2;file 1;", 1, 20, 13);
        costs("disc 60 4 1 2;bad 0 1 2 3 4 5;file 1 5;", 1, 5, 0);
        // room is no matter
        costs("disc 40 16 4 8;file 0 1 1 1 1 1 1 1 1;file 1 1 1 1 1 1 1 1 1;", 2, 40, 12);
        OnceVolume x = full();
        Check.due("of a full DISC", 20, x.cost(1));
    }

    // 0, if nothing has CHANGED
    private static void apartOfNothing() {
        Look.answers("of nothing", 0, EdgesOfForecastsTest::unchanged, OnceVolume::apart);
        Look.answers("of a new one", 0, OnceVolume::new, OnceVolume::apart);
    }

    // the DIRECTORY in the first of these (in one alone, without such a FILE)
    private static void apartAtItsEdges() {
        Look.answers("one FILE", 5, EdgesOfForecastsTest::used, OnceVolume::apart);
        OnceVolume x = Check.told("disc 200 2 1 2;file 1 5;file 0;");
        // DATA ENTRY | DIRECTORY MAP, and ENTRY MAP
        Check.due("two FILES", 9, x.apart());
        x.sync();
        x.rename(0, 3);
        Check.due("DIRECTORY MAP", 3, x.apart());
        x.cut(1, 0);
        Check.due("ENTRY DIRECTORY | PAD MAP", 6, x.apart());
        x.set(3, 0, 1);
        Check.due("and DATA ENTRY | PAD MAP", 12, x.apart());
        x.sync();
        x.cut(1, x.set(1, 0, 1) - 1);
        x.set(3, 0, 1);
        Check.due("ENTRY MAP, and DATA ENTRY | PAD MAP", 9, x.apart());
        x.set(1, 0, 1);
        Check.due("twice DATA ENTRY | PAD MAP, without the DIRECTORY", 12, x.apart());
        x.erase(3);
        Check.due("DATA ENTRY | DIRECTORY MAP", 6, x.apart());
        OnceVolume y = new OnceVolume();
        for (int name = 0; name < 12; name++) {
            y.set(name, 0, 1);
        }
        Check.due("twelve FILES", 12 * 9, y.apart());
    }

    // IllegalArgumentException: blocks (0 to SIZE)
    private static void foundOfNoBlocks() {
        int[] wrong = {-1, 61, 400, Integer.MAX_VALUE, Integer.MIN_VALUE};
        for (int blocks : wrong) {
            Look.illegal("found(" + blocks + ")", EdgesOfForecastsTest::used, x -> x.found(blocks));
        }
        Look.illegal("found(201) of 200", OnceVolume::new, x -> x.found(201));
        Look.answers("found(200) of 200", -1, OnceVolume::new, x -> x.found(200));
    }

    // the last GOOD MAP among these; none
    private static void foundAtItsEdges() {
        // MAPS 9, 14 (not GOOD), 19
        int[] at = {0, 9, 10, 14, 15, 19, 20, 21, 22, 23, 60};
        int[] due = {-1, -1, 9, 9, 9, 9, 19, 19, 19, 19, 19};
        for (int i = 0; i < at.length; i++) {
            int blocks = at[i];
            Look.answers("found(" + blocks + ")", due[i], EdgesOfForecastsTest::used, x -> x.found(blocks));
        }
        OnceVolume x = full();
        Check.due("of a full DISC", 39, x.found(40));
        Check.due("but for its last", -1, x.found(39));
        x.undo();
        x.undo();
        Check.due("undone", -1, x.found(40));
        OnceVolume y = used();
        y.mount(1);
        Check.due("wherever all is from", 19, y.found(60));
    }

    // LEFT: how many SYNCS, one behind the other, there would be room for
    private static void leftAtItsEdges() {
        Look.answers("full", 0, EdgesOfForecastsTest::full, OnceVolume::left);
        Look.answers("38 less 22, by 5", 7, EdgesOfForecastsTest::used, OnceVolume::left);
        int[] sizes = {43, 44, 45, 46, 47};
        int[] due = {9, 10, 10, 10, 10};
        for (int i = 0; i < sizes.length; i++) {
            Check.due("of " + sizes[i], due[i], Check.told("disc " + sizes[i] + " 3 1 4;").left());
        }
        Check.due("of PACKETS of 2: two each", 10, Check.told("disc 40 2 0 0;").left());
        Check.due("of PACKETS of 3: one each", 13, Check.told("disc 40 3 0 0;").left());
        Check.due("of the greatest", 1, Check.told("disc 40 16 4 8;").left());
        OnceVolume x = Check.told("disc 40 16 4 8;");
        x.close(true);
        Check.due("8 and 20 and 8 of 40", 1, x.left());
        x.close(true);
        Check.due("16 and 20 and 8 of 40", 0, x.left());
        x.close(true);
        x.close(true);
        x.close(true);
        Check.due("HEAD and OUT above SIZE", 0, x.left());
        OnceVolume y = Check.told("disc 44 3 1 4;bad 1 2 3;file 1 5;");
        Check.due("FAULTY ones are no matter", 10, y.left());
        String[] texts = {"disc 44 3 1 4;file 1;", "disc 45 2 1 0;file 1;", "disc 60 16 4 8;file 1;", "disc 60 16 4 0;file 1;"};
        for (String text : texts) {
            OnceVolume z = Check.told(text);
            z.sync();
            int left = z.left();
            int done = 0;
            while (z.set(1, 0, done) == 1 && z.sync() > 0) {
                done++;
            }
            Check.due("as many as there are, of " + text, done, left);
        }
    }

    // none, if it can't be begun; BROKEN OFF, too
    private static void endsOfNone() {
        Look.answers("of nothing", -1, EdgesOfForecastsTest::unchanged, OnceVolume::ends);
        Look.answers("of a new one", -1, OnceVolume::new, OnceVolume::ends);
        Look.answers("without room", -1, EdgesOfForecastsTest::full, OnceVolume::ends);
        Look.answers("BROKEN OFF", -2, () -> Check.told("disc 40 16 4 1;bad 10;file 1 5;"), OnceVolume::ends);
    }

    // HEAD behind a SYNC now, FAULTY ones and all
    private static void endsAtItsEdges() {
        Look.answers("as it is", 27, EdgesOfForecastsTest::used, OnceVolume::ends);
        String[] texts = {"disc 40 16 4 0;bad 10;file 1 5;", "disc 40 16 4 0;file 0 1 1 1 1 1 1 1 1;file 1 1 1 1 1 1 1 1 1;",
            "disc 60 4 2 2;bad 1 6 13;file 1 5;", "disc 60 4 2 2;bad 2 11 15;file 1 5;",
            "disc 60 2 0 0;bad 0 3 5 6;file 1 5 6 7;"};
        int[] due = {40, 40, 6, 24, 14};
        for (int i = 0; i < texts.length; i++) {
            OnceVolume x = Check.told(texts[i]);
            Check.due("ends of " + texts[i], due[i], x.ends());
            Check.due("sync of " + texts[i], due[i], x.sync());
        }
    }

    // NoSuchElementException: another what
    private static void toPackOfAnotherWhat() {
        int[] wrong = {-1, 2, Integer.MAX_VALUE, Integer.MIN_VALUE};
        for (int what : wrong) {
            Look.noSuch("toPack(" + what + ")", EdgesOfForecastsTest::used, x -> x.toPack(what));
            Look.noSuch("toPack(" + what + ") of nothing", EdgesOfForecastsTest::unchanged, x -> x.toPack(what));
        }
    }

    // none, if nothing has CHANGED
    private static void toPackOfNothing() {
        for (int what = 0; what < 2; what++) {
            int of = what;
            Look.answers("toPack(" + what + ") of nothing", -1, EdgesOfForecastsTest::unchanged, x -> x.toPack(of));
            Look.answers("toPack(" + what + ") of a new one", -1, OnceVolume::new, x -> x.toPack(of));
        }
    }

    private static void packs(String text, int which, int many) {
        OnceVolume x = Check.told(text);
        Check.due("which of " + text, which, x.toPack(0));
        Check.due("how many of " + text, many, x.toPack(1));
    }

    // of like ones the least
    private static void toPackOfLikeOnes() {
        Look.answers("which", 4, EdgesOfForecastsTest::used, x -> x.toPack(0));
        Look.answers("how many", 5, EdgesOfForecastsTest::used, x -> x.toPack(1));
        packs("disc 60 8 0 2;file 1 5;", 2, 4);
        packs("disc 60 8 0 2;file 1 1 2 3;", 2, 6);
        packs("disc 60 8 0 2;file 1 1 2 3 4 5 6;", 3, 9);
        // 9 CONTENTS: 3 by 3 and 1 each are 12, 1 by 9 and 1 are 10
        packs("disc 60 8 1 2;file 1 1 2 3 4 5 6;", 9, 10);
    }

    // the PACKET (2 to 16)
    private static void toPackAtItsEdges() {
        packs("disc 60 2 4 2;file 1;", 3, 7);
        OnceVolume x = Check.told("disc 60 16 4 2;file 1 5;");
        x.sync();
        x.revert(1, 0);
        Check.due("ENTRY MAP: the least", 2, x.toPack(0));
        Check.due("how many", 6, x.toPack(1));
        packs("disc 60 2 4 2;file 1 1 1 1 1 1 1;file 2 1 1 1 1 1 1;", 16, 20);
        // 17 CONTENTS: 2 PACKETS of 9; 3 of 6 cost as many BLOCKS of their own, but 4 LINKS more
        packs("disc 60 2 4 2;file 1 1 1 1 1 1 1;file 2 1 1 1 1 1 1 1;", 9, 26);
        // room, and the PACKET that there is, are no matter
        packs("disc 40 16 4 8;file 0 1 1 1 1 1 1 1 1;file 1 1 1 1 1 1 1 1 1;", 10, 28);
    }

    // NoSuchElementException: another what
    private static void guessOfAnotherWhat() {
        int[] wrong = {-1, 2, Integer.MAX_VALUE, Integer.MIN_VALUE};
        for (int what : wrong) {
            Look.noSuch("guess(27, " + what + ")", EdgesOfForecastsTest::used, x -> x.guess(27, what));
            Look.noSuch("guess(27, " + what + ") of nothing", EdgesOfForecastsTest::unchanged, x -> x.guess(27, what));
        }
    }

    // how many; the first (NONE)
    private static void guessOfNone() {
        int[] places = {0, 22, 26, 28, 31, 33, 37, 60, 61, -3, Integer.MAX_VALUE, Integer.MIN_VALUE};
        for (int place : places) {
            Look.answers("guess(" + place + ", 0)", 0, EdgesOfForecastsTest::used, x -> x.guess(place, 0));
            Look.answers("guess(" + place + ", 1)", -1, EdgesOfForecastsTest::used, x -> x.guess(place, 1));
        }
    }

    // BLOCKS that aren't FAULTY by one of which, were it FAULTY, too, ENDS would be just that
    private static void guessOfEachBlock() {
        // 22 is a LINK: 23 to 26 would do it
        Look.answers("by one more PACKET", 4, EdgesOfForecastsTest::used, x -> x.guess(32, 0));
        Look.answers("the first", 23, EdgesOfForecastsTest::used, x -> x.guess(32, 1));
        Look.answers("by all the others but 12", 55, EdgesOfForecastsTest::used, x -> x.guess(27, 0));
        Look.answers("the first of all", 0, EdgesOfForecastsTest::used, x -> x.guess(27, 1));
        OnceVolume x = Check.told("disc 60 4 1 2;bad 0;file 1 5;");
        Check.due("but for the FAULTY one", 55, x.guess(5, 0));
        Check.due("the first that isn't", 1, x.guess(10, 1));
        Check.due("the first of the others", 5, x.guess(5, 1));
        OnceVolume y = Check.told("disc 60 4 1 2;bad 2;file 1 5;");
        Check.due("in a PACKET that is SPARED anyhow, too", 55, y.guess(10, 0));
        Check.due("the last one counts", 4, y.guess(15, 0));
        OnceVolume z = Check.told("disc 40 16 4 0;file 1 5;");
        Check.due("by 4 to 19", 16, z.guess(40, 0));
        Check.due("by 0 to 3 and 20 to 39", 24, z.guess(20, 0));
    }

    private static void guessWithoutRoom() {
        OnceVolume x = Check.told("disc 40 16 4 1;file 1 5;");
        Check.due("BROKEN OFF by 4 to 19", 16, x.guess(-2, 0));
        Check.due("the first", 4, x.guess(-2, 1));
        Check.due("none ends at 40", 0, x.guess(40, 0));
        Check.due("none ends at 40, the first", -1, x.guess(40, 1));
        OnceVolume y = Check.told("disc 40 16 4 0;bad 30;file 1 5;");
        Check.due("BROKEN OFF the second time", 16, y.guess(-2, 0));
        OnceVolume z = full();
        Check.due("it can't be begun: no place", 0, z.guess(40, 0));
        Check.due("it can't be begun: the first", -1, z.guess(40, 1));
    }

    // IllegalArgumentException: spared, tenths
    private static void stormsOfNoTenths() {
        int[] sparedOnes = {-1, 6, Integer.MAX_VALUE, Integer.MIN_VALUE};
        for (int spared : sparedOnes) {
            Look.illegal("storms(" + spared + ", 3)", EdgesOfForecastsTest::used, x -> x.storms(spared, 3));
            Look.illegal("storms(" + spared + ", 3) of nothing", OnceVolume::new, x -> x.storms(spared, 3));
        }
        int[] wrong = {-1, 11, Integer.MAX_VALUE, Integer.MIN_VALUE};
        for (int tenths : wrong) {
            Look.illegal("storms(0, " + tenths + ")", EdgesOfForecastsTest::used, x -> x.storms(0, tenths));
            Look.illegal("storms(5, " + tenths + ") of nothing", OnceVolume::new, x -> x.storms(5, tenths));
        }
    }

    // none, if nothing has CHANGED
    private static void stormsOfNothing() {
        Look.answers("of nothing", -1, EdgesOfForecastsTest::unchanged, x -> x.storms(0, 3));
        Look.answers("of a new one", -1, OnceVolume::new, x -> x.storms(5, 10));
    }

    // these are more than 15 together
    private static void stormsOfMoreThan15() {
        for (int packets = 9; packets <= 16; packets++) {
            OnceVolume x = new OnceVolume();
            Check.feed(x, "disc 40 2 0 0;");
            x.disc(14);
            // with the DIRECTORY and the MAP so many by two: FILES of one CELL each
            for (int name = 0; name < packets - 1 && name < 12; name++) {
                x.set(name, 0, 1);
            }
            for (int more = 12; more < packets - 1; more++) {
                x.set(more - 12, 1, 1);
                x.set(more - 12, 2, 1);
            }
            Check.due("PACKETS", packets, x.cost(0));
            for (int spared = 0; spared <= 5; spared++) {
                boolean none = packets + spared > 15;
                Check.due(packets + " and " + spared, none ? -1 : storm(packets, spared, 3), x.storms(spared, 3));
                Check.due(packets + " and " + spared + ", never", none ? -1 : storm(packets, spared, 0), x.storms(spared, 0));
            }
        }
    }

    // so many tenths (0 to 10)
    private static void stormsOfAllAndNone() {
        OnceVolume x = Check.told("disc 60 4 1 2;bad 1;file 1 5;");
        long power = 10;
        for (int spared = 0; spared <= 5; spared++) {
            Check.due("never SPARED", power, x.storms(spared, 0));
            Check.due("always SPARED", 0, x.storms(spared, 10));
            power *= 10;
        }
        OnceVolume y = full();
        Check.due("room is no matter", 7, y.storms(0, 3));
    }

    /** By what comes next, not by how many ways there are: a plain count of all rows of PACKETS. */
    private static long storm(int packets, int spared, int tenths) {
        return stormed(packets, spared, tenths, BigInteger.ONE).longValueExact();
    }

    private static BigInteger stormed(int packets, int spared, int tenths, BigInteger likely) {
        if (packets == 0) {
            // what isn't drawn counts ten tenths each
            return likely.multiply(BigInteger.TEN.pow(spared));
        }
        BigInteger sum = stormed(packets - 1, spared, tenths, likely.multiply(BigInteger.valueOf(10 - tenths)));
        if (spared == 0) {
            return sum;
        }
        return sum.add(stormed(packets, spared - 1, tenths, likely.multiply(BigInteger.valueOf(tenths))));
    }

    private static void stormsAsTheyAre() {
        OnceVolume x = Check.told("disc 60 4 1 2;file 1 5 6;");
        for (int spared = 0; spared <= 5; spared++) {
            for (int tenths = 0; tenths <= 10; tenths++) {
                Check.due("storms(" + spared + ", " + tenths + ")", storm(2, spared, tenths), x.storms(spared, tenths));
            }
        }
    }

    // NoSuchElementException: another what. IllegalArgumentException (behind that): n
    private static void yearsOfAnotherWhat() {
        int[] wrong = {-1, 3, Integer.MAX_VALUE, Integer.MIN_VALUE};
        for (int what : wrong) {
            Look.noSuch("years(1, 9, " + what + ")", EdgesOfForecastsTest::used, x -> x.years(1, 9, what));
            Look.noSuch("years(1, 61, " + what + ")", EdgesOfForecastsTest::used, x -> x.years(1, 61, what));
            Look.noSuch("years(1, -1, " + what + ")", EdgesOfForecastsTest::used, x -> x.years(1, -1, what));
        }
        int[] ns = {-1, 61, Integer.MAX_VALUE, Integer.MIN_VALUE};
        for (int n : ns) {
            for (int what = 0; what < 3; what++) {
                int of = what;
                Look.illegal("years(1, " + n + ", " + what + ")", EdgesOfForecastsTest::used, x -> x.years(1, n, of));
            }
        }
    }

    // n (0 to 60) times
    private static void yearsOfNone() {
        int[] due = {0, 2, 0};
        for (int what = 0; what < 3; what++) {
            int of = what;
            Look.answers("years(5, 0, " + what + ")", due[what], EdgesOfForecastsTest::used, x -> x.years(5, 0, of));
        }
    }

    /** A seed without Java's int: what it becomes, by the whole numbers. */
    private static long seed;

    private static int draw(int n) {
        BigInteger next = BigInteger.valueOf(seed).multiply(BigInteger.valueOf(1103515245)).add(BigInteger.valueOf(12345));
        seed = next.mod(BigInteger.TWO.pow(32)).longValueExact();
        return (int) (seed / 65536 % 32768 % n);
    }

    private static void live(OnceVolume x) {
        int act = draw(7);
        if (act < 2) {
            int name = draw(12);
            int cell = draw(8);
            x.set(name, cell, draw(1000));
        } else if (act == 2) {
            x.erase(draw(12));
        } else if (act < 5) {
            x.sync();
        } else if (act == 5) {
            x.tear(draw(30));
        } else {
            x.close(draw(2) == 1);
        }
    }

    private static void lived(String what, Look.Maker maker, int from, int n) {
        OnceVolume x = maker.make();
        int head = x.count(4);
        int spared = x.count(15);
        seed = from;
        for (int year = 0; year < n; year++) {
            live(x);
        }
        OnceVolume y = maker.make();
        String call = what + " years(" + from + ", " + n;
        Check.due(call + ", 0)", x.count(4) - head, y.years(from, n, 0));
        Check.due(call + ", 1)", x.count(5), y.years(from, n, 1));
        Check.due(call + ", 2)", x.count(15) - spared, y.years(from, n, 2));
    }

    private static void yearsOfSixty() {
        for (int n = 0; n <= 60; n++) {
            lived("used", EdgesOfForecastsTest::used, 77, n);
        }
        lived("new", OnceVolume::new, 77, 60);
        lived("full", EdgesOfForecastsTest::full, 77, 60);
    }

    // an int that wraps; bits 16 to 30
    private static void yearsBySeedsThatWrap() {
        int[] seeds = {0, 1, -1, Integer.MAX_VALUE, Integer.MIN_VALUE, 65535, 65536, -65536, 1 << 30, 2026, -2026, 123456789};
        for (int from : seeds) {
            lived("used", EdgesOfForecastsTest::used, from, 60);
            lived("of a small one", () -> Check.told("disc 100 2 0 0;bad 3 4 9 20 31;file 1 5;file 2;"), from, 60);
        }
    }

    // what can't be isn't done
    private static void yearsWhatCannotBe() {
        OnceVolume x = full();
        int status = x.count(20);
        for (int from = 0; from < 50; from++) {
            Check.due("nothing is written on a full DISC", 0, x.years(from, 60, 0));
        }
        Check.due("not counted as refused", status, x.count(20));
        for (int from = 0; from < 50; from++) {
            lived("BROKEN OFF", () -> Check.told("disc 48 16 0 1;bad 5 20 21;file 1 5;"), from, 20);
        }
    }

    // All as ever behind it
    private static void yearsLeaveAll() {
        for (int from = 0; from < 12; from++) {
            int by = from;
            long due = used().years(by, 60, 0);
            Look.answers("years(" + from + ", 60, 0)", due, EdgesOfForecastsTest::used, x -> x.years(by, 60, 0));
        }
    }
}
