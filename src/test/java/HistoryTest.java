/** Promises 9 and 11 to 14: how FILES lie, and what they were by the MAPS along PREVIOUS. */
public final class HistoryTest {
    public static void main(String[] args) {
        runsAndFarthest();
        lieOfNewCells();
        past();
        versions();
        since();
        alike();
        withoutMaps();
        alongPreviousAlone();
        Check.end();
    }

    private static void runsAndFarthest() {
        OnceVolume x = Check.told("disc 200 8 0 0;file 1 10 11 12 13;file 2;");
        Check.due("RUNS of new cells", 0, x.lie(1, 0));
        Check.due("FARTHEST of new cells", 0, x.lie(1, 1));
        x.sync();
        Check.due("one run", 1, x.lie(1, 0));
        Check.due("side by side", 1, x.lie(1, 1));
        Check.due("RUNS of no cells", 0, x.lie(2, 0));
        Check.due("FARTHEST of no cells", 0, x.lie(2, 1));
        x.set(1, 1, 20);
        x.sync();
        // 0, 8, 2, 3
        Check.due("three runs", 3, x.lie(1, 0));
        Check.due("FARTHEST ahead", 8, x.lie(1, 1));
        x.set(1, 0, 21);
        x.sync();
        // 16, 8, 2, 3
        Check.due("three runs still", 3, x.lie(1, 0));
        Check.due("the greater less the other", 8, x.lie(1, 1));
        x.set(1, 3, 22);
        x.sync();
        // 16, 8, 2, 24
        Check.due("four runs", 4, x.lie(1, 0));
        Check.due("FARTHEST", 22, x.lie(1, 1));
        x.cut(1, 1);
        Check.due("one cell", 1, x.lie(1, 0));
        Check.due("no two cells", 0, x.lie(1, 1));
        Check.noSuch("lie(1, 2)", () -> x.lie(1, 2));
        Check.noSuch("lie(1, -1)", () -> x.lie(1, -1));
        Check.noSuch("lie(3, 0)", () -> x.lie(3, 0));
        Check.noSuch("lie(12, 0)", () -> x.lie(12, 0));
        Check.noSuch("lie(-1, 0)", () -> x.lie(-1, 0));
    }

    private static void lieOfNewCells() {
        OnceVolume x = Check.told("disc 200 8 0 0;file 1 10 11 12 13;");
        x.sync();
        x.set(1, 1, 5);
        // 0, NEW, 2, 3
        Check.due("the first, and one behind a NEW one", 2, x.lie(1, 0));
        Check.due("2 and 3 alone are side by side", 1, x.lie(1, 1));
        x.set(1, 3, 5);
        // 0, NEW, 2, NEW
        Check.due("two runs", 2, x.lie(1, 0));
        Check.due("no two side by side", 0, x.lie(1, 1));
        x.set(1, 0, 5);
        // NEW, NEW, 2, NEW
        Check.due("one run", 1, x.lie(1, 0));
    }

    private static void past() {
        OnceVolume x = Check.told("disc 200 4 1 2;file 3 7 9;");
        x.sync();
        x.set(3, 0, 5);
        x.set(4, 0, 0);
        x.sync();
        x.erase(3);
        x.sync();
        x.set(4, 0, 99);
        Check.due("it is erased", -1, x.past(0, 3, 0));
        Check.due("and has no cells", -1, x.past(0, 3, -1));
        Check.due("not what is in mind", 0, x.past(0, 4, 0));
        Check.due("by 1", 5, x.past(1, 3, 0));
        Check.due("by 2", 7, x.past(2, 3, 0));
        Check.due("the second cell by 1", 9, x.past(1, 3, 1));
        Check.due("how many by 1", 2, x.past(1, 3, -1));
        Check.due("not so many cells", -1, x.past(1, 3, 2));
        Check.due("cell 7", -1, x.past(1, 3, 7));
        Check.due("not there yet", -1, x.past(2, 4, 0));
        Check.due("not there yet, cells", -1, x.past(2, 4, -1));
        Check.noSuch("past(3, 3, 0)", () -> x.past(3, 3, 0));
        Check.noSuch("past(-1, 3, 0)", () -> x.past(-1, 3, 0));
        Check.noSuch("past(0, 12, 0)", () -> x.past(0, 12, 0));
        Check.noSuch("past(0, -1, 0)", () -> x.past(0, -1, 0));
        Check.noSuch("past(0, 3, 8)", () -> x.past(0, 3, 8));
        Check.noSuch("past(0, 3, -2)", () -> x.past(0, 3, -2));
        Check.noSuch("past(1, 3, -2)", () -> x.past(1, 3, -2));
        x.cut(4, 0);
        x.sync();
        Check.due("no cells, but there", 0, x.past(0, 4, -1));
    }

    private static void versions() {
        OnceVolume x = Check.told("disc 300 4 1 2;file 3 7 9;");
        x.sync();
        Check.due("one", 1, x.versions(3));
        x.set(3, 0, 5);
        Check.due("not in mind", 1, x.versions(3));
        x.sync();
        Check.due("two", 2, x.versions(3));
        x.set(3, 0, 7);
        x.sync();
        Check.due("as at first, by another block", 2, x.versions(3));
        x.set(4, 0, 1);
        x.sync();
        Check.due("a map more", 2, x.versions(3));
        Check.due("the other", 1, x.versions(4));
        x.cut(3, 1);
        x.sync();
        Check.due("shorter", 3, x.versions(3));
        x.cut(3, 0);
        x.sync();
        Check.due("an empty row", 4, x.versions(3));
        x.erase(3);
        x.sync();
        Check.due("without it: not counted", 4, x.versions(3));
        Check.due("never there", 0, x.versions(11));
        x.rename(4, 3);
        x.sync();
        Check.due("by its name", 5, x.versions(3));
        Check.noSuch("versions(12)", () -> x.versions(12));
        Check.noSuch("versions(-1)", () -> x.versions(-1));
    }

    private static void since() {
        OnceVolume x = Check.told("disc 200 4 1 2;file 3 7 9;");
        x.sync();
        x.set(3, 0, 5);
        x.sync();
        x.set(3, 0, 7);
        x.cut(3, 1);
        x.sync();
        x.set(3, 0, 8);
        Check.due("the least", 0, x.since(3, 0, 7));
        Check.due("the one ahead", 1, x.since(3, 0, 5));
        Check.due("cut since", 1, x.since(3, 1, 9));
        Check.due("not in mind", -1, x.since(3, 0, 8));
        Check.due("never", -1, x.since(3, 7, 7));
        Check.due("never there", -1, x.since(4, 0, 7));
        Check.due("no number of a cell", -1, x.since(3, 1, -1));
        Check.due("no number of none", -1, x.since(4, 0, -1));
        Check.due("too great a number", -1, x.since(3, 0, 1000));
        Check.noSuch("since(12, 0, 7)", () -> x.since(12, 0, 7));
        Check.noSuch("since(-1, 0, 7)", () -> x.since(-1, 0, 7));
        Check.noSuch("since(3, 8, 7)", () -> x.since(3, 8, 7));
        Check.noSuch("since(3, -1, 7)", () -> x.since(3, -1, 7));
    }

    private static void alike() {
        OnceVolume x = Check.told("disc 200 4 1 2;file 3 7 9;file 5;");
        x.sync();
        Check.due("all", 4095, x.alike(0));
        x.set(3, 1, 9);
        Check.due("the same number, though new", 4095, x.alike(0));
        x.set(3, 1, 8);
        Check.due("another number", 4095 - 8, x.alike(0));
        x.set(3, 1, 9);
        x.set(3, 2, 1);
        Check.due("longer", 4095 - 8, x.alike(0));
        x.cut(3, 1);
        Check.due("shorter", 4095 - 8, x.alike(0));
        x.erase(5);
        Check.due("not there any more", 4095 - 8 - 32, x.alike(0));
        x.set(0, 0, 1);
        Check.due("not there then", 4095 - 8 - 32 - 1, x.alike(0));
        x.sync();
        Check.due("by 0", 4095, x.alike(0));
        Check.due("by 1", 4095 - 8 - 32 - 1, x.alike(1));
        x.set(11, 0, 1);
        x.cut(11, 0);
        Check.due("an empty one is there", 4095 - 2048, x.alike(0));
        Check.noSuch("alike(2)", () -> x.alike(2));
        Check.noSuch("alike(-1)", () -> x.alike(-1));
    }

    private static void withoutMaps() {
        OnceVolume x = Check.told("file 3 7;");
        Check.noSuch("past", () -> x.past(0, 3, 0));
        Check.noSuch("alike", () -> x.alike(0));
        Check.due("versions", 0, x.versions(3));
        Check.due("since", -1, x.since(3, 0, 7));
    }

    private static void alongPreviousAlone() {
        OnceVolume x = Check.told("disc 200 4 1 2;file 3 1;");
        x.sync();
        x.set(3, 0, 2);
        x.sync();
        x.mount(1);
        Check.due("the one that all is from", 1, x.past(0, 3, 0));
        Check.noSuch("none ahead", () -> x.past(1, 3, 0));
        Check.due("versions", 1, x.versions(3));
        Check.due("a hidden number", -1, x.since(3, 0, 2));
        Check.due("revert to a hidden one", -1, x.revert(3, 1));
        x.set(3, 0, 3);
        x.sync();
        Check.due("by 1", 1, x.past(1, 3, 0));
        Check.due("versions", 2, x.versions(3));
        x.close(false);
        Check.due("behind a close", 3, x.past(0, 3, 0));
        Check.due("no file in mind", 4095 - 8, x.alike(0));
    }
}
