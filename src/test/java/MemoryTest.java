/** Promises 25 to 27: undo and saved states. */
public final class MemoryTest {
    public static void main(String[] args) {
        undoing();
        undoingEachChange();
        undoingLeavesNothing();
        historyOfSix();
        whatUndoLeaves();
        errorsRecordNothing();
        savingAndRestoring();
        undoingARestore();
        Script.finish();
    }

    private static void undoing() {
        Script.run("promise 25, undo", """
            undo = NOT_POSSIBLE
            set 0 9 = 5
            set 0 10 = 9
            undo = 1
            count 7 = 9
            count 11 = 1
            undo = 0
            count 7 = 5
            undo = NOT_POSSIBLE
            set 0 5 = 5                      # nothing is different then, but it counts
            count 11 = 1
            undo = 0
            take 0 0 = 0
            breathe 0 0 = 0
            fill 1 9999 = 9999
            fill 1 1 = 9999
            count 11 = 4
            undo = 3
            ofColour 1 0 = 9999
            undo = 2
            ofColour 1 0 = 300
            """);
    }

    private static void undoingEachChange() {
        Script.run("promise 25, each kind of change", """
            set 1 1 = 12
            pattern 0 1 = 0
            take 0 1 = 0
            pour 0 0 0 50 = 50
            breathe 0 0 = 0
            scrape 0 0 0 = 26
            count 3 = 26
            undo = 5
            count 3 = 0
            at 0 0 0 1 = 26
            at 0 0 1 1 = 24
            undo = 4
            at 0 0 0 1 = 50
            at 0 0 1 0 = 0
            undo = 3
            at 0 0 0 1 = 0
            count 2 = 0
            ofColour 1 0 = 300
            undo = 2
            ofQuarter 0 2 = 0
            undo = 1
            at 0 0 0 2 = NONE
            ofRing 0 1 = 0
            undo = 0
            count 8 = 12
            """);
        Script.run("promise 25, close and sweep", Scenes.ALL_CLOSED, """
            sweep = 0
            sweep = 2
            sweep = 1
            sweep = 3
            undo = 5
            count 6 = 3
            count 1 = 0
            count 0 = 5
            count 3 = 18
            at 3 4 7 1 = 6
            at 3 4 7 2 = 1
            undo = 4
            undo = 3
            ofQuarter 0 4 = 1
            ofQuarter 2 4 = 0
            undo = 2
            count 6 = 0
            count 4 = 24
            at 0 4 0 0 = 1
            undo = 1
            count 0 = 4
            close = 4
            """);
    }

    /** Whatever was changed, all that the object tells is as it was before, but for the pad. */
    private static void undoingLeavesNothing() {
        undone("", "set 0 7 = 5");
        undone("", "set 1 7 = 12");
        undone("", "set 2 0 = 1");
        undone("", "pattern 2 1 = 0");
        undone("", "take 0 2 = 1");
        undone("", "fill 1 5 = 210");
        undone("", "pour 0 1 1 5 = 5");
        undone("", "scrape 0 1 0 = 95");
        undone("", "breathe 0 0 = 0");
        undone("", "close = 0");
        undone("text h03;p010*4;c = 12", "carryOut = 1");
        undone("save 1 = 0\nfill 2 1 = 301\npattern 3 5 = 0", "restore 1 = 0");
        undone("pattern 1 0 = 0\nscrape 0 1 0 = 95\nclose = 0\nclose = 1\npattern 2 0 = 0\nclose = 2\n"
            + "pattern 3 0 = 0\nclose = 3\npattern 4 0 = 0\nclose = 4", "sweep = 0");
    }

    private static void undone(String more, String change) {
        SandMandalas mandala = new SandMandalas();
        String title = "promise 25, " + change;
        Script.runOn(mandala, title, "pattern 0 0 = 0", "take 0 1 = 0", "pour 0 1 0 95 = 95", more);
        String before = facts(mandala);
        Script.runOn(mandala, title, change);
        Script.due(title + " changes something", facts(mandala).equals(before) ? 1 : 0, 0);
        int undoable = mandala.count(11);
        Script.due(title + ", undo", mandala.undo(), undoable - 1);
        Script.due(title + ", all is as before", facts(mandala).equals(before) ? 1 : 0, 1);
    }

    private static String facts(SandMandalas mandala) {
        StringBuilder facts = new StringBuilder();
        for (int what = 0; what < 10; what++) facts.append(mandala.count(what)).append(' ');
        for (int i = 0; i < 35; i++) facts.append(mandala.ofRing(i / 7, i % 7)).append(' ');
        for (int i = 0; i < 44; i++) facts.append(mandala.ofQuarter(i / 11, i % 11)).append(' ');
        for (int i = 0; i < 30; i++) facts.append(mandala.ofColour(1 + i / 5, i % 5)).append(' ');
        for (int i = 0; i < 8; i++) facts.append(mandala.at(0, 1, i, 1)).append(' ');
        return facts.toString();
    }

    private static void historyOfSix() {
        Script.run("promise 25, six at most", """
            set 0 11 = 5
            set 0 12 = 11
            set 0 13 = 12
            set 0 14 = 13
            set 0 15 = 14
            set 0 16 = 15
            count 11 = 6
            set 0 17 = 16
            count 11 = 6
            set 0 18 = 17
            count 11 = 6
            undo = 5
            count 7 = 17
            undo = 4
            undo = 3
            undo = 2
            undo = 1
            count 7 = 13
            undo = 0
            count 7 = 12                     # the oldest that was kept
            undo = NOT_POSSIBLE
            count 7 = 12
            set 0 21 = 12
            set 0 22 = 21
            undo = 1
            set 0 23 = 21
            set 0 24 = 23
            set 0 25 = 24
            set 0 26 = 25
            set 0 27 = 26
            set 0 28 = 27
            count 11 = 6
            undo = 5
            count 7 = 27
            undo = 4
            undo = 3
            undo = 2
            undo = 1
            undo = 0
            count 7 = 21
            """);
    }

    private static void whatUndoLeaves() {
        Script.run("promise 25, the pad and the slots stay", """
            text h01 = 3
            set 0 9 = 5
            text ;c = 5
            save 0 = 0
            undo = 0
            count 10 = 5
            count 7 = 5
            restore 0 = 0
            count 7 = 9
            wipe = 5
            undo = 0
            count 10 = 0
            """);
    }

    private static void errorsRecordNothing() {
        Script.run("promise 25, errors and looks record nothing", """
            set 0 9 = 5
            set 0 0 = BAD_VALUE
            pattern 9 0 = NO_SUCH
            take 9 0 = NO_SUCH
            fill 9 1 = NO_SUCH
            pour 0 0 0 1 = NOT_POSSIBLE
            scrape 0 0 0 = NOT_POSSIBLE
            breathe 9 0 = NO_SUCH
            close = NOT_POSSIBLE
            sweep = NOT_POSSIBLE
            carryOut = BAD_TEXT
            restore 0 = NOT_POSSIBLE
            restore 2 = BAD_VALUE
            save 2 = BAD_VALUE
            save 1 = 0
            ifBreathed 0 0 0 = 0
            settles 0 0 = 0
            needed 0 = NONE
            lacking = 0
            best = 0
            count 11 = 1
            undo = 0
            count 7 = 5
            """);
        Script.run("promise 25, errors drop nothing of a full history", """
            set 0 11 = 5
            set 0 12 = 11
            set 0 13 = 12
            set 0 14 = 13
            set 0 15 = 14
            set 0 16 = 15
            x3 pour 0 0 0 1 = NOT_POSSIBLE
            undo = 5
            undo = 4
            undo = 3
            close = NOT_POSSIBLE
            undo = 2
            undo = 1
            undo = 0
            count 7 = 5
            """);
    }

    private static void savingAndRestoring() {
        Script.run("promise 26 and 27, save and restore", """
            restore 0 = NOT_POSSIBLE
            restore 1 = NOT_POSSIBLE
            pattern 0 0 = 0
            close = 0
            save 0 = 1
            restore 1 = NOT_POSSIBLE
            set 1 50 = 12
            set 2 0 = 1
            take 0 2 = 0
            pour 0 1 1 30 = 30
            fill 3 1 = 301
            pattern 1 0 = 0
            save 1 = 1
            restore 0 = 1
            count 8 = 12
            count 9 = 1
            ofQuarter 0 2 = 0
            at 0 1 1 1 = 0
            at 0 1 1 0 = 0
            ofColour 2 0 = 300
            ofColour 3 0 = 300
            ofRing 1 1 = 0
            ofRing 0 0 = 1
            count 2 = 0
            restore 1 = 1
            count 8 = 50
            at 0 1 1 1 = 30
            count 2 = 30
            restore 0 = 1                    # the slot keeps it
            count 2 = 0
            pattern 1 0 = 0
            close = 1
            save 0 = 2                       # overwritten
            undo = 5
            restore 0 = 2
            count 0 = 2
            """);
        Script.run("promise 26 and 27, changes do not reach the slots", """
            set 0 9 = 5
            save 0 = 0
            set 0 10 = 9
            save 1 = 0
            set 0 11 = 10
            set 0 12 = 11
            set 0 13 = 12
            set 0 14 = 13
            set 0 15 = 14
            set 0 16 = 15
            set 0 17 = 16
            set 0 18 = 17
            restore 1 = 0
            count 7 = 10
            restore 0 = 0
            count 7 = 9
            undo = 5
            undo = 4
            undo = 3
            undo = 2
            undo = 1
            undo = 0
            count 7 = 14
            restore 0 = 0
            count 7 = 9
            restore 1 = 0
            count 7 = 10
            """);
        Script.run("promise 26 and 27, wrong", """
            save -1 = BAD_VALUE
            save 2 = BAD_VALUE
            save MOST = BAD_VALUE
            save LEAST = BAD_VALUE
            restore -1 = BAD_VALUE
            restore 2 = BAD_VALUE
            restore 32 = BAD_VALUE
            restore MOST = BAD_VALUE
            restore LEAST = BAD_VALUE
            count 11 = 0
            """);
        Script.run("promise 26, swept and done mandalas are saved too", Scenes.ALL_CLOSED, """
            sweep = 0
            save 1 = 5
            sweep = 2
            sweep = 1
            sweep = 3
            save 0 = 0
            restore 1 = 5
            count 1 = 0
            count 6 = 1
            count 3 = 6
            restore 0 = 0
            count 1 = 1
            count 6 = 0
            """);
    }

    private static void undoingARestore() {
        Script.run("promise 27, a restore is a change", """
            set 0 9 = 5
            save 0 = 0
            text c = 1
            set 0 10 = 9
            restore 0 = 0
            count 7 = 9
            count 11 = 3                     # the history is not restored
            count 10 = 1                     # nor is the pad
            undo = 2
            count 7 = 10
            undo = 1
            count 7 = 9
            undo = 0
            count 7 = 5
            restore 0 = 0
            count 7 = 9
            """);
    }
}
