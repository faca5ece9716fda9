/** Promises 1, 25, 26, 27, each sentence with a boundary by itself: the last that is allowed, the first that is not. */
public final class MemoryEdgesTest {
    private static final String SIX_CHANGES =
        "set 0 11 = 5\nset 0 12 = 11\nset 0 13 = 12\nset 0 14 = 13\nset 0 15 = 14\nset 0 16 = 15\n";

    public static void main(String[] args) {
        objectsByThemselves();
        lastCallOfAnObject();
        emptyHistory();
        fullHistory();
        historyThatGoesAround();
        stateBeforeEachChange();
        changesThatChangeNothing();
        callsThatAreNoChange();
        refusedCallsRecordNothing();
        whatUndoLeaves();
        slotsThatAreNone();
        slotsThatAreEmpty();
        slotsThatAreOverwritten();
        ringsThatAreSaved();
        whatRestoreLeaves();
        restoreIsAChange();
        Script.finish();
    }

    private static void objectsByThemselves() {
        String fresh = Picture.of("");
        Script.run("another object", Scenes.BUSY, "save 0 = 1", "carryOut = 2");
        Script.due("a new object is empty whatever others hold", Picture.of("").equals(fresh) ? 1 : 0, 1);
        SandMandalas one = new SandMandalas();
        SandMandalas other = new SandMandalas();
        Script.runOn(one, "one of two objects", "fill 1 5 = 305", "text c = 1", "save 0 = 0", "set 1 7 = 12");
        Script.runOn(other, "the other of two objects", "ofColour 1 0 = 300", "count 10 = 0", "count 8 = 12",
            "count 11 = 0", "restore 0 = NOT_POSSIBLE", "undo = NOT_POSSIBLE");
    }

    private static void lastCallOfAnObject() {
        Script.run("an object is used for at most 512 calls: changes", "x510 fill 1 9999 = 9999", "count 11 = 6",
            "undo = 5");
        Script.run("an object is used for at most 512 calls: pours and scrapes", "take 0 1 = 0",
            "pour 0 0 0 33 = 33", "x508 scrape 0 1 0 = NOT_POSSIBLE", "count 4 = 33", "undo = 1");
        SandMandalas mandala = new SandMandalas();
        for (int i = 0; i < 255; i++) {
            Script.due("save and restore, call " + 2 * i, mandala.save(i % 2), 0);
            Script.due("save and restore, call " + (2 * i + 1), mandala.restore(i % 2), 0);
        }
        Script.runOn(mandala, "an object is used for at most 512 calls: saves", "count 11 = 6", "undo = 5");
    }

    private static void emptyHistory() {
        Edge.refused("undo: NOT_POSSIBLE if there is none", "", "undo = NOT_POSSIBLE");
        Edge.refused("undo: NOT_POSSIBLE if there is none, with a pad and a slot", "text h01 = 3\nsave 1 = 0\n",
            "undo = NOT_POSSIBLE");
        Edge.refused("undo: NOT_POSSIBLE if all are undone", SIX_CHANGES
            + "undo = 5\nundo = 4\nundo = 3\nundo = 2\nundo = 1\nundo = 0\n", "undo = NOT_POSSIBLE");
        Script.run("undo: returns how many changes can be undone then", """
            set 0 11 = 5
            set 0 12 = 11
            undo = 1
            count 11 = 1
            count 7 = 11
            undo = 0
            count 11 = 0
            count 7 = 5
            """);
    }

    private static void fullHistory() {
        Script.run("undo: six states are kept", SIX_CHANGES, """
            count 11 = 6
            undo = 5
            count 7 = 15
            undo = 4
            count 7 = 14
            undo = 3
            count 7 = 13
            undo = 2
            count 7 = 12
            undo = 1
            count 7 = 11
            undo = 0
            count 7 = 5
            undo = NOT_POSSIBLE
            """);
        Script.run("undo: when one more is recorded, the oldest one is dropped", SIX_CHANGES, """
            set 0 17 = 16
            count 11 = 6
            undo = 5
            count 7 = 16
            undo = 4
            undo = 3
            undo = 2
            undo = 1
            undo = 0
            count 7 = 11
            undo = NOT_POSSIBLE
            count 7 = 11
            """);
    }

    private static void historyThatGoesAround() {
        for (int changes = 1; changes <= 30; changes++) {
            SandMandalas mandala = new SandMandalas();
            String title = "undo: " + changes + " changes";
            for (int i = 1; i <= changes; i++) mandala.fill(1, 1);
            int kept = Math.min(6, changes);
            Script.due(title + ", can be undone", mandala.count(11), kept);
            for (int i = 1; i <= kept; i++) {
                Script.due(title + ", undo " + i, mandala.undo(), kept - i);
                Script.due(title + ", grains then", mandala.ofColour(1, 0), 300 + changes - i);
            }
            Script.due(title + ", nothing more", mandala.undo(), SandMandalas.NOT_POSSIBLE);
            Script.due(title + ", a change again", mandala.fill(1, 50), 350 + changes - kept);
            Script.due(title + ", undo again", mandala.undo(), 0);
            Script.due(title + ", grains at last", mandala.ofColour(1, 0), 300 + changes - kept);
        }
        Script.run("undo: a change behind an undo goes on from there", SIX_CHANGES, """
            undo = 5
            undo = 4
            set 0 20 = 14
            count 11 = 5
            set 0 21 = 20
            set 0 22 = 21
            count 11 = 6
            undo = 5
            count 7 = 21
            undo = 4
            count 7 = 20
            undo = 3
            count 7 = 14
            undo = 2
            count 7 = 13
            undo = 1
            undo = 0
            count 7 = 11                         # the first state of all was dropped
            """);
    }

    private static void stateBeforeEachChange() {
        String busy = Scenes.BUSY + "scrape 0 4 0 = 79\n";
        for (String line : Script.linesOf("""
            set 0 6 = 5
            pattern 4 1 = 0
            take 0 3 = 1
            fill 3 1 = 301
            pour 0 1 1 3 = 3
            scrape 0 2 3 = 99
            breathe 0 0 = 0
            restore 1 = 1
            """)) {
            undoneToTheState(busy, line);
        }
        undoneToTheState("pattern 0 0 = 0\n", "close = 0");
        undoneToTheState(Scenes.ALL_CLOSED, "sweep = 0");
        undoneToTheState(Scenes.THREE_SWEPT, "sweep = 3");
        SandMandalas mandala =
            Script.replayed(Scenes.BUSY, "wipe = 12", "text h03;s010 = 8", "carryOut = 2", "undo = 5");
        Script.runOn(mandala, "undo of carryOut", "ofQuarter 0 2 = 1", "at 0 1 0 1 = 20", "count 3 = 0");
    }

    /** What was is kept by a slot, and the history is made the same by a change that changes nothing. */
    private static void undoneToTheState(String beginning, String line) {
        String plain = Picture.of(beginning, "save 0 = 0", "x6 take 2 0 = 0");
        Script.runOn(Script.replayed(beginning), "undo of " + line, line);
        boolean moved = !Picture.of(beginning, line, "save 0 = 0", "x6 take 2 0 = 0").equals(plain);
        Script.due("undo: " + line + " changes something", moved ? 1 : 0, 1);
        boolean back = Picture.of(beginning, line, "undo = 5", "save 0 = 0", "x6 take 2 0 = 0").equals(plain);
        Script.due("undo: everything is as it was before " + line, back ? 1 : 0, 1);
    }

    private static void changesThatChangeNothing() {
        Script.run("undo: a change is recorded also if nothing is different then", """
            set 0 5 = 5
            count 11 = 1
            take 0 0 = 0
            count 11 = 2
            breathe 0 0 = 0
            count 11 = 3
            text c = 1
            carryOut = 0
            count 11 = 4
            save 0 = 0
            restore 0 = 0
            count 11 = 5
            fill 1 9999 = 9999
            fill 1 1 = 9999
            count 11 = 6
            undo = 5
            ofColour 1 0 = 9999
            undo = 4
            ofColour 1 0 = 300
            """);
        Script.run("undo: a pattern as it was", "pattern 0 0 = 0", "pattern 0 0 = 1", "count 11 = 2", "undo = 1",
            "ofRing 0 1 = 1", "undo = 0", "ofRing 0 1 = 0");
    }

    private static void callsThatAreNoChange() {
        Script.run("undo: looks, questions, texts, saves and undo itself are no changes", """
            set 0 9 = 5
            set 0 10 = 9
            undo = 1
            at 0 0 0 0 = 0
            ofRing 0 0 = 0
            ofQuarter 0 0 = 0
            ofColour 1 0 = 300
            count 0 = 0
            needed 0 = NONE
            lacking = 0
            ifBreathed 0 0 0 = 0
            settles 0 0 = 0
            best = 0
            put 0x63 = 1
            fault = NONE
            wipe = 1
            save 0 = 0
            save 1 = 0
            count 11 = 1
            undo = 0
            count 7 = 5
            """);
    }

    private static void refusedCallsRecordNothing() {
        for (String line : Script.linesOf("""
            set 0 0 = BAD_VALUE
            pattern 5 0 = NO_SUCH
            pattern 0 7 = BAD_VALUE
            take 4 0 = NO_SUCH
            take 0 7 = BAD_VALUE
            fill 7 1 = NO_SUCH
            fill 1 0 = BAD_VALUE
            pour 0 0 0 1 = NOT_POSSIBLE
            pour 0 0 0 0 = BAD_VALUE
            scrape 0 0 0 = NOT_POSSIBLE
            breathe 4 0 = NO_SUCH
            breathe 0 2 = BAD_VALUE
            close = NOT_POSSIBLE
            sweep = NOT_POSSIBLE
            carryOut = BAD_TEXT
            restore 0 = NOT_POSSIBLE
            restore 2 = BAD_VALUE
            """)) {
            Edge.refused("undo: a full history keeps its oldest state", SIX_CHANGES, line);
            Edge.refused("undo: a history of one state", "set 0 9 = 5\n", line);
            Edge.refused("undo: an empty history", "", line);
        }
    }

    private static void whatUndoLeaves() {
        Script.run("undo: the pad stays as it is", """
            text h0 = 2
            set 0 9 = 5
            put 0x31 = 3
            undo = 0
            count 10 = 3
            fault = NONE
            carryOut = 1
            undo = 0
            count 10 = 0                         # it was emptied, and stays so
            ofQuarter 0 2 = 0
            """);
        Script.run("undo: the slots stay as they are", """
            set 0 9 = 5
            save 0 = 0
            undo = 0
            restore 1 = NOT_POSSIBLE
            restore 0 = 0
            count 7 = 9
            set 0 20 = 9
            save 0 = 0
            undo = 1
            restore 0 = 0
            count 7 = 20                         # also what was overwritten
            """);
    }

    private static void slotsThatAreNone() {
        Script.run("save and restore: the slots 0 and 1", """
            set 0 9 = 5
            save 0 = 0
            set 0 10 = 9
            save 1 = 0
            set 0 11 = 10
            restore 0 = 0
            count 7 = 9
            restore 1 = 0
            count 7 = 10
            """);
        Edge.refused("save: BAD_VALUE if there is no such slot", Scenes.BUSY, """
            save -1 = BAD_VALUE
            save 2 = BAD_VALUE
            save 32 = BAD_VALUE
            save LEAST = BAD_VALUE
            save MOST = BAD_VALUE
            """);
        Edge.refused("restore: BAD_VALUE if there is no such slot", Scenes.BUSY, """
            restore -1 = BAD_VALUE
            restore 2 = BAD_VALUE
            restore 32 = BAD_VALUE
            restore 33 = BAD_VALUE
            restore LEAST = BAD_VALUE
            restore MOST = BAD_VALUE
            """);
        Edge.refused("restore: BAD_VALUE comes ahead of NOT_POSSIBLE", "", """
            restore -1 = BAD_VALUE
            restore 2 = BAD_VALUE
            """);
    }

    private static void slotsThatAreEmpty() {
        Edge.refused("restore: NOT_POSSIBLE if nothing was saved in it", "", """
            restore 0 = NOT_POSSIBLE
            restore 1 = NOT_POSSIBLE
            """);
        Edge.refused("restore: NOT_POSSIBLE if the other slot alone was saved", Scenes.BUSY,
            "restore 0 = NOT_POSSIBLE");
        Edge.refused("restore: NOT_POSSIBLE if the first slot alone was saved", "save 0 = 0\n",
            "restore 1 = NOT_POSSIBLE");
    }

    private static void slotsThatAreOverwritten() {
        Script.run("save: overwrites what was saved there, in this slot alone", """
            set 0 9 = 5
            save 0 = 0
            save 1 = 0
            set 0 10 = 9
            save 1 = 0
            set 0 11 = 10
            restore 1 = 0
            count 7 = 10
            restore 0 = 0
            count 7 = 9
            """);
        Script.run("restore: the slot keeps it, whatever is changed then", """
            take 0 1 = 0
            pour 0 0 0 9 = 9
            save 0 = 0
            restore 0 = 0
            pour 0 0 0 9 = 18
            restore 0 = 0
            at 0 0 0 1 = 9
            pour 0 0 0 1 = 10
            restore 0 = 0
            at 0 0 0 1 = 9
            ofColour 1 0 = 291
            """);
    }

    private static void ringsThatAreSaved() {
        Script.run("save and restore: how many rings are closed, none and all", "save 0 = 0", Scenes.ALL_CLOSED, """
            save 1 = 5
            restore 0 = 0
            count 0 = 0
            save 0 = 0
            restore 1 = 5
            count 0 = 5
            sweep = 0
            sweep = 2
            sweep = 1
            sweep = 3
            save 0 = 0
            restore 1 = 5
            restore 0 = 0
            count 1 = 1
            """);
    }

    private static void whatRestoreLeaves() {
        Script.run("save and restore: everything except the pad, the history and the slots", """
            save 1 = 0
            text c = 1
            save 0 = 0
            set 0 9 = 5
            wipe = 1
            text h01;c = 5
            set 0 10 = 9
            restore 0 = 0
            count 10 = 5                         # not the pad of then
            fault = NONE
            count 11 = 3                         # nor the history
            count 7 = 5
            undo = 2
            count 7 = 10
            set 0 20 = 10
            save 1 = 0
            restore 0 = 0
            restore 1 = 0
            count 7 = 20                         # nor the slots
            """);
    }

    private static void restoreIsAChange() {
        Script.run("restore: a change, and with a full history the oldest state is dropped", "save 0 = 0",
            SIX_CHANGES, """
            restore 0 = 0
            count 7 = 5
            count 11 = 6
            undo = 5
            count 7 = 16
            undo = 4
            undo = 3
            undo = 2
            undo = 1
            undo = 0
            count 7 = 11
            """);
    }
}
