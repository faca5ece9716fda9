/** Promises 2 to 5, each sentence with a boundary by itself: the last that is allowed, the first that is not. */
public final class ChangesEdgesTest {
    public static void main(String[] args) {
        settingsThatAreNone();
        rangesOfSettings();
        previousValues();
        ringsOfPatterns();
        digitsOfPatterns();
        patternsThatWere();
        patternsOfClosedRings();
        handsThatTake();
        coloursThatAreTaken();
        funnelsThatOthersHold();
        coloursThatAreFilled();
        grainsThatAreFilled();
        fullFunnels();
        Script.finish();
    }

    private static void settingsThatAreNone() {
        Edge.refused("set: BAD_VALUE if there is no such setting", Scenes.BUSY, """
            set -1 1 = BAD_VALUE
            set 3 1 = BAD_VALUE
            set LEAST 1 = BAD_VALUE
            set MOST 1 = BAD_VALUE
            """);
    }

    private static void rangesOfSettings() {
        Script.run("NEED: 1 to 50; 5 at first", """
            count 7 = 5
            set 0 1 = 5
            count 7 = 1
            set 0 50 = 1
            count 7 = 50
            count 8 = 12
            count 9 = 1
            """);
        Edge.refused("set: BAD_VALUE if NEED is out of its range", Scenes.BUSY, """
            set 0 0 = BAD_VALUE
            set 0 51 = BAD_VALUE
            set 0 99 = BAD_VALUE
            set 0 -1 = BAD_VALUE
            set 0 LEAST = BAD_VALUE
            set 0 MOST = BAD_VALUE
            """);
        Script.run("HEAP: 1 to 99; 12 at first", """
            count 8 = 12
            set 1 1 = 12
            count 8 = 1
            set 1 99 = 1
            count 8 = 99
            count 7 = 5
            count 9 = 1
            """);
        Edge.refused("set: BAD_VALUE if HEAP is out of its range", Scenes.BUSY, """
            set 1 0 = BAD_VALUE
            set 1 100 = BAD_VALUE
            set 1 -1 = BAD_VALUE
            set 1 LEAST = BAD_VALUE
            set 1 MOST = BAD_VALUE
            """);
        Script.run("MIRROR: 0 or 1; 1 at first", """
            count 9 = 1
            set 2 0 = 1
            count 9 = 0
            set 2 1 = 0
            count 9 = 1
            count 7 = 5
            count 8 = 12
            """);
        Edge.refused("set: BAD_VALUE if MIRROR is out of its range", Scenes.BUSY, """
            set 2 -1 = BAD_VALUE
            set 2 2 = BAD_VALUE
            set 2 LEAST = BAD_VALUE
            set 2 MOST = BAD_VALUE
            """);
    }

    private static void previousValues() {
        Script.run("set: returns the previous value, also if it is the same", """
            set 0 5 = 5
            set 0 50 = 5
            set 0 50 = 50
            set 1 12 = 12
            set 1 99 = 12
            set 1 1 = 99
            set 2 1 = 1
            set 2 0 = 1
            set 2 0 = 0
            count 11 = 6
            """);
    }

    private static void ringsOfPatterns() {
        Script.run("pattern: the first ring and the last", """
            pattern 0 1 = 0
            pattern 4 2 = 0
            at 0 0 0 2 = 1
            at 0 4 0 2 = 2
            ofRing 1 1 = 0
            ofRing 3 1 = 0
            """);
        Edge.refused("pattern: NO_SUCH if there is no such ring", Scenes.BUSY, """
            pattern -1 0 = NO_SUCH
            pattern 5 0 = NO_SUCH
            pattern LEAST 0 = NO_SUCH
            pattern MOST 0 = NO_SUCH
            """);
        Edge.refused("pattern: NO_SUCH comes ahead of BAD_VALUE", Scenes.BUSY, """
            pattern -1 7 = NO_SUCH
            pattern 5 -1 = NO_SUCH
            """);
    }

    private static void digitsOfPatterns() {
        Script.run("pattern: the colour of the place 0 is the lowest digit, and so on", """
            pattern 2 012345610 = 0
            at 0 2 0 2 = 0
            at 0 2 1 2 = 1
            at 0 2 2 2 = 6
            at 0 2 3 2 = 5
            at 0 2 4 2 = 4
            at 0 2 5 2 = 3
            at 0 2 6 2 = 2
            at 0 2 7 2 = 1
            at 1 2 0 2 = 1                   # in a mirrored quarter with 7 less its number
            at 1 2 1 2 = 2
            at 1 2 2 2 = 3
            at 1 2 3 2 = 4
            at 1 2 4 2 = 5
            at 1 2 5 2 = 6
            at 1 2 6 2 = 1
            at 1 2 7 2 = 0
            """);
        for (int place = 0; place < 8; place++) {
            Edge.refused("pattern: a number of 8 octal digits, 0 to 6 each", Scenes.BUSY,
                "pattern 1 " + (7 << 3 * place) + " = BAD_VALUE");
            Script.run("pattern: the digit 6 is allowed at each place", "pattern 1 " + (6 << 3 * place) + " = 0",
                "at 2 1 " + place + " 2 = 6", "ofColour 6 3 = 4");
        }
        Script.run("pattern: the least number and the greatest", """
            pattern 0 0 = 0
            ofColour 6 3 = 0
            pattern 0 066666666 = 1
            ofColour 6 3 = 32
            """);
        Edge.refused("pattern: BAD_VALUE if colours is not such a number", Scenes.BUSY, """
            pattern 1 066666667 = BAD_VALUE
            pattern 1 077777777 = BAD_VALUE
            pattern 1 0100000000 = BAD_VALUE     # a ninth digit
            pattern 1 0600000000 = BAD_VALUE
            pattern 1 010000000000 = BAD_VALUE
            pattern 1 -1 = BAD_VALUE
            pattern 1 -16777216 = BAD_VALUE      # eight digits of 0 below the sign
            pattern 1 LEAST = BAD_VALUE
            pattern 1 MOST = BAD_VALUE
            """);
        Edge.refused("pattern: BAD_VALUE comes ahead of NOT_POSSIBLE", Scenes.BUSY, """
            pattern 0 7 = BAD_VALUE
            pattern 0 -1 = BAD_VALUE
            """);
    }

    private static void patternsThatWere() {
        Script.run("pattern: returns 1 if it had a pattern, also one of no colour", """
            pattern 3 0 = 0
            pattern 3 0 = 1
            pattern 3 1 = 1
            pattern 2 1 = 0
            undo = 3
            pattern 2 0 = 0
            """);
        Script.run("pattern: returns 0 when the quarters are swept, all of them", Scenes.ALL_CLOSED, """
            sweep = 0
            sweep = 2
            sweep = 1
            sweep = 3
            pattern 0 0 = 0
            pattern 4 0 = 0
            pattern 4 0 = 1
            """);
    }

    private static void patternsOfClosedRings() {
        Edge.refused("pattern: NOT_POSSIBLE if the ring is closed", Scenes.BUSY, """
            pattern 0 0 = NOT_POSSIBLE
            pattern 0 066666666 = NOT_POSSIBLE
            """);
        Script.run("pattern: the ring behind the last closed one is open", Scenes.BUSY, "pattern 1 0 = 1");
        Edge.refused("pattern: NOT_POSSIBLE for the last of four closed rings", Scenes.FOUR_CLOSED, """
            pattern 0 0 = NOT_POSSIBLE
            pattern 3 0 = NOT_POSSIBLE
            """);
        Script.run("pattern: the last ring is open yet", Scenes.FOUR_CLOSED, "pattern 4 0 = 1");
        Edge.refused("pattern: NOT_POSSIBLE if all are closed", Scenes.ALL_CLOSED, """
            pattern 0 0 = NOT_POSSIBLE
            pattern 4 0 = NOT_POSSIBLE
            """);
        Edge.refused("pattern: NOT_POSSIBLE until the last quarter is swept",
            Scenes.THREE_SWEPT, """
            pattern 0 0 = NOT_POSSIBLE
            pattern 4 0 = NOT_POSSIBLE
            """);
    }

    private static void handsThatTake() {
        Script.run("take: the first hand and the last", """
            take 0 1 = 0
            take 3 2 = 0
            ofQuarter 0 2 = 1
            ofQuarter 3 2 = 2
            ofQuarter 1 2 = 0
            ofQuarter 2 2 = 0
            """);
        Edge.refused("take: NO_SUCH if there is no such hand", Scenes.BUSY, """
            take -1 3 = NO_SUCH
            take 4 3 = NO_SUCH
            take 4 0 = NO_SUCH
            take LEAST 3 = NO_SUCH
            take MOST 3 = NO_SUCH
            """);
        Edge.refused("take: NO_SUCH comes ahead of the other errors", Scenes.BUSY, """
            take -1 7 = NO_SUCH
            take 4 -1 = NO_SUCH
            take 4 1 = NO_SUCH                   # another hand holds it
            """);
    }

    private static void coloursThatAreTaken() {
        Script.run("take: colour is 1 to 6; or 0: it takes none", """
            take 2 1 = 0
            take 2 6 = 1
            take 2 0 = 6
            ofQuarter 2 2 = 0
            take 2 0 = 0                         # it holds none
            ofColour 1 1 = NONE
            ofColour 6 1 = NONE
            count 11 = 4
            """);
        Edge.refused("take: BAD_VALUE if colour is out of range", Scenes.BUSY, """
            take 0 -1 = BAD_VALUE
            take 0 7 = BAD_VALUE
            take 3 NONE = BAD_VALUE
            take 0 LEAST = BAD_VALUE
            take 0 MOST = BAD_VALUE
            """);
        Script.run("take: several hands can take none at once", """
            take 0 0 = 0
            take 1 0 = 0
            take 2 0 = 0
            take 3 0 = 0
            """);
        Script.run("take: each hand holds one funnel, and two are left", """
            take 0 1 = 0
            take 1 2 = 0
            take 2 3 = 0
            take 3 4 = 0
            ofColour 4 1 = 3
            ofColour 5 1 = NONE
            take 3 5 = 4                         # lays down the one that it held
            ofColour 4 1 = NONE
            take 0 4 = 1
            ofColour 1 1 = NONE
            """);
    }

    private static void funnelsThatOthersHold() {
        Edge.refused("take: NOT_POSSIBLE if another hand holds that funnel", Scenes.BUSY, """
            take 1 1 = NOT_POSSIBLE
            take 2 1 = NOT_POSSIBLE
            take 3 1 = NOT_POSSIBLE
            take 0 2 = NOT_POSSIBLE
            take 3 2 = NOT_POSSIBLE
            """);
        Edge.refused("take: NOT_POSSIBLE if the last hand holds it", "take 3 6 = 0", "take 0 6 = NOT_POSSIBLE");
        Script.run("take: a hand takes the funnel that it holds itself", Scenes.BUSY, """
            take 0 1 = 1
            ofQuarter 0 2 = 1
            ofColour 1 1 = 0
            take 1 2 = 2
            """);
        Script.run("take: what another hand has laid down is free", Scenes.BUSY, """
            take 0 0 = 1
            take 1 1 = 2
            take 0 2 = 0
            """);
    }

    private static void coloursThatAreFilled() {
        Script.run("fill: the first colour and the last", """
            fill 1 1 = 301
            fill 6 2 = 302
            ofColour 2 0 = 300
            ofColour 5 0 = 300
            """);
        Edge.refused("fill: NO_SUCH if there is no such colour (1 to 6)", Scenes.BUSY, """
            fill 0 1 = NO_SUCH
            fill 7 1 = NO_SUCH
            fill -1 1 = NO_SUCH
            fill LEAST 1 = NO_SUCH
            fill MOST 1 = NO_SUCH
            """);
        Edge.refused("fill: NO_SUCH comes ahead of BAD_VALUE", Scenes.BUSY, """
            fill 0 0 = NO_SUCH
            fill 7 10000 = NO_SUCH
            """);
    }

    private static void grainsThatAreFilled() {
        Script.run("fill: grains is 1 to 9999", """
            fill 2 1 = 301
            fill 3 9999 = 9999
            """);
        Edge.refused("fill: BAD_VALUE if grains is out of range", Scenes.BUSY, """
            fill 1 0 = BAD_VALUE
            fill 1 10000 = BAD_VALUE
            fill 1 -1 = BAD_VALUE
            fill 1 LEAST = BAD_VALUE
            fill 1 MOST = BAD_VALUE
            """);
    }

    private static void fullFunnels() {
        Script.run("fill: 9999 at most: more are thrown away", """
            fill 1 9698 = 9998
            fill 1 1 = 9999
            fill 1 1 = 9999
            fill 2 9699 = 9999
            fill 3 9700 = 9999
            fill 4 9999 = 9999
            fill 4 9999 = 9999
            count 3 = 0                          # what is thrown away is not lost
            count 11 = 6
            take 0 1 = 0
            pour 0 0 0 1 = 1
            ofColour 1 0 = 9998
            """);
        Script.run("fill: an empty funnel", Scenes.EMPTY_FUNNEL, """
            fill 1 1 = 1
            pour 0 0 3 1 = 4
            ofColour 1 0 = 0
            fill 1 9999 = 9999
            """);
        Script.run("fill: a funnel that is held, while all rings are closed", Scenes.ALL_CLOSED, """
            ofColour 1 1 = 3
            fill 1 1 = 277
            """);
    }
}
