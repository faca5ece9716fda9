/** Promises 11 to 15: what there is. */
public final class LooksTest {
    public static void main(String[] args) {
        places();
        rightPlaces();
        rings();
        unlikePlaces();
        missingGrains();
        quarters();
        colours();
        counts();
        Script.finish();
    }

    private static void places() {
        Script.run("promise 11, at", """
            at 0 0 0 2 = NONE
            at 3 4 7 3 = 0                   # never right without a pattern
            at 0 0 2 4 = 2
            at 1 0 2 4 = 5
            at 2 0 2 4 = 2
            at 3 4 7 4 = 0
            pattern 4 012345601 = 0
            at 0 4 0 2 = 1
            at 0 4 7 2 = 1
            at 0 4 6 2 = 2
            at 1 4 6 2 = 0
            at 1 4 5 2 = 6
            at 3 4 0 2 = 1
            at 2 4 2 2 = 6
            set 2 0 = 1
            at 1 4 6 2 = 2
            at 3 4 2 4 = 2
            at 0 3 0 2 = NONE
            """);
        Script.run("promise 11, wrong", """
            at 4 0 0 0 = NO_SUCH
            at -1 0 0 9 = NO_SUCH
            at 0 5 0 0 = NO_SUCH
            at 0 -1 0 0 = NO_SUCH
            at 0 0 8 5 = NO_SUCH
            at 0 0 -1 0 = NO_SUCH
            at LEAST MOST LEAST MOST = NO_SUCH
            at 0 0 0 5 = BAD_VALUE
            at 0 0 0 -1 = BAD_VALUE
            at 3 4 7 MOST = BAD_VALUE
            """);
    }

    private static void rightPlaces() {
        Script.run("promise 11, right places", """
            pattern 1 2 = 0
            at 0 1 0 3 = 0
            at 0 1 1 3 = 1                   # none is due, and it is bare
            take 0 2 = 0
            pour 0 1 0 4 = 4
            at 0 1 0 3 = 0
            pour 0 1 0 1 = 5
            at 0 1 0 3 = 1
            pour 0 1 0 1 = 6
            at 0 1 0 3 = 1
            set 0 7 = 5
            at 0 1 0 3 = 0
            pour 0 1 1 1 = 1
            at 0 1 1 3 = 0
            pattern 1 3 = 1
            set 0 1 = 7
            at 0 1 0 3 = 0                   # enough, of another colour
            at 0 1 0 0 = 2
            at 0 1 0 1 = 6
            """);
    }

    private static void rings() {
        Script.run("promise 12, ofRing", """
            ofRing 2 0 = 0
            ofRing 2 1 = 0
            ofRing 2 2 = 0
            ofRing 2 3 = 0
            ofRing 2 4 = 32
            ofRing 2 5 = 0
            ofRing 2 6 = 0
            pattern 2 011 = 0
            ofRing 2 1 = 1
            ofRing 2 4 = 8
            ofRing 2 6 = 40
            take 1 1 = 0
            pour 1 2 6 7 = 7
            pour 1 2 5 20 = 20               # none is due there
            pour 1 1 5 20 = 20               # another ring
            ofRing 2 4 = 8
            ofRing 2 5 = 27
            ofRing 2 6 = 35
            ofRing 1 5 = 20
            ofRing 1 6 = 0
            ofRing 3 5 = 0
            """);
        Script.run("promise 12, whole and closed", Scenes.FOUR_CLOSED, """
            ofRing 3 0 = 1
            ofRing 4 0 = 0
            ofRing 3 2 = 1
            ofRing 4 2 = 0
            """, Scenes.LAST_RING_POURED, """
            ofRing 4 2 = 1
            ofRing 4 3 = 0
            ofRing 4 4 = 0
            ofRing 4 5 = 24
            ofRing 4 6 = 0
            close = 4
            ofRing 4 0 = 1
            sweep = 0
            ofRing 4 0 = 1
            ofRing 4 2 = 0
            ofRing 4 3 = 1
            ofRing 4 4 = 1
            ofRing 4 6 = 5
            """);
        Script.run("promise 12, wrong", """
            ofRing 5 0 = NO_SUCH
            ofRing -1 9 = NO_SUCH
            ofRing 0 7 = BAD_VALUE
            ofRing 4 -1 = BAD_VALUE
            ofRing MOST 0 = NO_SUCH
            ofRing 0 LEAST = BAD_VALUE
            """);
    }

    private static void unlikePlaces() {
        Script.run("promise 12, one quarter is unlike", """
            take 1 1 = 0
            pour 1 1 0 1 = 1
            ofRing 1 3 = 128
            ofRing 0 3 = 0
            ofRing 2 3 = 0
            scrape 1 1 0 = 1
            take 1 0 = 1
            take 2 1 = 0
            pour 2 1 0 1 = 1
            ofRing 1 3 = 1
            ofRing 0 3 = 0
            scrape 2 1 0 = 1
            take 2 0 = 1
            take 3 1 = 0
            pour 3 1 7 1 = 1
            ofRing 1 3 = 1
            ofRing 0 3 = 0
            ofRing 2 3 = 0
            """);
        Script.run("promise 12, unlike quarters", """
            take 0 1 = 0
            pour 0 3 2 1 = 1
            ofRing 3 3 = 4
            take 0 0 = 1
            take 2 1 = 0
            pour 2 3 2 9 = 9
            take 2 0 = 1
            take 1 1 = 0
            pour 1 3 5 1 = 1                 # the place 2 of the pattern
            take 1 0 = 1
            ofRing 3 3 = 4
            take 3 1 = 0
            pour 3 3 5 1 = 1
            ofRing 3 3 = 0                   # the colours are alike, whatever the grains
            set 2 0 = 1
            ofRing 3 3 = 36
            set 2 1 = 0
            scrape 0 3 2 = 1
            ofRing 3 3 = 4
            take 0 5 = 0
            pour 0 3 2 1 = 1
            ofRing 3 3 = 4
            pour 0 3 7 1 = 1
            ofRing 3 3 = 132
            """);
    }

    private static void missingGrains() {
        Script.run("promise 12 and 14, missing grains", """
            pattern 0 0321 = 0
            set 0 10 = 5
            ofRing 0 6 = 120
            ofColour 1 4 = 40
            take 0 1 = 0
            pour 0 0 0 4 = 4
            ofRing 0 6 = 116
            ofColour 1 4 = 36
            pour 0 0 0 20 = 24
            ofRing 0 6 = 110                 # at least 0
            ofColour 1 4 = 30
            pour 0 0 1 9 = 9                 # of another colour than due
            ofRing 0 6 = 110
            ofColour 2 4 = 40
            ofColour 4 4 = 0
            pattern 3 0555 = 0
            ofColour 5 4 = 120
            ofColour 5 3 = 12
            """);
    }

    private static void quarters() {
        Script.run("promise 13, ofQuarter", """
            ofQuarter 0 1 = 0                # no ring has a pattern
            pattern 0 0 = 0
            ofQuarter 0 1 = 0
            pattern 4 0111 = 0
            ofQuarter 0 1 = 3
            take 0 6 = 0
            pour 0 0 0 9 = 9
            pour 0 4 7 8 = 8
            take 0 1 = 6
            pour 0 4 0 5 = 5
            pour 0 2 0 50 = 50
            ofQuarter 0 0 = 72
            ofQuarter 0 1 = 4
            ofQuarter 0 2 = 1
            ofQuarter 1 2 = 0
            ofQuarter 0 5 = 55
            ofQuarter 0 6 = 0
            ofQuarter 0 10 = 17
            ofQuarter 1 0 = 0
            ofQuarter 1 1 = 3
            ofQuarter 1 10 = 0
            ofQuarter 0 3 = 0
            ofQuarter 1 3 = 1
            ofQuarter 2 3 = 0
            ofQuarter 3 3 = 1
            set 2 0 = 1
            ofQuarter 1 3 = 0
            ofQuarter 3 3 = 0
            """);
        Script.run("promise 13, each colour", """
            take 3 2 = 0
            pour 3 0 2 22 = 22
            take 3 3 = 2
            pour 3 0 3 33 = 33
            take 3 4 = 3
            pour 3 0 4 44 = 44
            take 3 5 = 4
            pour 3 0 5 55 = 55
            ofQuarter 3 5 = 0
            ofQuarter 3 6 = 22
            ofQuarter 3 7 = 33
            ofQuarter 3 8 = 44
            ofQuarter 3 9 = 55
            """);
        Script.run("promise 13, swept", Scenes.ALL_CLOSED, """
            ofQuarter 0 4 = 0
            sweep = 0
            ofQuarter 0 4 = 1
            ofQuarter 2 4 = 0
            sweep = 2
            ofQuarter 2 4 = 1
            ofQuarter 1 4 = 0
            sweep = 1
            ofQuarter 0 4 = 1
            ofQuarter 1 4 = 1
            ofQuarter 3 4 = 0
            sweep = 3
            ofQuarter 0 4 = 0
            ofQuarter 1 4 = 0
            ofQuarter 3 4 = 0
            """);
        Script.run("promise 13, wrong", """
            ofQuarter 4 0 = NO_SUCH
            ofQuarter -1 99 = NO_SUCH
            ofQuarter 0 11 = BAD_VALUE
            ofQuarter 0 -1 = BAD_VALUE
            ofQuarter 0 MOST = BAD_VALUE
            ofQuarter 0 LEAST = BAD_VALUE
            """);
    }

    private static void colours() {
        Script.run("promise 14, ofColour", """
            ofColour 6 1 = NONE
            take 3 6 = 0
            ofColour 6 1 = 3
            pour 3 1 1 20 = 20
            pour 3 3 1 20 = 20
            ofColour 6 0 = 260
            ofColour 6 2 = 40
            ofColour 5 2 = 0
            ofColour 6 3 = 0
            pattern 0 066 = 0
            pattern 2 06 = 0
            ofColour 6 3 = 12
            ofColour 6 4 = 60
            """);
        Script.run("promise 14, closed rings too", Scenes.ALL_CLOSED, """
            ofColour 1 3 = 4
            ofColour 1 4 = 0
            set 0 10 = 5
            ofColour 1 4 = 16
            """);
        Script.run("promise 14, wrong", """
            ofColour 0 0 = NO_SUCH
            ofColour 7 9 = NO_SUCH
            ofColour -1 0 = NO_SUCH
            ofColour 1 5 = BAD_VALUE
            ofColour 6 -1 = BAD_VALUE
            ofColour LEAST 0 = NO_SUCH
            ofColour 1 MOST = BAD_VALUE
            """);
    }

    private static void counts() {
        Script.run("promise 15, count", """
            take 0 1 = 0
            pour 0 0 0 50 = 50
            pour 0 1 0 30 = 30
            scrape 0 0 0 = 50
            pattern 0 0 = 0
            pattern 3 0 = 0
            count 5 = 9
            close = 0
            set 0 6 = 5
            set 1 13 = 12
            set 2 0 = 1
            text h01;c = 5
            count 0 = 1
            count 1 = 0
            count 2 = 80
            count 3 = 50
            count 4 = 30
            count 6 = 0
            count 7 = 6
            count 8 = 13
            count 9 = 0
            count 10 = 5
            count 11 = 6
            take 1 6 = 0
            pour 1 1 0 50 = 50
            take 0 2 = 1
            pour 0 1 1 1 = 1
            breathe 0 0 = 8                  # the place 1 has another colour
            count 3 = 58
            count 4 = 73
            count 2 = 131
            """);
        Script.run("promise 15, wrong", """
            count 12 = BAD_VALUE
            count -1 = BAD_VALUE
            count MOST = BAD_VALUE
            count LEAST = BAD_VALUE
            """);
    }
}
