/** Promises 2 to 10: the changes. */
public final class ChangesTest {
    public static void main(String[] args) {
        settings();
        patterns();
        taking();
        filling();
        pouring();
        pouringErrorsInOrder();
        scraping();
        breathing();
        breathingOverRings();
        closing();
        sweeping();
        sweepingFullRings();
        Script.finish();
    }

    private static void settings() {
        Script.run("promise 2, set", """
            set 0 1 = 5
            set 0 50 = 1
            count 7 = 50
            set 1 1 = 12
            set 1 99 = 1
            count 8 = 99
            set 2 0 = 1
            set 2 0 = 0
            count 9 = 0
            set 2 1 = 0
            count 9 = 1
            count 11 = 6
            """);
        Script.run("promise 2, wrong values", """
            set 0 0 = BAD_VALUE
            set 0 51 = BAD_VALUE
            set 1 0 = BAD_VALUE
            set 1 100 = BAD_VALUE
            set 2 -1 = BAD_VALUE
            set 2 2 = BAD_VALUE
            set 3 1 = BAD_VALUE
            set -1 1 = BAD_VALUE
            set LEAST 5 = BAD_VALUE
            set MOST 5 = BAD_VALUE
            set 0 LEAST = BAD_VALUE
            set 1 MOST = BAD_VALUE
            count 7 = 5
            count 8 = 12
            count 9 = 1
            count 11 = 0
            """);
    }

    private static void patterns() {
        Script.run("promise 3, pattern", """
            pattern 0 076543210 = BAD_VALUE   # a 7
            pattern 0 006543210 = 0
            at 0 0 0 2 = 0
            at 0 0 1 2 = 1
            at 0 0 6 2 = 6
            at 0 0 7 2 = 0
            pattern 0 066666666 = 1
            at 2 0 0 2 = 6
            at 2 0 7 2 = 6
            pattern 4 0 = 0
            pattern 4 0 = 1
            ofRing 4 1 = 1
            count 11 = 4
            """);
        Script.run("promise 3, wrong", """
            pattern -1 0 = NO_SUCH
            pattern 5 0 = NO_SUCH
            pattern 5 -1 = NO_SUCH
            pattern 0 -1 = BAD_VALUE
            pattern 0 7 = BAD_VALUE
            pattern 0 070000000 = BAD_VALUE
            pattern 0 0100000000 = BAD_VALUE
            pattern 0 LEAST = BAD_VALUE
            pattern 0 MOST = BAD_VALUE
            pattern MOST 0 = NO_SUCH
            ofRing 0 1 = 0
            count 11 = 0
            pattern 0 0 = 0
            close = 0
            pattern 0 1 = NOT_POSSIBLE
            pattern 0 7 = BAD_VALUE
            at 0 0 0 2 = 0
            pattern 1 1 = 0
            """);
    }

    private static void taking() {
        Script.run("promise 4, take", """
            take 0 1 = 0
            take 0 1 = 1           # its own
            take 3 6 = 0
            take 3 1 = NOT_POSSIBLE
            ofQuarter 3 2 = 6
            take 0 2 = 1           # lays 1 down
            take 3 1 = 6
            take 1 6 = 0
            take 3 0 = 1
            take 3 0 = 0
            ofQuarter 3 2 = 0
            ofColour 1 1 = NONE
            ofColour 6 1 = 1
            ofColour 2 1 = 0
            """);
        Script.run("promise 4, rings that are closed hold no funnel", """
            pattern 0 0 = 0
            close = 0
            ofColour 1 1 = NONE
            take 2 1 = 0
            """);
        Script.run("promise 4, wrong", """
            take 4 1 = NO_SUCH
            take -1 9 = NO_SUCH
            take 0 7 = BAD_VALUE
            take 0 -1 = BAD_VALUE
            take 0 NONE = BAD_VALUE
            take LEAST 0 = NO_SUCH
            take 0 MOST = BAD_VALUE
            count 11 = 0
            """);
    }

    private static void filling() {
        Script.run("promise 5, fill", """
            fill 1 1 = 301
            fill 6 9999 = 9999
            fill 6 1 = 9999
            fill 2 9699 = 9999
            fill 3 9698 = 9998
            ofColour 1 0 = 301
            ofColour 6 0 = 9999
            ofColour 5 0 = 300
            count 3 = 0            # what is thrown away is not lost
            count 11 = 5
            """);
        Script.run("promise 5, wrong", """
            fill 0 0 = NO_SUCH
            fill 7 1 = NO_SUCH
            fill -1 1 = NO_SUCH
            fill 1 0 = BAD_VALUE
            fill 1 -1 = BAD_VALUE
            fill 1 10000 = BAD_VALUE
            fill 1 MOST = BAD_VALUE
            fill LEAST 1 = NO_SUCH
            ofColour 1 0 = 300
            count 11 = 0
            """);
    }

    private static void pouring() {
        Script.run("promise 6, pour", """
            take 2 3 = 0
            pour 2 4 7 1 = 1
            pour 2 4 7 98 = 99
            at 2 4 7 0 = 3
            at 2 4 7 1 = 99
            at 0 4 7 1 = 0
            ofColour 3 0 = 201
            count 2 = 99
            pour 2 0 0 99 = 99
            pour 2 0 1 99 = 99
            ofColour 3 0 = 3
            pour 2 0 2 3 = 3       # all that is left
            ofColour 3 0 = 0
            pour 2 0 2 1 = NOT_POSSIBLE
            count 2 = 300
            count 4 = 300
            """);
    }

    private static void pouringErrorsInOrder() {
        Script.run("promise 6, wrong", """
            pour 4 0 0 0 = NO_SUCH
            pour -1 0 0 1 = NO_SUCH
            pour 0 5 0 0 = NO_SUCH
            pour 0 -1 0 1 = NO_SUCH
            pour 0 0 8 0 = NO_SUCH
            pour 0 0 -1 1 = NO_SUCH
            pour MOST MOST MOST MOST = NO_SUCH
            pour 0 0 0 0 = BAD_VALUE
            pour 0 0 0 100 = BAD_VALUE
            pour 0 0 0 LEAST = BAD_VALUE
            pour 0 0 0 1 = NOT_POSSIBLE      # no funnel
            take 0 1 = 0
            pour 0 0 0 60 = 60
            pour 0 0 0 40 = TOO_MANY
            pour 0 0 0 39 = 99
            pour 0 0 1 99 = 99
            pour 0 0 2 98 = 98
            ofColour 1 0 = 4
            pour 0 0 2 5 = NOT_POSSIBLE      # too few grains, and too many for the place
            pour 0 0 2 2 = TOO_MANY
            take 0 2 = 1
            pour 0 0 2 99 = NOT_POSSIBLE     # another colour, and too many
            pour 0 0 2 1 = NOT_POSSIBLE
            count 2 = 296
            ofColour 2 0 = 300
            pattern 1 0 = 0
            """);
        Script.run("promise 6, a closed ring", Scenes.FOUR_CLOSED, """
            take 0 1 = 0
            pour 0 3 0 1 = NOT_POSSIBLE
            pour 0 0 0 99 = NOT_POSSIBLE
            pour 0 4 0 1 = 1
            """);
    }

    private static void scraping() {
        Script.run("promise 7, scrape", """
            take 1 4 = 0
            pour 1 2 3 17 = 17
            scrape 1 2 3 = 17
            at 1 2 3 0 = 0
            at 1 2 3 1 = 0
            count 3 = 17
            count 4 = 0
            ofColour 4 0 = 283
            scrape 1 2 3 = NOT_POSSIBLE
            scrape 4 0 0 = NO_SUCH
            scrape -1 0 0 = NO_SUCH
            scrape 0 5 0 = NO_SUCH
            scrape 0 -1 0 = NO_SUCH
            scrape 0 0 8 = NO_SUCH
            scrape 0 0 -1 = NO_SUCH
            take 1 2 = 4
            pour 1 2 3 5 = 5                 # the place is free for another colour
            count 11 = 5
            """);
        Script.run("promise 7, a closed ring", Scenes.ALL_CLOSED, """
            scrape 0 4 0 = NOT_POSSIBLE
            at 0 4 0 1 = 6
            count 3 = 0
            """);
    }

    private static void breathing() {
        Script.run("promise 8, breathe", """
            breathe 4 0 = NO_SUCH
            breathe -1 2 = NO_SUCH
            breathe 0 2 = BAD_VALUE
            breathe 0 -1 = BAD_VALUE
            count 11 = 0
            take 0 1 = 0
            pour 0 0 0 13 = 13
            breathe 0 0 = 0                  # half of 1 is 0
            at 0 0 0 1 = 13
            pour 0 0 0 1 = 14
            breathe 0 1 = 0                  # to the place 7
            at 0 0 0 1 = 13
            at 0 0 7 1 = 1
            at 0 0 7 0 = 1
            pour 0 0 7 98 = 99
            breathe 0 0 = 0                  # 43 go around to the place 0
            at 0 0 7 1 = 56
            at 0 0 0 1 = 56
            at 0 0 1 1 = 0
            count 4 = 112
            count 3 = 0
            """);
        Script.run("promise 8, grains that are lost", """
            take 0 1 = 0
            pour 0 0 3 99 = 99
            take 0 2 = 1
            pour 0 0 4 99 = 99
            set 1 1 = 12
            breathe 0 0 = 49                 # the place 3 has another colour than 4; 4 spills into the bare 5
            at 0 0 3 1 = 50
            at 0 0 4 1 = 50
            at 0 0 4 0 = 2
            at 0 0 5 1 = 49
            at 0 0 5 0 = 2
            count 3 = 49
            ofColour 1 2 = 50
            ofColour 2 2 = 99
            """);
        Script.run("promise 8, as the grains were ahead of it", """
            set 1 2 = 12
            take 0 1 = 0
            pour 0 2 0 10 = 10
            pour 0 2 1 2 = 2
            take 0 3 = 1
            pour 0 2 3 90 = 90
            breathe 0 0 = 0
            at 0 2 0 1 = 6
            at 0 2 1 1 = 6                   # spills nothing of what came
            at 0 2 2 1 = 0
            at 0 2 3 1 = 46
            at 0 2 4 1 = 44
            breathe 0 1 = 0                  # two grains of the colour 1 go around from 0 to 7
            at 0 2 0 1 = 6
            at 0 2 7 1 = 2
            at 0 2 1 1 = 4
            at 0 2 2 0 = 3
            at 0 2 2 1 = 22
            at 0 2 3 1 = 45
            at 0 2 4 1 = 23
            """);
    }

    private static void breathingOverRings() {
        Script.run("promise 8, each open ring, one quarter", """
            take 0 1 = 0
            pour 0 0 0 14 = 14
            pour 0 4 7 99 = 99
            pour 0 3 7 99 = 99
            take 0 0 = 1
            take 1 1 = 0
            pour 1 4 7 88 = 88
            breathe 0 0 = 0
            at 0 0 1 1 = 1
            at 0 4 0 1 = 43
            at 0 3 0 1 = 43
            at 1 4 7 1 = 88
            fill 1 99 = 99
            pour 1 0 0 99 = 99
            breathe 0 0 = 0
            at 1 0 0 1 = 99
            breathe 2 0 = 0
            at 1 0 0 1 = 99
            at 1 4 7 1 = 88
            """);
        Script.run("promise 8, closed rings stay", """
            pattern 0 1 = 0
            take 0 1 = 0
            pour 0 0 0 60 = 60
            pour 0 1 0 60 = 60
            take 0 0 = 1
            take 1 1 = 0
            pour 1 0 7 5 = 5
            take 1 0 = 1
            take 2 1 = 0
            pour 2 0 0 5 = 5
            take 2 0 = 1
            take 3 1 = 0
            pour 3 0 7 5 = 5
            close = 0
            breathe 0 0 = 0
            at 0 0 0 1 = 60
            at 0 0 1 1 = 0
            at 0 1 0 1 = 36
            at 0 1 1 1 = 24
            """);
        Script.run("promise 8, nothing when all are closed", Scenes.ALL_CLOSED, """
            set 1 1 = 12
            breathe 0 0 = 0
            at 0 4 0 1 = 6
            at 0 4 1 1 = 0
            """);
    }

    private static void closing() {
        Script.run("promise 9, close", """
            close = NOT_POSSIBLE             # no pattern
            pattern 1 0 = 0
            close = NOT_POSSIBLE             # the ring 0 comes first
            pattern 0 0 = 0
            close = 0
            ofRing 0 0 = 1
            ofRing 1 0 = 0
            close = 1
            close = NOT_POSSIBLE
            count 0 = 2
            count 11 = 4
            """);
        Script.run("promise 9, only a whole ring", Scenes.FOUR_CLOSED, """
            close = NOT_POSSIBLE
            count 0 = 4
            """, Scenes.LAST_RING_POURED, """
            set 0 7 = 5
            close = NOT_POSSIBLE             # a grain too few
            set 0 6 = 7
            close = 4
            close = NOT_POSSIBLE             # all are closed
            set 0 50 = 6
            count 0 = 5                      # closed it stays
            """);
        Script.run("promise 9, a place too many", Scenes.FOUR_CLOSED, Scenes.LAST_RING_POURED, """
            pour 3 4 0 1 = 1
            close = NOT_POSSIBLE
            scrape 3 4 0 = 1
            close = 4
            """);
    }

    private static void sweepingFullRings() {
        Script.run("promise 10, all grains of one quarter", Scenes.WHOLE_FIRST_RING, """
            pattern 1 0 = 0
            pattern 2 0 = 0
            pattern 3 0 = 0
            pattern 4 0 = 0
            close = 0
            close = 1
            close = 2
            close = 3
            close = 4
            count 4 = 160
            sweep = 0
            ofQuarter 0 0 = 0
            ofQuarter 1 0 = 40
            ofQuarter 2 0 = 40
            ofQuarter 3 0 = 40
            count 3 = 40
            sweep = 2
            ofQuarter 1 0 = 40
            ofQuarter 2 0 = 0
            ofQuarter 3 0 = 40
            count 3 = 80
            sweep = 1
            ofQuarter 3 0 = 40
            sweep = 3
            count 3 = 160
            count 4 = 0
            """);
    }

    private static void sweeping() {
        Script.run("promise 10, sweep", "sweep = NOT_POSSIBLE", Scenes.FOUR_CLOSED, Scenes.LAST_RING_POURED, """
            sweep = NOT_POSSIBLE             # the ring 4 is open
            close = 4
            sweep = 0
            count 3 = 6
            count 4 = 18
            at 0 4 0 1 = 0
            at 0 4 0 0 = 0
            at 1 4 7 1 = 6
            count 6 = 1
            count 0 = 5
            count 1 = 0
            sweep = 2
            count 6 = 2
            sweep = 1
            count 6 = 3
            count 3 = 18
            ofRing 4 1 = 1
            close = NOT_POSSIBLE
            sweep = 3
            count 6 = 0
            count 1 = 1
            count 0 = 0
            count 3 = 24
            count 4 = 0
            count 2 = 24
            ofRing 0 1 = 0
            ofRing 4 1 = 0
            ofRing 4 0 = 0
            ofQuarter 3 2 = 1                # the funnels stay where they are
            ofColour 1 0 = 276
            sweep = NOT_POSSIBLE
            close = NOT_POSSIBLE
            pattern 0 0 = 0
            close = 0
            count 11 = 6
            """);
    }
}
