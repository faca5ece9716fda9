/** Promises 16 to 20, each sentence with a boundary by itself: the last that is allowed, the first that is not. */
public final class WhatIfEdgesTest {
    public static void main(String[] args) {
        needsOfNoKind();
        needsAtTheirEnd();
        needsOfOtherPlaces();
        needsOfSeveralPlaces();
        needsOfClosedRings();
        sandThatJustWillDo();
        sandOfAllColours();
        sandOfNoPattern();
        breathsOfNoKind();
        placesThatWouldBeRight();
        placesOfOtherRings();
        breathsThatWouldLose();
        breathsAroundTheRing();
        settlingOfNoKind();
        settlingAtTheHeap();
        settlingForLong();
        settlingNever();
        quartersThatAreBest();
        Script.finish();
    }

    private static void needsOfNoKind() {
        Script.run("needed: the first number and the last", "pattern 0 1 = 0", "needed 0 = 0", "needed 4 = 5");
        Edge.refused("needed: BAD_VALUE if what is out of range", Scenes.BUSY, """
            needed -1 = BAD_VALUE
            needed 5 = BAD_VALUE
            needed LEAST = BAD_VALUE
            needed MOST = BAD_VALUE
            """);
        Edge.refused("needed: NONE is returned only if no error applies", "", """
            needed -1 = BAD_VALUE
            needed 5 = BAD_VALUE
            """);
        Edge.unchanged("needed: NONE if no place has to have a colour", "pattern 0 0 = 0\n", """
            needed 0 = NONE
            needed 1 = NONE
            needed 2 = NONE
            needed 3 = NONE
            needed 4 = NONE
            """);
        Edge.unchanged("needed: nothing changes", Scenes.BUSY, """
            needed 0 = 0
            needed 1 = 1
            needed 2 = 1
            needed 3 = 2
            needed 4 = 5
            """);
    }

    private static void needsAtTheirEnd() {
        Script.run("needed: NONE if no such place has fewer than NEED", Scenes.FOUR_CLOSED, Scenes.LAST_RING_POURED, """
            needed 4 = NONE                      # 6 of 5 grains
            set 0 6 = 5
            needed 4 = NONE                      # 6 of 6
            set 0 7 = 6
            needed 4 = 1                         # 6 of 7
            needed 0 = 0
            needed 1 = 4
            needed 2 = 0
            needed 3 = 1
            """);
        Script.run("needed: the most that a place can need", """
            pattern 4 060000000 = 0
            set 0 50 = 5
            needed 4 = 50
            needed 2 = 7
            needed 3 = 6
            take 0 6 = 0
            pour 0 4 7 1 = 1
            needed 0 = 1
            needed 2 = 0
            """);
    }

    private static void needsOfOtherPlaces() {
        Script.run("needed: places that are bare or have the colour, not those of another", """
            pattern 0 1 = 0
            take 0 2 = 0
            pour 0 0 0 1 = 1                     # another colour than due
            needed 0 = 1
            take 1 2 = NOT_POSSIBLE
            take 1 3 = 0
            pour 1 0 7 4 = 4
            take 2 4 = 0
            pour 2 0 0 4 = 4
            needed 0 = 3                         # the last one that is bare
            needed 2 = 7
            needed 4 = 5
            take 3 1 = 0
            pour 3 0 7 4 = 4
            needed 0 = 3                         # it has the colour
            needed 4 = 1
            pour 3 0 7 1 = 5
            needed 0 = NONE
            """);
        Script.run("needed: places that have to have no colour are none of them", """
            pattern 0 0 = 0
            take 0 2 = 0
            pour 0 0 0 1 = 1
            needed 0 = NONE
            """);
        Script.run("needed: places of rings without a pattern are none of them", "needed 0 = NONE", "pattern 4 1 = 0",
            "needed 1 = 4");
    }

    private static void needsOfSeveralPlaces() {
        Script.run("needed: of several the lowest place of a quarter, by its own number", """
            pattern 2 010000010 = 0
            needed 2 = 1
            take 0 1 = 0
            pour 0 2 1 1 = 1
            needed 0 = 0
            needed 2 = 7
            pour 0 2 7 1 = 1
            needed 0 = 1
            needed 2 = 0                         # the place 7 of the pattern
            """);
        Script.run("needed: of several the lowest quarter, though its place is higher", """
            pattern 2 060000000 = 0
            needed 0 = 0
            needed 2 = 7                         # the quarter 1 has it at the place 0
            """);
        Script.run("needed: of several the lowest ring, though its quarter is higher", """
            pattern 3 1 = 0
            pattern 2 1 = 0
            take 0 1 = 0
            pour 0 2 0 1 = 1
            needed 1 = 2
            needed 0 = 1
            """);
        Script.run("needed: the one that has the fewest, though its ring is higher", """
            pattern 0 1 = 0
            pattern 4 2 = 0
            take 0 1 = 0
            pour 0 0 0 2 = 2
            take 0 0 = 1
            take 1 1 = 0
            pour 1 0 7 2 = 2
            take 1 0 = 1
            take 2 1 = 0
            pour 2 0 0 2 = 2
            take 2 0 = 1
            take 3 1 = 0
            pour 3 0 7 1 = 1
            needed 1 = 4                         # bare
            needed 0 = 0
            pattern 4 0 = 1
            needed 1 = 0
            needed 0 = 3                         # 1 is fewer than 2
            needed 4 = 4
            """);
    }

    private static void needsOfClosedRings() {
        Edge.unchanged("needed: places in open rings", Scenes.FOUR_CLOSED, "needed 1 = 4");
        Edge.unchanged("needed: places in open rings, and all are closed", Scenes.ALL_CLOSED + "set 0 50 = 5\n",
            "needed 1 = NONE");
        Edge.unchanged("needed: a closed ring with too few grains is passed over",
            Scenes.WHOLE_FIRST_RING + "close = 0\nset 0 50 = 5\npattern 1 1 = 0\n", """
            needed 1 = 1
            needed 4 = 50
            """);
    }

    private static void sandThatJustWillDo() {
        for (int colour = 1; colour <= 6; colour++) {
            Script.run("lacking: the sand will do if it is just as much as is missing, and not with a grain less",
                "set 0 25 = 5", "pattern 0 " + (colour * 0111) + " = 0", "ofColour " + colour + " 4 = 300",
                "lacking = 0", "set 0 26 = 25", "ofColour " + colour + " 4 = 312", "lacking = " + (1 << colour),
                "fill " + colour + " 11 = 311", "lacking = " + (1 << colour), "fill " + colour + " 1 = 312",
                "lacking = 0", "take 0 " + colour + " = 0", "pour 0 4 0 1 = 1", "lacking = " + (1 << colour));
        }
        Script.run("lacking: an empty funnel, and nothing missing", Scenes.EMPTY_FUNNEL, """
            set 0 50 = 5
            lacking = 0
            pattern 0 1 = 0
            lacking = 2
            """);
    }

    private static void sandOfAllColours() {
        Script.run("lacking: colour by colour, all of them", """
            set 0 26 = 5
            pattern 0 022222222 = 0
            pattern 1 033333333 = 0
            pattern 2 044444444 = 0
            pattern 3 055555555 = 0
            lacking = 60
            pattern 4 066611111 = 0
            lacking = 126
            fill 3 9699 = 9999
            lacking = 118                        # the sand of one does not help another
            """);
    }

    private static void sandOfNoPattern() {
        Edge.unchanged("lacking: rings without a pattern miss nothing", Scenes.BUSY, "lacking = 2");
        Edge.unchanged("lacking: no ring has a pattern", "set 0 50 = 5\n", "lacking = 0");
        Edge.unchanged("lacking: in all rings with a pattern, the closed ones too",
            Scenes.WHOLE_FIRST_RING + "close = 0\nset 0 10 = 5\n", "lacking = 2\nofColour 1 4 = 160");
    }

    private static void breathsOfNoKind() {
        Edge.unchanged("ifBreathed: the first quarter and the last, each number, and nothing changes", Scenes.BUSY, """
            ifBreathed 0 0 0 = 0
            ifBreathed 0 1 1 = 1
            ifBreathed 0 0 2 = 0
            ifBreathed 3 1 0 = 0
            ifBreathed 3 0 1 = 0
            ifBreathed 3 1 2 = 0
            """);
        Edge.refused("ifBreathed: NO_SUCH if there is no such quarter", Scenes.BUSY, """
            ifBreathed -1 0 0 = NO_SUCH
            ifBreathed 4 0 0 = NO_SUCH
            ifBreathed LEAST 0 0 = NO_SUCH
            ifBreathed MOST 0 0 = NO_SUCH
            """);
        Edge.refused("ifBreathed: BAD_VALUE if down or what is out of range", Scenes.BUSY, """
            ifBreathed 0 -1 0 = BAD_VALUE
            ifBreathed 0 2 0 = BAD_VALUE
            ifBreathed 0 LEAST 0 = BAD_VALUE
            ifBreathed 0 MOST 0 = BAD_VALUE
            ifBreathed 0 0 -1 = BAD_VALUE
            ifBreathed 0 1 3 = BAD_VALUE
            ifBreathed 0 0 LEAST = BAD_VALUE
            ifBreathed 0 0 MOST = BAD_VALUE
            """);
        Edge.refused("ifBreathed: NO_SUCH comes ahead of BAD_VALUE", Scenes.BUSY, """
            ifBreathed -1 2 0 = NO_SUCH
            ifBreathed 4 0 3 = NO_SUCH
            """);
    }

    private static void placesThatWouldBeRight() {
        Script.run("ifBreathed: a place that keeps just as many grains as it needs stays right", """
            pattern 0 011 = 0
            take 0 1 = 0
            pour 0 0 0 14 = 14                   # 13 stay
            set 0 13 = 5
            ifBreathed 0 0 1 = 0
            set 0 14 = 13
            ifBreathed 0 0 1 = 1
            set 0 15 = 14
            ifBreathed 0 0 1 = 0                 # it is not right now
            ifBreathed 0 0 2 = 0
            """);
        Script.run("ifBreathed: a place that gets just as many grains as it needs would be right", """
            pattern 0 011 = 0
            take 0 1 = 0
            pour 0 0 0 14 = 14                   # 1 comes to the place 1
            pour 0 0 1 11 = 11
            set 0 13 = 5
            ifBreathed 0 0 2 = 0
            set 0 12 = 13
            ifBreathed 0 0 2 = 1
            set 0 11 = 12
            ifBreathed 0 0 2 = 0                 # it is right already
            ifBreathed 0 0 1 = 0
            """);
        Script.run("ifBreathed: a bare place that has to be bare would not be right with a single grain", """
            pattern 0 1 = 0
            take 0 1 = 0
            pour 0 0 0 13 = 13
            ifBreathed 0 0 1 = 0
            pour 0 0 0 1 = 14
            ifBreathed 0 0 1 = 1
            ifBreathed 0 1 1 = 1
            """);
        Script.run("ifBreathed: places of the quarter, of no other", """
            pattern 0 0 = 0
            pattern 4 0 = 0
            take 3 1 = 0
            pour 3 0 0 14 = 14
            pour 3 4 7 14 = 14
            ifBreathed 3 0 1 = 2
            ifBreathed 2 0 1 = 0
            ifBreathed 0 0 1 = 0
            """);
    }

    private static void placesOfOtherRings() {
        for (int ring = 0; ring < 4; ring++) {
            Script.run("ifBreathed: a place of a ring without a pattern never was right", "pattern " + ring + " 0 = 0",
                "take 1 1 = 0", "pour 1 " + (ring + 1) + " 7 30 = 30", "ifBreathed 1 0 1 = 0", "ifBreathed 1 0 2 = 0",
                "scrape 1 " + (ring + 1) + " 7 = 30", "pour 1 " + (ring + 1) + " 1 30 = 30", "ifBreathed 1 1 1 = 0");
        }
    }

    private static void breathsThatWouldLose() {
        Script.run("ifBreathed: grains that would be lost are not lost yet", """
            take 0 2 = 0
            pour 0 0 1 1 = 1
            take 0 1 = 2
            pour 0 0 0 13 = 13
            ifBreathed 0 0 0 = 0
            pour 0 0 0 1 = 14
            ifBreathed 0 0 0 = 1
            ifBreathed 0 1 0 = 0
            count 3 = 0
            count 4 = 15
            at 0 0 0 1 = 14
            breathe 0 0 = 1
            count 3 = 1
            """);
        Edge.unchanged("ifBreathed: nothing changes, though grains would be lost",
            "take 0 2 = 0\npour 0 0 1 1 = 1\ntake 0 1 = 2\npour 0 0 0 99 = 99\npour 0 0 2 99 = 99\n", """
            ifBreathed 0 0 0 = 43
            ifBreathed 0 1 0 = 43
            """);
    }

    private static void breathsAroundTheRing() {
        Script.run("ifBreathed: behind the place 7 comes the place 0, and the other way around", """
            pattern 4 010000001 = 0
            take 0 1 = 0
            pour 0 4 7 30 = 30
            ifBreathed 0 0 2 = 1
            ifBreathed 0 1 2 = 0
            scrape 0 4 7 = 30
            pour 0 4 0 30 = 30
            ifBreathed 0 0 2 = 0
            ifBreathed 0 1 2 = 1
            """);
        Edge.unchanged("ifBreathed: a closed ring would stay", Scenes.ALL_CLOSED + "set 1 1 = 12\nset 0 6 = 5\n", """
            ifBreathed 0 0 1 = 0
            ifBreathed 0 0 2 = 0
            """);
    }

    private static void settlingOfNoKind() {
        Edge.unchanged("settles: the first quarter and the last, and nothing changes", Scenes.BUSY, """
            settles 3 0 = 0
            settles 3 1 = 0
            settles 1 0 = 0
            """);
        Edge.unchanged("settles: nothing changes, though much would go",
            "take 0 2 = 0\npour 0 0 1 1 = 1\ntake 0 1 = 2\npour 0 0 0 99 = 99\npour 0 0 2 99 = 99\n", """
            settles 0 0 = 21
            """);
        Edge.refused("settles: NO_SUCH if there is no such quarter", Scenes.BUSY, """
            settles -1 0 = NO_SUCH
            settles 4 0 = NO_SUCH
            settles LEAST 0 = NO_SUCH
            settles MOST 0 = NO_SUCH
            """);
        Edge.refused("settles: BAD_VALUE if down is neither", Scenes.BUSY, """
            settles 0 -1 = BAD_VALUE
            settles 0 2 = BAD_VALUE
            settles 0 LEAST = BAD_VALUE
            settles 0 MOST = BAD_VALUE
            """);
        Edge.refused("settles: NO_SUCH comes ahead of BAD_VALUE", Scenes.BUSY, """
            settles -1 2 = NO_SUCH
            settles 4 -1 = NO_SUCH
            """);
    }

    private static void settlingAtTheHeap() {
        Script.run("settles: 0 or more", """
            settles 0 0 = 0
            take 0 1 = 0
            pour 0 0 0 12 = 12
            settles 0 0 = 0
            pour 0 0 0 1 = 13
            settles 0 0 = 0                      # half of 1
            pour 0 0 0 1 = 14
            settles 0 0 = 1
            settles 0 1 = 1
            breathe 0 0 = 0
            settles 0 0 = 0
            """);
        Script.run("settles: one more would change nothing, so the last loss counts", """
            take 0 2 = 0
            pour 0 0 1 1 = 1
            take 0 1 = 2
            pour 0 0 0 16 = 16
            settles 0 0 = 2                      # 14, 13
            settles 0 1 = 2
            """);
        Edge.unchanged("settles: closed rings never change", Scenes.ALL_CLOSED + "set 1 1 = 12\n", """
            settles 0 0 = 0
            settles 3 1 = 0
            """);
    }

    /** No ring was found by search that takes longer and ends. */
    private static void settlingForLong() {
        Script.run("settles: a flow that ends late", """
            fill 1 84 = 384
            set 1 8 = 12
            take 0 1 = 0
            pour 0 0 0 99 = 99
            pour 0 0 1 95 = 95
            pour 0 0 2 91 = 91
            pour 0 0 7 99 = 99
            settles 0 0 = 58
            """);
        Script.run("settles: a flow that ends late, to lower places", """
            fill 1 84 = 384
            set 1 8 = 12
            take 3 1 = 0
            pour 3 4 7 99 = 99
            pour 3 4 6 95 = 95
            pour 3 4 5 91 = 91
            pour 3 4 0 99 = 99
            settles 3 1 = 58
            x57 breathe 3 1 = 0
            settles 3 1 = 1
            breathe 3 1 = 0
            settles 3 1 = 0
            """);
    }

    private static void settlingNever() {
        Script.run("settles: NONE if more than 200", """
            set 1 1 = 12
            take 0 1 = 0
            text p000*3;p001*2;p002*2;p003*2 = 27
            carryOut = 4
            text p004*2;p005*2;p006*2;p007*2 = 27
            carryOut = 4
            settles 0 0 = NONE                   # a grain goes around for ever
            settles 0 1 = NONE
            x201 breathe 0 0 = 0
            settles 0 0 = NONE
            count 4 = 17
            """);
    }

    private static void quartersThatAreBest() {
        Edge.unchanged("best: of several the lowest one, none with a right place", "", "best = 0");
        Edge.unchanged("best: of several the lowest one, all with all places right", Scenes.WHOLE_FIRST_RING,
            "best = 0");
        for (int quarter = 0; quarter < 4; quarter++) {
            Script.run("best: one place against none", "pattern 2 011111111 = 0", "best = 0",
                "take " + quarter + " 1 = 0", "pour " + quarter + " 2 5 4 = 4", "best = 0",
                "pour " + quarter + " 2 5 1 = 5", "best = " + quarter);
            Script.run("best: one place more than the others", Scenes.WHOLE_FIRST_RING, "pattern 4 1 = 0",
                "take " + quarter + " 1 = 0", "pour " + quarter + " 4 " + (quarter % 2 * 7) + " 5 = 5",
                "best = " + quarter, "scrape " + quarter + " 0 3 = 5", "best = 0");
        }
        for (int quarter = 0; quarter < 3; quarter++) {
            Script.run("best: a place less than the others, so the next one", Scenes.WHOLE_FIRST_RING,
                "scrape " + quarter + " 0 7 = 5", "best = " + (quarter == 0 ? 1 : 0), "scrape 0 0 0 = 5",
                "best = " + (quarter == 1 ? 2 : 1));
        }
    }
}
