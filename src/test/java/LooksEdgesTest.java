/** Promises 11 to 15, each sentence with a boundary by itself: the last that is allowed, the first that is not. */
public final class LooksEdgesTest {
    public static void main(String[] args) {
        placesThatAreNone();
        placesOfThePattern();
        placesWithoutPattern();
        placesThatAreRight();
        ringsThatAreNone();
        closedRings();
        wholeRings();
        unlikeQuarters();
        unlikePlacesOfEachQuarter();
        wrongPlacesOfRings();
        missingGrains();
        quartersThatAreNone();
        coloursOfQuarters();
        wrongPlacesOfQuarters();
        sweptQuarters();
        coloursThatAreNone();
        holdersOfColours();
        placesOfColours();
        countsThatAreNone();
        fullMandala();
        Script.finish();
    }

    private static void placesThatAreNone() {
        Script.run("at: the first quarter, ring and place, and the last", """
            at 0 0 0 0 = 0
            at 0 0 0 1 = 0
            at 3 4 7 0 = 0
            at 3 4 7 4 = 0
            """);
        Edge.refused("at: NO_SUCH if there is no such quarter, ring or place", Scenes.BUSY, """
            at -1 0 0 0 = NO_SUCH
            at 4 0 0 0 = NO_SUCH
            at 0 -1 0 0 = NO_SUCH
            at 0 5 0 0 = NO_SUCH
            at 0 0 -1 0 = NO_SUCH
            at 0 0 8 0 = NO_SUCH
            at LEAST 0 0 0 = NO_SUCH
            at MOST 0 0 0 = NO_SUCH
            at 0 LEAST 0 0 = NO_SUCH
            at 0 MOST 0 0 = NO_SUCH
            at 0 0 LEAST 0 = NO_SUCH
            at 0 0 MOST 0 = NO_SUCH
            """);
        Edge.refused("at: BAD_VALUE if what is out of range", Scenes.BUSY, """
            at 0 1 0 -1 = BAD_VALUE
            at 0 1 0 5 = BAD_VALUE
            at 0 1 0 LEAST = BAD_VALUE
            at 0 1 0 MOST = BAD_VALUE
            at 0 4 0 5 = BAD_VALUE               # a ring without a pattern
            """);
        Edge.refused("at: NO_SUCH comes ahead of BAD_VALUE", Scenes.BUSY, """
            at 4 0 0 5 = NO_SUCH
            at 0 5 0 -1 = NO_SUCH
            at 0 0 8 5 = NO_SUCH
            """);
    }

    private static void placesOfThePattern() {
        for (int place = 0; place < 8; place++) {
            Script.run("at: in a mirrored quarter the place of the pattern is 7 less its number",
                "at 0 0 " + place + " 4 = " + place, "at 1 1 " + place + " 4 = " + (7 - place),
                "at 2 3 " + place + " 4 = " + place, "at 3 4 " + place + " 4 = " + (7 - place),
                "set 2 0 = 1", "at 1 1 " + place + " 4 = " + place, "at 3 4 " + place + " 4 = " + place);
        }
    }

    private static void placesWithoutPattern() {
        Edge.unchanged("at: NONE without a pattern", Scenes.BUSY, """
            at 0 2 3 2 = NONE
            at 3 4 7 2 = NONE
            at 0 0 0 2 = 0                       # a pattern of no colour
            at 0 1 0 2 = 1
            at 1 1 7 2 = 1
            """);
        Edge.unchanged("without a pattern a place is never right", Scenes.BUSY, """
            at 0 2 3 3 = 0                       # 99 grains
            at 0 2 0 3 = 0                       # bare
            at 3 4 7 3 = 0
            """);
        Script.run("at: NONE when all quarters are swept", Scenes.ALL_CLOSED, """
            sweep = 0
            sweep = 2
            sweep = 1
            at 0 4 0 2 = 1
            at 0 0 0 3 = 1
            sweep = 3
            at 0 4 0 2 = NONE
            at 0 0 0 3 = 0
            """);
    }

    private static void placesThatAreRight() {
        Script.run("a place is right if it has NEED grains or more of the colour of its pattern", """
            pattern 0 3 = 0
            take 0 3 = 0
            at 0 0 0 3 = 0
            pour 0 0 0 4 = 4
            at 0 0 0 3 = 0
            pour 0 0 0 1 = 5
            at 0 0 0 3 = 1
            pour 0 0 0 94 = 99
            at 0 0 0 3 = 1
            set 0 50 = 5
            at 0 0 0 3 = 1
            pattern 0 2 = 1
            at 0 0 0 3 = 0                       # of another colour
            """);
        Script.run("a place is right with 50 of 50 grains, and with 1 of 1", """
            pattern 0 3 = 0
            set 0 50 = 5
            take 0 3 = 0
            pour 0 0 0 49 = 49
            at 0 0 0 3 = 0
            pour 0 0 0 1 = 50
            at 0 0 0 3 = 1
            scrape 0 0 0 = 50
            set 0 1 = 50
            at 0 0 0 3 = 0
            pour 0 0 0 1 = 1
            at 0 0 0 3 = 1
            """);
        Script.run("if the colour of its pattern is none, a place is right if it has no grains", """
            pattern 0 0 = 0
            take 0 3 = 0
            at 0 0 0 3 = 1
            pour 0 0 0 1 = 1
            at 0 0 0 3 = 0
            scrape 0 0 0 = 1
            at 0 0 0 3 = 1
            """);
        Script.run("at: the colour is 0 if the place is bare", """
            take 0 6 = 0
            at 0 0 0 0 = 0
            pour 0 0 0 1 = 1
            at 0 0 0 0 = 6
            scrape 0 0 0 = 1
            at 0 0 0 0 = 0
            """);
    }

    private static void ringsThatAreNone() {
        Script.run("ofRing: the first ring and the last", """
            ofRing 0 4 = 32
            ofRing 4 4 = 32
            ofRing 0 6 = 0
            ofRing 4 6 = 0
            """);
        Edge.refused("ofRing: NO_SUCH if there is no such ring", Scenes.BUSY, """
            ofRing -1 0 = NO_SUCH
            ofRing 5 0 = NO_SUCH
            ofRing LEAST 0 = NO_SUCH
            ofRing MOST 0 = NO_SUCH
            """);
        Edge.refused("ofRing: BAD_VALUE if what is out of range", Scenes.BUSY, """
            ofRing 0 -1 = BAD_VALUE
            ofRing 4 7 = BAD_VALUE
            ofRing 0 LEAST = BAD_VALUE
            ofRing 0 MOST = BAD_VALUE
            """);
        Edge.refused("ofRing: NO_SUCH comes ahead of BAD_VALUE", Scenes.BUSY, """
            ofRing -1 7 = NO_SUCH
            ofRing 5 -1 = NO_SUCH
            """);
    }

    private static void closedRings() {
        Edge.unchanged("ofRing: whether it is closed, none but the first", Scenes.BUSY, """
            ofRing 0 0 = 1
            ofRing 1 0 = 0
            ofRing 4 0 = 0
            """);
        Edge.unchanged("ofRing: whether it is closed, all but the last", Scenes.FOUR_CLOSED, """
            ofRing 0 0 = 1
            ofRing 3 0 = 1
            ofRing 4 0 = 0
            """);
        Edge.unchanged("ofRing: has a pattern, also one of no colour", Scenes.BUSY, """
            ofRing 0 1 = 1
            ofRing 1 1 = 1
            ofRing 2 1 = 0
            """);
    }

    private static void wholeRings() {
        Edge.unchanged("a ring is whole if all its places, in all quarters, are right", Scenes.WHOLE_FIRST_RING, """
            ofRing 0 2 = 1
            ofRing 0 4 = 0
            ofRing 0 6 = 0
            ofRing 1 2 = 0
            count 5 = 1
            """);
        for (int i = 0; i < 32; i++) {
            Script.run("a ring is not whole if a single place is not right", Scenes.WHOLE_FIRST_RING,
                "scrape " + i / 8 + " 0 " + i % 8 + " = 5", "ofRing 0 2 = 0", "ofRing 0 4 = 1", "ofRing 0 6 = 5",
                "count 5 = 0");
        }
        Edge.unchanged("a ring without a pattern is not whole", "", """
            ofRing 0 2 = 0
            ofRing 4 2 = 0
            """);
    }

    private static void unlikeQuarters() {
        Edge.unchanged("quarters are alike where all four have none", "", "ofRing 0 3 = 0\nofRing 4 3 = 0");
        Edge.unchanged("quarters are alike where all four have the same colour, whatever the grains",
            Scenes.WHOLE_FIRST_RING + "set 0 50 = 5\ntake 2 1 = 0\npour 2 0 7 94 = 99\n", "ofRing 0 3 = 0");
        for (int quarter = 0; quarter < 4; quarter++) {
            int place = quarter % 2 == 0 ? 7 : 0;
            Script.run("quarters are unlike if one of them has another colour", Scenes.WHOLE_FIRST_RING,
                "scrape " + quarter + " 0 " + place + " = 5", "ofRing 0 3 = 128", "take " + quarter + " 2 = 0",
                "pour " + quarter + " 0 " + place + " 5 = 5", "ofRing 0 3 = 128");
        }
        Script.run("quarters are unlike at all places", """
            pattern 1 0 = 0
            text h01;p010*1;p011*1;p012*1;p013*1 = 31
            carryOut = 5
            text p014*1;p015*1;p016*1;p017*1 = 27
            carryOut = 4
            ofRing 1 3 = 255
            ofRing 0 3 = 0
            ofRing 2 3 = 0
            """);
    }

    private static void unlikePlacesOfEachQuarter() {
        for (int i = 0; i < 32; i++) {
            int quarter = i / 8;
            int place = i % 8;
            int ofPattern = quarter % 2 == 1 ? 7 - place : place;
            Script.run("ofRing: the places of the pattern where quarters are unlike", "take " + quarter + " 5 = 0",
                "pour " + quarter + " 3 " + place + " 1 = 1", "ofRing 3 3 = " + (1 << ofPattern), "ofRing 2 3 = 0",
                "ofRing 4 3 = 0", "set 2 0 = 1", "ofRing 3 3 = " + (1 << place));
        }
    }

    private static void wrongPlacesOfRings() {
        Script.run("ofRing: places that are not right, all and none", """
            ofRing 2 4 = 32
            pattern 2 0 = 0
            ofRing 2 4 = 0
            pattern 2 066666666 = 1
            ofRing 2 4 = 32
            pattern 2 060000000 = 1
            ofRing 2 4 = 4
            """);
    }

    private static void missingGrains() {
        Script.run("ofRing: missing are NEED less its grains of that colour, at least 0", """
            pattern 2 4 = 0
            ofRing 2 6 = 20
            take 0 4 = 0
            pour 0 2 0 4 = 4
            ofRing 2 6 = 16
            pour 0 2 0 1 = 5
            ofRing 2 6 = 15
            pour 0 2 0 1 = 6
            ofRing 2 6 = 15
            pour 0 2 0 93 = 99
            ofRing 2 6 = 15
            """);
        Script.run("ofRing: grains of another colour do not help", """
            pattern 2 4 = 0
            take 0 1 = 0
            pour 0 2 0 99 = 99
            ofRing 2 6 = 20
            ofRing 2 5 = 99
            """);
        Script.run("ofRing: missing is 0 without a pattern, and of a pattern of no colour", """
            ofRing 2 6 = 0
            pattern 2 0 = 0
            ofRing 2 6 = 0
            take 0 1 = 0
            pour 0 2 0 99 = 99
            ofRing 2 6 = 0
            """);
        Script.run("ofRing: the most and the fewest that can be missing", """
            pattern 2 011111111 = 0
            set 0 50 = 5
            ofRing 2 6 = 1600
            set 0 1 = 50
            ofRing 2 6 = 32
            """);
    }

    private static void quartersThatAreNone() {
        Script.run("ofQuarter: the first quarter and the last", """
            ofQuarter 0 3 = 0
            ofQuarter 3 3 = 1
            """);
        Edge.refused("ofQuarter: NO_SUCH if there is no such quarter", Scenes.BUSY, """
            ofQuarter -1 0 = NO_SUCH
            ofQuarter 4 0 = NO_SUCH
            ofQuarter LEAST 0 = NO_SUCH
            ofQuarter MOST 0 = NO_SUCH
            """);
        Edge.refused("ofQuarter: BAD_VALUE if what is out of range", Scenes.BUSY, """
            ofQuarter 0 -1 = BAD_VALUE
            ofQuarter 3 11 = BAD_VALUE
            ofQuarter 0 LEAST = BAD_VALUE
            ofQuarter 0 MOST = BAD_VALUE
            """);
        Edge.refused("ofQuarter: NO_SUCH comes ahead of BAD_VALUE", Scenes.BUSY, """
            ofQuarter -1 11 = NO_SUCH
            ofQuarter 4 -1 = NO_SUCH
            """);
    }

    private static void coloursOfQuarters() {
        for (int colour = 1; colour <= 6; colour++) {
            String before = "take 1 " + colour + " = 0\npour 1 0 0 9 = 9\npour 1 4 7 2 = 2\n";
            for (int what = 5; what <= 10; what++) {
                Script.run("ofQuarter: 5 to 10 its grains of the colours 1 to 6", before,
                    "ofQuarter 1 " + what + " = " + (what - 4 == colour ? 11 : 0), "ofQuarter 0 " + what + " = 0",
                    "ofQuarter 2 " + what + " = 0");
            }
            Script.run("ofQuarter: the funnel that its hand holds", before, "ofQuarter 1 2 = " + colour,
                "ofQuarter 0 2 = 0", "take 1 0 = " + colour, "ofQuarter 1 2 = 0", "ofQuarter 1 0 = 11");
        }
    }

    private static void wrongPlacesOfQuarters() {
        Script.run("ofQuarter: places that are not right, in rings with a pattern", """
            ofQuarter 2 1 = 0
            pattern 0 066666666 = 0
            pattern 1 066666666 = 0
            pattern 2 066666666 = 0
            pattern 3 066666666 = 0
            ofQuarter 2 1 = 32
            pattern 4 066666666 = 0
            ofQuarter 2 1 = 40
            ofQuarter 1 1 = 40
            pattern 4 0 = 1
            ofQuarter 2 1 = 32
            """);
        Edge.unchanged("ofQuarter: whether it is mirrored", "", """
            ofQuarter 0 3 = 0
            ofQuarter 1 3 = 1
            ofQuarter 2 3 = 0
            ofQuarter 3 3 = 1
            """);
        Edge.unchanged("ofQuarter: none is mirrored without MIRROR", "set 2 0 = 1\n", """
            ofQuarter 0 3 = 0
            ofQuarter 1 3 = 0
            ofQuarter 2 3 = 0
            ofQuarter 3 3 = 0
            """);
    }

    private static void sweptQuarters() {
        Edge.unchanged("ofQuarter: none is swept yet", Scenes.ALL_CLOSED, """
            ofQuarter 0 4 = 0
            ofQuarter 1 4 = 0
            ofQuarter 2 4 = 0
            ofQuarter 3 4 = 0
            count 6 = 0
            """);
        Edge.unchanged("ofQuarter: the first is swept", Scenes.ALL_CLOSED + "sweep = 0\n", """
            ofQuarter 0 4 = 1
            ofQuarter 1 4 = 0
            ofQuarter 2 4 = 0
            ofQuarter 3 4 = 0
            count 6 = 1
            """);
        Edge.unchanged("ofQuarter: two are swept", Scenes.ALL_CLOSED + "sweep = 0\nsweep = 2\n", """
            ofQuarter 0 4 = 1
            ofQuarter 1 4 = 0
            ofQuarter 2 4 = 1
            ofQuarter 3 4 = 0
            count 6 = 2
            """);
        Edge.unchanged("ofQuarter: all but the last are swept", Scenes.THREE_SWEPT, """
            ofQuarter 0 4 = 1
            ofQuarter 1 4 = 1
            ofQuarter 2 4 = 1
            ofQuarter 3 4 = 0
            count 6 = 3
            """);
        Edge.unchanged("ofQuarter: swept, and the others not all yet", Scenes.THREE_SWEPT + "sweep = 3\n", """
            ofQuarter 0 4 = 0
            ofQuarter 1 4 = 0
            ofQuarter 2 4 = 0
            ofQuarter 3 4 = 0
            count 6 = 0
            """);
    }

    private static void coloursThatAreNone() {
        Script.run("ofColour: the first colour and the last", """
            ofColour 1 0 = 300
            ofColour 6 0 = 300
            """);
        Edge.refused("ofColour: NO_SUCH if there is no such colour (1 to 6)", Scenes.BUSY, """
            ofColour 0 0 = NO_SUCH
            ofColour 7 0 = NO_SUCH
            ofColour -1 0 = NO_SUCH
            ofColour LEAST 0 = NO_SUCH
            ofColour MOST 0 = NO_SUCH
            """);
        Edge.refused("ofColour: BAD_VALUE if what is out of range", Scenes.BUSY, """
            ofColour 1 -1 = BAD_VALUE
            ofColour 6 5 = BAD_VALUE
            ofColour 1 LEAST = BAD_VALUE
            ofColour 1 MOST = BAD_VALUE
            """);
        Edge.refused("ofColour: NO_SUCH comes ahead of BAD_VALUE", Scenes.BUSY, """
            ofColour 0 5 = NO_SUCH
            ofColour 7 -1 = NO_SUCH
            """);
    }

    private static void holdersOfColours() {
        Edge.unchanged("ofColour: the hand that holds it (NONE)", "take 0 6 = 0\ntake 3 1 = 0\n", """
            ofColour 6 1 = 0
            ofColour 1 1 = 3
            ofColour 2 1 = NONE
            ofColour 5 1 = NONE
            """);
        Script.run("ofColour: NONE when it is laid down", """
            take 0 6 = 0
            take 0 0 = 6
            ofColour 6 1 = NONE
            """);
    }

    private static void placesOfColours() {
        for (int colour = 1; colour <= 6; colour++) {
            int all = 0;
            for (int place = 0; place < 8; place++) all = all << 3 | colour;
            for (int other = 1; other <= 6; other++) {
                boolean same = other == colour;
                Script.run("ofColour: places that have to have it, and what is missing", "pattern 0 " + colour + " = 0",
                    "ofColour " + other + " 3 = " + (same ? 4 : 0), "pattern 4 " + all + " = 0",
                    "ofColour " + other + " 3 = " + (same ? 36 : 0), "ofColour " + other + " 4 = " + (same ? 180 : 0));
            }
        }
        Script.run("ofColour: a pattern of no colour, and rings without one", """
            pattern 0 0 = 0
            ofColour 1 3 = 0
            ofColour 6 3 = 0
            ofColour 1 4 = 0
            """);
        Script.run("ofColour: in all rings, the closed ones too, as told by ofRing()", Scenes.ALL_CLOSED, """
            ofColour 1 4 = 0
            ofRing 4 6 = 0
            set 0 7 = 5
            ofColour 1 4 = 4
            ofRing 4 6 = 4
            """);
    }

    private static void countsThatAreNone() {
        Script.run("count: the first number and the last", """
            count 0 = 0
            count 11 = 0
            """);
        Edge.refused("count: BAD_VALUE if what is out of range", Scenes.BUSY, """
            count -1 = BAD_VALUE
            count 12 = BAD_VALUE
            count LEAST = BAD_VALUE
            count MOST = BAD_VALUE
            """);
        Script.run("count: rings that are whole, none and all, as a set", """
            count 5 = 0
            pattern 4 0 = 0
            count 5 = 16
            pattern 0 0 = 0
            count 5 = 17
            pattern 1 0 = 0
            pattern 2 0 = 0
            pattern 3 0 = 0
            count 5 = 31
            pattern 2 1 = 1
            count 5 = 27
            """);
        Script.run("count: quarters that are swept now (0 to 3)", Scenes.ALL_CLOSED, """
            count 6 = 0
            sweep = 0
            sweep = 2
            sweep = 1
            count 6 = 3
            sweep = 3
            count 6 = 0
            """);
    }

    /** Each place is full of the colour 1, and has to be. */
    private static void fullMandala() {
        SandMandalas mandala = new SandMandalas();
        for (int ring = 0; ring < 5; ring++) Script.runOn(mandala, "full", "pattern " + ring + " 011111111 = 0");
        for (int hand = 0; hand < 4; hand++) {
            Script.runOn(mandala, "full", "fill 1 9999 = 9999", "take " + hand + " 1 = 0");
            for (int i = 0; i < 40; i++) Script.due("full, pour", mandala.pour(hand, i / 8, i % 8, 99), 99);
            Script.runOn(mandala, "full", "ofColour 1 0 = 6039", "take " + hand + " 0 = 1");
        }
        Script.runOn(mandala, "a mandala that is full", """
            count 4 = 15840
            count 2 = 15840
            count 3 = 0
            count 5 = 31
            ofRing 0 5 = 3168
            ofRing 4 5 = 3168
            ofQuarter 3 0 = 3960
            ofQuarter 3 5 = 3960
            ofQuarter 3 1 = 0
            ofColour 1 2 = 15840
            ofColour 1 3 = 160
            ofColour 1 4 = 0
            lacking = 0
            needed 4 = NONE
            best = 0
            set 1 1 = 12
            breathe 0 0 = 0
            ofQuarter 0 0 = 3960
            settles 0 0 = 0
            close = 0
            close = 1
            close = 2
            close = 3
            close = 4
            sweep = 0
            sweep = 2
            sweep = 1
            count 3 = 11880
            sweep = 3
            count 3 = 15840
            count 4 = 0
            count 1 = 1
            """);
    }
}
