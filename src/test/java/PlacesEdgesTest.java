/** Promises 6 to 10, each sentence with a boundary by itself: the last that is allowed, the first that is not. */
public final class PlacesEdgesTest {
    public static void main(String[] args) {
        placesThatArePoured();
        grainsThatArePoured();
        poursThatAreNotPossible();
        placesThatAreFull();
        orderOfPouringErrors();
        placesThatAreScraped();
        scrapesThatAreNotPossible();
        breathsOfNoKind();
        placesAtTheHeap();
        halvesAreRoundedDown();
        breathsGoAround();
        grainsThatComeToAPlace();
        breathsOverFullPlaces();
        breathsOverClosedRings();
        breathsOverOneQuarter();
        ringsThatAreNotWhole();
        ringsInTheirOrder();
        placesOfAWholeRing();
        quartersInTheirOrder();
        ringsBehindTheLastQuarter();
        Script.finish();
    }

    private static void placesThatArePoured() {
        Script.run("pour: the first hand, ring and place, and the last", """
            take 0 1 = 0
            take 3 2 = 0
            pour 0 0 0 1 = 1
            pour 3 4 7 2 = 2
            at 0 0 0 0 = 1
            at 0 0 0 1 = 1
            at 3 4 7 0 = 2
            at 3 4 7 1 = 2
            count 4 = 3
            """);
        Edge.refused("pour: NO_SUCH if there is no such hand, ring or place", Scenes.BUSY, """
            pour -1 1 0 1 = NO_SUCH
            pour 4 1 0 1 = NO_SUCH
            pour 0 -1 0 1 = NO_SUCH
            pour 0 5 0 1 = NO_SUCH
            pour 0 1 -1 1 = NO_SUCH
            pour 0 1 8 1 = NO_SUCH
            pour LEAST 1 0 1 = NO_SUCH
            pour MOST 1 0 1 = NO_SUCH
            pour 0 LEAST 0 1 = NO_SUCH
            pour 0 MOST 0 1 = NO_SUCH
            pour 0 1 LEAST 1 = NO_SUCH
            pour 0 1 MOST 1 = NO_SUCH
            """);
    }

    private static void grainsThatArePoured() {
        Script.run("pour: grains is 1 to 99", """
            take 0 1 = 0
            pour 0 0 0 1 = 1
            pour 0 0 1 99 = 99
            ofColour 1 0 = 200
            count 2 = 100
            """);
        Edge.refused("pour: BAD_VALUE if grains is out of range", Scenes.BUSY, """
            pour 0 1 0 0 = BAD_VALUE
            pour 0 1 0 100 = BAD_VALUE
            pour 0 1 0 -1 = BAD_VALUE
            pour 0 1 0 LEAST = BAD_VALUE
            pour 0 1 0 MOST = BAD_VALUE
            """);
    }

    private static void poursThatAreNotPossible() {
        Edge.refused("pour: NOT_POSSIBLE if it holds no funnel", Scenes.BUSY, """
            pour 2 1 0 1 = NOT_POSSIBLE
            pour 3 4 7 99 = NOT_POSSIBLE
            """);
        Edge.refused("pour: NOT_POSSIBLE if it laid its funnel down", Scenes.BUSY + "take 0 0 = 1\n",
            "pour 0 1 0 1 = NOT_POSSIBLE");
        Edge.refused("pour: NOT_POSSIBLE if the ring is closed", Scenes.BUSY, """
            pour 0 0 0 1 = NOT_POSSIBLE
            pour 1 0 7 1 = NOT_POSSIBLE
            """);
        Script.run("pour: the ring behind the last closed one is open", Scenes.BUSY, "pour 0 1 1 1 = 1");
        Edge.refused("pour: NOT_POSSIBLE in the last ring if it is closed", Scenes.ALL_CLOSED, """
            pour 3 4 0 1 = NOT_POSSIBLE
            pour 3 4 7 1 = NOT_POSSIBLE
            """);
        Edge.refused("pour: NOT_POSSIBLE until the last quarter is swept",
            Scenes.THREE_SWEPT + "take 3 0 = 1\ntake 0 1 = 0\n",
            "pour 0 4 0 1 = NOT_POSSIBLE");
        Edge.refused("pour: NOT_POSSIBLE if the place has another colour",
            Scenes.BUSY + "take 1 3 = 2\n", "pour 1 1 6 1 = NOT_POSSIBLE");
        Script.run("pour: a place of its own colour, and a bare one", Scenes.BUSY, """
            pour 1 1 6 1 = 5
            take 1 3 = 2
            pour 1 1 5 1 = 1
            scrape 1 1 6 = 5
            pour 1 1 6 1 = 1                     # a place that was scraped bare
            at 1 1 6 0 = 3
            """);
        Edge.refused("pour: NOT_POSSIBLE if the funnel has too few grains", Scenes.BUSY, """
            pour 0 1 1 4 = NOT_POSSIBLE
            pour 0 1 1 99 = NOT_POSSIBLE
            """);
        Script.run("pour: all grains of the funnel", Scenes.BUSY, """
            pour 0 1 1 3 = 3
            ofColour 1 0 = 0
            pour 0 1 1 1 = NOT_POSSIBLE          # none is left
            """);
    }

    private static void placesThatAreFull() {
        Script.run("pour: a place can have 99", Scenes.BUSY, """
            fill 1 100 = 103
            pour 0 1 0 79 = 99
            """);
        Edge.refused("pour: TOO_MANY if the place would have more than 99", Scenes.BUSY + "fill 1 100 = 103\n", """
            pour 0 1 0 80 = TOO_MANY
            pour 0 1 0 99 = TOO_MANY
            pour 0 2 3 1 = TOO_MANY
            pour 0 3 7 99 = TOO_MANY
            """);
    }

    private static void orderOfPouringErrors() {
        Edge.refused("pour: NO_SUCH comes ahead of BAD_VALUE and of NOT_POSSIBLE", Scenes.BUSY, """
            pour 4 1 0 0 = NO_SUCH
            pour 0 5 0 100 = NO_SUCH
            pour 0 1 8 -1 = NO_SUCH
            pour 2 1 8 1 = NO_SUCH
            pour 0 0 -1 1 = NO_SUCH
            """);
        Edge.refused("pour: BAD_VALUE comes ahead of NOT_POSSIBLE and of TOO_MANY", Scenes.BUSY, """
            pour 2 1 0 0 = BAD_VALUE             # no funnel
            pour 0 0 0 0 = BAD_VALUE             # a closed ring
            pour 0 0 0 100 = BAD_VALUE
            pour 0 2 3 100 = BAD_VALUE           # a full place
            """);
        Edge.refused("pour: NOT_POSSIBLE comes ahead of TOO_MANY", Scenes.BUSY, """
            pour 0 2 3 4 = NOT_POSSIBLE          # too few grains in the funnel for a full place
            """);
        Edge.refused("pour: NOT_POSSIBLE for another colour comes ahead of TOO_MANY",
            Scenes.BUSY + "take 0 3 = 1\n", "pour 0 2 3 1 = NOT_POSSIBLE");
        Edge.refused("pour: NOT_POSSIBLE without a funnel comes ahead of TOO_MANY",
            Scenes.BUSY + "take 0 0 = 1\n", "pour 0 2 3 1 = NOT_POSSIBLE");
        Edge.refused("pour: NOT_POSSIBLE in a closed ring comes ahead of TOO_MANY",
            Scenes.ALL_CLOSED, "pour 3 4 7 99 = NOT_POSSIBLE");
    }

    private static void placesThatAreScraped() {
        Script.run("scrape: the first quarter, ring and place, and the last", """
            take 0 1 = 0
            take 3 2 = 0
            pour 0 0 0 1 = 1
            pour 3 4 7 99 = 99
            scrape 0 0 0 = 1                     # the last grain
            scrape 3 4 7 = 99
            count 3 = 100
            count 4 = 0
            ofColour 1 0 = 299                   # the funnels get nothing back
            ofColour 2 0 = 201
            """);
        Edge.refused("scrape: NO_SUCH if there is no such quarter, ring or place", Scenes.BUSY, """
            scrape -1 1 0 = NO_SUCH
            scrape 4 1 0 = NO_SUCH
            scrape 0 -1 0 = NO_SUCH
            scrape 0 5 0 = NO_SUCH
            scrape 0 1 -1 = NO_SUCH
            scrape 0 1 8 = NO_SUCH
            scrape LEAST 1 0 = NO_SUCH
            scrape MOST 1 0 = NO_SUCH
            scrape 0 LEAST 0 = NO_SUCH
            scrape 0 MOST 0 = NO_SUCH
            scrape 0 1 LEAST = NO_SUCH
            scrape 0 1 MOST = NO_SUCH
            """);
        Edge.refused("scrape: NO_SUCH comes ahead of NOT_POSSIBLE", Scenes.BUSY, """
            scrape 4 0 0 = NO_SUCH
            scrape 0 0 8 = NO_SUCH
            """);
    }

    private static void scrapesThatAreNotPossible() {
        Edge.refused("scrape: NOT_POSSIBLE if the place is bare", Scenes.BUSY, """
            scrape 0 1 1 = NOT_POSSIBLE
            scrape 1 1 7 = NOT_POSSIBLE
            scrape 3 4 7 = NOT_POSSIBLE
            """);
        Edge.refused("scrape: NOT_POSSIBLE if the place was scraped", Scenes.BUSY + "scrape 0 2 3 = 99\n",
            "scrape 0 2 3 = NOT_POSSIBLE");
        Edge.refused("scrape: NOT_POSSIBLE if the ring is closed", Scenes.ALL_CLOSED, """
            scrape 0 4 0 = NOT_POSSIBLE
            scrape 3 4 7 = NOT_POSSIBLE
            """);
        Edge.refused("scrape: NOT_POSSIBLE in the first ring if it alone is closed",
            Scenes.WHOLE_FIRST_RING + "close = 0\n", "scrape 0 0 0 = NOT_POSSIBLE");
        Script.run("scrape: the ring behind the last closed one is open", Scenes.BUSY, "scrape 0 1 0 = 20");
        Edge.refused("scrape: NOT_POSSIBLE until the last quarter is swept", Scenes.THREE_SWEPT,
            "scrape 3 4 7 = NOT_POSSIBLE");
    }

    private static void breathsOfNoKind() {
        Script.run("breathe: the first quarter and the last, both directions", """
            breathe 0 0 = 0
            breathe 0 1 = 0
            breathe 3 0 = 0
            breathe 3 1 = 0
            count 11 = 4                         # a change, also if nothing moves
            """);
        Edge.refused("breathe: NO_SUCH if there is no such quarter", Scenes.BUSY, """
            breathe -1 0 = NO_SUCH
            breathe 4 0 = NO_SUCH
            breathe LEAST 1 = NO_SUCH
            breathe MOST 1 = NO_SUCH
            """);
        Edge.refused("breathe: BAD_VALUE if down is neither", Scenes.BUSY, """
            breathe 0 -1 = BAD_VALUE
            breathe 0 2 = BAD_VALUE
            breathe 0 LEAST = BAD_VALUE
            breathe 0 MOST = BAD_VALUE
            """);
        Edge.refused("breathe: NO_SUCH comes ahead of BAD_VALUE", Scenes.BUSY, """
            breathe 4 2 = NO_SUCH
            breathe -1 -1 = NO_SUCH
            """);
    }

    private static void placesAtTheHeap() {
        Script.run("HEAP: a place with just as many grains spills nothing", """
            take 0 1 = 0
            pour 0 0 0 12 = 12
            breathe 0 0 = 0
            at 0 0 0 1 = 12
            at 0 0 1 0 = 0
            set 1 11 = 12
            pour 0 0 0 1 = 13
            breathe 0 0 = 0                      # half of 2
            at 0 0 0 1 = 12
            at 0 0 1 1 = 1
            """);
        Script.run("HEAP at its most: a full place spills nothing", """
            set 1 99 = 12
            take 0 1 = 0
            pour 0 0 0 99 = 99
            breathe 0 0 = 0
            at 0 0 0 1 = 99
            at 0 0 1 0 = 0
            set 1 97 = 99
            breathe 0 0 = 0
            at 0 0 0 1 = 98
            at 0 0 1 1 = 1
            """);
        Script.run("HEAP at its least", """
            set 1 1 = 12
            take 0 1 = 0
            pour 0 0 0 1 = 1
            breathe 0 0 = 0
            at 0 0 0 1 = 1
            pour 0 0 0 98 = 99
            breathe 0 0 = 0
            at 0 0 0 1 = 50
            at 0 0 1 1 = 49
            """);
    }

    private static void halvesAreRoundedDown() {
        Script.run("Divisions are rounded down: half of 1", """
            take 0 1 = 0
            pour 0 0 0 13 = 13
            breathe 0 0 = 0
            at 0 0 0 1 = 13
            at 0 0 1 0 = 0
            at 0 0 1 1 = 0
            """);
        Script.run("Divisions are rounded down: half of 2, half of 3", """
            take 0 1 = 0
            pour 0 0 0 14 = 14
            pour 0 1 0 15 = 15
            breathe 0 0 = 0
            at 0 0 0 1 = 13
            at 0 0 1 1 = 1
            at 0 1 0 1 = 14
            at 0 1 1 1 = 1
            """);
    }

    private static void breathsGoAround() {
        Script.run("breath: to higher places, behind the place 7 comes the place 0", """
            take 2 1 = 0
            pour 2 3 7 22 = 22
            breathe 2 0 = 0
            at 2 3 7 1 = 17
            at 2 3 0 1 = 5
            at 2 3 0 0 = 1
            at 2 3 6 1 = 0
            at 2 4 0 1 = 0                       # in its own ring
            at 3 3 0 1 = 0
            """);
        Script.run("breath: to lower places, behind the place 0 comes the place 7", """
            take 2 1 = 0
            pour 2 3 0 22 = 22
            breathe 2 1 = 0
            at 2 3 0 1 = 17
            at 2 3 7 1 = 5
            at 2 3 7 0 = 1
            at 2 3 1 1 = 0
            at 2 2 7 1 = 0
            at 1 3 7 1 = 0
            """);
        Script.run("breath: a mirrored quarter goes by its own places", """
            take 1 1 = 0
            pour 1 0 3 22 = 22
            breathe 1 0 = 0
            at 1 0 4 1 = 5
            at 1 0 2 1 = 0
            """);
        Script.run("breath: around the ring, onto another colour", """
            take 0 2 = 0
            pour 0 0 0 1 = 1
            pour 0 1 7 1 = 1
            take 0 1 = 2
            pour 0 0 7 22 = 22
            pour 0 1 0 23 = 23
            breathe 0 0 = 5
            at 0 0 0 0 = 2
            at 0 0 0 1 = 1
            breathe 0 1 = 3                      # 18 are left at the place 0 of the ring 1
            at 0 1 7 0 = 2
            at 0 1 7 1 = 1
            count 3 = 8
            """);
    }

    private static void grainsThatComeToAPlace() {
        Script.run("breath: onto a place without grains, which gets their colour", """
            take 0 4 = 0
            pour 0 0 2 99 = 99
            breathe 0 0 = 0
            at 0 0 3 0 = 4
            at 0 0 3 1 = 43
            """);
        Script.run("breath: onto a single grain of its colour, and of another one", """
            take 0 4 = 0
            pour 0 0 2 99 = 99
            pour 0 0 3 1 = 1
            pour 0 1 2 99 = 99
            take 0 5 = 4
            pour 0 1 3 1 = 1
            breathe 0 0 = 43
            at 0 0 3 0 = 4
            at 0 0 3 1 = 44
            at 0 1 2 1 = 56                      # what is lost has left its place
            at 0 1 3 0 = 5
            at 0 1 3 1 = 1
            count 3 = 43
            count 4 = 157
            """);
        Script.run("breath: a place without grains that gets none stays bare", """
            take 0 4 = 0
            pour 0 0 2 13 = 13
            breathe 0 0 = 0
            at 0 0 3 0 = 0
            at 0 0 1 0 = 0
            """);
        Script.run("breath: with the grains as they are ahead of it", """
            set 1 1 = 12
            take 0 1 = 0
            pour 0 0 6 41 = 41
            pour 0 0 7 1 = 1
            breathe 0 0 = 0
            at 0 0 6 1 = 21
            at 0 0 7 1 = 21                      # nothing of what came goes on
            at 0 0 0 1 = 0
            breathe 0 0 = 0
            at 0 0 6 1 = 11
            at 0 0 7 1 = 21                      # 10 went, and 10 came
            at 0 0 0 1 = 10
            """);
        Script.run("breath: in each open ring, all that is lost", """
            take 0 2 = 0
            pour 0 0 1 1 = 1
            pour 0 4 1 1 = 1
            take 0 1 = 2
            pour 0 0 0 20 = 20
            pour 0 4 0 30 = 30
            breathe 0 0 = 13
            count 3 = 13
            """);
    }

    private static void breathsOverFullPlaces() {
        Script.run("breath: a place never has more than 99 grains, and 99 stay 99", """
            set 1 1 = 12
            fill 1 492 = 792
            take 0 1 = 0
            pour 0 2 0 99 = 99
            pour 0 2 1 99 = 99
            pour 0 2 2 99 = 99
            pour 0 2 3 99 = 99
            pour 0 2 4 99 = 99
            pour 0 2 5 99 = 99
            pour 0 2 6 99 = 99
            pour 0 2 7 99 = 99
            ofColour 1 0 = 0
            breathe 0 0 = 0
            breathe 0 1 = 0
            at 0 2 0 1 = 99
            at 0 2 7 1 = 99
            count 4 = 792
            count 3 = 0
            """);
        Script.run("breath: a full place gives and gets", """
            set 1 1 = 12
            take 0 1 = 0
            pour 0 2 0 99 = 99
            pour 0 2 1 99 = 99
            breathe 0 0 = 0
            at 0 2 0 1 = 50
            at 0 2 1 1 = 99
            at 0 2 2 1 = 49
            """);
    }

    private static void breathsOverClosedRings() {
        Script.run("breath: a closed ring is not changed, the one behind it is", Scenes.WHOLE_FIRST_RING, """
            set 1 1 = 12
            scrape 0 0 0 = 5
            take 0 1 = 0
            pour 0 0 0 50 = 50
            pour 0 1 0 50 = 50
            close = 0
            breathe 0 0 = 0
            at 0 0 0 1 = 50
            at 0 0 1 1 = 5
            at 0 1 0 1 = 26
            at 0 1 1 1 = 24
            """);
        Edge.unchanged("breath: all rings are closed, so nothing would go", Scenes.ALL_CLOSED + "set 1 1 = 12\n", """
            ifBreathed 0 0 0 = 0
            ifBreathed 3 1 1 = 0
            settles 0 0 = 0
            """);
        Script.run("breath: all rings are closed, so nothing goes", Scenes.ALL_CLOSED, """
            set 1 1 = 12
            breathe 0 0 = 0
            breathe 3 1 = 0
            at 0 4 0 1 = 6
            at 3 4 7 1 = 6
            count 4 = 24
            """);
    }

    private static void breathsOverOneQuarter() {
        for (int quarter = 0; quarter < 4; quarter++) {
            SandMandalas mandala = Script.replayed("set 1 1 = 12");
            for (int hand = 0; hand < 4; hand++) {
                mandala.take(hand, hand + 1);
                for (int i = 0; i < 5; i++) mandala.pour(hand, i, i * 7 / 4, 21);
            }
            Script.due("breath over the quarter " + quarter, mandala.breathe(quarter, quarter % 2), 0);
            for (int other = 0; other < 4; other++) {
                for (int i = 0; i < 5; i++) {
                    Script.due("breath over the quarter " + quarter + ", the place " + i + " of " + other,
                        mandala.at(other, i, i * 7 / 4, 1), other == quarter ? 11 : 21);
                }
            }
        }
    }

    private static void ringsThatAreNotWhole() {
        Edge.refused("close: NOT_POSSIBLE if it has no pattern", "", "close = NOT_POSSIBLE");
        Edge.refused("close: NOT_POSSIBLE if it is not whole", Scenes.BUSY, "close = NOT_POSSIBLE");
        for (int i = 0; i < 32; i++) {
            Edge.refused("close: NOT_POSSIBLE if a single place is bare",
                Scenes.WHOLE_FIRST_RING + "scrape " + i / 8 + " 0 " + i % 8 + " = 5\n", "close = NOT_POSSIBLE");
        }
        for (int i = 0; i < 32; i += 7) {
            Edge.refused("close: NOT_POSSIBLE if a single grain lies where none has to be", "pattern 0 0 = 0\ntake "
                + i / 8 + " 3 = 0\npour " + i / 8 + " 0 " + i % 8 + " 1 = 1\n", "close = NOT_POSSIBLE");
        }
        Edge.refused("close: NOT_POSSIBLE if each place has a grain too few", Scenes.WHOLE_FIRST_RING + "set 0 6 = 5\n",
            "close = NOT_POSSIBLE");
        Edge.refused("close: NOT_POSSIBLE if a place has another colour",
            Scenes.WHOLE_FIRST_RING + "scrape 3 0 7 = 5\ntake 3 2 = 0\npour 3 0 7 99 = 99\n", "close = NOT_POSSIBLE");
        Script.run("close: just as many grains as a place needs", Scenes.WHOLE_FIRST_RING, "close = 0", "count 0 = 1");
    }

    private static void ringsInTheirOrder() {
        Edge.refused("close: the ring 0 comes first, though the ring 1 is whole", "pattern 1 0 = 0\n",
            "close = NOT_POSSIBLE");
        Script.run("close: one by one, and the last is the ring 4", """
            pattern 0 0 = 0
            pattern 1 0 = 0
            pattern 2 0 = 0
            pattern 3 0 = 0
            pattern 4 0 = 0
            close = 0
            ofRing 0 0 = 1
            ofRing 1 0 = 0
            close = 1
            close = 2
            close = 3
            ofRing 3 0 = 1
            ofRing 4 0 = 0
            close = 4
            ofRing 4 0 = 1
            count 0 = 5
            """);
        Edge.refused("close: NOT_POSSIBLE if all are closed", Scenes.ALL_CLOSED, "close = NOT_POSSIBLE");
        Edge.refused("close: NOT_POSSIBLE until the last quarter is swept", Scenes.THREE_SWEPT, "close = NOT_POSSIBLE");
    }

    private static void placesOfAWholeRing() {
        Script.run("a ring without a colour in its pattern is whole while it is bare", """
            ofRing 0 2 = 0
            pattern 0 0 = 0
            ofRing 0 2 = 1
            close = 0
            """);
        Script.run("a closed ring stays closed, though it is not whole any more", Scenes.ALL_CLOSED, """
            set 0 50 = 5
            ofRing 4 2 = 0
            ofRing 4 0 = 1
            count 0 = 5
            sweep = 0
            """);
        Script.run("a mirrored ring that is not whole when MIRROR is changed", Scenes.FOUR_CLOSED,
            Scenes.LAST_RING_POURED, """
            set 2 0 = 1
            close = NOT_POSSIBLE
            set 2 1 = 0
            close = 4
            """);
    }

    private static void quartersInTheirOrder() {
        Edge.refused("sweep: NOT_POSSIBLE if all rings are open", "", "sweep = NOT_POSSIBLE");
        Edge.refused("sweep: NOT_POSSIBLE if some ring is open", Scenes.BUSY, "sweep = NOT_POSSIBLE");
        Edge.refused("sweep: NOT_POSSIBLE if the last ring alone is open", Scenes.FOUR_CLOSED + Scenes.LAST_RING_POURED,
            "sweep = NOT_POSSIBLE");
        Script.run("sweep: in the order 0, 2, 1, 3: all grains of a quarter are gone", Scenes.ALL_CLOSED, """
            sweep = 0
            ofQuarter 0 0 = 0
            ofQuarter 2 0 = 6
            count 3 = 6
            sweep = 2
            ofQuarter 2 0 = 0
            ofQuarter 1 0 = 6
            count 3 = 12
            sweep = 1
            ofQuarter 1 0 = 0
            ofQuarter 3 0 = 6
            count 3 = 18
            sweep = 3
            ofQuarter 3 0 = 0
            count 3 = 24
            """);
        Script.run("sweep: quarters without a grain", Scenes.FOUR_CLOSED, """
            pattern 4 0 = 1
            close = 4
            sweep = 0
            sweep = 2
            sweep = 1
            sweep = 3
            count 1 = 1
            count 3 = 0
            """);
    }

    private static void ringsBehindTheLastQuarter() {
        Script.run("sweep: the rings stay closed, with their patterns, until the last quarter is swept",
            Scenes.THREE_SWEPT, """
            count 0 = 5
            count 1 = 0
            ofRing 0 0 = 1
            ofRing 4 0 = 1
            ofRing 0 1 = 1
            ofRing 4 1 = 1
            count 6 = 3
            sweep = 3
            count 0 = 0
            count 1 = 1
            ofRing 0 0 = 0
            ofRing 4 0 = 0
            ofRing 0 1 = 0
            ofRing 4 1 = 0
            count 6 = 0
            """);
        Edge.refused("sweep: NOT_POSSIBLE when all rings are open again", Scenes.THREE_SWEPT + "sweep = 3\n", """
            sweep = NOT_POSSIBLE
            close = NOT_POSSIBLE
            """);
        String next = "pattern 0 0 = 0\npattern 1 0 = 0\npattern 2 0 = 0\npattern 3 0 = 0\npattern 4 0 = 0\n"
            + "close = 0\nclose = 1\nclose = 2\nclose = 3\nclose = 4\n";
        Script.run("sweep: the next mandala begins with the quarter 0", Scenes.THREE_SWEPT, "sweep = 3", next, """
            sweep = 0
            count 6 = 1
            count 1 = 1
            sweep = 2
            sweep = 1
            sweep = 3
            count 1 = 2
            """, next, "sweep = 0");
    }
}
