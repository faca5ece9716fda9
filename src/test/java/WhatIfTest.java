/** Promises 16 to 20: what if. */
public final class WhatIfTest {
    public static void main(String[] args) {
        neediest();
        neediestOfSeveral();
        lackingSand();
        breathsThatWouldGo();
        settling();
        settlingNever();
        bestQuarter();
        Script.finish();
    }

    private static void neediest() {
        Script.run("promise 16, needed", """
            needed 0 = NONE
            needed 5 = BAD_VALUE
            needed -1 = BAD_VALUE
            needed MOST = BAD_VALUE
            pattern 1 0 = 0
            needed 0 = NONE                  # no place has to have a colour
            pattern 1 030 = 1
            needed 0 = 0
            needed 1 = 1
            needed 2 = 1
            needed 3 = 3
            needed 4 = 5
            take 0 3 = 0
            pour 0 1 1 1 = 1
            needed 0 = 1
            needed 1 = 1
            needed 2 = 6                     # its own place, not that of the pattern
            needed 3 = 3
            set 0 50 = 5
            needed 4 = 50
            needed 5 = BAD_VALUE
            """);
        Script.run("promise 16, places of another colour are passed over", """
            pattern 2 1 = 0
            take 0 2 = 0
            pour 0 2 0 1 = 1
            needed 0 = 1
            needed 2 = 7
            take 1 2 = NOT_POSSIBLE
            take 1 1 = 0
            pour 1 2 7 4 = 4
            take 1 0 = 1
            take 2 1 = 0
            pour 2 2 0 5 = 5
            take 2 0 = 1
            take 3 1 = 0
            pour 3 2 7 3 = 3
            needed 0 = 3                     # 3 grains are fewer than 4
            needed 4 = 2
            pour 3 2 7 2 = 5
            needed 0 = 1
            needed 4 = 1
            take 3 0 = 1
            take 1 1 = 0
            pour 1 2 7 1 = 5
            needed 4 = NONE                  # the place with another colour is no such place
            """);
    }

    private static void neediestOfSeveral() {
        Script.run("promise 16, the lowest of several", """
            pattern 3 011 = 0
            pattern 2 060000000 = 0
            needed 1 = 2
            needed 0 = 0
            needed 2 = 7
            take 0 6 = 0
            pour 0 2 7 1 = 1
            needed 0 = 1
            needed 1 = 2
            needed 2 = 0
            take 0 0 = 6
            take 1 6 = 0
            pour 1 2 0 1 = 1
            needed 0 = 2
            take 1 0 = 6
            take 2 6 = 0
            pour 2 2 7 1 = 1
            needed 0 = 3
            take 2 0 = 6
            take 3 6 = 0
            pour 3 2 0 1 = 1
            needed 1 = 3                     # bare places of a higher ring need more
            needed 0 = 0
            needed 2 = 0
            """);
        Script.run("promise 16, open rings alone", Scenes.FOUR_CLOSED, """
            needed 1 = 4
            """, Scenes.LAST_RING_POURED, """
            needed 1 = NONE
            set 0 8 = 5
            needed 4 = 2
            set 0 5 = 8
            close = 4
            set 0 8 = 5
            needed 4 = NONE
            """);
    }

    private static void lackingSand() {
        Script.run("promise 17, lacking", """
            lacking = 0
            pattern 0 011111111 = 0
            lacking = 0                      # 160 of 300
            pattern 1 001111111 = 0
            lacking = 0                      # 300 of 300
            pattern 1 011111111 = 1
            lacking = 2                      # 320 of 300
            fill 1 19 = 319
            lacking = 2
            fill 1 1 = 320
            lacking = 0
            set 0 6 = 5
            lacking = 2
            pattern 2 066666666 = 0
            set 0 10 = 6
            lacking = 66
            take 0 6 = 0
            pour 0 2 0 5 = 5
            lacking = 66                     # 315 of 295
            fill 6 20 = 315
            lacking = 2
            scrape 0 2 0 = 5
            lacking = 66
            """);
        Script.run("promise 17, closed rings count too", Scenes.ALL_CLOSED, """
            set 0 50 = 5
            lacking = 0
            take 3 0 = 1
            take 0 1 = 0
            sweep = 0
            sweep = 2
            lacking = 0                      # 188 of 276
            set 0 50 = 50
            """);
        Script.run("promise 17, when they lack", """
            pattern 0 1 = 0
            take 0 1 = 0
            pour 0 0 0 5 = 5
            pour 0 1 0 99 = 99
            pour 0 1 1 99 = 99
            take 0 0 = 1
            take 1 1 = 0
            pour 1 0 7 5 = 5
            take 1 0 = 1
            take 2 1 = 0
            pour 2 0 0 5 = 5
            take 2 0 = 1
            take 3 1 = 0
            pour 3 0 7 5 = 5
            close = 0
            lacking = 0
            set 0 25 = 5
            lacking = 0                      # 80 of 82
            set 0 26 = 25
            lacking = 2                      # 84 of 82
            """);
    }

    private static void breathsThatWouldGo() {
        Script.run("promise 18, ifBreathed", """
            pattern 0 0111 = 0
            take 0 1 = 0
            pour 0 0 1 40 = 40
            ifBreathed 0 0 0 = 0
            ifBreathed 0 0 1 = 0             # 26 stay
            ifBreathed 0 0 2 = 1             # 14 come to the place 2
            ifBreathed 0 1 2 = 1             # or to the place 0
            pour 0 0 2 40 = 40
            ifBreathed 0 0 1 = 1             # the place 3 has to be bare
            ifBreathed 0 0 2 = 0
            set 0 27 = 5
            ifBreathed 0 0 1 = 2             # the place 1 keeps 26, and the place 3 is not bare
            ifBreathed 0 1 0 = 0
            take 0 2 = 1
            pour 0 0 3 1 = 1
            ifBreathed 0 0 0 = 14
            ifBreathed 0 0 1 = 1
            ifBreathed 0 1 0 = 0
            ifBreathed 1 0 0 = 0
            at 0 0 1 1 = 40                  # nothing changes
            at 0 0 2 1 = 40
            count 3 = 0
            count 11 = 6
            """);
        Script.run("promise 18, closed rings stay", Scenes.ALL_CLOSED, """
            set 1 1 = 12
            ifBreathed 0 0 0 = 0
            ifBreathed 0 0 1 = 0
            ifBreathed 0 0 2 = 0
            """);
        Script.run("promise 18, each place once", """
            pattern 1 1 = 0
            take 0 1 = 0
            pour 0 1 7 60 = 60
            ifBreathed 0 0 2 = 1
            ifBreathed 0 1 2 = 0
            scrape 0 1 7 = 60
            pour 0 1 0 60 = 60
            set 0 50 = 5
            ifBreathed 0 0 1 = 2             # the place 0 keeps 36, and the place 1 has to be bare
            ifBreathed 0 1 1 = 2             # or the place 7
            """);
        Script.run("promise 18, of one quarter", """
            pattern 0 0 = 0
            take 1 1 = 0
            pour 1 0 0 40 = 40
            ifBreathed 0 0 2 = 0
            ifBreathed 0 0 1 = 0
            ifBreathed 2 0 1 = 0
            ifBreathed 1 0 1 = 1             # the place 1 has to be bare
            ifBreathed 1 1 1 = 1
            settles 0 0 = 0
            settles 2 0 = 0
            """);
        Script.run("promise 18, wrong", """
            ifBreathed 4 2 3 = NO_SUCH
            ifBreathed -1 0 0 = NO_SUCH
            ifBreathed 0 2 0 = BAD_VALUE
            ifBreathed 0 -1 0 = BAD_VALUE
            ifBreathed 0 0 3 = BAD_VALUE
            ifBreathed 0 0 -1 = BAD_VALUE
            """);
    }

    private static void settling() {
        Script.run("promise 19, settles", """
            settles 0 0 = 0
            take 0 1 = 0
            pour 0 0 0 13 = 13
            settles 0 0 = 0
            pour 0 0 0 1 = 14
            settles 0 0 = 1
            settles 0 1 = 1
            settles 1 0 = 0
            pour 0 0 0 2 = 16
            settles 0 0 = 2                  # 14 and 2, 13 and 3
            pour 0 4 0 24 = 24
            settles 0 0 = 4                  # 18, 15, 13 + 11, .. 13 + 12
            at 0 0 0 1 = 16                  # nothing changes
            count 11 = 5
            settles 4 0 = NO_SUCH
            settles -1 2 = NO_SUCH
            settles 0 2 = BAD_VALUE
            settles 0 -1 = BAD_VALUE
            """);
        Script.run("promise 19, closed rings are still", Scenes.ALL_CLOSED, """
            set 1 1 = 12
            settles 0 0 = 0
            """);
    }

    private static void settlingNever() {
        Script.run("promise 19, never still", """
            set 1 1 = 12
            take 0 1 = 0
            pour 0 0 0 3 = 3
            pour 0 0 1 2 = 2
            pour 0 0 2 2 = 2
            pour 0 0 3 2 = 2
            pour 0 0 4 2 = 2
            pour 0 0 5 2 = 2
            pour 0 0 6 2 = 2
            settles 0 0 = 7                  # the last one lands in the bare place 7
            pour 0 0 7 2 = 2
            settles 0 0 = NONE               # a grain goes around for ever
            settles 0 1 = NONE
            set 1 2 = 1
            settles 0 0 = 0
            """);
        Script.run("promise 19, what flows evenly changes nothing", """
            set 1 1 = 12
            take 0 1 = 0
            pour 0 0 0 21 = 21
            pour 0 0 1 21 = 21
            pour 0 0 2 21 = 21
            pour 0 0 3 21 = 21
            pour 0 0 4 21 = 21
            pour 0 0 5 21 = 21
            pour 0 0 6 21 = 21
            pour 0 0 7 21 = 21
            settles 0 0 = 0
            ifBreathed 0 0 0 = 0
            """);
    }

    private static void bestQuarter() {
        Script.run("promise 20, a single right place", """
            pattern 2 011111111 = 0
            take 1 1 = 0
            pour 1 2 3 5 = 5
            best = 1
            """);
        Script.run("promise 20, best", """
            best = 0
            pattern 0 1 = 0
            pattern 4 2 = 0
            best = 0
            take 2 1 = 0
            pour 2 0 0 4 = 4
            best = 0
            pour 2 0 0 1 = 5
            best = 2
            take 3 2 = 0
            pour 3 4 7 5 = 5
            best = 2                         # of several the lowest
            pour 3 3 7 5 = 5                 # a ring without a pattern
            best = 2
            take 2 0 = 1
            take 1 1 = 0
            pour 1 0 7 9 = 9
            best = 1
            take 1 0 = 1
            take 3 1 = 2
            pour 3 0 7 5 = 5
            best = 3
            take 0 3 = 0
            pour 0 4 1 1 = 1
            best = 3
            """);
    }
}
