/** Beginnings that several tests share. */
final class Scenes {
    /** The rings 0 to 3 are closed; the ring 4 wants the colour 1 at the place 0 of the pattern alone. */
    static final String FOUR_CLOSED = """
        pattern 0 0 = 0
        pattern 1 0 = 0
        pattern 2 0 = 0
        pattern 3 0 = 0
        pattern 4 1 = 0
        close = 0
        close = 1
        close = 2
        close = 3
        """;

    /** Each quarter gets 6 grains at that place, and the hand 3 keeps the funnel 1. */
    static final String LAST_RING_POURED = """
        take 0 1 = 0
        pour 0 4 0 6 = 6
        take 0 0 = 1
        take 1 1 = 0
        pour 1 4 7 6 = 6
        take 1 0 = 1
        take 2 1 = 0
        pour 2 4 0 6 = 6
        take 2 0 = 1
        take 3 1 = 0
        pour 3 4 7 6 = 6
        """;

    static final String ALL_CLOSED = FOUR_CLOSED + LAST_RING_POURED + "close = 4\n";

    /** The quarter 3 alone is left. */
    static final String THREE_SWEPT = ALL_CLOSED + "sweep = 0\nsweep = 2\nsweep = 1\n";

    /** The hand 0 poured all that was in the funnel 1 into the ring 0. */
    static final String EMPTY_FUNNEL = """
        take 0 1 = 0
        pour 0 0 0 99 = 99
        pour 0 0 1 99 = 99
        pour 0 0 2 99 = 99
        pour 0 0 3 3 = 3
        ofColour 1 0 = 0
        """;

    /** The ring 0 wants the colour 1 at each place, and each place has 5 grains of it. */
    static final String WHOLE_FIRST_RING = "pattern 0 011111111 = 0\n" + poured(0) + poured(1) + poured(2) + poured(3);

    /**
     * Something of everything, so that whatever a refused call would change is seen: the ring 0 is closed, the slot 1
     * is saved, the history is full, the pad has orders, the funnel 1 has 3 grains left, and the places (0, 2, 3) and
     * (0, 3, 7) are full.
     */
    static final String BUSY = """
        pattern 0 0 = 0
        close = 0
        save 1 = 1
        pattern 1 021 = 0
        take 0 1 = 0
        take 1 2 = 0
        pour 0 1 0 20 = 20
        pour 0 2 3 99 = 99
        pour 0 3 7 99 = 99
        pour 0 4 0 79 = 79
        pour 1 1 6 4 = 4
        text h33;p310*2;c = 12
        """;

    private Scenes() {
    }

    private static String poured(int hand) {
        StringBuilder lines = new StringBuilder("take " + hand + " 1 = 0\n");
        for (int place = 0; place < 8; place++) lines.append("pour " + hand + " 0 " + place + " 5 = 5\n");
        return lines.append("take " + hand + " 0 = 1\n").toString();
    }
}
