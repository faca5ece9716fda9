/**
 * All that an object tells, also of its pad, its history and its slots. It is looked at in several objects that went
 * the same way, because looking back changes them, and because an object is used for 512 calls at most.
 */
final class Picture {
    private final StringBuilder told = new StringBuilder();

    private Picture() {
    }

    static String of(String... way) {
        Picture picture = new Picture();
        picture.tellSand(Script.replayed(way));
        picture.tellDues(Script.replayed(way));
        picture.tellNumbers(Script.replayed(way));
        picture.tellPast(Script.replayed(way));
        picture.tellSlot(Script.replayed(way), 0);
        picture.tellSlot(Script.replayed(way), 1);
        picture.tellPad(Script.replayed(way));
        return picture.told.toString();
    }

    private void tell(long number) {
        told.append(number).append(' ');
    }

    private void tellSand(SandMandalas mandala) {
        for (int i = 0; i < 160; i++) {
            tell(mandala.at(i / 40, i / 8 % 5, i % 8, 0));
            tell(mandala.at(i / 40, i / 8 % 5, i % 8, 1));
        }
    }

    private void tellDues(SandMandalas mandala) {
        for (int i = 0; i < 160; i++) {
            tell(mandala.at(i / 40, i / 8 % 5, i % 8, 2));
            tell(mandala.at(i / 40, i / 8 % 5, i % 8, 3));
        }
    }

    private void tellNumbers(SandMandalas mandala) {
        for (int what = 0; what < 12; what++) tell(mandala.count(what));
        for (int i = 0; i < 35; i++) tell(mandala.ofRing(i / 7, i % 7));
        for (int i = 0; i < 44; i++) tell(mandala.ofQuarter(i / 11, i % 11));
        for (int i = 0; i < 30; i++) tell(mandala.ofColour(1 + i / 5, i % 5));
        for (int what = 0; what < 5; what++) tell(mandala.needed(what));
        for (int i = 0; i < 24; i++) tell(mandala.ifBreathed(i / 6, i % 2, i / 2 % 3));
        for (int i = 0; i < 8; i++) tell(mandala.settles(i / 2, i % 2));
        tell(mandala.lacking());
        tell(mandala.best());
        tell(mandala.fault());
    }

    private void tellPast(SandMandalas mandala) {
        for (int i = 0; i < 7; i++) {
            tell(mandala.undo());
            tellBriefly(mandala);
        }
    }

    private void tellSlot(SandMandalas mandala, int slot) {
        tell(mandala.restore(slot));
        tellNumbers(mandala);
    }

    private void tellPad(SandMandalas mandala) {
        tell(mandala.carryOut());
        tellNumbers(mandala);
    }

    private void tellBriefly(SandMandalas mandala) {
        for (int what = 0; what < 12; what++) tell(mandala.count(what));
        for (int ring = 0; ring < 5; ring++) {
            tell(mandala.ofRing(ring, 1));
            tell(mandala.ofRing(ring, 3));
            tell(mandala.ofRing(ring, 5));
            tell(mandala.ofRing(ring, 6));
        }
        for (int hand = 0; hand < 4; hand++) tell(mandala.ofQuarter(hand, 2));
        for (int colour = 1; colour <= 6; colour++) tell(mandala.ofColour(colour, 0));
    }
}
