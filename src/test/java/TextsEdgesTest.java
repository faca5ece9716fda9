/** Promises 21 to 24, each sentence with a boundary by itself: the last that is allowed, the first that is not. */
public final class TextsEdgesTest {
    private static final String DIGITS = "0123456789";
    private static final String COLOURS = "123456";
    private static final String COLOURS_AND_NONE = "0123456";

    /** Nineteen orders of four characters; with four more the pad is full. */
    private static final String SEVENTY_SIX = "h01;".repeat(19);

    public static void main(String[] args) {
        numbersOfCharacters();
        codesThatMayStand();
        bitsAboveTheLast();
        padsThatAreFull();
        putIsNoChange();
        wiping();
        charactersThatMayStand();
        textsThatEndTooEarly();
        numbersOfTexts();
        faultsOfFullPads();
        padsThatAreNotCarriedOut();
        ordersUpToTheFirstError();
        ordersThatAreRefused();
        ordersAtTheirMost();
        manyOrders();
        carryOutIsOneChange();
        Script.finish();
    }

    private static void numbersOfCharacters() {
        Script.run("put: 1 to 8 characters, the lowest 8 bits are the last", """
            put 0x63 = 1
            put 0x3b6830313b733030 = 9
            fault = 9                            # c;h01;s00 ends too early
            put 0x30 = 10
            fault = NONE
            """);
        Edge.refused("put: BAD_VALUE if there is no character", Scenes.BUSY, "put 0 = BAD_VALUE");
    }

    private static void codesThatMayStand() {
        for (int from = 0; from < 8; from++) {
            String title = "put: a code is 33 to 126, at " + from;
            SandMandalas mandala = new SandMandalas();
            Script.due(title, mandala.put(withCode(from, 33)), 8);
            Script.due(title, mandala.put(withCode(from, 126)), 16);
            Edge.refused(title, Scenes.BUSY, "put " + withCode(from, 32) + " = BAD_VALUE");
            Edge.refused(title, Scenes.BUSY, "put " + withCode(from, 127) + " = BAD_VALUE");
            Edge.refused(title, Scenes.BUSY, "put " + withCode(from, 128) + " = BAD_VALUE");
            Edge.refused(title, Scenes.BUSY, "put " + withCode(from, 255) + " = BAD_VALUE");
            Edge.refused(title, Scenes.BUSY, "put " + withCode(from, 1) + " = BAD_VALUE");
        }
        for (int code = 0; code < 256; code++) {
            boolean allowed = code >= 33 && code <= 126;
            Script.due("put: the code " + code, new SandMandalas().put(code), allowed ? 1 : SandMandalas.BAD_VALUE);
        }
        Edge.refused("put: BAD_VALUE if each code is out of range", Scenes.BUSY, """
            put -1 = BAD_VALUE
            put -9223372036854775808 = BAD_VALUE
            put 9223372036854775807 = BAD_VALUE
            """);
    }

    /** Eight times "c", but for the character that is so many places from the end. */
    private static long withCode(int fromEnd, long code) {
        long all = 0x6363636363636363L;
        return all & ~(255L << 8 * fromEnd) | code << 8 * fromEnd;
    }

    private static void bitsAboveTheLast() {
        Edge.refused("put: BAD_VALUE if a bit above 8 bits that are 0 is not 0", Scenes.BUSY, """
            put 0x6300 = BAD_VALUE               # no character, and bits above it
            put 0x630063 = BAD_VALUE
            put 0x010063 = BAD_VALUE
            put 0x6300000000000063 = BAD_VALUE
            put 0x0100000000000063 = BAD_VALUE
            put 0x6300636363636363 = BAD_VALUE
            put -9223372036854775709 = BAD_VALUE # the highest bit alone, and a c
            """);
        for (int bit = 16; bit < 64; bit++) {
            long characters = 0x63L | 1L << bit;
            Script.due("put: the bit " + bit, new SandMandalas().put(characters), SandMandalas.BAD_VALUE);
        }
    }

    private static void padsThatAreFull() {
        Script.run("put: a pad of 80", "text " + SEVENTY_SIX + "s00 = 79", "put 0x30 = 80", "fault = NONE");
        Script.run("put: eight more than 72", "text " + "h01;".repeat(18) + " = 72", "put 0x6830313b73303030 = 80",
            "fault = NONE");
        Edge.refused("put: TOO_MANY if the pad would be longer than 80, by one", "text " + SEVENTY_SIX + "s00 = 79\n",
            "put 0x303b = TOO_MANY\nput 0x6363636363636363 = TOO_MANY");
        Edge.refused("put: TOO_MANY if the pad would be longer than 80, by one of eight",
            "text " + "h01;".repeat(18) + "c = 73\n", "put 0x3b6830313b683032 = TOO_MANY");
        Edge.refused("put: TOO_MANY if the pad is full", "text " + SEVENTY_SIX + "s000 = 80\n", """
            put 0x3b = TOO_MANY
            put 0x3b63 = TOO_MANY
            """);
        Edge.refused("put: BAD_VALUE comes ahead of TOO_MANY", "text " + SEVENTY_SIX + "s000 = 80\n", """
            put 0 = BAD_VALUE
            put 0x20 = BAD_VALUE
            put 0x7f = BAD_VALUE
            put 0x630063 = BAD_VALUE
            """);
    }

    private static void putIsNoChange() {
        Script.run("put, wipe, fault: no change that could be undone", """
            text h01 = 3
            fault = NONE
            wipe = 3
            count 11 = 0
            undo = NOT_POSSIBLE
            """);
    }

    private static void wiping() {
        Edge.unchanged("wipe: an empty pad", "take 0 1 = 0\n", "wipe = 0");
        Script.run("wipe: a full pad", "text " + SEVENTY_SIX + "s000 = 80", """
            wipe = 80
            count 10 = 0
            fault = 0
            wipe = 0
            put 0x63 = 1
            fault = NONE
            """, "wipe = 1", "text " + SEVENTY_SIX + "s000 = 80");
        Script.run("wipe: a single character", "put 0x7e = 1", "wipe = 1", "wipe = 0");
    }

    private static void charactersThatMayStand() {
        stands("", "hpstbc");
        stands("h", DIGITS);
        stands("h0", COLOURS);
        stands("h9", COLOURS);
        stands("h01", ";");
        stands("p", DIGITS);
        stands("p9", DIGITS);
        stands("p99", DIGITS);
        stands("p999", "*");
        stands("p999*", DIGITS);
        stands("s", DIGITS);
        stands("s9", DIGITS);
        stands("s99", DIGITS);
        stands("s999", ";");
        stands("t", DIGITS);
        stands("t9", "=");
        for (int place = 0; place < 8; place++) stands("t9=" + "6".repeat(place), COLOURS_AND_NONE);
        stands("t9=60606060", ";");
        stands("b", DIGITS);
        stands("b9", "+-");
        stands("b9+", ";");
        stands("b9-", ";");
        stands("c", ";");
        stands("c;", "hpstbc");
        stands("p000*5;", "hpstbc");
        stands("h01;s000;b0+;c;t0=00000000;p000*10;", "hpstbc");
        stands("h01;s000;b0+;c;t0=00000000;p000*10;h0", COLOURS);
    }

    private static void numbersOfTexts() {
        stands("p000*0", ";");
        for (int first = 1; first <= 9; first++) {
            stands("p000*" + first, ";" + DIGITS);
            stands("p000*" + first + "0", ";");
            stands("p000*" + first + "9", ";");
        }
        for (int number = 0; number <= 99; number++) fault("p000*" + number, SandMandalas.NONE);
        fault("p000*100", 7);
        fault("p000*990", 7);
        fault("p000*00", 6);
        fault("p000*01", 6);
        fault("c;p000*100;x", 9);
    }

    /** Behind a text that is right so far just these characters can stand. */
    private static void stands(String text, String allowed) {
        for (char sign = 33; sign <= 126; sign++) {
            SandMandalas mandala = new SandMandalas();
            Script.putText(mandala, text + sign);
            boolean stands = mandala.fault() != text.length();
            String what = "fault: '" + sign + "' behind '" + text + "'";
            Script.due(what, stands ? 1 : 0, allowed.indexOf(sign) < 0 ? 0 : 1);
            SandMandalas more = new SandMandalas();
            Script.putText(more, text + sign + "~;~");
            Script.due(what + ", the first fault of several", more.fault(), text.length() + (stands ? 1 : 0));
        }
    }

    private static void textsThatEndTooEarly() {
        fault("", 0);
        for (String order : new String[] {"h01", "p000*", "s000", "t0=00000000", "b0+"}) {
            for (int length = 1; length < order.length(); length++) {
                fault(order.substring(0, length), length);
                fault("c;" + order.substring(0, length), 2 + length);
                fault(order.substring(0, length) + ";c", length);
            }
        }
        fault("p000*", 5);
        fault("c", SandMandalas.NONE);
        fault("c;", 2);
        fault("c;c;", 4);
    }

    private static void fault(String text, long want) {
        String beginning = text.isEmpty() ? "" : "text " + text + " = " + text.length() + "\n";
        Edge.unchanged("fault of '" + text + "'", beginning, "fault = " + want);
    }

    private static void faultsOfFullPads() {
        Script.run("fault: a full pad without a fault", "text " + SEVENTY_SIX + "s000 = 80", "fault = NONE");
        Script.run("fault: the last character of a full pad", "text " + SEVENTY_SIX + "s00; = 80", "fault = 79");
        Script.run("fault: a full pad that ends too early", "text " + SEVENTY_SIX + "h01; = 80", "fault = 80");
        Script.run("fault: a full pad that ends within an order", "text " + SEVENTY_SIX + "p000 = 80", "fault = 80");
        Script.run("fault: a full pad with a number at its end", "text " + "h01;".repeat(18) + "p000*9;c = 80",
            "fault = NONE");
        Script.run("fault: a full pad that ends with a number", "text " + "h01;".repeat(18) + "c;p000*1 = 80",
            "fault = NONE", "wipe = 80", "text " + "h01;".repeat(18) + "p000*100 = 80", "fault = 79");
        Script.run("fault: as many orders as a pad can hold", "text " + "c;".repeat(39) + "c = 79", "fault = NONE",
            "put 0x3b = 80", "fault = 80");
    }

    private static void padsThatAreNotCarriedOut() {
        Edge.refused("carryOut: BAD_TEXT if the pad is empty", "take 0 1 = 0\n", "carryOut = BAD_TEXT");
        Edge.refused("carryOut: BAD_TEXT if the pad has a fault at its end (then it stays)",
            "text h01;p000*9; = 11\n", "carryOut = BAD_TEXT");
        Edge.refused("carryOut: BAD_TEXT if the pad has a fault behind orders (then it stays)",
            Scenes.BUSY + "text ;x = 14\n", "carryOut = BAD_TEXT");
        Edge.refused("carryOut: BAD_TEXT if the pad is full and has a fault", "text " + SEVENTY_SIX + "h01; = 80\n",
            "carryOut = BAD_TEXT");
        Script.run("carryOut: the pad that stayed can be mended", """
            text h01; = 4
            carryOut = BAD_TEXT
            count 10 = 4
            put 0x63 = 5
            carryOut = 1
            count 10 = 0
            carryOut = BAD_TEXT
            """);
    }

    private static void ordersUpToTheFirstError() {
        Script.run("carryOut: all orders", """
            text h01;p000*9;p001*9 = 17
            carryOut = 3
            count 2 = 18
            count 10 = 0
            """);
        Script.run("carryOut: the last order returns an error", """
            text h01;p000*9;p008*9 = 17
            carryOut = 2
            count 2 = 9
            count 10 = 0
            """);
        Script.run("carryOut: what stands behind the first error is not carried out", """
            text h01;c;p000*9;h16 = 16
            carryOut = 1
            count 2 = 0
            ofQuarter 0 2 = 1
            ofQuarter 1 2 = 0
            count 10 = 0
            """);
        Script.run("carryOut: the first order returns an error", """
            text c;h01 = 5
            carryOut = 0
            ofQuarter 0 2 = 0
            count 10 = 0
            count 11 = 1
            """);
        Script.run("carryOut: an order that answers 0 is no error", """
            text h01;h01;t0=00000000;b0+;c = 25
            carryOut = 5
            count 0 = 1
            """);
    }

    private static void ordersThatAreRefused() {
        refusedOrder("h41");
        refusedOrder("h91");
        refusedOrder("h11");
        refusedOrder("p410*1");
        refusedOrder("p050*1");
        refusedOrder("p018*1");
        refusedOrder("p011*0");
        refusedOrder("p211*1");
        refusedOrder("p000*1");
        refusedOrder("p011*4");
        refusedOrder("p023*1");
        refusedOrder("s410");
        refusedOrder("s050");
        refusedOrder("s018");
        refusedOrder("s011");
        refusedOrder("s000");
        refusedOrder("t5=00000000");
        refusedOrder("t0=00000000");
        refusedOrder("b4+");
        refusedOrder("b9-");
        refusedOrder("c");
    }

    /** The call is a change, but besides the history and the pad all is as if there had been no order. */
    private static void refusedOrder(String order) {
        SandMandalas refused = Script.replayed(Scenes.BUSY, "wipe = 12", "text " + order + " = " + order.length());
        Script.due("carryOut: " + order, refused.carryOut(), 0);
        SandMandalas other = Script.replayed(Scenes.BUSY, "wipe = 12", "set 0 5 = 5");
        String title = "carryOut: " + order + " is refused and changes nothing, ";
        for (int i = 0; i < 160; i++) {
            int quarter = i / 40, ring = i / 8 % 5, place = i % 8;
            Script.due(title + "grains", refused.at(quarter, ring, place, 1), other.at(quarter, ring, place, 1));
        }
        for (int what = 0; what < 12; what++) Script.due(title + "count", refused.count(what), other.count(what));
        for (int i = 0; i < 35; i++) {
            Script.due(title + "ring", refused.ofRing(i / 7, i % 7), other.ofRing(i / 7, i % 7));
        }
        for (int i = 0; i < 44; i++) {
            Script.due(title + "quarter", refused.ofQuarter(i / 11, i % 11), other.ofQuarter(i / 11, i % 11));
        }
        for (int i = 0; i < 30; i++) {
            Script.due(title + "colour", refused.ofColour(1 + i / 5, i % 5), other.ofColour(1 + i / 5, i % 5));
        }
    }

    private static void ordersAtTheirMost() {
        Script.run("orders: the last hand, colour, ring and place, and 99 grains", """
            text h36;p347*99;b3- = 15
            carryOut = 3
            ofQuarter 3 2 = 6
            at 3 4 7 1 = 56
            at 3 4 6 1 = 43
            text s347;t4=66666666 = 16
            carryOut = 2
            at 3 4 7 1 = 0
            ofColour 6 3 = 32
            """);
        Script.run("orders: the first hand, colour, ring and place, and a single grain", """
            text h01;p000*1;s000;t0=00000001;b0+ = 31
            carryOut = 5
            count 3 = 1
            at 0 0 7 2 = 1
            at 0 0 0 2 = 0
            at 1 0 0 2 = 1
            """);
        Script.run("orders: + is to higher places, - to lower ones, around the ring", """
            text h01;p007*22;b0+ = 15
            carryOut = 3
            at 0 0 0 1 = 5
            at 0 0 6 1 = 0
            text s007;s000;p000*22;b0- = 21
            carryOut = 4
            at 0 0 7 1 = 5
            at 0 0 1 1 = 0
            """);
        Script.run("orders: numbers of one digit and of two", """
            text h01;p000*9;p001*10;p002*90;p003*99 = 34
            carryOut = 5
            at 0 0 0 1 = 9
            at 0 0 1 1 = 10
            at 0 0 2 1 = 90
            at 0 0 3 1 = 99
            """);
    }

    private static void manyOrders() {
        Script.run("carryOut: a full pad", "text h01;p000*99;" + "h01;".repeat(16) + "s000 = 80", """
            carryOut = 19
            count 2 = 99
            count 3 = 99
            count 10 = 0
            count 11 = 1
            """);
        Script.run("carryOut: as many orders as a pad can hold", "pattern 0 0 = 0", "pattern 1 0 = 0",
            "pattern 2 0 = 0", "pattern 3 0 = 0", "pattern 4 0 = 0", "text " + "c;".repeat(39) + "c = 79", """
            carryOut = 5
            count 0 = 5
            count 11 = 6
            undo = 5
            count 0 = 0
            """);
    }

    private static void carryOutIsOneChange() {
        Script.run("carryOut: one change, with all of them", """
            set 0 9 = 5
            text h01;p000*9;p001*9 = 17
            carryOut = 3
            count 11 = 2
            undo = 1
            count 2 = 0
            ofQuarter 0 2 = 0
            count 7 = 9
            undo = 0
            count 7 = 5
            """);
        Script.run("carryOut: a change also if none is carried out", """
            set 0 9 = 5
            text c = 1
            carryOut = 0
            count 11 = 2
            undo = 1
            count 7 = 9
            """);
        Script.run("carryOut: an order that returns an error takes nothing back from those before", """
            text h01;p000*9;p000*99 = 18
            carryOut = 2
            at 0 0 0 1 = 9
            count 11 = 1
            """);
    }
}
