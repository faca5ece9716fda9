/** Promises 21 to 24: texts. */
public final class TextsTest {
    private static final String SIXTEEN = "c;c;c;c;c;c;c;c;";

    public static void main(String[] args) {
        appending();
        appendingTooMuch();
        wiping();
        faults();
        faultsOfNumbers();
        carryingOut();
        carryingOutEachOrder();
        carryingOutFaults();
        Script.finish();
    }

    private static void appending() {
        Script.run("promise 21, put", """
            put 0x63 = 1                     # c
            put 0x3b68 = 3                   # ;h
            put 0x3031 = 5                   # 01
            fault = NONE
            put 0x2121212121212121 = 13
            put 0x7e7e7e7e7e7e7e7e = 21
            fault = 5
            count 10 = 21
            count 11 = 0
            """);
        Script.run("promise 21, wrong", """
            put 0 = BAD_VALUE
            put 0x20 = BAD_VALUE
            put 0x7f = BAD_VALUE
            put 0x80 = BAD_VALUE
            put 0xff = BAD_VALUE
            put 0x2063 = BAD_VALUE
            put 0x6300 = BAD_VALUE           # no character, and bits above it
            put 0x630063 = BAD_VALUE
            put 0x6300000000000063 = BAD_VALUE
            put 0x7f63636363636363 = BAD_VALUE
            put -1 = BAD_VALUE
            put -9223372036854775808 = BAD_VALUE
            put -9223372036854775709 = BAD_VALUE
            count 10 = 0
            """);
    }

    private static void appendingTooMuch() {
        Script.run("promise 21, the longest pad", "text " + SIXTEEN.repeat(4) + "h01;h01;h01;h01 = 79", """
            put 0x633b = TOO_MANY
            put 0x20633b = BAD_VALUE
            count 10 = 79
            put 0x3b = 80
            fault = 80
            put 0x63 = TOO_MANY
            put 0x20 = BAD_VALUE
            carryOut = BAD_TEXT
            count 10 = 80
            wipe = 80
            put 0x6363636363636363 = 8
            """);
        Script.run("promise 21, eight characters at the end", "text " + SIXTEEN.repeat(4) + "h01;h01; = 72", """
            put 0x6830313b6830313b = 80
            """);
    }

    private static void wiping() {
        Script.run("promise 22, wipe", """
            wipe = 0
            text h01;x = 5
            fault = 4
            wipe = 5
            count 10 = 0
            fault = 0
            wipe = 0
            count 11 = 0
            text c = 1
            fault = NONE
            """);
    }

    private static void faults() {
        faultOf("", 0);
        faultOf("c", SandMandalas.NONE);
        faultOf("c;", 2);
        faultOf(";", 0);
        faultOf("c;;", 2);
        faultOf("cc", 1);
        faultOf("C", 0);
        faultOf("h", 1);
        faultOf("h9", 2);
        faultOf("h96", SandMandalas.NONE);
        faultOf("h01", SandMandalas.NONE);
        faultOf("h00", 2);
        faultOf("h07", 2);
        faultOf("hx1", 1);
        faultOf("h/1", 1);
        faultOf("h:1", 1);
        faultOf("h011", 3);
        faultOf("s999", SandMandalas.NONE);
        faultOf("s00", 3);
        faultOf("s0000", 4);
        faultOf("s-00", 1);
        faultOf("t9=01234560", SandMandalas.NONE);
        faultOf("t0=66666666", SandMandalas.NONE);
        faultOf("t0=07", 4);
        faultOf("t0=0000000", 10);
        faultOf("t0=000000000", 11);
        faultOf("t0=0000000;c", 10);
        faultOf("t0:", 2);
        faultOf("t0=./", 3);
        faultOf("b0+", SandMandalas.NONE);
        faultOf("b9-", SandMandalas.NONE);
        faultOf("b0", 2);
        faultOf("b0*", 2);
        faultOf("b0,", 2);
        faultOf("b+", 1);
        faultOf("b0+;b1-;c;h01;s000;p000*5;t0=00000000;c", SandMandalas.NONE);
        faultOf("b0+;b1-;c;h01;s000;p000*5;t0=00000000;q", 38);
        faultOf("c,c", 1);
    }

    private static void faultsOfNumbers() {
        faultOf("p000*0", SandMandalas.NONE);
        faultOf("p999*9", SandMandalas.NONE);
        faultOf("p000*99", SandMandalas.NONE);
        faultOf("p000*10", SandMandalas.NONE);
        faultOf("p000*100", 7);
        faultOf("p000*999", 7);
        faultOf("p000*00", 6);
        faultOf("p000*07", 6);
        faultOf("p000*", 5);
        faultOf("p000*;", 5);
        faultOf("p000*x", 5);
        faultOf("p000*-1", 5);
        faultOf("p000*1x", 6);
        faultOf("p000*1;", 7);
        faultOf("p000*12;c", SandMandalas.NONE);
        faultOf("p000*0;c", SandMandalas.NONE);
        faultOf("p0005", 4);
        faultOf("p00*5", 3);
        faultOf("c;p000*123;c", 9);
    }

    private static void faultOf(String text, long want) {
        SandMandalas mandala = new SandMandalas();
        Script.putText(mandala, text);
        Script.due("promise 23, length of '" + text + "'", mandala.count(10), text.length());
        Script.due("promise 23, fault of '" + text + "'", mandala.fault(), want);
        Script.due("promise 23, fault of '" + text + "' again", mandala.fault(), want);
        Script.due("promise 23, no change", mandala.count(11), 0);
        int first = mandala.carryOut();
        Script.due("promise 24, '" + text + "' is refused", first == SandMandalas.BAD_TEXT ? 1 : 0,
            want == SandMandalas.NONE ? 0 : 1);
        Script.due("promise 24, length then", mandala.count(10), want == SandMandalas.NONE ? 0 : text.length());
    }

    private static void carryingOut() {
        Script.run("promise 24, up to the first error", """
            text h01;p000*9;p001*9;s002;p002*9 = 29
            carryOut = 3
            count 10 = 0
            count 11 = 1
            count 2 = 18
            count 3 = 0
            at 0 0 2 1 = 0
            undo = 0                         # all of them at once
            count 2 = 0
            ofQuarter 0 2 = 0
            count 10 = 0                     # the pad stays empty
            """);
        Script.run("promise 24, none is carried out", """
            text c;h01 = 5
            carryOut = 0
            count 10 = 0
            count 11 = 1
            ofQuarter 0 2 = 0
            """);
        Script.run("promise 24, as many as there is room for",
            "text " + "h01;".repeat(19) + "h02; = 80", """
            carryOut = BAD_TEXT
            wipe = 80
            """, "text " + "h01;".repeat(19) + "h02 = 79", """
            carryOut = 20
            ofQuarter 0 2 = 2
            count 11 = 1
            """);
        Script.run("promise 24, forty orders of one letter",
            "pattern 0 0 = 0", "text " + "c;".repeat(39) + "c = 79", """
            carryOut = 1
            count 0 = 1
            """);
    }

    private static void carryingOutEachOrder() {
        Script.run("promise 24, take and pour", """
            text h01;h26;p000*9;p247*99;p247*1 = 29
            carryOut = 4
            ofQuarter 0 2 = 1
            ofQuarter 2 2 = 6
            at 0 0 0 1 = 9
            at 2 4 7 0 = 6
            at 2 4 7 1 = 99
            text p000*0 = 6
            carryOut = 0                     # no grains: BAD_VALUE
            text p000*10 = 7
            carryOut = 1
            at 0 0 0 1 = 19
            text h41 = 3
            carryOut = 0                     # no such hand
            text h11 = 3
            carryOut = 0                     # another hand holds it
            """);
        Script.run("promise 24, pattern, scrape and close", """
            text t0=00000000;c;t0=00000000 = 25
            carryOut = 2
            count 0 = 1
            text t4=12345600;t5=00000000 = 23
            carryOut = 1
            at 0 4 0 2 = 1
            at 0 4 1 2 = 2
            at 0 4 5 2 = 6
            at 0 4 6 2 = 0
            at 1 4 7 2 = 1
            ofRing 4 1 = 1
            text t3=00000065 = 11
            carryOut = 1
            at 0 3 6 2 = 6
            at 0 3 7 2 = 5
            at 0 3 0 2 = 0
            text h34;p312*44;s312;s312 = 21
            carryOut = 3
            count 3 = 44
            at 3 1 2 1 = 0
            text s012;h05 = 8
            carryOut = 0
            ofQuarter 0 2 = 0
            """);
        Script.run("promise 24, breaths", """
            text h01;p010*16;b0+ = 15
            carryOut = 3
            at 0 1 0 1 = 14
            at 0 1 1 1 = 2
            text b0- = 3
            carryOut = 1
            at 0 1 0 1 = 13
            at 0 1 7 1 = 1
            text b4+ = 3
            carryOut = 0
            text h02;p012*1;p111*1 = 17
            carryOut = 2
            text h01;p011*97;b0+ = 15
            carryOut = 3
            count 3 = 43                     # the place 2 has another colour
            """);
    }

    private static void carryingOutFaults() {
        Script.run("promise 24, a fault", """
            carryOut = BAD_TEXT
            text h01;c; = 6
            carryOut = BAD_TEXT
            count 10 = 6
            count 11 = 0
            ofQuarter 0 2 = 0
            put 0x63 = 7
            carryOut = 1
            count 10 = 0
            """);
    }
}
