/** Long mixed runs: each answer of the program has to be that of the model. The runs are the same every time. */
public final class RandomRunsTest {
    // An object is promised for 512 calls: a step makes some thirty at most, the look at everything 212.
    private static final int RUNS = 3000, CALLS_OF_STEPS = 260;
    private static final int[] ODD = {Integer.MIN_VALUE, Integer.MAX_VALUE, -1, -6, 4, 5, 6, 7, 8, 9, 11, 12, 99, 100};

    private static long seed;
    private static int mandalas;

    private SandMandalas mandala;
    private Model model;
    private String title;
    private int calls;
    private int oddness;

    public static void main(String[] args) {
        RandomRunsTest test = new RandomRunsTest();
        for (int run = 0; run < RUNS; run++) test.run(run);
        System.out.println("mandalas done in all runs: " + mandalas);
        Script.due("many runs get as far as sweeping everything", mandalas > 200 ? 1 : 0, 1);
        Script.finish();
    }

    private void run(int run) {
        seed = run * 7919L + 1;
        mandala = new SandMandalas();
        model = new Model();
        oddness = run % 3 == 0 ? 12 : 60;
        calls = 0;
        boolean plain = run % 2 == 0;
        boolean steady = run % 5 < 2;
        while (calls < CALLS_OF_STEPS) {
            title = "run " + run + ", call " + calls + ": ";
            int kind = any(100);
            if (steady && kind < 60) goOn();
            else if (kind < 45) change(plain);
            else if (kind < 85) look();
            else if (kind < 95) text(plain);
            else memory();
        }
        lookAll();
        mandalas += model.count(1);
    }

    /** A step towards the end of a mandala with few colours. */
    private void goOn() {
        int ring = model.count(0);
        if (ring == 5) due("sweep", mandala.sweep(), model.sweep());
        else if (model.ofRing(ring, 1) == 0 || model.ofRing(ring, 6) > 40) pattern(ring, true);
        else if (model.needed(1) == ring) pourWhatIsNeeded();
        else if (model.ofRing(ring, 2) == 1) due("close", mandala.close(), model.close());
        else scrapeWhatIsWrong(ring);
    }

    private void scrapeWhatIsWrong(int ring) {
        for (int i = 0; i < 32; i++) {
            if (model.at(i / 8, ring, i % 8, 3) == 0) scrape(i / 8, ring, i % 8);
        }
    }

    private void scrape(int quarter, int ring, int place) {
        due("scrape " + quarter + " " + ring + " " + place, mandala.scrape(quarter, ring, place),
            model.scrape(quarter, ring, place));
    }

    /** A number below a bound, from a row that is the same every time. */
    private static int any(int bound) {
        seed = seed * 6364136223846793005L + 1442695040888963407L;
        return (int) ((seed >>> 33) % bound);
    }

    /** Mostly a number below a bound, now and then one that may be out of range. */
    private int some(int bound) {
        return any(oddness) == 0 ? ODD[any(ODD.length)] : any(bound);
    }

    private void due(String call, long got, long want) {
        calls++;
        Script.due(title + call, got, want);
    }

    private void change(boolean plain) {
        switch (any(16)) {
            case 0: {
                int setting = some(3);
                int value = setting == 2 ? some(2) : 1 + some(any(3) == 0 ? 50 : 20);
                due("set " + setting + " " + value, mandala.set(setting, value), model.set(setting, value));
                break;
            }
            case 1:
            case 2: pattern(some(5), plain); break;
            case 3: take(some(4), some(7)); break;
            case 4: {
                int colour = some(6) + 1;
                int grains = 1 + some(any(5) == 0 ? 9999 : 200);
                due("fill " + colour + " " + grains, mandala.fill(colour, grains), model.fill(colour, grains));
                break;
            }
            case 5:
            case 6: pour(some(4), some(5), some(8), 1 + some(any(2) == 0 ? 99 : 30)); break;
            case 7: scrape(some(4), some(5), some(8)); break;
            case 8: {
                int quarter = some(4), down = some(2);
                due("breathe " + quarter + " " + down, mandala.breathe(quarter, down), model.breathe(quarter, down));
                break;
            }
            case 9:
            case 10: due("close", mandala.close(), model.close()); break;
            case 11:
            case 12: due("sweep", mandala.sweep(), model.sweep()); break;
            default: pourWhatIsNeeded(); break;
        }
    }

    private void pattern(int ring, boolean plain) {
        int colours = 0;
        int places = plain ? any(2) : any(9);
        for (int i = 0; i < places; i++) colours |= any(oddness) == 0 ? 7 : any(7) << 3 * any(8);
        if (any(oddness) == 0) colours = any(2) == 0 ? -1 - any(100) : 16777216 + any(100);
        due("pattern " + ring + " " + colours, mandala.pattern(ring, colours), model.pattern(ring, colours));
    }

    private void take(int hand, int colour) {
        due("take " + hand + " " + colour, mandala.take(hand, colour), model.take(hand, colour));
    }

    private void pour(int hand, int ring, int place, int grains) {
        due("pour " + hand + " " + ring + " " + place + " " + grains, mandala.pour(hand, ring, place, grains),
            model.pour(hand, ring, place, grains));
    }

    private void pourWhatIsNeeded() {
        int hand = model.needed(0);
        if (hand < 0) {
            due("close", mandala.close(), model.close());
            return;
        }
        int colour = model.needed(3);
        int holder = model.ofColour(colour, 1);
        if (holder >= 0 && holder != hand) take(holder, 0);
        take(hand, colour);
        pour(hand, model.needed(1), model.needed(2), model.needed(4) + any(2) * any(40));
    }

    private void look() {
        int quarter = some(4), ring = some(5), down = some(2);
        switch (any(12)) {
            case 0: {
                int place = some(8), what = some(5);
                due("at " + quarter + " " + ring + " " + place + " " + what, mandala.at(quarter, ring, place, what),
                    model.at(quarter, ring, place, what));
                break;
            }
            case 1:
            case 2: {
                int what = some(7);
                due("ofRing " + ring + " " + what, mandala.ofRing(ring, what), model.ofRing(ring, what));
                break;
            }
            case 3: {
                int what = some(11);
                due("ofQuarter " + quarter + " " + what, mandala.ofQuarter(quarter, what),
                    model.ofQuarter(quarter, what));
                break;
            }
            case 4: {
                int colour = some(6) + 1, what = some(5);
                due("ofColour " + colour + " " + what, mandala.ofColour(colour, what), model.ofColour(colour, what));
                break;
            }
            case 5: {
                int what = some(12);
                due("count " + what, mandala.count(what), model.count(what));
                break;
            }
            case 6: {
                int what = some(5);
                due("needed " + what, mandala.needed(what), model.needed(what));
                break;
            }
            case 7: due("lacking", mandala.lacking(), model.lacking()); break;
            case 8:
            case 9: {
                int what = some(3);
                due("ifBreathed " + quarter + " " + down + " " + what, mandala.ifBreathed(quarter, down, what),
                    model.ifBreathed(quarter, down, what));
                break;
            }
            case 10:
                due("settles " + quarter + " " + down, mandala.settles(quarter, down), model.settles(quarter, down));
                break;
            default: due("best", mandala.best(), model.best()); break;
        }
    }

    private void lookAll() {
        int quarter = any(4);
        for (int i = 0; i < 40; i++) {
            for (int what = 0; what < 5; what++) {
                String call = "at " + quarter + " " + i / 8 + " " + i % 8 + " " + what;
                due(call, mandala.at(quarter, i / 8, i % 8, what), model.at(quarter, i / 8, i % 8, what));
            }
        }
        for (int what = 0; what < 12; what++) due("count " + what, mandala.count(what), model.count(what));
    }

    private void text(boolean plain) {
        switch (any(6)) {
            case 0: due("wipe", mandala.wipe(), model.wipe()); break;
            case 1: due("fault", mandala.fault(), model.fault()); break;
            case 2: due("carryOut", mandala.carryOut(), model.carryOut()); break;
            case 3: put(oddCharacters()); break;
            default: {
                String text = model.count(10) == 0 ? "" : ";";
                int orders = 1 + any(4);
                for (int i = 0; i < orders; i++) text += (i == 0 ? "" : ";") + order(plain);
                if (any(8) == 0) text = spoiled(text);
                for (int from = 0; from < text.length(); from += 8) {
                    put(Script.packed(text.substring(from, Math.min(text.length(), from + 8))));
                }
                due("fault", mandala.fault(), model.fault());
                if (any(2) == 0) due("carryOut", mandala.carryOut(), model.carryOut());
                if (any(4) == 0) due("wipe", mandala.wipe(), model.wipe());
            }
        }
    }

    private void put(long characters) {
        due("put " + characters, mandala.put(characters), model.put(characters));
    }

    private long oddCharacters() {
        long characters = 0;
        int amount = any(9);
        for (int i = 0; i < amount; i++) {
            int code = any(6) == 0 ? any(256) : 33 + any(94);
            characters = characters << 8 | code;
        }
        return characters;
    }

    private String order(boolean plain) {
        int hand = any(oddness) == 0 ? any(10) : any(4);
        int ring = any(oddness) == 0 ? any(10) : any(5);
        int place = any(oddness) == 0 ? any(10) : any(8);
        switch (any(7)) {
            case 0: return "h" + hand + (1 + any(6));
            case 1:
            case 2: return "p" + hand + ring + place + "*" + any(100);
            case 3: return "s" + hand + ring + place;
            case 4: {
                StringBuilder order = new StringBuilder("t" + ring + "=");
                for (int i = 0; i < 8; i++) order.append(plain && any(20) > 0 ? 0 : any(7));
                return order.toString();
            }
            case 5: return "b" + hand + (any(2) == 0 ? "+" : "-");
            default: return "c";
        }
    }

    private static String spoiled(String text) {
        String signs = "hpstbc;*=+-0123456789x!~";
        int at = any(text.length());
        String sign = signs.substring(at % signs.length(), at % signs.length() + 1);
        int skipped = any(2);
        return text.substring(0, at) + (any(2) == 0 ? sign : signs.charAt(any(signs.length())))
            + text.substring(Math.min(text.length(), at + skipped));
    }

    private void memory() {
        int slot = some(2);
        switch (any(6)) {
            case 0: due("save " + slot, mandala.save(slot), model.save(slot)); break;
            case 1: due("restore " + slot, mandala.restore(slot), model.restore(slot)); break;
            default: due("undo", mandala.undo(), model.undo()); break;
        }
    }
}
