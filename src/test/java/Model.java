import java.util.ArrayDeque;
import java.util.ArrayList;
import java.util.Deque;
import java.util.HashMap;
import java.util.List;
import java.util.Map;
import java.util.TreeMap;
import java.util.regex.Matcher;
import java.util.regex.Pattern;

/** The document once more, written apart from the program and without care for speed, to compare answers with. */
final class Model {
    private static final int NO_SUCH = -1, BAD_VALUE = -2, BAD_TEXT = -3, TOO_MANY = -4, NOT_POSSIBLE = -5, NONE = -6;
    private static final String ORDER =
        "(h\\d[1-6]|p\\d\\d\\d\\*(0|[1-9]\\d?)|s\\d\\d\\d|t\\d=[0-6]{8}|b\\d[+-]|c)";
    private static final Pattern TEXT = Pattern.compile(ORDER + "(;" + ORDER + ")*");
    private static final List<Integer> ORDER_OF_SWEEPING = List.of(0, 2, 1, 3);

    private static final class Sand {
        int colour;
        int grains;

        Sand(int colour, int grains) {
            this.colour = colour;
            this.grains = grains;
        }
    }

    private static final class World {
        final int[] settings = {5, 12, 1};
        final Map<Integer, Sand> sand = new TreeMap<>();
        final Map<Integer, String> patterns = new HashMap<>();
        final Map<Integer, Integer> funnels = new TreeMap<>();
        final Map<Integer, Integer> held = new HashMap<>();
        int closed, swept, mandalas, poured, lost;

        World copy() {
            World copy = new World();
            System.arraycopy(settings, 0, copy.settings, 0, 3);
            sand.forEach((where, heap) -> copy.sand.put(where, new Sand(heap.colour, heap.grains)));
            copy.patterns.putAll(patterns);
            copy.funnels.putAll(funnels);
            copy.held.putAll(held);
            copy.closed = closed;
            copy.swept = swept;
            copy.mandalas = mandalas;
            copy.poured = poured;
            copy.lost = lost;
            return copy;
        }

        Sand sandAt(int quarter, int ring, int place) {
            return sand.getOrDefault(quarter * 100 + ring * 10 + place, new Sand(0, 0));
        }

        void lay(int quarter, int ring, int place, int colour, int grains) {
            if (grains == 0) sand.remove(quarter * 100 + ring * 10 + place);
            else sand.put(quarter * 100 + ring * 10 + place, new Sand(colour, grains));
        }

        boolean mirrored(int quarter) {
            return settings[2] == 1 && (quarter == 1 || quarter == 3);
        }

        /** The colour due, 0 for none, or NONE. */
        int due(int quarter, int ring, int place) {
            if (!patterns.containsKey(ring)) return NONE;
            return patterns.get(ring).charAt(mirrored(quarter) ? 7 - place : place) - '0';
        }

        boolean right(int quarter, int ring, int place) {
            Sand heap = sandAt(quarter, ring, place);
            switch (due(quarter, ring, place)) {
                case NONE: return false;
                case 0: return heap.grains == 0;
                default: return heap.colour == due(quarter, ring, place) && heap.grains >= settings[0];
            }
        }

        int missing(int quarter, int ring, int place) {
            int due = due(quarter, ring, place);
            if (due < 1) return 0;
            Sand heap = sandAt(quarter, ring, place);
            return heap.colour != due ? settings[0] : Math.max(0, settings[0] - heap.grains);
        }

        boolean whole(int ring) {
            for (int quarter = 0; quarter < 4; quarter++)
                for (int place = 0; place < 8; place++)
                    if (!right(quarter, ring, place)) return false;
            return true;
        }

        int breath(int quarter, int down) {
            int gone = 0;
            int step = down == 1 ? 7 : 1;
            for (int ring = closed; ring < 5; ring++) {
                Sand[] before = new Sand[8];
                Sand[] after = new Sand[8];
                for (int place = 0; place < 8; place++) {
                    before[place] = sandAt(quarter, ring, place);
                    after[place] = new Sand(before[place].colour, before[place].grains);
                }
                for (int place = 0; place < 8; place++) {
                    if (before[place].grains <= settings[1]) continue;
                    int spill = (before[place].grains - settings[1]) / 2;
                    int next = (place + step) % 8;
                    after[place].grains -= spill;
                    if (before[next].grains == 0 || before[next].colour == before[place].colour) {
                        after[next].grains += spill;
                        after[next].colour = before[place].colour;
                    } else {
                        gone += spill;
                    }
                }
                for (int place = 0; place < 8; place++) {
                    gone += Math.max(0, after[place].grains - 99);
                    lay(quarter, ring, place, after[place].colour, Math.min(99, after[place].grains));
                }
            }
            return gone;
        }

        String picture(int quarter) {
            StringBuilder picture = new StringBuilder();
            for (int ring = 0; ring < 5; ring++)
                for (int place = 0; place < 8; place++)
                    picture.append(sandAt(quarter, ring, place).colour).append(':')
                        .append(sandAt(quarter, ring, place).grains).append(' ');
            return picture.toString();
        }
    }

    private World world = new World();
    private final Deque<World> history = new ArrayDeque<>();
    private final World[] slots = new World[2];
    private String pad = "";

    Model() {
        for (int colour = 1; colour <= 6; colour++) world.funnels.put(colour, 300);
    }

    private static boolean in(int value, int from, int to) {
        return from <= value && value <= to;
    }

    private static boolean noPlace(int quarter, int ring, int place) {
        return !in(quarter, 0, 3) || !in(ring, 0, 4) || !in(place, 0, 7);
    }

    private interface Change {
        int made();
    }

    private int change(Change change) {
        World before = world.copy();
        int answer = change.made();
        if (answer < 0) return answer;
        history.addLast(before);
        if (history.size() > 6) history.removeFirst();
        return answer;
    }

    int set(int setting, int value) {
        return change(() -> {
            int[] most = {50, 99, 1};
            int[] least = {1, 1, 0};
            if (!in(setting, 0, 2) || !in(value, least[setting], most[setting])) return BAD_VALUE;
            int previous = world.settings[setting];
            world.settings[setting] = value;
            return previous;
        });
    }

    int pattern(int ring, int colours) {
        return change(() -> patternNow(ring, colours));
    }

    private int patternNow(int ring, int colours) {
        if (!in(ring, 0, 4)) return NO_SUCH;
        if (colours < 0) return BAD_VALUE;
        StringBuilder digits = new StringBuilder(Integer.toOctalString(colours));
        while (digits.length() < 8) digits.insert(0, '0');
        if (!digits.toString().matches("[0-6]{8}")) return BAD_VALUE;
        if (ring < world.closed) return NOT_POSSIBLE;
        return world.patterns.put(ring, digits.reverse().toString()) == null ? 0 : 1;
    }

    int take(int hand, int colour) {
        return change(() -> takeNow(hand, colour));
    }

    private int takeNow(int hand, int colour) {
        if (!in(hand, 0, 3)) return NO_SUCH;
        if (!in(colour, 0, 6)) return BAD_VALUE;
        for (Map.Entry<Integer, Integer> holding : world.held.entrySet())
            if (colour > 0 && holding.getKey() != hand && holding.getValue() == colour) return NOT_POSSIBLE;
        Integer held = world.held.remove(hand);
        if (colour > 0) world.held.put(hand, colour);
        return held == null ? 0 : held;
    }

    int fill(int colour, int grains) {
        return change(() -> {
            if (!in(colour, 1, 6)) return NO_SUCH;
            if (!in(grains, 1, 9999)) return BAD_VALUE;
            int then = world.funnels.get(colour) + grains;
            world.funnels.put(colour, then > 9999 ? 9999 : then);
            return world.funnels.get(colour);
        });
    }

    int pour(int hand, int ring, int place, int grains) {
        return change(() -> pourNow(hand, ring, place, grains));
    }

    private int pourNow(int hand, int ring, int place, int grains) {
        if (noPlace(hand, ring, place)) return NO_SUCH;
        if (!in(grains, 1, 99)) return BAD_VALUE;
        if (!world.held.containsKey(hand)) return NOT_POSSIBLE;
        if (ring < world.closed) return NOT_POSSIBLE;
        int colour = world.held.get(hand);
        Sand heap = world.sandAt(hand, ring, place);
        if (heap.grains > 0 && heap.colour != colour) return NOT_POSSIBLE;
        if (world.funnels.get(colour) < grains) return NOT_POSSIBLE;
        if (heap.grains + grains > 99) return TOO_MANY;
        world.lay(hand, ring, place, colour, heap.grains + grains);
        world.funnels.merge(colour, -grains, Integer::sum);
        world.poured += grains;
        return heap.grains + grains;
    }

    int scrape(int quarter, int ring, int place) {
        return change(() -> scrapeNow(quarter, ring, place));
    }

    private int scrapeNow(int quarter, int ring, int place) {
        if (noPlace(quarter, ring, place)) return NO_SUCH;
        Sand heap = world.sandAt(quarter, ring, place);
        if (ring < world.closed || heap.grains == 0) return NOT_POSSIBLE;
        world.lay(quarter, ring, place, 0, 0);
        world.lost += heap.grains;
        return heap.grains;
    }

    int breathe(int quarter, int down) {
        return change(() -> breatheNow(quarter, down));
    }

    private int breatheNow(int quarter, int down) {
        if (!in(quarter, 0, 3)) return NO_SUCH;
        if (!in(down, 0, 1)) return BAD_VALUE;
        int gone = world.breath(quarter, down);
        world.lost += gone;
        return gone;
    }

    int close() {
        return change(this::closeNow);
    }

    private int closeNow() {
        if (world.closed == 5 || !world.whole(world.closed)) return NOT_POSSIBLE;
        return world.closed++;
    }

    int sweep() {
        return change(() -> {
            if (world.closed < 5) return NOT_POSSIBLE;
            int quarter = ORDER_OF_SWEEPING.get(world.swept);
            world.lost += ofQuarter(quarter, 0);
            world.sand.keySet().removeIf(where -> where / 100 == quarter);
            world.swept++;
            if (world.swept == 4) {
                world.swept = 0;
                world.closed = 0;
                world.patterns.clear();
                world.mandalas++;
            }
            return quarter;
        });
    }

    int at(int quarter, int ring, int place, int what) {
        if (noPlace(quarter, ring, place)) return NO_SUCH;
        if (!in(what, 0, 4)) return BAD_VALUE;
        Sand heap = world.sandAt(quarter, ring, place);
        return List.of(heap.colour, heap.grains, world.due(quarter, ring, place),
            world.right(quarter, ring, place) ? 1 : 0, world.mirrored(quarter) ? 7 - place : place).get(what);
    }

    int ofRing(int ring, int what) {
        if (!in(ring, 0, 4)) return NO_SUCH;
        if (!in(what, 0, 6)) return BAD_VALUE;
        int wrong = 0, grains = 0, missing = 0, unlike = 0;
        for (int place = 0; place < 8; place++) {
            StringBuilder colours = new StringBuilder();
            for (int quarter = 0; quarter < 4; quarter++) {
                wrong += world.right(quarter, ring, place) ? 0 : 1;
                grains += world.sandAt(quarter, ring, place).grains;
                missing += world.missing(quarter, ring, place);
                colours.append(world.sandAt(quarter, ring, world.mirrored(quarter) ? 7 - place : place).colour);
            }
            if (!colours.toString().matches("(.)\\1\\1\\1")) unlike += (int) Math.pow(2, place);
        }
        return List.of(ring < world.closed ? 1 : 0, world.patterns.containsKey(ring) ? 1 : 0, world.whole(ring) ? 1 : 0,
            unlike, wrong, grains, missing).get(what);
    }

    int ofQuarter(int quarter, int what) {
        if (!in(quarter, 0, 3)) return NO_SUCH;
        if (!in(what, 0, 10)) return BAD_VALUE;
        int wrong = 0, grains = 0, ofColour = 0;
        for (int ring = 0; ring < 5; ring++) {
            for (int place = 0; place < 8; place++) {
                Sand heap = world.sandAt(quarter, ring, place);
                grains += heap.grains;
                if (heap.colour == what - 4) ofColour += heap.grains;
                if (world.patterns.containsKey(ring) && !world.right(quarter, ring, place)) wrong++;
            }
        }
        boolean swept = ORDER_OF_SWEEPING.subList(0, world.swept).contains(quarter);
        List<Integer> told = List.of(grains, wrong, world.held.getOrDefault(quarter, 0),
            world.mirrored(quarter) ? 1 : 0, swept ? 1 : 0);
        return what < 5 ? told.get(what) : ofColour;
    }

    int ofColour(int colour, int what) {
        if (!in(colour, 1, 6)) return NO_SUCH;
        if (!in(what, 0, 4)) return BAD_VALUE;
        int hand = NONE, grains = 0, places = 0, missing = 0;
        for (int quarter = 0; quarter < 4; quarter++) {
            if (world.held.getOrDefault(quarter, 0) == colour) hand = quarter;
            for (int i = 0; i < 40; i++) {
                Sand heap = world.sandAt(quarter, i / 8, i % 8);
                if (heap.colour == colour) grains += heap.grains;
                if (world.due(quarter, i / 8, i % 8) != colour) continue;
                places++;
                missing += world.missing(quarter, i / 8, i % 8);
            }
        }
        return List.of(world.funnels.get(colour), hand, grains, places, missing).get(what);
    }

    int count(int what) {
        if (!in(what, 0, 11)) return BAD_VALUE;
        int grains = world.sand.values().stream().mapToInt(heap -> heap.grains).sum();
        int whole = 0;
        for (int ring = 4; ring >= 0; ring--) whole = 2 * whole + (world.whole(ring) ? 1 : 0);
        return List.of(world.closed, world.mandalas).size() > what ? (what == 0 ? world.closed : world.mandalas)
            : new int[] {world.poured, world.lost, grains, whole, world.swept, world.settings[0], world.settings[1],
                world.settings[2], pad.length(), history.size()}[what - 2];
    }

    int needed(int what) {
        if (!in(what, 0, 4)) return BAD_VALUE;
        List<int[]> places = new ArrayList<>();
        for (int i = world.closed * 32; i < 160; i++) {
            int ring = i / 32, quarter = i / 8 % 4, place = i % 8;
            int due = world.due(quarter, ring, place);
            Sand heap = world.sandAt(quarter, ring, place);
            if (due < 1 || heap.grains >= world.settings[0]) continue;
            if (heap.grains > 0 && heap.colour != due) continue;
            places.add(new int[] {quarter, ring, place, due, world.settings[0] - heap.grains});
        }
        if (places.isEmpty()) return NONE;
        places.sort((one, other) -> other[4] - one[4]);
        return places.get(0)[what];
    }

    int lacking() {
        int set = 0;
        for (int colour = 1; colour <= 6; colour++)
            if (ofColour(colour, 4) > ofColour(colour, 0)) set += (int) Math.pow(2, colour);
        return set;
    }

    int ifBreathed(int quarter, int down, int what) {
        if (!in(quarter, 0, 3)) return NO_SUCH;
        if (!in(down, 0, 1) || !in(what, 0, 2)) return BAD_VALUE;
        World then = world.copy();
        int[] told = {then.breath(quarter, down), 0, 0};
        for (int i = 0; i < 40; i++) {
            boolean now = world.right(quarter, i / 8, i % 8);
            if (now != then.right(quarter, i / 8, i % 8)) told[now ? 1 : 2]++;
        }
        return told[what];
    }

    int settles(int quarter, int down) {
        if (!in(quarter, 0, 3)) return NO_SUCH;
        if (!in(down, 0, 1)) return BAD_VALUE;
        World then = world.copy();
        int breaths = 0;
        while (true) {
            String before = then.picture(quarter);
            then.breath(quarter, down);
            if (then.picture(quarter).equals(before)) return breaths;
            breaths++;
            if (breaths > 200) return NONE;
        }
    }

    int best() {
        int best = 3, most = -1;
        for (int quarter = 3; quarter >= 0; quarter--) {
            int right = 0;
            for (int i = 0; i < 40; i++) right += world.right(quarter, i / 8, i % 8) ? 1 : 0;
            if (right < most) continue;
            most = right;
            best = quarter;
        }
        return best;
    }

    int put(long characters) {
        StringBuilder text = new StringBuilder();
        boolean ended = false;
        for (int i = 0; i < 8; i++) {
            int code = (int) (characters >> 8 * i) & 255;
            if (code == 0) ended = true;
            else if (ended || code < 33 || code > 126) return BAD_VALUE;
            else text.insert(0, (char) code);
        }
        if (text.length() == 0) return BAD_VALUE;
        if (pad.length() + text.length() > 80) return TOO_MANY;
        pad += text;
        return pad.length();
    }

    int wipe() {
        int length = pad.length();
        pad = "";
        return length;
    }

    int fault() {
        for (int length = 1; length <= pad.length(); length++) {
            Matcher matcher = TEXT.matcher(pad.substring(0, length));
            if (!matcher.matches() && !matcher.hitEnd()) return length - 1;
        }
        return TEXT.matcher(pad).matches() ? NONE : pad.length();
    }

    int carryOut() {
        if (fault() != NONE) return BAD_TEXT;
        String[] orders = pad.split(";");
        pad = "";
        return change(() -> {
            int done = 0;
            for (String order : orders) {
                if (orderNow(order) < 0) break;
                done++;
            }
            return done;
        });
    }

    private int orderNow(String order) {
        int[] digits = order.chars().map(sign -> sign - '0').toArray();
        switch (order.substring(0, 1)) {
            case "h": return takeNow(digits[1], digits[2]);
            case "p": return pourNow(digits[1], digits[2], digits[3], Integer.parseInt(order.split("\\*")[1]));
            case "s": return scrapeNow(digits[1], digits[2], digits[3]);
            case "t": return patternNow(digits[1],
                Integer.parseInt(new StringBuilder(order.split("=")[1]).reverse().toString(), 8));
            case "b": return breatheNow(digits[1], order.endsWith("-") ? 1 : 0);
            default: return closeNow();
        }
    }

    int undo() {
        if (history.isEmpty()) return NOT_POSSIBLE;
        world = history.removeLast();
        return history.size();
    }

    int save(int slot) {
        if (!in(slot, 0, 1)) return BAD_VALUE;
        slots[slot] = world.copy();
        return world.closed;
    }

    int restore(int slot) {
        if (!in(slot, 0, 1)) return BAD_VALUE;
        if (slots[slot] == null) return NOT_POSSIBLE;
        return change(() -> {
            world = slots[slot].copy();
            return world.closed;
        });
    }
}
