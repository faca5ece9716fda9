import java.lang.reflect.Constructor;
import java.lang.reflect.Field;
import java.lang.reflect.Method;
import java.lang.reflect.Modifier;
import java.util.Set;
import java.util.TreeSet;

/** The public face, and promise 1: a new object. */
public final class FaceTest {
    private static final String[] METHODS = {
        "set int int", "pattern int int", "take int int", "fill int int", "pour int int int int",
        "scrape int int int", "breathe int int", "close", "sweep", "at int int int int", "ofRing int int",
        "ofQuarter int int", "ofColour int int", "count int", "needed int", "lacking", "ifBreathed int int int",
        "settles int int", "best", "put long", "wipe", "fault", "carryOut", "undo", "save int", "restore int"};

    public static void main(String[] args) {
        constantsAreAsWritten();
        nothingElseIsSeen();
        newObjectIsEmpty();
        Script.finish();
    }

    private static void constantsAreAsWritten() {
        Script.due("NO_SUCH", SandMandalas.NO_SUCH, -1);
        Script.due("BAD_VALUE", SandMandalas.BAD_VALUE, -2);
        Script.due("BAD_TEXT", SandMandalas.BAD_TEXT, -3);
        Script.due("TOO_MANY", SandMandalas.TOO_MANY, -4);
        Script.due("NOT_POSSIBLE", SandMandalas.NOT_POSSIBLE, -5);
        Script.due("NONE", SandMandalas.NONE, -6);
        Script.due("NEED", SandMandalas.NEED, 0);
        Script.due("HEAP", SandMandalas.HEAP, 1);
        Script.due("MIRROR", SandMandalas.MIRROR, 2);
    }

    private static void nothingElseIsSeen() {
        Set<String> seen = new TreeSet<>();
        Set<String> hidden = new TreeSet<>();
        for (Method method : SandMandalas.class.getDeclaredMethods()) {
            (Modifier.isPrivate(method.getModifiers()) ? hidden : seen).add(told(method));
        }
        Script.due("the methods of the face " + seen, seen.equals(new TreeSet<>(Set.of(METHODS))) ? 1 : 0, 1);
        int constants = 0;
        for (Field field : SandMandalas.class.getDeclaredFields()) {
            if (!Modifier.isPrivate(field.getModifiers())) constants++;
        }
        Script.due("constants of the face", constants, 9);
        Constructor<?>[] constructors = SandMandalas.class.getDeclaredConstructors();
        Script.due("constructors", constructors.length, 1);
        Script.due("public constructor", constructors[0].getModifiers(), Modifier.PUBLIC);
        Script.due("public final class", SandMandalas.class.getModifiers(), Modifier.PUBLIC | Modifier.FINAL);
        for (Class<?> inside : SandMandalas.class.getDeclaredClasses()) {
            Script.due(inside + " is static", inside.getModifiers() & Modifier.STATIC, Modifier.STATIC);
        }
    }

    private static String told(Method method) {
        StringBuilder told = new StringBuilder(method.getName());
        for (Class<?> kind : method.getParameterTypes()) told.append(' ').append(kind.getName());
        boolean plain = method.getReturnType() == int.class && method.getModifiers() == Modifier.PUBLIC;
        return plain ? told.toString() : told + " of another kind";
    }

    private static void newObjectIsEmpty() {
        Script.run("promise 1, numbers", """
            count 0 = 0
            count 1 = 0
            count 2 = 0
            count 3 = 0
            count 4 = 0
            count 5 = 0
            count 6 = 0
            count 7 = 5      # NEED
            count 8 = 12     # HEAP
            count 9 = 1      # MIRROR
            count 10 = 0
            count 11 = 0
            undo = NOT_POSSIBLE
            restore 0 = NOT_POSSIBLE
            restore 1 = NOT_POSSIBLE
            fault = 0
            wipe = 0
            """);
        SandMandalas mandala = new SandMandalas();
        for (int colour = 1; colour <= 6; colour++) {
            Script.due("funnel " + colour, mandala.ofColour(colour, 0), 300);
            Script.due("holder of " + colour, mandala.ofColour(colour, 1), SandMandalas.NONE);
        }
        for (int hand = 0; hand < 4; hand++) Script.due("hand " + hand, mandala.ofQuarter(hand, 2), 0);
        for (int ring = 0; ring < 5; ring++) {
            Script.due("closed " + ring, mandala.ofRing(ring, 0), 0);
            Script.due("pattern " + ring, mandala.ofRing(ring, 1), 0);
            Script.due("whole " + ring, mandala.ofRing(ring, 2), 0);
            Script.due("not right " + ring, mandala.ofRing(ring, 4), 32);
        }
        for (int i = 0; i < 160; i++) {
            Script.due("colour of " + i, mandala.at(i / 40, i / 8 % 5, i % 8, 0), 0);
            Script.due("grains of " + i, mandala.at(i / 40, i / 8 % 5, i % 8, 1), 0);
        }
    }
}
