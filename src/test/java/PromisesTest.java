import java.lang.reflect.Constructor;
import java.lang.reflect.Method;
import java.lang.reflect.Modifier;

/** Each promise of the document by hand-made examples: ordinary inputs, named edges, wrong inputs. */
public final class PromisesTest {
    private static final int UNKNOWN = -1, OUTSIDE = -2, STATE = -3, FULL = -4, NO = -5, NONE = -6;
    private static final int[] WILD = {Integer.MIN_VALUE, -1000, -1, 1000, Integer.MAX_VALUE};

    private static int wrong = 0;
    private static String section = "";

    public static void main(String[] args) {
        face();
        newObject();
        say();
        wipe();
        fault();
        set();
        get();
        effect();
        effectThroughCalls();
        causes();
        call();
        drop();
        swap();
        told();
        stages();
        stagesAsSingle();
        stagesAgainstImage();
        run();
        runStatements();
        runLimits();
        thrower();
        commit();
        image();
        restore();
        count();
        System.out.println(wrong == 0 ? "promises: all answers are as due" : wrong + " answers are not as due");
        if (wrong != 0) System.exit(1);
    }

    private static void due(String call, int got, int want) {
        if (got != want) {
            wrong++;
            System.out.println(section + ": " + call + " answered " + got + ", due is " + want);
        }
    }

    private static void tell(SwapCalls x, int routine, String text) {
        x.wipe(routine);
        for (int i = 0; i < text.length(); i++) {
            due("say '" + text.charAt(i) + "' of " + text, x.say(routine, text.charAt(i)), i + 1);
        }
    }

    private static SwapCalls with(String... texts) {
        SwapCalls x = new SwapCalls();
        for (int r = 0; r < texts.length; r++) tell(x, r, texts[r]);
        return x;
    }

    private static int faultOf(String text) {
        return with(text).fault(0);
    }

    private static int bits(String places) {
        int bits = 0;
        for (String place : places.trim().split(" ")) {
            if (!place.isEmpty()) bits |= 1 << (Character.isLetter(place.charAt(0)) ? place.charAt(0) - 'a' : 6 + Integer.parseInt(place));
        }
        return bits;
    }

    private static void dueEffect(SwapCalls x, int r, int given, String reads, String writes, String adds, int throwing) {
        String call = "effect(" + r + ", " + given + ", ";
        due(call + "0)", x.effect(r, given, 0), bits(reads));
        due(call + "1)", x.effect(r, given, 1), bits(writes));
        due(call + "2)", x.effect(r, given, 2), bits(adds));
        due(call + "3)", x.effect(r, given, 3), throwing);
    }

    private static void face() {
        section = "the face";
        due("UNKNOWN", SwapCalls.UNKNOWN, UNKNOWN);
        due("OUTSIDE", SwapCalls.OUTSIDE, OUTSIDE);
        due("STATE", SwapCalls.STATE, STATE);
        due("FULL", SwapCalls.FULL, FULL);
        due("NO", SwapCalls.NO, NO);
        due("NONE", SwapCalls.NONE, NONE);
        int methods = 0;
        for (Method m : SwapCalls.class.getDeclaredMethods()) if (!Modifier.isPrivate(m.getModifiers())) methods++;
        due("methods", methods, 18);
        int fields = 0;
        for (var f : SwapCalls.class.getDeclaredFields()) if (!Modifier.isPrivate(f.getModifiers())) fields++;
        due("constants", fields, 6);
        Constructor<?>[] made = SwapCalls.class.getDeclaredConstructors();
        due("constructors", made.length, 1);
        due("final", Modifier.isFinal(SwapCalls.class.getModifiers()) ? 1 : 0, 1);
    }

    private static void newObject() {
        section = "promise 1, a new object";
        SwapCalls x = new SwapCalls();
        for (int r = 0; r < 6; r++) {
            due("fault", x.fault(r), NONE);
            due("signs", x.count(10 + r), 0);
            due("statements", x.count(20 + r), 0);
            due("callees", x.count(30 + r), 0);
            for (int g = 0; g < 12; g++) dueEffect(x, r, g, "", "", "", 0);
        }
        for (int p = 0; p < 18; p++) due("get", x.get(p), 0);
        due("calls", x.count(0), 0);
        due("restore(0)", x.restore(0), STATE);
        due("restore(1)", x.restore(1), STATE);
        // Two objects have nothing in common.
        SwapCalls y = new SwapCalls();
        y.say(0, '=');
        y.set(3, 9);
        y.call(0, 0);
        y.image(0);
        due("signs of the other", x.count(10), 0);
        due("place of the other", x.get(3), 0);
        due("calls of the other", x.count(0), 0);
        due("image of the other", x.restore(0), STATE);
    }

    private static void say() {
        section = "promise 2, say";
        SwapCalls x = new SwapCalls();
        for (int r = 0; r < 6; r++) {
            for (int i = 1; i <= 30; i++) due("say", x.say(r, 33 + (i * 7 + r) % 94), i);
            due("say, full", x.say(r, 'a'), FULL);
            due("signs", x.count(10 + r), 30);
        }
        due("no such routine is told first", x.say(6, 32), UNKNOWN);
        due("outside is told ahead of full", x.say(0, 32), OUTSIDE);
        SwapCalls y = new SwapCalls();
        due("32", y.say(0, 32), OUTSIDE);
        due("33", y.say(0, 33), 1);
        due("126", y.say(0, 126), 2);
        due("127", y.say(0, 127), OUTSIDE);
        due("a figure above 16 bits", y.say(0, 65536 + 'a'), OUTSIDE);
        for (int w : WILD) {
            due("routine " + w, y.say(w, 'a'), UNKNOWN);
            due("sign " + w, y.say(0, w), OUTSIDE);
        }
        due("signs", y.count(10), 2);
    }

    private static void wipe() {
        section = "promise 3, wipe";
        SwapCalls x = with("=a1", "?", "c0p");
        due("wipe(1)", x.wipe(1), 1);
        due("wipe(1) again", x.wipe(1), 0);
        due("fault(1)", x.fault(1), NONE);
        due("the others stay", x.count(10), 3);
        due("effect through a call", x.effect(2, 0, 1), bits("a"));
        due("wipe(0)", x.wipe(0), 3);
        due("effect through a call, wiped", x.effect(2, 0, 1), 0);
        due("say behind a wipe", x.say(0, '?'), 1);
        due("effect through a call, faulty", x.effect(2, 0, 1), NO);
        due("6", x.wipe(6), UNKNOWN);
        for (int w : WILD) due("wild", x.wipe(w), UNKNOWN);
        x.call(2, 5);
        x.wipe(2);
        due("calls stay", x.count(0), 1);
        due("its routine", x.told(0, 0), 2);
    }

    private static void fault() {
        section = "promise 4, fault";
        String[] good = {"", "=a1", "=fp", "+b~12", "#0a", "#p@p", "#>>p@>9", "^9~~123", "^p~1~23", "?a", "?f", "c0p", "c5>>>9",
            "=a~@p@>p", "?a?b?c?d?e?f", "=a1+b2#3c^4dc0p?f", "=a@9", "#>>>>>>>>>>>>>>>>>>>>>>>>>>>p1", "c0>0", "=a" + "~".repeat(13) + "1".repeat(14)};
        for (String text : good) due("fault of " + text, faultOf(text), NONE);
        // Signs that can not stand where they do: first of a statement, letter, index, figure of a routine, term.
        String[] bad = {"!", "a", "1", "p", "@", "~", ">", "=!", "=g", "=p", "=1", "=@", "+g", "+A", "?p", "?g", "?1", "#a", "#@", "#~",
            "^a", "^=", "c6", "c9", "ca", "cp", "c>", "c0a", "c0@", "=ag", "=aq", "=a=", "=a>", "=a#", "=a?", "=a^", "=a@a", "=a@@", "=a@~",
            "=a~~g", "=a~1=", "=a~1g", "#0>", "#p>", "#>a", "#>>>g", "^1^", "?a!", "?aa", "=a11", "=a1p", "#01p", "c0pp", "c0p1", "=a1C"};
        for (String text : bad) {
            due("fault of " + text, faultOf(text), text.length() - 1);
            due("fault of " + text + ", more behind it", faultOf(text + "=a"), text.length() - 1);
        }
        String[] short_ = {"=", "=a", "=a~", "=a~1", "=a~~12", "=a@", "=a@>", "+", "+f", "#", "#>", "#1", "#p", "#>>9", "^", "^p", "^p~", "?",
            "c", "c0", "c0>", "?a=", "=a1+b", "c0pc"};
        for (String text : short_) due("fault of " + text, faultOf(text), text.length());
        due("30 signs, and more must come", faultOf("=a~~~~~~~~~~~~~~~~~~~~~~~~~~~~"), 30);
        due("15 tests", faultOf("?a?b?c?d?e?f?a?b?c?d?e?f?a?b?c"), NONE);
        due("14 tests and a beginning", faultOf("?a?b?c?d?e?f?a?b?c?d?e?f?a?b=c"), 30);
        due("a fault in the last sign", faultOf("?a?b?c?d?e?f?a?b?c?d?e?f?a?b?g"), 29);
        // What was wiped does not stand behind what is said anew.
        String[][] anew = {{"c0p", "c"}, {"c0p", "c0"}, {"c0>p", "c0>"}, {"=a~11", "=a~1"}, {"=a1", "=a"}, {"=a1", "="}, {"?a", "?"}, {"#>>p1", "#>"}};
        for (String[] texts : anew) {
            SwapCalls y = with(texts[0]);
            tell(y, 0, texts[1]);
            due("fault of " + texts[1] + ", once " + texts[0], y.fault(0), texts[1].length());
        }
        SwapCalls x = with("", "=g");
        due("its own", x.fault(1), 1);
        due("not of another", x.fault(0), NONE);
        due("refused sign", x.say(0, 200), OUTSIDE);
        due("fault stays", x.fault(0), NONE);
        tell(x, 2, "c1p");
        due("what it calls has a fault, it has none", x.fault(2), NONE);
        due("6", x.fault(6), UNKNOWN);
        for (int w : WILD) due("wild", x.fault(w), UNKNOWN);
    }

    private static void set() {
        section = "promise 5, set";
        SwapCalls x = new SwapCalls();
        for (int p = 0; p < 18; p++) {
            due("set", x.set(p, p + 1), 0);
            due("set again", x.set(p, 99 - p), p + 1);
        }
        for (int p = 0; p < 18; p++) due("get", x.get(p), 99 - p);
        due("100", x.set(0, 100), OUTSIDE);
        due("18", x.set(18, 0), UNKNOWN);
        due("both", x.set(18, 100), UNKNOWN);
        for (int w : WILD) {
            due("place " + w, x.set(w, 0), UNKNOWN);
            due("v " + w, x.set(0, w), OUTSIDE);
        }
        due("nothing changed", x.get(0), 99);
    }

    private static void get() {
        section = "promise 6, get";
        SwapCalls x = new SwapCalls();
        x.set(17, 42);
        due("17", x.get(17), 42);
        due("16", x.get(16), 0);
        due("18", x.get(18), UNKNOWN);
        for (int w : WILD) due("wild", x.get(w), UNKNOWN);
    }

    private static void effect() {
        section = "promise 7, effect";
        SwapCalls x = with("=ab", "+cd", "#p@>p", "^>>p~a@3", "?e", "+aa=ff#3@3");
        dueEffect(x, 0, 0, "b", "a", "", 0);
        dueEffect(x, 1, 7, "d", "", "c", 0);
        dueEffect(x, 2, 0, "1", "0", "", 0);
        dueEffect(x, 2, 11, "0", "11", "", 0);
        dueEffect(x, 3, 0, "a 3", "", "2", 0);
        dueEffect(x, 3, 10, "a 3", "", "0", 0);
        dueEffect(x, 4, 3, "e", "", "", 1);
        dueEffect(x, 5, 3, "a f 3", "f 3", "a", 0);
        SwapCalls y = with("=a1+a1", "?a=b1", "=a~~p5~@p@>>>>>>>>>>>>p", "#>>>91^91", "=ap", "");
        dueEffect(y, 0, 0, "", "a", "a", 0);
        dueEffect(y, 1, 0, "a", "b", "", 1);
        dueEffect(y, 2, 4, "4", "a", "", 0);
        dueEffect(y, 3, 4, "", "0", "9", 0);
        dueEffect(y, 4, 4, "", "a", "", 0);
        dueEffect(y, 5, 4, "", "", "", 0);
        due("no such routine", y.effect(6, 12, 4), UNKNOWN);
        due("x 12", y.effect(0, 12, 0), OUTSIDE);
        due("what 4", y.effect(0, 0, 4), OUTSIDE);
        for (int w : WILD) {
            due("routine " + w, y.effect(w, 0, 0), UNKNOWN);
            due("x " + w, y.effect(0, w, 0), OUTSIDE);
            due("what " + w, y.effect(0, 0, w), OUTSIDE);
        }
        y.say(0, '=');
        due("a fault", y.effect(0, 0, 0), NO);
        due("outside, told ahead of a fault", y.effect(0, 0, 4), OUTSIDE);
    }

    private static void effectThroughCalls() {
        section = "promise 7, effects of those called";
        SwapCalls x = with("c1>p", "c2>p", "#p@>>p", "#p1c3>>p", "c5p?a", "c4>p+bc");
        dueEffect(x, 0, 0, "4", "2", "", 0);
        dueEffect(x, 0, 9, "1", "11", "", 0);
        dueEffect(x, 3, 0, "", "0 2 4 6 8 10", "", 0);
        dueEffect(x, 3, 7, "", "1 3 5 7 9 11", "", 0);
        dueEffect(x, 4, 6, "a c", "", "b", 1);
        dueEffect(x, 5, 6, "a c", "", "b", 1);
        tell(x, 3, "^p1c3>p");
        dueEffect(x, 3, 4, "", "", "0 1 2 3 4 5 6 7 8 9 10 11", 0);
        // The throw comes from far away, and nothing else with it that is new.
        SwapCalls far = with("=bac1p", "=bac2p", "=bac3p", "=bac4p", "=bac5p", "=ba?a");
        for (int r = 0; r < 6; r++) dueEffect(far, r, r, "a", "b", "", 1);
        // What was wiped has no effect.
        tell(far, 5, "?c");
        dueEffect(far, 5, 0, "c", "", "", 1);
        // Given a fixed number, the caller's own number does not matter.
        SwapCalls y = with("c14", "#p1", "c2p", "c3pc4p", "c5p", "=g");
        dueEffect(y, 0, 0, "", "4", "", 0);
        dueEffect(y, 0, 11, "", "4", "", 0);
        dueEffect(y, 2, 0, "", "", "", 0);
        due("a fault far away", y.effect(3, 0, 0), NO);
        due("a fault one call away", y.effect(4, 0, 0), NO);
        due("a fault", y.effect(5, 0, 0), NO);
        y.wipe(5);
        due("mended", y.effect(3, 0, 0), 0);
        // Statements behind a call that never comes back count too.
        SwapCalls z = with("c0p=a1", "?ac0p");
        dueEffect(z, 0, 0, "", "a", "", 0);
        dueEffect(z, 1, 0, "a", "a", "", 1);
    }

    private static void causes() {
        section = "promise 8, causes";
        SwapCalls x = with("=a1", "+a1", "=ba", "?a", "?b+a1=bc", "#p1");
        int[][] want = {{1, 1, 2, 2, 1, 0}, {1, 0, 2, 2, 0, 0}, {2, 2, 1, 0, 3, 0}, {2, 2, 0, 4, 6, 0}, {1, 0, 3, 6, 7, 0}};
        for (int a = 0; a < 5; a++) {
            for (int b = 0; b < 6; b++) {
                due("causes(" + a + ", " + b + ")", x.causes(a, 0, b, 0), want[a][b]);
                due("causes(" + b + ", " + a + ")", x.causes(b, 0, a, 0), want[a][b]);
            }
        }
        due("one cell", x.causes(5, 3, 5, 3), 1);
        due("two cells", x.causes(5, 3, 5, 4), 0);
        due("first unknown", x.causes(6, 12, 0, 0), UNKNOWN);
        due("second unknown", x.causes(0, 12, 6, 0), UNKNOWN);
        due("x", x.causes(0, 12, 0, 0), OUTSIDE);
        due("y", x.causes(0, 0, 0, 12), OUTSIDE);
        for (int w : WILD) {
            due("one " + w, x.causes(w, 0, 0, 0), UNKNOWN);
            due("other " + w, x.causes(0, 0, w, 0), UNKNOWN);
            due("x " + w, x.causes(0, w, 0, 0), OUTSIDE);
            due("y " + w, x.causes(0, 0, 0, w), OUTSIDE);
        }
        x.say(5, '!');
        due("one is not known", x.causes(5, 0, 0, 0), NO);
        due("other is not known", x.causes(0, 0, 5, 0), NO);
        due("outside is told first", x.causes(5, 0, 0, 12), OUTSIDE);
    }

    private static void call() {
        section = "promise 9, call";
        SwapCalls x = new SwapCalls();
        for (int i = 0; i < 16; i++) due("call", x.call(i % 6, i % 12), i + 1);
        due("17th", x.call(0, 0), FULL);
        due("routine ahead of full", x.call(6, 0), UNKNOWN);
        due("x ahead of full", x.call(0, 12), OUTSIDE);
        for (int i = 0; i < 16; i++) {
            due("told", x.told(i, 0), i % 6);
            due("told", x.told(i, 1), i % 12);
        }
        SwapCalls y = with("=");
        due("one with a fault", y.call(0, 11), 1);
        due("routine and x", y.call(6, 12), UNKNOWN);
        for (int w : WILD) {
            due("routine " + w, y.call(w, 0), UNKNOWN);
            due("x " + w, y.call(0, w), OUTSIDE);
        }
        due("calls", y.count(0), 1);
    }

    private static void drop() {
        section = "promise 10, drop";
        SwapCalls x = new SwapCalls();
        for (int i = 0; i < 16; i++) x.call(i % 6, i % 12);
        due("drop(16)", x.drop(16), UNKNOWN);
        due("last", x.drop(15), 15);
        due("first", x.drop(0), 14);
        due("middle", x.drop(5), 13);
        int[] left = {1, 2, 3, 4, 5, 7, 8, 9, 10, 11, 12, 13, 14};
        for (int i = 0; i < 13; i++) {
            due("told", x.told(i, 0), left[i] % 6);
            due("told", x.told(i, 1), left[i] % 12);
        }
        due("13", x.drop(13), UNKNOWN);
        for (int w : WILD) due("wild", x.drop(w), UNKNOWN);
        for (int i = 12; i >= 0; i--) due("drop(0)", x.drop(0), i);
        due("none is left", x.drop(0), UNKNOWN);
        due("call again", x.call(4, 4), 1);
    }

    private static void swap() {
        section = "promise 11, swap";
        SwapCalls x = with("+a1", "=a1", "=b1", "=");
        x.call(0, 3);
        x.call(0, 4);
        x.call(1, 5);
        x.call(2, 6);
        x.call(3, 7);
        x.call(3, 8);
        due("both add", x.swap(0), 1);
        due("told(0, 1)", x.told(0, 1), 4);
        due("told(1, 1)", x.told(1, 1), 3);
        due("one sets what the other adds to", x.swap(1), STATE);
        due("other places", x.swap(2), 1);
        due("told(2, 0)", x.told(2, 0), 2);
        due("told(3, 0)", x.told(3, 0), 1);
        due("told(3, 1)", x.told(3, 1), 5);
        due("a fault behind", x.swap(3), NO);
        due("faults", x.swap(4), NO);
        due("nothing behind", x.swap(5), UNKNOWN);
        due("none", x.swap(6), UNKNOWN);
        for (int w : WILD) due("wild", x.swap(w), UNKNOWN);
        due("swap back, a fault elsewhere", x.swap(2), 1);
        SwapCalls y = with("?a", "?b", "=cd", "=d1");
        for (int r = 0; r < 4; r++) y.call(r, 0);
        due("both may throw", y.swap(0), STATE);
        due("one may throw", y.swap(1), 1);
        due("one reads what the other sets", y.swap(2), 1);
        due("now they are neighbours", y.swap(1), STATE);
        due("empty", new SwapCalls().swap(0), UNKNOWN);
        due("empty, -1", new SwapCalls().swap(-1), UNKNOWN);
    }

    private static void told() {
        section = "promise 12, told";
        SwapCalls x = with("+a1", "=ba", "=c1", "+bp");
        int[][] calls = {{3, 5}, {2, 9}, {0, 4}, {0, 2}, {1, 0}, {2, 1}, {0, 4}, {1, 7}};
        int[] stage = {0, 0, 0, 0, 1, 1, 2, 3};
        int[] rank = {3, 2, 1, 0, 4, 5, 6, 7};
        for (int[] c : calls) x.call(c[0], c[1]);
        for (int i = 0; i < calls.length; i++) {
            due("routine of " + i, x.told(i, 0), calls[i][0]);
            due("given of " + i, x.told(i, 1), calls[i][1]);
            due("stage of " + i, x.told(i, 2), stage[i]);
            due("rank of " + i, x.told(i, 3), rank[i]);
        }
        due("8", x.told(8, 0), UNKNOWN);
        due("what 4", x.told(0, 4), OUTSIDE);
        for (int w : WILD) {
            due("call " + w, x.told(w, 0), UNKNOWN);
            due("what " + w, x.told(0, w), OUTSIDE);
            due("both " + w, x.told(w, w), UNKNOWN);
        }
        // Calls that are alike stand as they were.
        SwapCalls y = with("+a1");
        for (int i = 0; i < 3; i++) y.call(0, 5);
        for (int i = 0; i < 3; i++) due("rank of alike", y.told(i, 3), i);
        // The effect of a call behind it is not known either.
        y.say(1, '?');
        y.call(1, 0);
        due("routine", y.told(0, 0), 0);
        due("given", y.told(0, 1), 5);
        due("stage", y.told(0, 2), NO);
        due("rank", y.told(0, 3), NO);
        due("outside is told first", y.told(0, 4), OUTSIDE);
        due("a fault that no call has", with("", "=").told(0, 2), UNKNOWN);
    }

    private static void stages() {
        section = "promise 13, stages";
        SwapCalls x = with("=a1", "?b", "+c1", "", "=");
        due("none, 0", x.stages(0), 0);
        due("none, 1", x.stages(1), 0);
        due("none, 2", x.stages(2), NONE);
        due("none, 3", x.stages(3), 0);
        due("none, 4", x.stages(4), 0);
        due("none, 5", x.stages(5), 1);
        int[][] calls = {{2, 1}, {0, 0}, {0, 1}, {1, 3}, {2, 0}, {1, 2}, {0, 2}};
        for (int[] c : calls) x.call(c[0], c[1]);
        // Stages: 0 0 1 0 0 1 2.
        due("stages", x.stages(0), 3);
        due("most", x.stages(1), 4);
        due("first such", x.stages(2), 0);
        due("by stages", x.stages(3), Float.floatToIntBits(7f / 3f));
        due("free pairs", x.stages(4), 21 - 3 - 1);
        due("normal", x.stages(5), 0);
        for (int w : WILD) due("what " + w, x.stages(w), OUTSIDE);
        due("what 7", x.stages(7), OUTSIDE);
        x.call(4, 0);
        for (int w = 0; w < 6; w++) due("a fault, " + w, x.stages(w), NO);
        due("a fault, no image", x.stages(6), STATE);
        due("a fault, outside", x.stages(7), OUTSIDE);
        // The first of two that are as great, behind a smaller one.
        SwapCalls y = with("=ab", "=bc=d1", "=cd");
        int[][] more = {{1, 0}, {0, 0}, {2, 0}, {1, 0}, {0, 0}, {2, 0}};
        for (int[] c : more) y.call(c[0], c[1]);
        due("stages", y.stages(0), 4);
        due("most", y.stages(1), 2);
        due("first such", y.stages(2), 1);
        due("normal, once in order", y.stages(5), 1);
        due("a swap of free ones", y.swap(1), 1);
        due("normal no more", y.stages(5), 0);
    }

    private static void stagesAsSingle() {
        section = "promise 13, calls by stages";
        for (int stages = 1; stages <= 16; stages++) {
            SwapCalls x = with("=a1", "");
            for (int i = 0; i < stages; i++) x.call(0, 0);
            for (int calls = stages; calls <= 16; calls++) {
                due(calls + " by " + stages, x.stages(3), Float.floatToIntBits((float) ((double) calls / stages)));
                x.call(1, 0);
            }
        }
    }

    private static void stagesAgainstImage() {
        section = "promise 13, against image 0";
        SwapCalls x = with("=a1", "+b1", "=ca");
        x.call(0, 0);
        x.call(1, 2);
        x.call(2, 0);
        x.image(1);
        due("image 1 alone", x.stages(6), STATE);
        x.image(0);
        due("the same", x.stages(6), 1);
        x.swap(0);
        due("swapped", x.stages(6), 1);
        x.swap(1);
        due("not free", x.swap(1), STATE);
        due("still", x.stages(6), 1);
        x.drop(2);
        due("fewer", x.stages(6), 0);
        x.call(2, 1);
        due("given another", x.stages(6), 0);
        x.drop(2);
        x.call(2, 0);
        due("again", x.stages(6), 1);
        x.drop(0);
        x.call(1, 2);
        due("moved to the end", x.stages(6), 1);
        x.commit();
        due("empty", x.stages(6), 0);
        x.call(2, 0);
        x.call(0, 0);
        x.call(1, 2);
        due("other order of what is not free", x.stages(6), 0);
        tell(x, 2, "=c5");
        due("told now, they are free", x.stages(6), 1);
        tell(x, 2, "=c");
        due("a fault in both", x.stages(6), NO);
        x.drop(0);
        due("a fault in the image alone", x.stages(6), NO);
        due("the others know", x.stages(0), 1);
        SwapCalls y = new SwapCalls();
        y.image(0);
        due("both empty", y.stages(6), 1);
        y.call(0, 0);
        due("one is empty", y.stages(6), 0);
        y.say(0, '=');
        due("a fault in the program alone", y.stages(6), NO);
    }

    private static void run() {
        section = "promise 14, run";
        SwapCalls x = with("=a1?b=a2", "+c5", "#p~ac", "?d+e9", "=b3");
        x.set(3, 7);
        int[][] calls = {{0, 0}, {1, 0}, {2, 3}, {1, 1}, {3, 0}, {4, 0}, {0, 1}};
        for (int[] c : calls) x.call(c[0], c[1]);
        int[] want = {2, 3, 10, 7, 9, 0, 0, 0, 0, 6};
        for (int how = 0; how < 3; how++) {
            for (int p = 0; p < 18; p++) due("run(" + how + ", " + p + ")", x.run(how, p), p < want.length ? want[p] : 0);
            due("throws", x.run(how, 18), 1);
            due("steps", x.run(how, 19), 2 + 1 + 1 + 1 + 2 + 1 + 3);
        }
        for (int p = 0; p < 18; p++) due("places stay", x.get(p), p == 3 ? 7 : 0);
        due("calls stay", x.count(0), 7);
        due("how 3", x.run(3, 0), OUTSIDE);
        due("what 20", x.run(0, 20), OUTSIDE);
        for (int w : WILD) {
            due("how " + w, x.run(w, 0), OUTSIDE);
            due("what " + w, x.run(0, w), OUTSIDE);
        }
        x.say(5, '#');
        due("a fault that is not called", x.run(0, 19), 11);
        x.call(5, 0);
        for (int how = 0; how < 3; how++) due("a fault", x.run(how, 0), STATE);
        due("outside is told first", x.run(0, 20), OUTSIDE);
    }

    private static int ran(String text, int given, int place, int... places) {
        SwapCalls x = with(text);
        for (int i = 0; i + 1 < places.length; i += 2) x.set(places[i], places[i + 1]);
        x.call(0, given);
        return x.run(0, place);
    }

    private static void runStatements() {
        section = "promise 14, statements and terms";
        due("a figure", ran("=a9", 0, 0), 9);
        due("given", ran("=ap", 11, 0), 11);
        due("a number", ran("=af", 0, 0, 5, 88), 88);
        due("a cell", ran("=a@>p", 11, 0, 6, 77), 77);
        due("a cell by figure", ran("=a@>>>9", 0, 0, 6, 66), 66);
        due("a sum over 100", ran("=a~bc", 0, 0, 1, 99, 2, 99), 98);
        due("a sum of 100", ran("=a~b1", 0, 0, 1, 99), 0);
        due("sums within sums", ran("=a~~bb~~bb~bb", 0, 0, 1, 99), 94);
        due("added", ran("+a~bb", 0, 0, 0, 99, 1, 99), 97);
        due("added to itself", ran("+aa", 0, 0, 0, 60), 20);
        due("a cell set", ran("#>>>p~9p", 10, 7, 7, 3), 19);
        due("a cell added to", ran("^9p", 11, 15, 15, 95), 6);
        due("28 more", ran("#>>>>>>>>>>>>>>>>>>>>>>>>>>>p7", 0, 6 + 27 % 12), 7);
        due("a test of 0", ran("=b1?a=b2", 0, 1), 1);
        due("a test of 1", ran("=b1?a=b2", 0, 1, 0, 1), 2);
        due("a test that throws is a step", ran("=b1?a=b2", 0, 19), 2);
        due("no statement", ran("", 0, 19), 0);
        SwapCalls x = with("c1>p=a1", "#pp?b#>pp", "c0>p+f1");
        x.call(2, 10);
        x.call(2, 3);
        due("a throw ends the call whole", x.run(0, 0), 0);
        due("and of those that called", x.run(0, 5), 0);
        due("what was done stays", x.run(0, 6), 0);
        due("what was done stays", x.run(0, 11), 5);
        due("the next goes on, throws too", x.run(0, 18), 2);
        due("calls are steps too", x.run(0, 19), 8);
        x.set(1, 1);
        due("no throw", x.run(0, 18), 0);
        due("a", x.run(0, 0), 1);
        due("f", x.run(0, 5), 2);
        due("cell 1", x.run(0, 7), 0);
        due("cell 6", x.run(0, 12), 5);
        due("steps", x.run(0, 19), 14);
    }

    private static void runLimits() {
        section = "promise 14, limits of a run";
        // Eleven nines added make a one less: the routine is done a + 1 times, within one another.
        SwapCalls x = with("?a+a~9~9~9~9~9~9~9~9~9~99c0p");
        due("fault", x.fault(0), NONE);
        x.call(0, 0);
        x.set(0, 19);
        due("20 within one another", x.run(0, 19), 19 * 3 + 1);
        due("it throws at last", x.run(0, 18), 1);
        x.set(0, 20);
        due("21 within one another", x.run(0, 19), STATE);
        for (int how = 0; how < 3; how++) due("likewise", x.run(how, 0), STATE);
        String nineTens = "c1pc1pc1pc1pc1pc1pc1pc1pc1p";
        SwapCalls y = with(nineTens + "c2p", "=a1=a1=a1=a1=a1=a1=a1=a1=a1=a1", "=a1=a1=a1=a1=a1=a1=a1=a1=a1", "c0p", "");
        y.call(0, 0);
        due("9 * 11 + 1 + 9 steps", y.run(0, 19), 109);
        tell(y, 2, "c1pc1pc1pc1pc1pc1pc1pc1pc4pc4p");
        due("9 * 11 + 1 + 8 * 11 + 2 steps", y.run(0, 19), 190);
        tell(y, 4, "=a1=a1=a1=a1=a1");
        due("200 steps", y.run(0, 19), 200);
        y.call(0, 1);
        due("200 steps each", y.run(0, 19), 400);
        due("200 steps each, by stages", y.run(1, 19), 400);
        y.call(3, 0);
        due("201 steps of one", y.run(0, 19), STATE);
        due("201 steps of one, by ranks", y.run(2, 0), STATE);
        due("thrower", y.thrower(0, 0), STATE);
        due("commit", y.commit(), STATE);
        due("calls stay", y.count(0), 3);
        tell(y, 4, "=a1=a1=a1=a1");
        tell(y, 3, "c0p?b");
        due("198, 198, and 200, the last of which throws", y.run(0, 19), 596);
        due("it throws", y.thrower(0, 0), 2);
        tell(y, 3, "=a1c0p?b");
        due("the 201st would throw", y.run(0, 19), STATE);
        tell(y, 3, "=a1?bc0pc0p");
        due("a throw keeps it from going too far", y.run(0, 19), 398);
        // One without end, that no step but calls has.
        SwapCalls z = with("c0p");
        z.call(0, 0);
        due("without end", z.run(0, 0), STATE);
        due("effect is known", z.effect(0, 0, 3), 0);
        due("stages are known", z.stages(0), 1);
    }

    private static void thrower() {
        section = "promise 15, thrower";
        SwapCalls x = with("?a", "=a1", "?b+b1", "+c1", "=a0");
        int[] calls = {3, 0, 3, 1, 0, 3, 2, 4, 0, 2};
        for (int r : calls) x.call(r, 0);
        int[] want = {1, 6, 8, 9};
        for (int how = 0; how < 3; how++) {
            for (int i = 0; i < 4; i++) due("thrower(" + how + ", " + i + ")", x.thrower(how, i), want[i]);
            due("no more", x.thrower(how, 4), NONE);
            due("no more", x.thrower(how, 16), NONE);
            due("no more", x.thrower(how, Integer.MAX_VALUE), NONE);
            due("none below the first", x.thrower(how, -1), NONE);
            due("none below the first", x.thrower(how, Integer.MIN_VALUE), NONE);
        }
        due("how 3", x.thrower(3, 0), OUTSIDE);
        due("how -1", x.thrower(-1, 0), OUTSIDE);
        x.say(5, 'x');
        x.call(5, 0);
        due("a fault", x.thrower(0, 0), STATE);
        due("a fault, none anyway", x.thrower(0, 99), STATE);
        due("a fault, none below the first anyway", x.thrower(0, -1), STATE);
        due("outside is told first", x.thrower(3, 0), OUTSIDE);
        due("outside, none below the first anyway", x.thrower(3, -1), OUTSIDE);
        due("empty", new SwapCalls().thrower(1, 0), NONE);
        due("empty, below the first", new SwapCalls().thrower(0, -1), NONE);
        SwapCalls y = with("?a");
        for (int i = 0; i < 16; i++) y.call(0, i % 12);
        for (int i = 0; i < 16; i++) due("all throw", y.thrower(1, i), i);
        due("17th", y.thrower(1, 16), NONE);
    }

    private static void commit() {
        section = "promise 16, commit";
        SwapCalls x = with("?a+b1", "=a5", "#p3", "=");
        x.call(0, 0);
        x.call(1, 0);
        x.call(0, 0);
        x.call(2, 11);
        due("commit", x.commit(), 1);
        due("a", x.get(0), 5);
        due("b", x.get(1), 1);
        due("cell 11", x.get(17), 3);
        due("calls", x.count(0), 0);
        due("told", x.told(0, 0), UNKNOWN);
        due("commit of none", x.commit(), 0);
        due("a stays", x.get(0), 5);
        x.call(1, 0);
        x.call(3, 0);
        due("a fault", x.commit(), STATE);
        due("calls stay", x.count(0), 2);
        due("texts stay", x.count(10), 5);
    }

    private static void image() {
        section = "promise 17, image";
        SwapCalls x = new SwapCalls();
        x.set(4, 44);
        x.call(2, 3);
        due("0", x.image(0), 1);
        x.set(4, 55);
        x.call(3, 4);
        due("1", x.image(1), 1);
        due("2", x.image(2), OUTSIDE);
        for (int w : WILD) due("wild", x.image(w), OUTSIDE);
        due("nothing changed", x.get(4) * 100 + x.count(0), 5502);
        x.restore(0);
        due("0 has its own", x.get(4) * 100 + x.count(0), 4401);
        x.restore(1);
        due("1 has its own", x.get(4) * 100 + x.count(0), 5502);
        x.image(0);
        x.commit();
        x.restore(0);
        due("0 is kept anew", x.get(4) * 100 + x.count(0), 5502);
        due("second call", x.told(1, 0) * 100 + x.told(1, 1), 304);
    }

    private static void restore() {
        section = "promise 18, restore";
        SwapCalls x = with("+a1", "=b2");
        x.set(0, 10);
        x.call(0, 1);
        x.call(1, 2);
        x.image(1);
        due("0 was not kept", x.restore(0), STATE);
        due("2", x.restore(2), OUTSIDE);
        for (int w : WILD) due("wild", x.restore(w), OUTSIDE);
        for (int round = 0; round < 3; round++) {
            x.swap(0);
            due("commit", x.commit(), 0);
            due("a", x.get(0), 11);
            x.call(1, 9);
            x.set(17, 1);
            due("restore", x.restore(1), 1);
            due("a", x.get(0), 10);
            due("b", x.get(1), 0);
            due("cell 11", x.get(17), 0);
            due("calls", x.count(0), 2);
            due("first", x.told(0, 0) * 100 + x.told(0, 1), 1);
            due("second", x.told(1, 0) * 100 + x.told(1, 1), 102);
        }
        x.wipe(0);
        x.restore(1);
        due("texts are not kept", x.count(10), 0);
    }

    private static void count() {
        section = "promise 19, count";
        SwapCalls x = with("=a1c5pc2>p", "=a", "c2pc2pc0p", "", "c1p", "?a?b?c?d?e?f?a?b?c?d?e?f?a?b?c");
        due("calls", x.count(0), 0);
        x.call(0, 0);
        x.call(1, 0);
        due("calls", x.count(0), 2);
        int[] signs = {10, 2, 9, 0, 3, 30};
        int[] statements = {3, NONE, 3, 0, 1, 15};
        int[] callees = {1 << 5 | 1 << 2, NONE, 1 << 2 | 1, 0, 1 << 1, 0};
        for (int r = 0; r < 6; r++) {
            due("signs of " + r, x.count(10 + r), signs[r]);
            due("statements of " + r, x.count(20 + r), statements[r]);
            due("callees of " + r, x.count(30 + r), callees[r]);
        }
        for (int w = -50; w < 60; w++) {
            boolean told = w == 0 || w >= 10 && w < 40 && w % 10 < 6;
            if (!told) due("count(" + w + ")", x.count(w), OUTSIDE);
        }
        for (int w : WILD) due("count(" + w + ")", x.count(w), OUTSIDE);
    }
}
