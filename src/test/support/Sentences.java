import java.util.ArrayList;
import java.util.List;
import java.util.function.Consumer;
import java.util.function.Supplier;

/** What the tests of single sentences inherit: answers that are due, texts told at once, and all that an object tells. */
abstract class Sentences {
    static final int UNKNOWN = -1, OUTSIDE = -2, STATE = -3, FULL = -4, NO = -5, NONE = -6;
    /** Numbers that are far outside of all that the document tells, one too small among them. */
    static final int[] WILD = {Integer.MIN_VALUE, Integer.MIN_VALUE + 1, -1000, -1, 1000, 65536, Integer.MAX_VALUE - 1, Integer.MAX_VALUE};
    static final String STATEMENT_SIGNS = "=+#^?c";
    static final String LETTERS = "abcdef";
    static final String INDEX_SIGNS = "0123456789p>";
    static final String TERM_SIGNS = "0123456789abcdefp@~";

    private static int wrong = 0;
    private static int tested = 0;
    private static String now = "";

    /** One sentence of the document, and the test that fails if it is broken. */
    static void sentence(String said, Runnable test) {
        now = said;
        tested++;
        test.run();
    }

    static void end(String name) {
        System.out.println(name + ": " + tested + " sentences, " + (wrong == 0 ? "all answers are as due" : wrong + " answers are not as due"));
        if (wrong != 0) System.exit(1);
    }

    static void due(String call, int got, int want) {
        if (got != want) {
            wrong++;
            System.out.println(now + " | " + call + " answered " + got + ", due is " + want);
        }
    }

    static void due(String call, List<Integer> got, List<Integer> want) {
        if (!got.equals(want)) {
            wrong++;
            System.out.println(now + " | " + call + " told " + got + ", due is " + want);
        }
    }

    static void tell(SwapCalls x, int routine, String text) {
        x.wipe(routine);
        for (int i = 0; i < text.length(); i++) {
            due("say '" + text.charAt(i) + "' of " + text, x.say(routine, text.charAt(i)), i + 1);
        }
    }

    /** A new object whose ROUTINES, from 0 on, have these texts. */
    static SwapCalls with(String... texts) {
        SwapCalls x = new SwapCalls();
        for (int r = 0; r < texts.length; r++) tell(x, r, texts[r]);
        return x;
    }

    /** CALLS, each told by a ROUTINE and what it is given: "1:11" is ROUTINE 1, given 11. */
    static SwapCalls calls(SwapCalls x, String calls) {
        for (String call : calls.trim().split(" ")) {
            if (!call.isEmpty()) x.call(Integer.parseInt(call.split(":")[0]), Integer.parseInt(call.split(":")[1]));
        }
        return x;
    }

    /** PLACES as bits: letters, and CELLS by their numbers. */
    static int bits(String places) {
        int bits = 0;
        for (String place : places.trim().split(" ")) {
            if (!place.isEmpty()) bits |= 1 << (Character.isLetter(place.charAt(0)) ? place.charAt(0) - 'a' : 6 + Integer.parseInt(place));
        }
        return bits;
    }

    static int faultOf(String text) {
        return with(text).fault(0);
    }

    static void dueEffect(SwapCalls x, int r, int given, String reads, String writes, String adds, int throwing) {
        String call = "effect(" + r + ", " + given + ", ";
        due(call + "0)", x.effect(r, given, 0), bits(reads));
        due(call + "1)", x.effect(r, given, 1), bits(writes));
        due(call + "2)", x.effect(r, given, 2), bits(adds));
        due(call + "3)", x.effect(r, given, 3), throwing);
    }

    /** The ROUTINES and given numbers of the PROGRAM's CALLS as "1:11 0:3". */
    static String program(SwapCalls x) {
        StringBuilder told = new StringBuilder();
        for (int i = 0; i < x.count(0); i++) told.append(i == 0 ? "" : " ").append(x.told(i, 0)).append(':').append(x.told(i, 1));
        return told.toString();
    }

    static void dueProgram(String when, SwapCalls x, String want) {
        String got = program(x);
        if (!got.equals(want)) {
            wrong++;
            System.out.println(now + " | " + when + ", the program is " + got + ", due is " + want);
        }
    }

    /** All that can be told of an object, the IMAGES at last, as only restore() shows what they hold. */
    static List<Integer> allOf(SwapCalls x) {
        List<Integer> all = new ArrayList<>();
        for (int r = 0; r < 6; r++) {
            for (int kind = 10; kind <= 30; kind += 10) all.add(x.count(kind + r));
            all.add(x.fault(r));
            for (int what = 0; what < 4; what++) all.add(x.effect(r, 11, what));
        }
        for (int what = 0; what < 7; what++) all.add(x.stages(what));
        for (int what = 0; what < 20; what++) all.add(x.run(1, what));
        addPlacesAndProgram(all, x);
        for (int k = 0; k < 2; k++) {
            all.add(x.restore(k));
            addPlacesAndProgram(all, x);
        }
        return all;
    }

    private static void addPlacesAndProgram(List<Integer> all, SwapCalls x) {
        for (int p = 0; p < 18; p++) all.add(x.get(p));
        all.add(x.count(0));
        for (int i = 0; i < x.count(0); i++) {
            all.add(x.told(i, 0));
            all.add(x.told(i, 1));
        }
    }

    /** Two objects are made alike; one of them is asked for what is refused, and tells the same as the other one. */
    static void changesNothing(String which, Supplier<SwapCalls> made, Consumer<SwapCalls> refused) {
        SwapCalls asked = made.get();
        refused.accept(asked);
        due("behind refused " + which + " all", allOf(asked), allOf(made.get()));
    }
}
