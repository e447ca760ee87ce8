/** Each sentence of the promises 1 to 19 that names a boundary case has a test of its own here. */
public final class PromisesEdgesTest extends Sentences {
    private static final String FULL_TEXT = "?a".repeat(15);

    public static void main(String[] args) {
        routinesAndPlaces();
        effects();
        programs();
        stages();
        runs();
        images();
        counts();
        end("edges of the promises");
    }

    private static void routinesAndPlaces() {
        sentence("1: No STATEMENT", PromisesEdgesTest::newHasNoStatement);
        sentence("1: no CALL", PromisesEdgesTest::newHasNoCall);
        sentence("2: A sign more of a ROUTINE: how many", PromisesEdgesTest::sayTellsHowMany);
        sentence("2: UNKNOWN", PromisesEdgesTest::sayUnknown);
        sentence("2: OUTSIDE", PromisesEdgesTest::sayOutside);
        sentence("2: FULL", PromisesEdgesTest::sayFull);
        sentence("3: Signs of a ROUTINE go: how many there were", PromisesEdgesTest::wipeTellsHowMany);
        sentence("3: Signs of a ROUTINE go: nothing is left of them", PromisesEdgesTest::wipeLeavesNothing);
        sentence("3: UNKNOWN", PromisesEdgesTest::wipeUnknown);
        sentence("4: THE FAULT of a ROUTINE", PromisesEdgesTest::faultOfEach);
        sentence("4: NONE", PromisesEdgesTest::faultNone);
        sentence("4: UNKNOWN", PromisesEdgesTest::faultUnknown);
        sentence("5: A PLACE holds another number: which it did", PromisesEdgesTest::setTellsWhatWasHeld);
        sentence("5: UNKNOWN", PromisesEdgesTest::setUnknown);
        sentence("5: OUTSIDE", PromisesEdgesTest::setOutside);
        sentence("6: What a PLACE holds", PromisesEdgesTest::getTellsWhatIsHeld);
        sentence("6: UNKNOWN", PromisesEdgesTest::getUnknown);
    }

    private static void effects() {
        sentence("7: READS (what = 0), WRITES (1), ADDS to (2), whether it may THROW (3: 1, 0)", PromisesEdgesTest::effectTellsEach);
        sentence("7: UNKNOWN", PromisesEdgesTest::effectUnknown);
        sentence("7: OUTSIDE: x, what", PromisesEdgesTest::effectOutside);
        sentence("7: NO: it is not known", PromisesEdgesTest::effectNo);
        sentence("8: CAUSES", PromisesEdgesTest::causesFrom0To7);
        sentence("8: UNKNOWN: both ROUTINES", PromisesEdgesTest::causesUnknown);
        sentence("8: OUTSIDE: both numbers", PromisesEdgesTest::causesOutside);
        sentence("8: NO: an EFFECT is not known", PromisesEdgesTest::causesNo);
    }

    private static void programs() {
        sentence("9: A CALL more: how many", PromisesEdgesTest::callTellsHowMany);
        sentence("9: UNKNOWN", PromisesEdgesTest::callUnknown);
        sentence("9: OUTSIDE", PromisesEdgesTest::callOutside);
        sentence("9: FULL", PromisesEdgesTest::callFull);
        sentence("10: A CALL goes: how many there are", PromisesEdgesTest::dropTellsHowMany);
        sentence("10: UNKNOWN", PromisesEdgesTest::dropUnknown);
        sentence("11: The CALL and the one behind it change places: 1", PromisesEdgesTest::swapFirstAndLast);
        sentence("11: UNKNOWN: both", PromisesEdgesTest::swapUnknown);
        sentence("11: NO: an EFFECT of theirs is not known", PromisesEdgesTest::swapNo);
        sentence("11: STATE: they are not FREE", PromisesEdgesTest::swapState);
        sentence("12: ROUTINE (what = 0), what it is given (1), STAGE (2), RANK (3)", PromisesEdgesTest::toldTellsEach);
        sentence("12: UNKNOWN", PromisesEdgesTest::toldUnknown);
        sentence("12: OUTSIDE", PromisesEdgesTest::toldOutside);
        sentence("12: NO (2, 3): an EFFECT of a CALL is not known", PromisesEdgesTest::toldNo);
    }

    private static void stages() {
        sentence("13: How many STAGES (what = 0)", PromisesEdgesTest::stagesHowMany);
        sentence("13: the most CALLS of one (1)", PromisesEdgesTest::stagesMostCalls);
        sentence("13: the first such STAGE (2; NONE: no CALL)", PromisesEdgesTest::stagesFirstSuch);
        sentence("13: CALLS by STAGES as the nearest single number (3)", PromisesEdgesTest::stagesAsSingle);
        sentence("13: 0: no CALL (3)", PromisesEdgesTest::stagesAsSingleOfNone);
        sentence("13: how many pairs of CALLS are FREE (4)", PromisesEdgesTest::stagesFreePairs);
        sentence("13: whether the PROGRAM is as its NORMAL form (5: 1, 0)", PromisesEdgesTest::stagesIsNormal);
        sentence("13: whether NORMAL forms of it and of that in IMAGE 0 are one (6: 1, 0)", PromisesEdgesTest::stagesLikeImage);
        sentence("13: by ROUTINES as they are told now (6)", PromisesEdgesTest::stagesLikeImageAsToldNow);
        sentence("13: OUTSIDE", PromisesEdgesTest::stagesOutside);
        sentence("13: STATE (6): there is no IMAGE 0", PromisesEdgesTest::stagesState);
        sentence("13: NO: an EFFECT of a CALL is not known", PromisesEdgesTest::stagesNo);
        sentence("13: NO (6: also of one that the IMAGE has)", PromisesEdgesTest::stagesNoOfTheImage);
        sentence("13: in this order", PromisesEdgesTest::stagesInThisOrder);
    }

    private static void runs() {
        sentence("14: What a PLACE holds behind a RUN (what = 0 to 17)", PromisesEdgesTest::runPlaces);
        sentence("14: how many CALLS THROW (18)", PromisesEdgesTest::runThrows);
        sentence("14: STEPS of all (19)", PromisesEdgesTest::runSteps);
        sentence("14: OUTSIDE: how 0 to 2, what", PromisesEdgesTest::runOutside);
        sentence("14: STATE: it is not known", PromisesEdgesTest::runState);
        sentence("14: a RUN changes nothing", PromisesEdgesTest::runChangesNothing);
        sentence("15: The i-th CALL that THROWS, as they are done", PromisesEdgesTest::throwerTellsNumbers);
        sentence("15: NONE", PromisesEdgesTest::throwerNone);
        sentence("15: OUTSIDE", PromisesEdgesTest::throwerOutside);
        sentence("15: STATE, likewise", PromisesEdgesTest::throwerState);
        sentence("16: PLACES hold what they do behind the RUN in ORDER: CALLS that THROW", PromisesEdgesTest::commitPlaces);
        sentence("16: and the PROGRAM is empty", PromisesEdgesTest::commitEmpties);
        sentence("16: of no CALL", PromisesEdgesTest::commitOfNone);
        sentence("16: STATE, likewise", PromisesEdgesTest::commitState);
    }

    private static void images() {
        sentence("17: PLACES, the PROGRAM are kept in an IMAGE (0, 1): 1", PromisesEdgesTest::imageKeepsBoth);
        sentence("17: an empty one is kept", PromisesEdgesTest::imageOfNothing);
        sentence("17: OUTSIDE", PromisesEdgesTest::imageOutside);
        sentence("18: They are as they were when they were kept: 1", PromisesEdgesTest::restoreAsTheyWere);
        sentence("18: OUTSIDE", PromisesEdgesTest::restoreOutside);
        sentence("18: STATE: they were not", PromisesEdgesTest::restoreState);
    }

    private static void counts() {
        sentence("19: 0 CALLS", PromisesEdgesTest::countCalls);
        sentence("19: 10 and a ROUTINE: signs", PromisesEdgesTest::countSigns);
        sentence("19: 20 and a ROUTINE: STATEMENTS in it (NONE: there is a FAULT)", PromisesEdgesTest::countStatements);
        sentence("19: 30 and a ROUTINE: which ROUTINES it calls, itself (bits; NONE: there is a FAULT)", PromisesEdgesTest::countCallees);
        sentence("19: OUTSIDE", PromisesEdgesTest::countOutside);
    }

    // ---- 1 to 6: routines, places

    private static void newHasNoStatement() {
        SwapCalls x = new SwapCalls();
        for (int r = 0; r < 6; r++) {
            due("signs of " + r, x.count(10 + r), 0);
            due("statements of " + r, x.count(20 + r), 0);
            due("callees of " + r, x.count(30 + r), 0);
            due("fault of " + r, x.fault(r), NONE);
            due("wipe of " + r, x.wipe(r), 0);
            dueEffect(x, r, 0, "", "", "", 0);
            dueEffect(x, r, 11, "", "", "", 0);
        }
    }

    private static void newHasNoCall() {
        SwapCalls x = new SwapCalls();
        due("count(0)", x.count(0), 0);
        due("drop(0)", x.drop(0), UNKNOWN);
        due("swap(0)", x.swap(0), UNKNOWN);
        due("told(0, 0)", x.told(0, 0), UNKNOWN);
        due("stages(0)", x.stages(0), 0);
        due("run(0, 19)", x.run(0, 19), 0);
        due("thrower(0, 0)", x.thrower(0, 0), NONE);
        due("commit()", x.commit(), 0);
        due("a first call", x.call(0, 0), 1);
    }

    private static void sayTellsHowMany() {
        SwapCalls x = new SwapCalls();
        for (int i = 1; i <= 30; i++) {
            due("sign " + i + " of 0", x.say(0, '?'), i);
            due("sign " + i + " of 5", x.say(5, '?'), i);
        }
    }

    private static void sayUnknown() {
        SwapCalls x = new SwapCalls();
        due("6", x.say(6, '?'), UNKNOWN);
        for (int wild : WILD) due("routine " + wild, x.say(wild, '?'), UNKNOWN);
    }

    private static void sayOutside() {
        SwapCalls x = new SwapCalls();
        due("32", x.say(0, 32), OUTSIDE);
        due("33", x.say(0, 33), 1);
        due("126", x.say(0, 126), 2);
        due("127", x.say(0, 127), OUTSIDE);
        due("0", x.say(0, 0), OUTSIDE);
        for (int wild : WILD) due("sign " + wild, x.say(0, wild), OUTSIDE);
    }

    private static void sayFull() {
        SwapCalls x = with(FULL_TEXT, "", "", "", "", FULL_TEXT);
        due("31st of 0", x.say(0, '?'), FULL);
        due("31st of 5", x.say(5, '?'), FULL);
        due("1st of 4", x.say(4, '?'), 1);
        due("31st of 0 again", x.say(0, '?'), FULL);
        due("no fault came of it", x.fault(0), NONE);
    }

    private static void wipeTellsHowMany() {
        SwapCalls x = new SwapCalls();
        due("none", x.wipe(0), 0);
        x.say(0, '?');
        due("1", x.wipe(0), 1);
        due("none again", x.wipe(0), 0);
        tell(x, 5, FULL_TEXT);
        due("30", x.wipe(5), 30);
        due("no statement is left", x.count(25), 0);
        due("no effect is left", x.effect(5, 0, 3), 0);
        due("a first sign", x.say(5, '!'), 1);
        due("a fault goes", x.wipe(5) + x.fault(5), 1 + NONE);
    }

    private static void wipeLeavesNothing() {
        // What must come is not found among signs that have gone.
        String[][] texts = {{"?a", "?"}, {"=a1", "="}, {"=a1", "=a"}, {"=a~12", "=a~1"}, {"=a@p", "=a@"}, {"#>p1", "#>"}, {"#p1", "#"}, {"c0p", "c"}, {"c0p", "c0"}};
        for (String[] pair : texts) {
            SwapCalls x = with(pair[0]);
            tell(x, 0, pair[1]);
            due("fault of " + pair[1] + ", once " + pair[0], x.fault(0), pair[1].length());
        }
        SwapCalls shorter = with("c1pc2p", "=a1", "=b1");
        tell(shorter, 0, "c1p");
        dueEffect(shorter, 0, 0, "", "a", "", 0);
        due("callees", shorter.count(30), 2);
        SwapCalls x = with("?a=bc+d1c1p", "#p1");
        dueEffect(x, 0, 11, "a c", "b 11", "d", 1);
        x.wipe(1);
        dueEffect(x, 0, 11, "a c", "b", "d", 1);
        x.wipe(0);
        dueEffect(x, 0, 11, "", "", "", 0);
        due("causes", x.causes(0, 11, 0, 11), 0);
        calls(x, "0:11");
        due("steps", x.run(0, 19), 0);
    }

    private static void wipeUnknown() {
        SwapCalls x = new SwapCalls();
        due("6", x.wipe(6), UNKNOWN);
        for (int wild : WILD) due("routine " + wild, x.wipe(wild), UNKNOWN);
    }

    private static void faultOfEach() {
        SwapCalls x = with("!", "=", "=g", "=a", FULL_TEXT.substring(0, 28) + "=a", FULL_TEXT.substring(0, 29) + "g");
        int[] want = {0, 1, 1, 2, 30, 29};
        for (int r = 0; r < 6; r++) due("fault(" + r + ")", x.fault(r), want[r]);
    }

    private static void faultNone() {
        SwapCalls x = with("", "?a", FULL_TEXT, "c5p", "=a1", "!");
        for (int r = 0; r < 5; r++) due("fault(" + r + ")", x.fault(r), NONE);
    }

    private static void faultUnknown() {
        SwapCalls x = new SwapCalls();
        due("6", x.fault(6), UNKNOWN);
        for (int wild : WILD) due("routine " + wild, x.fault(wild), UNKNOWN);
    }

    private static void setTellsWhatWasHeld() {
        SwapCalls x = new SwapCalls();
        for (int place : new int[] {0, 5, 6, 17}) {
            due("at first", x.set(place, 99), 0);
            due("once 99", x.set(place, 0), 99);
            due("once 0", x.set(place, 1), 0);
            due("the same again", x.set(place, 1), 1);
        }
    }

    private static void setUnknown() {
        SwapCalls x = new SwapCalls();
        due("18", x.set(18, 0), UNKNOWN);
        for (int wild : WILD) due("place " + wild, x.set(wild, 0), UNKNOWN);
    }

    private static void setOutside() {
        SwapCalls x = new SwapCalls();
        x.set(17, 99);
        due("100", x.set(17, 100), OUTSIDE);
        for (int wild : WILD) due("v " + wild, x.set(17, wild), OUTSIDE);
        due("it stays", x.get(17), 99);
    }

    private static void getTellsWhatIsHeld() {
        SwapCalls x = new SwapCalls();
        for (int p = 0; p < 18; p++) {
            x.set(p, 99 - p);
            due("get(" + p + ")", x.get(p), 99 - p);
        }
        for (int p = 0; p < 18; p++) due("get(" + p + ") again", x.get(p), 99 - p);
    }

    private static void getUnknown() {
        SwapCalls x = new SwapCalls();
        due("18", x.get(18), UNKNOWN);
        for (int wild : WILD) due("place " + wild, x.get(wild), UNKNOWN);
    }

    // ---- 7, 8: effects

    private static void effectTellsEach() {
        SwapCalls x = with("=ab#pf+c1^>p1?d", "", "", "", "", "=ab#pf+c1^>p1");
        dueEffect(x, 0, 0, "b d f", "a 0", "c 1", 1);
        dueEffect(x, 0, 11, "b d f", "a 11", "c 0", 1);
        dueEffect(x, 5, 11, "b f", "a 11", "c 0", 0);
    }

    private static void effectUnknown() {
        SwapCalls x = new SwapCalls();
        due("6", x.effect(6, 0, 0), UNKNOWN);
        for (int wild : WILD) due("routine " + wild, x.effect(wild, 0, 0), UNKNOWN);
    }

    private static void effectOutside() {
        SwapCalls x = new SwapCalls();
        due("x 11, what 3", x.effect(0, 11, 3), 0);
        due("x 12", x.effect(0, 12, 3), OUTSIDE);
        due("what 4", x.effect(0, 11, 4), OUTSIDE);
        for (int wild : WILD) {
            due("x " + wild, x.effect(0, wild, 0), OUTSIDE);
            due("what " + wild, x.effect(0, 0, wild), OUTSIDE);
        }
    }

    private static void effectNo() {
        SwapCalls x = with("=", "c0p", "c1p", "=a1");
        for (int what = 0; what < 4; what++) {
            for (int r = 0; r < 3; r++) due("effect(" + r + ", 0, " + what + ")", x.effect(r, 0, what), NO);
            due("effect(3, 0, " + what + ")", x.effect(3, 0, what), what == 1 ? 1 : 0);
        }
    }

    private static void causesFrom0To7() {
        String[] texts = {"", "=a1", "=ba", "=aa", "?c", "=a1?c"};
        int[][] pairs = {{0, 0, 0}, {1, 1, 1}, {1, 2, 2}, {1, 3, 3}, {4, 4, 4}, {5, 5, 5}};
        SwapCalls x = with(texts);
        for (int[] pair : pairs) due("causes " + pair[0] + ", " + pair[1], x.causes(pair[0], 0, pair[1], 11), pair[2]);
        SwapCalls y = with("?a+b1", "?b", "?a=a1");
        due("causes 6", y.causes(0, 0, 1, 0), 6);
        due("causes 7", y.causes(2, 0, 2, 0), 7);
    }

    private static void causesUnknown() {
        SwapCalls x = new SwapCalls();
        due("5, 5", x.causes(5, 0, 5, 0), 0);
        due("one 6", x.causes(6, 0, 0, 0), UNKNOWN);
        due("other 6", x.causes(0, 0, 6, 0), UNKNOWN);
        for (int wild : WILD) {
            due("one " + wild, x.causes(wild, 0, 0, 0), UNKNOWN);
            due("other " + wild, x.causes(0, 0, wild, 0), UNKNOWN);
            due("both " + wild, x.causes(wild, wild, wild, wild), UNKNOWN);
        }
    }

    private static void causesOutside() {
        SwapCalls x = new SwapCalls();
        due("11, 11", x.causes(0, 11, 0, 11), 0);
        due("x 12", x.causes(0, 12, 0, 0), OUTSIDE);
        due("y 12", x.causes(0, 0, 0, 12), OUTSIDE);
        for (int wild : WILD) {
            due("x " + wild, x.causes(0, wild, 0, 0), OUTSIDE);
            due("y " + wild, x.causes(0, 0, 0, wild), OUTSIDE);
        }
    }

    private static void causesNo() {
        SwapCalls x = with("=", "c0p", "=a1");
        int[][] pairs = {{0, 0}, {0, 2}, {2, 0}, {1, 2}, {2, 1}, {0, 1}};
        for (int[] pair : pairs) due("causes " + pair[0] + ", " + pair[1], x.causes(pair[0], 0, pair[1], 0), NO);
        due("of two that are known", x.causes(2, 0, 2, 0), 1);
    }

    // ---- 9 to 12: programs

    private static void callTellsHowMany() {
        SwapCalls x = with("=");
        for (int i = 1; i <= 16; i++) due("call " + i, x.call(i % 6, i % 12), i);
        for (int i = 0; i < 16; i++) due("told(" + i + ")", x.told(i, 0) * 100 + x.told(i, 1), (i + 1) % 6 * 100 + (i + 1) % 12);
    }

    private static void callUnknown() {
        SwapCalls x = new SwapCalls();
        due("6", x.call(6, 0), UNKNOWN);
        for (int wild : WILD) due("routine " + wild, x.call(wild, 0), UNKNOWN);
        due("none came of it", x.count(0), 0);
    }

    private static void callOutside() {
        SwapCalls x = new SwapCalls();
        due("12", x.call(0, 12), OUTSIDE);
        for (int wild : WILD) due("x " + wild, x.call(0, wild), OUTSIDE);
        due("none came of it", x.count(0), 0);
    }

    private static void callFull() {
        SwapCalls x = new SwapCalls();
        for (int i = 0; i < 16; i++) x.call(0, i % 12);
        for (int i = 0; i < 3; i++) due("the 17th", x.call(5, 11), FULL);
        due("drop(0)", x.drop(0), 15);
        due("the 16th again", x.call(5, 11), 16);
        dueProgram("behind these", x, "0:1 0:2 0:3 0:4 0:5 0:6 0:7 0:8 0:9 0:10 0:11 0:0 0:1 0:2 0:3 5:11");
    }

    private static void dropTellsHowMany() {
        SwapCalls x = new SwapCalls();
        for (int i = 0; i < 16; i++) x.call(0, i % 12);
        due("the last of 16", x.drop(15), 15);
        due("the first", x.drop(0), 14);
        for (int left = 13; left >= 0; left--) due("the last", x.drop(left), left);
        due("count(0)", x.count(0), 0);
    }

    private static void dropUnknown() {
        SwapCalls x = new SwapCalls();
        due("of none", x.drop(0), UNKNOWN);
        calls(x, "0:0 0:1");
        due("2 of 2", x.drop(2), UNKNOWN);
        for (int wild : WILD) due("call " + wild, x.drop(wild), UNKNOWN);
        due("1 of 2", x.drop(1), 1);
        due("1 of 1", x.drop(1), UNKNOWN);
        due("0 of 1", x.drop(0), 0);
        due("0 of none", x.drop(0), UNKNOWN);
    }

    private static void swapFirstAndLast() {
        SwapCalls x = new SwapCalls();
        for (int i = 0; i < 16; i++) x.call(i % 6, i % 12);
        due("the last two", x.swap(14), 1);
        due("the first two", x.swap(0), 1);
        dueProgram("behind these", x, "1:1 0:0 2:2 3:3 4:4 5:5 0:6 1:7 2:8 3:9 4:10 5:11 0:0 1:1 3:3 2:2");
    }

    private static void swapUnknown() {
        SwapCalls x = new SwapCalls();
        due("of none", x.swap(0), UNKNOWN);
        due("of none, -1", x.swap(-1), UNKNOWN);
        calls(x, "0:0");
        due("none is behind it", x.swap(0), UNKNOWN);
        due("it is behind none", x.swap(-1), UNKNOWN);
        calls(x, "0:1");
        due("none is behind the second", x.swap(1), UNKNOWN);
        due("there is none", x.swap(2), UNKNOWN);
        for (int wild : WILD) due("call " + wild, x.swap(wild), UNKNOWN);
        due("one is behind the first", x.swap(0), 1);
        for (int i = 2; i < 16; i++) x.call(0, 0);
        due("none is behind the 16th", x.swap(15), UNKNOWN);
    }

    private static void swapNo() {
        SwapCalls x = calls(with("", "=", "c1p"), "0:0 0:1 1:0 0:0 2:0 0:0 0:1");
        due("a fault of neither", x.swap(0), 1);
        due("a fault of the one behind", x.swap(1), NO);
        due("a fault of the one ahead", x.swap(2), NO);
        due("a fault that the one behind calls", x.swap(3), NO);
        due("a fault that the one ahead calls", x.swap(4), NO);
        due("a fault of neither, behind", x.swap(5), 1);
    }

    private static void swapState() {
        SwapCalls x = calls(with("=a1", "+a1", "=ba", "?c", "?d"), "0:0 1:0 1:1 2:0 3:0 4:0 0:0");
        due("one writes what the other adds to", x.swap(0), STATE);
        due("both add", x.swap(1), 1);
        due("one reads what the other adds to", x.swap(2), STATE);
        due("one may throw", x.swap(3), 1);
        due("back again", x.swap(3), 1);
        due("both may throw", x.swap(4), STATE);
        due("one writes", x.swap(5), 1);
        dueProgram("behind these", x, "0:0 1:1 1:0 2:0 3:0 0:0 4:0");
    }

    private static void toldTellsEach() {
        SwapCalls x = with("=a1", "", "", "", "", "=a1");
        for (int i = 0; i < 16; i++) x.call(i < 8 ? 5 : 0, 11 - i % 12);
        for (int i = 0; i < 16; i++) {
            due("told(" + i + ", 0)", x.told(i, 0), i < 8 ? 5 : 0);
            due("told(" + i + ", 1)", x.told(i, 1), 11 - i % 12);
            due("told(" + i + ", 2)", x.told(i, 2), i);
            due("told(" + i + ", 3)", x.told(i, 3), i);
        }
        x.wipe(0);
        int[] rank = {8, 9, 10, 11, 12, 13, 14, 15, 3, 2, 1, 0, 7, 6, 5, 4};
        for (int i = 0; i < 16; i++) {
            due("told(" + i + ", 2), wiped", x.told(i, 2), i < 8 ? i : 0);
            due("told(" + i + ", 3), wiped", x.told(i, 3), rank[i]);
        }
    }

    private static void toldUnknown() {
        SwapCalls x = new SwapCalls();
        due("of none", x.told(0, 0), UNKNOWN);
        for (int i = 0; i < 16; i++) x.call(0, 0);
        due("15", x.told(15, 0), 0);
        due("16", x.told(16, 0), UNKNOWN);
        for (int wild : WILD) due("call " + wild, x.told(wild, 0), UNKNOWN);
        x.drop(0);
        due("15, one has gone", x.told(15, 3), UNKNOWN);
    }

    private static void toldOutside() {
        SwapCalls x = calls(new SwapCalls(), "0:0");
        due("what 3", x.told(0, 3), 0);
        due("what 4", x.told(0, 4), OUTSIDE);
        for (int wild : WILD) due("what " + wild, x.told(0, wild), OUTSIDE);
    }

    private static void toldNo() {
        SwapCalls x = calls(with("=a1", "=", "c1p"), "0:5 1:6 0:7");
        for (int i = 0; i < 3; i++) {
            due("told(" + i + ", 0)", x.told(i, 0), i == 1 ? 1 : 0);
            due("told(" + i + ", 1)", x.told(i, 1), 5 + i);
            due("told(" + i + ", 2)", x.told(i, 2), NO);
            due("told(" + i + ", 3)", x.told(i, 3), NO);
        }
        x.drop(1);
        due("a fault that no call has", x.told(1, 2), 1);
        calls(x, "2:0");
        due("a fault that a call comes to", x.told(0, 2), NO);
    }

    // ---- 13: stages

    private static void stagesHowMany() {
        SwapCalls x = with("=a1", "=b1");
        due("none", x.stages(0), 0);
        for (int i = 1; i <= 16; i++) {
            x.call(0, 0);
            due(i + " that are not free", x.stages(0), i);
        }
        SwapCalls y = with("+a1");
        for (int i = 1; i <= 16; i++) {
            y.call(0, 0);
            due(i + " that are free", y.stages(0), 1);
        }
    }

    private static void stagesMostCalls() {
        SwapCalls x = with("=a1", "+b1");
        due("none", x.stages(1), 0);
        calls(x, "0:0");
        due("one", x.stages(1), 1);
        for (int i = 1; i < 8; i++) x.call(0, 0);
        due("8 stages", x.stages(1), 1);
        for (int i = 0; i < 8; i++) x.call(1, 0);
        due("9 of the first", x.stages(1), 9);
        SwapCalls y = with("+b1");
        for (int i = 0; i < 16; i++) y.call(0, 0);
        due("16 of the first", y.stages(1), 16);
    }

    private static void stagesFirstSuch() {
        SwapCalls x = with("=a1", "+b~aa", "=cb");
        due("none", x.stages(2), NONE);
        calls(x, "0:0");
        due("one", x.stages(2), 0);
        calls(x, "1:0");
        due("one of each of two", x.stages(2), 0);
        calls(x, "1:1");
        due("two of the second", x.stages(2), 1);
        calls(x, "2:0");
        due("one, two, one", x.stages(2), 1);
        SwapCalls last = with("=a1", "+b~aa");
        for (int i = 0; i < 14; i++) last.call(0, 0);
        calls(last, "1:0 1:0");
        due("the last of 15", last.stages(2), 14);
        SwapCalls again = calls(with("=a1", "+b~aa", "+a1", "=cb"), "0:0 1:0 1:1 2:0 2:0 3:0");
        due("stages", again.stages(0), 3);
        due("two of the second, three of the third", again.stages(2), 2);
    }

    private static void stagesAsSingle() {
        for (int stages = 1; stages <= 16; stages++) {
            SwapCalls x = with("=a1", "");
            for (int i = 0; i < stages; i++) x.call(0, 0);
            for (int calls = stages; calls <= 16; calls++) {
                due(calls + " by " + stages, x.stages(3), Float.floatToIntBits((float) ((double) calls / stages)));
                x.call(1, 0);
            }
        }
        SwapCalls thirds = calls(with("=a1", ""), "0:0 0:0 0:0 1:0");
        due("4 by 3, the nearest is above", thirds.stages(3), 0x3FAAAAAB);
        calls(thirds, "1:0");
        due("5 by 3, the nearest is below", thirds.stages(3), 0x3FD55555);
        // Two that are as near never come: up to 16 by up to 16 has no such quotient.
        SwapCalls one = calls(with("=a1"), "0:0");
        due("1 by 1", one.stages(3), 0x3F800000);
    }

    private static void stagesAsSingleOfNone() {
        SwapCalls x = calls(with("=a1"), "0:0");
        x.drop(0);
        due("dropped", x.stages(3), 0);
        due("new", new SwapCalls().stages(3), 0);
    }

    private static void stagesFreePairs() {
        SwapCalls x = with("=a1", "+b1");
        due("none", x.stages(4), 0);
        calls(x, "1:0");
        due("one", x.stages(4), 0);
        calls(x, "1:0");
        due("two", x.stages(4), 1);
        for (int i = 2; i < 16; i++) x.call(1, 0);
        due("16, all free", x.stages(4), 120);
        SwapCalls y = with("=a1");
        for (int i = 0; i < 16; i++) y.call(0, 0);
        due("16, none free", y.stages(4), 0);
        y.drop(0);
        y.call(1, 0);
        due("15, and one that is free with all", y.stages(4), 15);
    }

    private static void stagesIsNormal() {
        SwapCalls x = with("=a1", "=b1", "=ca");
        due("none", x.stages(5), 1);
        calls(x, "1:0");
        due("one", x.stages(5), 1);
        calls(x, "0:0");
        due("by routines it is not", x.stages(5), 0);
        x.swap(0);
        due("swapped, it is", x.stages(5), 1);
        calls(x, "1:11 1:0");
        due("by stages it is", x.stages(5), 1);
        SwapCalls y = calls(with("+a1"), "0:0 0:0 0:11");
        due("alike, and by given it is", y.stages(5), 1);
        y.swap(1);
        due("by given it is not", y.stages(5), 0);
        SwapCalls late = calls(with("=a1", "=b1"), "0:0 0:0 1:0");
        due("by stages it is not", late.stages(5), 0);
    }

    private static void stagesLikeImage() {
        SwapCalls x = with("=a1", "=b1", "=ca");
        x.image(0);
        due("both empty", x.stages(6), 1);
        calls(x, "0:0");
        due("the image is empty", x.stages(6), 0);
        x.image(0);
        due("one call each", x.stages(6), 1);
        x.drop(0);
        due("the program is empty", x.stages(6), 0);
        calls(x, "0:1");
        due("given another", x.stages(6), 0);
        x.drop(0);
        calls(x, "1:0");
        due("another routine", x.stages(6), 0);
        calls(x, "0:0");
        x.image(0);
        x.swap(0);
        due("swapped", x.stages(6), 1);
        x.set(0, 55);
        due("places do not matter", x.stages(6), 1);
        calls(x, "2:0");
        x.image(0);
        x.drop(0);
        calls(x, "0:0");
        due("not to be swapped into one another", x.stages(6), 0);
        SwapCalls full = with("+a1");
        for (int i = 0; i < 16; i++) full.call(0, i % 12);
        full.image(0);
        due("16 alike", full.stages(6), 1);
        full.drop(0);
        due("15 and 16", full.stages(6), 0);
        full.call(0, 0);
        due("16, otherwise laid", full.stages(6), 1);
        full.image(1);
        full.commit();
        full.image(1);
        due("IMAGE 1 does not matter", full.stages(6), 0);
    }

    private static void stagesLikeImageAsToldNow() {
        SwapCalls x = calls(with("=a1", "=a2"), "0:0 1:0");
        x.image(0);
        x.commit();
        calls(x, "1:0 0:0");
        due("they are not free", x.stages(6), 0);
        tell(x, 1, "=b2");
        due("they are free now", x.stages(6), 1);
        tell(x, 1, "?ac1p");
        due("they are not free now", x.stages(6), 0);
    }

    private static void stagesOutside() {
        SwapCalls x = new SwapCalls();
        due("what 7", x.stages(7), OUTSIDE);
        for (int wild : WILD) due("what " + wild, x.stages(wild), OUTSIDE);
    }

    private static void stagesState() {
        SwapCalls x = new SwapCalls();
        due("no image", x.stages(6), STATE);
        x.image(1);
        due("image 1 alone", x.stages(6), STATE);
        x.restore(1);
        due("image 1 restored", x.stages(6), STATE);
        x.image(0);
        due("image 0", x.stages(6), 1);
    }

    private static void stagesNo() {
        SwapCalls x = calls(with("", "=", "c1p"), "0:0");
        x.image(0);
        for (int what = 0; what < 7; what++) due("a fault that no call has", x.stages(what) == NO ? 1 : 0, 0);
        calls(x, "1:0");
        for (int what = 0; what < 7; what++) due("stages(" + what + ")", x.stages(what), NO);
        x.drop(1);
        calls(x, "2:0");
        for (int what = 0; what < 7; what++) due("stages(" + what + "), by a call", x.stages(what), NO);
        x.drop(1);
        due("dropped", x.stages(0), 1);
    }

    private static void stagesNoOfTheImage() {
        SwapCalls x = calls(with("=a1", "=", "c1p"), "1:0");
        x.image(0);
        x.drop(0);
        due("of the image alone, and the program is empty", x.stages(6), NO);
        calls(x, "0:0");
        due("of the image alone", x.stages(6), NO);
        for (int what = 0; what < 6; what++) due("the others do not look at it", x.stages(what) == NO ? 1 : 0, 0);
        x.drop(0);
        calls(x, "2:0");
        x.image(0);
        x.drop(0);
        due("that a call of the image comes to", x.stages(6), NO);
        x.image(0);
        due("kept anew", x.stages(6), 1);
        calls(x, "1:0");
        x.image(1);
        x.drop(0);
        due("IMAGE 1 does not matter", x.stages(6), 1);
    }

    private static void stagesInThisOrder() {
        SwapCalls x = calls(with("="), "0:0");
        due("OUTSIDE ahead of NO", x.stages(7), OUTSIDE);
        due("STATE ahead of NO", x.stages(6), STATE);
        x.image(0);
        due("NO", x.stages(6), NO);
    }

    // ---- 14 to 16: runs

    private static void runPlaces() {
        SwapCalls x = new SwapCalls();
        for (int p = 0; p < 18; p++) x.set(p, 99 - p);
        for (int how = 0; how < 3; how++) {
            for (int p = 0; p < 18; p++) due("run(" + how + ", " + p + ") of none", x.run(how, p), 99 - p);
        }
        tell(x, 0, "+a1#p0");
        calls(x, "0:11");
        for (int how = 0; how < 3; how++) {
            for (int p = 0; p < 18; p++) due("run(" + how + ", " + p + ")", x.run(how, p), p == 0 || p == 17 ? 0 : 99 - p);
        }
    }

    private static void runThrows() {
        SwapCalls x = with("?a", "+a1");
        due("of none", x.run(0, 18), 0);
        for (int i = 1; i <= 16; i++) {
            x.call(0, 0);
            for (int how = 0; how < 3; how++) due(i + " throw", x.run(how, 18), i);
        }
        x.set(0, 1);
        due("none throws", x.run(0, 18), 0);
        x.drop(0);
        calls(x, "1:0");
        x.set(0, 0);
        due("all but one throw", x.run(0, 18), 15);
    }

    private static void runSteps() {
        SwapCalls x = with(FULL_TEXT, "");
        x.set(0, 1);
        due("of none", x.run(0, 19), 0);
        calls(x, "1:0");
        due("of one without a statement", x.run(0, 19), 0);
        for (int i = 1; i <= 15; i++) x.call(0, 0);
        for (int how = 0; how < 3; how++) due("15 times 15", x.run(how, 19), 225);
        x.set(0, 0);
        for (int how = 0; how < 3; how++) due("15 that throw at once", x.run(how, 19), 15);
    }

    private static void runOutside() {
        SwapCalls x = new SwapCalls();
        due("how 2, what 19", x.run(2, 19), 0);
        due("how 3", x.run(3, 0), OUTSIDE);
        due("what 20", x.run(0, 20), OUTSIDE);
        for (int wild : WILD) {
            due("how " + wild, x.run(wild, 0), OUTSIDE);
            due("what " + wild, x.run(0, wild), OUTSIDE);
        }
    }

    private static void runState() {
        SwapCalls x = calls(with("c0p", "=", "c1p", "+a1"), "3:0 0:0");
        for (int how = 0; how < 3; how++) due("without end, " + how, x.run(how, 0), STATE);
        x.drop(1);
        calls(x, "1:0");
        for (int how = 0; how < 3; how++) due("a fault, " + how, x.run(how, 0), STATE);
        x.drop(1);
        calls(x, "2:0");
        for (int how = 0; how < 3; how++) due("a fault that is come to, " + how, x.run(how, 0), STATE);
        x.drop(1);
        for (int how = 0; how < 3; how++) due("none, " + how, x.run(how, 0), 1);
    }

    private static void runChangesNothing() {
        changesNothing("run", () -> calls(with("+a7#pa", "?b=c9"), "0:0 1:0 0:11 1:1"), x -> {
            for (int how = 0; how < 3; how++) {
                due("run", x.run(how, 0), 14);
                due("run again", x.run(how, 0), 14);
                due("thrower", x.thrower(how, 1), 3);
            }
        });
    }

    private static void throwerTellsNumbers() {
        SwapCalls x = new SwapCalls();
        tell(x, 5, "?a");
        tell(x, 0, "+b1");
        calls(x, "5:11 0:0 5:3 0:1 0:0 5:7");
        // Their ranks are not their numbers.
        int[] want = {0, 2, 5};
        for (int how = 0; how < 3; how++) {
            for (int i = 0; i < 3; i++) due("thrower(" + how + ", " + i + ")", x.thrower(how, i), want[i]);
        }
        SwapCalls all = with("?a");
        for (int i = 0; i < 16; i++) all.call(0, 11 - i % 12);
        for (int how = 0; how < 3; how++) {
            for (int i = 0; i < 16; i++) due("thrower(" + how + ", " + i + ") of 16", all.thrower(how, i), i);
        }
    }

    private static void throwerNone() {
        SwapCalls x = with("?a", "+b1");
        due("of no call", x.thrower(0, 0), NONE);
        calls(x, "1:0");
        due("of one that does not throw", x.thrower(0, 0), NONE);
        calls(x, "0:0");
        for (int how = 0; how < 3; how++) {
            due("the first", x.thrower(how, 0), 1);
            due("no second", x.thrower(how, 1), NONE);
            due("none below the first", x.thrower(how, -1), NONE);
            for (int wild : WILD) due("none at " + wild, x.thrower(how, wild), NONE);
        }
        for (int i = 2; i < 16; i++) x.call(0, 0);
        due("the 15th", x.thrower(0, 14), 15);
        due("no 16th", x.thrower(0, 15), NONE);
        due("no 17th", x.thrower(0, 16), NONE);
        x.set(0, 1);
        due("none throws any more", x.thrower(0, 0), NONE);
    }

    private static void throwerOutside() {
        SwapCalls x = calls(with("?a"), "0:0");
        due("how 2", x.thrower(2, 0), 0);
        due("how 3", x.thrower(3, 0), OUTSIDE);
        for (int wild : WILD) {
            due("how " + wild, x.thrower(wild, 0), OUTSIDE);
            due("how, i " + wild, x.thrower(wild, wild), OUTSIDE);
        }
    }

    private static void throwerState() {
        SwapCalls x = calls(with("?a", "=", "c2p"), "0:0 1:0");
        for (int how = 0; how < 3; how++) {
            for (int i : new int[] {-1, 0, 1, 16}) due("a fault", x.thrower(how, i), STATE);
        }
        x.drop(1);
        calls(x, "2:0");
        for (int how = 0; how < 3; how++) {
            for (int i : new int[] {-1, 0, 1, 16}) due("without end", x.thrower(how, i), STATE);
        }
        x.drop(1);
        due("none", x.thrower(0, 0), 0);
    }

    private static void commitPlaces() {
        SwapCalls x = calls(with("+a1#pa", "?f=e9"), "0:0 1:0 0:11 1:0");
        x.set(0, 98);
        due("two throw", x.commit(), 2);
        int[] want = new int[18];
        want[6] = 99;
        for (int p = 0; p < 18; p++) due("get(" + p + ")", x.get(p), want[p]);
        SwapCalls all = with("?a+b1");
        for (int i = 0; i < 16; i++) all.call(0, 0);
        due("16 throw", all.commit(), 16);
        due("b", all.get(1), 0);
        for (int i = 0; i < 16; i++) all.call(0, 0);
        all.set(0, 1);
        due("none throws", all.commit(), 0);
        due("b is 16", all.get(1), 16);
    }

    private static void commitEmpties() {
        SwapCalls x = new SwapCalls();
        for (int i = 0; i < 16; i++) x.call(0, 0);
        x.commit();
        due("count(0)", x.count(0), 0);
        due("told(0, 0)", x.told(0, 0), UNKNOWN);
        due("drop(0)", x.drop(0), UNKNOWN);
        due("stages(2)", x.stages(2), NONE);
        due("a first call", x.call(5, 11), 1);
        dueProgram("behind these", x, "5:11");
    }

    private static void commitOfNone() {
        SwapCalls x = with("=");
        x.set(17, 99);
        due("commit()", x.commit(), 0);
        due("commit() again", x.commit(), 0);
        due("get(17)", x.get(17), 99);
        due("signs stay", x.count(10), 1);
    }

    private static void commitState() {
        SwapCalls x = calls(with("+a1", "=", "c2p"), "0:0 1:0");
        due("a fault", x.commit(), STATE);
        due("calls stay", x.count(0), 2);
        due("places stay", x.get(0), 0);
        x.drop(1);
        calls(x, "2:0");
        due("without end", x.commit(), STATE);
        due("calls stay", x.count(0), 2);
        due("places stay", x.get(0), 0);
        x.drop(1);
        due("none throws", x.commit(), 0);
        due("a", x.get(0), 1);
    }

    // ---- 17, 18: images

    private static void imageKeepsBoth() {
        SwapCalls x = new SwapCalls();
        for (int p = 0; p < 18; p++) x.set(p, p);
        for (int i = 0; i < 16; i++) x.call(i % 6, i % 12);
        String sixteen = program(x);
        due("image(0)", x.image(0), 1);
        for (int p = 0; p < 18; p++) x.set(p, 99 - p);
        x.drop(15);
        due("image(1)", x.image(1), 1);
        x.commit();
        x.restore(0);
        for (int p = 0; p < 18; p++) due("get(" + p + ") of 0", x.get(p), p);
        dueProgram("of 0", x, sixteen);
        x.restore(1);
        for (int p = 0; p < 18; p++) due("get(" + p + ") of 1", x.get(p), 99 - p);
        due("15 calls", x.count(0), 15);
        due("image(0) anew", x.image(0), 1);
        x.commit();
        x.restore(0);
        due("15 calls, kept anew", x.count(0), 15);
    }

    private static void imageOfNothing() {
        SwapCalls x = new SwapCalls();
        due("image(0)", x.image(0), 1);
        calls(x, "0:0 1:1");
        x.set(0, 9);
        due("restore(0)", x.restore(0), 1);
        due("count(0)", x.count(0), 0);
        due("get(0)", x.get(0), 0);
    }

    private static void imageOutside() {
        SwapCalls x = new SwapCalls();
        due("2", x.image(2), OUTSIDE);
        for (int wild : WILD) due("k " + wild, x.image(wild), OUTSIDE);
        due("none was kept, 0", x.restore(0), STATE);
        due("none was kept, 1", x.restore(1), STATE);
    }

    private static void restoreAsTheyWere() {
        SwapCalls x = calls(with("+a1", "=b2"), "0:1 1:2");
        x.set(17, 99);
        x.image(1);
        for (int round = 0; round < 2; round++) {
            x.swap(0);
            x.commit();
            x.set(17, 5);
            calls(x, "3:3 4:4 5:5");
            due("restore(1)", x.restore(1), 1);
            dueProgram("restored", x, "0:1 1:2");
            due("a", x.get(0), 0);
            due("b", x.get(1), 0);
            due("cell 11", x.get(17), 99);
        }
        x.drop(0);
        x.swap(0);
        due("restore(1), once more", x.restore(1), 1);
        dueProgram("restored once more", x, "0:1 1:2");
        tell(x, 0, "+c5");
        x.restore(1);
        due("texts are as they are told now", x.run(0, 2), 5);
    }

    private static void restoreOutside() {
        SwapCalls x = new SwapCalls();
        x.image(0);
        x.image(1);
        due("2", x.restore(2), OUTSIDE);
        for (int wild : WILD) due("k " + wild, x.restore(wild), OUTSIDE);
    }

    private static void restoreState() {
        SwapCalls x = new SwapCalls();
        due("0", x.restore(0), STATE);
        due("1", x.restore(1), STATE);
        x.image(1);
        due("0, 1 was kept", x.restore(0), STATE);
        due("1, 1 was kept", x.restore(1), 1);
        SwapCalls y = new SwapCalls();
        y.image(0);
        due("1, 0 was kept", y.restore(1), STATE);
        due("0, 0 was kept", y.restore(0), 1);
    }

    // ---- 19: count

    private static void countCalls() {
        SwapCalls x = new SwapCalls();
        for (int i = 0; i < 16; i++) {
            due("count(0)", x.count(0), i);
            x.call(0, 0);
        }
        due("count(0) of 16", x.count(0), 16);
        x.call(0, 0);
        due("count(0), one was refused", x.count(0), 16);
        x.drop(15);
        due("count(0), one has gone", x.count(0), 15);
    }

    private static void countSigns() {
        SwapCalls x = with("", "!", FULL_TEXT, "=", "=a1", FULL_TEXT.substring(1));
        int[] want = {0, 1, 30, 1, 3, 29};
        for (int r = 0; r < 6; r++) due("count(" + (10 + r) + ")", x.count(10 + r), want[r]);
        x.say(2, '?');
        due("count(12), one was refused", x.count(12), 30);
    }

    private static void countStatements() {
        SwapCalls x = with("", "?a", FULL_TEXT, "=a1=", "=a1!", "c0pc0p=a~12");
        int[] want = {0, 1, 15, NONE, NONE, 3};
        for (int r = 0; r < 6; r++) due("count(" + (20 + r) + ")", x.count(20 + r), want[r]);
        tell(x, 0, "c3p");
        due("a fault that it calls is not its own", x.count(20), 1);
    }

    private static void countCallees() {
        SwapCalls x = with("c0pc1pc2pc3pc4pc5p", "c1p", "c5pc5p", "c0p!", "c", "");
        int[] want = {63, 2, 32, NONE, NONE, 0};
        for (int r = 0; r < 6; r++) due("count(" + (30 + r) + ")", x.count(30 + r), want[r]);
        tell(x, 5, "c0p");
        due("not those that the others call", x.count(35), 1);
        tell(x, 5, "c3p");
        due("a fault that it calls is not its own", x.count(35), 8);
        tell(x, 5, "=a1");
        due("no call any more", x.count(35), 0);
    }

    private static void countOutside() {
        SwapCalls x = new SwapCalls();
        for (int what = -40; what <= 70; what++) {
            boolean told = what == 0 || what >= 10 && what <= 15 || what >= 20 && what <= 25 || what >= 30 && what <= 35;
            due("count(" + what + ")", x.count(what), told ? 0 : OUTSIDE);
        }
        for (int wild : WILD) due("count(" + wild + ")", x.count(wild), OUTSIDE);
    }
}
