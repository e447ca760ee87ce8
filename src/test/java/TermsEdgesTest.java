import java.util.ArrayList;
import java.util.List;

/** Each sentence of the document's "What it is" and "Terms" that names a boundary case has a test of its own here. */
public final class TermsEdgesTest extends Sentences {
    private static final String FULL_TEXT = "?a".repeat(15);

    public static void main(String[] args) {
        sentence("An object is used for at most 512 calls", TermsEdgesTest::used512Times);
        refusals();
        placesAndTexts();
        statementsAndTerms();
        effectsAndCauses();
        programs();
        runs();
        end("edges of the terms");
    }

    private static void refusals() {
        sentence("the first of these that fits: UNKNOWN ahead of OUTSIDE", TermsEdgesTest::unknownAheadOfOutside);
        sentence("the first of these that fits: UNKNOWN, OUTSIDE ahead of NO", TermsEdgesTest::outsideAheadOfNo);
        sentence("the first of these that fits: NO ahead of STATE", TermsEdgesTest::noAheadOfState);
        sentence("the first of these that fits: OUTSIDE ahead of STATE", TermsEdgesTest::outsideAheadOfState);
        sentence("the first of these that fits: UNKNOWN, OUTSIDE ahead of FULL", TermsEdgesTest::outsideAheadOfFull);
        sentence("They change nothing", TermsEdgesTest::refusedCallsChangeNothing);
        sentence("a sign that is said changes what fault() tells", TermsEdgesTest::saidSignsChangeTheFault);
        sentence("Sets of PLACES are bits", TermsEdgesTest::setsAreBits);
    }

    private static void placesAndTexts() {
        sentence("PLACES are 0 to 5, NUMBERS (a to f)", TermsEdgesTest::numbersAreTheFirstPlaces);
        sentence("and 6 to 17, CELLS (cell 0 to 11)", TermsEdgesTest::cellsAreTheLastPlaces);
        sentence("each holds 0 to 99", TermsEdgesTest::placesHoldUpTo99);
        sentence("(0, at first)", TermsEdgesTest::placesHold0AtFirst);
        sentence("ROUTINES 0 to 5", TermsEdgesTest::thereAreSixRoutines);
        sentence("a text each", TermsEdgesTest::eachRoutineHasItsOwnText);
        sentence("of up to 30 signs", TermsEdgesTest::upTo30Signs);
        sentence("(codes 33 to 126)", TermsEdgesTest::codes33To126);
        sentence("STATEMENTS, one behind another", TermsEdgesTest::statementsStandBehindOneAnother);
        sentence("or none", TermsEdgesTest::noStatementIsNoFault);
    }

    private static void statementsAndTerms() {
        sentence("A STATEMENT is one of these", TermsEdgesTest::signsThatOpenStatements);
        sentence("= and a letter a to f, and a TERM", TermsEdgesTest::signsOfNumberStatements);
        sentence("# and an INDEX, and a TERM", TermsEdgesTest::signsOfCellStatements);
        sentence("? and a letter", TermsEdgesTest::signsOfTests);
        sentence("c and a figure 0 to 5, and an INDEX", TermsEdgesTest::signsOfCalls);
        sentence("A TERM is ..", TermsEdgesTest::signsOfTerms);
        sentence("An INDEX is ..", TermsEdgesTest::signsOfIndices);
        sentence("THE FAULT: the first sign that can not stand there", TermsEdgesTest::faultIsTheFirst);
        sentence("THE FAULT: or the number of signs, if more must come", TermsEdgesTest::faultIsTheNumberOfSigns);
        sentence("the NUMBER becomes the TERM", TermsEdgesTest::numbersBecomeTerms);
        sentence("the TERM is added to it (a NUMBER), left over by 100", TermsEdgesTest::termsAreAddedToNumbers);
        sentence("the CELL becomes the TERM", TermsEdgesTest::cellsBecomeTerms);
        sentence("the TERM is added to it (a CELL), left over by 100", TermsEdgesTest::termsAreAddedToCells);
        sentence("if the NUMBER is 0, it THROWS", TermsEdgesTest::testsThrowAt0Alone);
        sentence("that ROUTINE is done, given that", TermsEdgesTest::calledRoutinesAreGivenTheIndex);
        sentence("p (what the ROUTINE was given, 0 to 11)", TermsEdgesTest::givenNumbersAreTerms);
        sentence("All sums are left over by 100", TermsEdgesTest::sumsAreLeftOverBy100);
        sentence("one more; left over by 12", TermsEdgesTest::indicesAreLeftOverBy12);
    }

    private static void effectsAndCauses() {
        sentence("PLACES that it READS (in TERMS, and ?)", TermsEdgesTest::readsInTermsAndTests);
        sentence("not that to which it adds, by that alone", TermsEdgesTest::addingAloneDoesNotRead);
        sentence("WRITES (= and #), ADDS to (+ and ^)", TermsEdgesTest::writesAndAdds);
        sentence("and whether it may THROW", TermsEdgesTest::testsMayThrow);
        sentence("whether they are come to or not", TermsEdgesTest::whatIsNotComeToCounts);
        sentence("and the EFFECTS of those that it calls, given what they are given", TermsEdgesTest::effectsOfThoseCalled);
        sentence("found by going round till nothing changes", TermsEdgesTest::effectsComeFromFarAway);
        sentence("as little as can be", TermsEdgesTest::asLittleAsCanBe);
        sentence("It is not known, if it has a FAULT", TermsEdgesTest::faultyIsNotKnown);
        sentence("or one that it calls, or these, and so on", TermsEdgesTest::faultsFarAwayAreNotKnown);
        sentence("1: a PLACE that the one WRITES ..", TermsEdgesTest::causeOfWrites);
        sentence("2: a PLACE that the one READS ..", TermsEdgesTest::causeOfReads);
        sentence("4: both may THROW", TermsEdgesTest::causeOfThrows);
        sentence("FREE: no CAUSE", TermsEdgesTest::freeIsNoCause);
    }

    private static void programs() {
        sentence("The PROGRAM is up to 16 CALLS", TermsEdgesTest::upTo16Calls);
        sentence("each of a ROUTINE, given x (0 to 11)", TermsEdgesTest::callsAreGiven0To11);
        sentence("numbered from 0 on (those behind one that goes are one less)", TermsEdgesTest::callsAreNumberedFrom0On);
        sentence("STAGE of a CALL: 0, if it is FREE with all CALLS ahead of it", TermsEdgesTest::stage0IfFreeWithAll);
        sentence("else 1 more than the greatest STAGE of those ..", TermsEdgesTest::stageBehindTheGreatest);
        sentence("CALLS by STAGES", TermsEdgesTest::ranksByStages);
        sentence("in each by ROUTINES, then by what they are given", TermsEdgesTest::ranksByRoutinesThenByGiven);
        sentence("(then as they were)", TermsEdgesTest::ranksOfThoseAlike);
        sentence("each CALL has its RANK there, from 0 on", TermsEdgesTest::ranksFrom0On);
    }

    private static void runs() {
        sentence("a ROUTINE does its STATEMENTS in order (each is a STEP)", TermsEdgesTest::eachStatementIsAStep);
        sentence("When one THROWS, that CALL of the PROGRAM ends there, with all that were called for it", TermsEdgesTest::throwsEndTheWholeCall);
        sentence("what was done stays done", TermsEdgesTest::whatWasDoneStaysDone);
        sentence("the next CALL goes on", TermsEdgesTest::theNextCallGoesOn);
        sentence("A RUN is in ORDER (0), by STAGES (1), or by RANKS (2)", TermsEdgesTest::whatComesIsTheSame);
        sentence("It is not known, if an EFFECT is not", TermsEdgesTest::runNeedsEffects);
        sentence("if any CALL of the PROGRAM has more than 200 STEPS", TermsEdgesTest::upTo200Steps);
        sentence("any CALL: the first, the last, each for itself", TermsEdgesTest::stepsOfEachCallForItself);
        sentence("or more than 20 ROUTINES within one another", TermsEdgesTest::upTo20RoutinesWithinOneAnother);
        sentence("within one another, not one behind another", TermsEdgesTest::routinesOneBehindAnother);
    }

    // ---- what it is

    private static void used512Times() {
        SwapCalls x = new SwapCalls();
        for (int i = 1; i <= 512; i++) due("call " + i, x.set(17, i % 100), (i - 1) % 100);
        // What later calls answer is free, but they must come back.
        for (int i = 0; i < 600; i++) {
            x.call(i % 6, i % 12);
            x.run(i % 3, i % 20);
        }
    }

    // ---- refusals

    private static void unknownAheadOfOutside() {
        SwapCalls x = calls(new SwapCalls(), "0:0 0:0");
        due("say(6, 32)", x.say(6, 32), UNKNOWN);
        due("say(-1, 127)", x.say(-1, 127), UNKNOWN);
        due("set(18, 100)", x.set(18, 100), UNKNOWN);
        due("set(-1, -1)", x.set(-1, -1), UNKNOWN);
        due("effect(6, 12, 4)", x.effect(6, 12, 4), UNKNOWN);
        due("causes(6, 12, 0, 12)", x.causes(6, 12, 0, 12), UNKNOWN);
        due("causes(0, 12, 6, 12)", x.causes(0, 12, 6, 12), UNKNOWN);
        due("call(6, 12)", x.call(6, 12), UNKNOWN);
        due("told(2, 4)", x.told(2, 4), UNKNOWN);
        due("told(-1, -1)", x.told(-1, -1), UNKNOWN);
    }

    private static void outsideAheadOfNo() {
        SwapCalls x = calls(with("=", "=a1"), "0:0 1:0");
        due("effect(0, 12, 0)", x.effect(0, 12, 0), OUTSIDE);
        due("effect(0, 0, 4)", x.effect(0, 0, 4), OUTSIDE);
        due("causes(0, 0, 1, 12)", x.causes(0, 0, 1, 12), OUTSIDE);
        due("causes(1, 12, 0, 0)", x.causes(1, 12, 0, 0), OUTSIDE);
        due("causes(0, 0, 6, 0)", x.causes(0, 0, 6, 0), UNKNOWN);
        due("swap(1)", x.swap(1), UNKNOWN);
        due("told(2, 2)", x.told(2, 2), UNKNOWN);
        due("told(0, 4)", x.told(0, 4), OUTSIDE);
        due("stages(7)", x.stages(7), OUTSIDE);
    }

    private static void noAheadOfState() {
        SwapCalls x = calls(with("=a1!", "=a1"), "0:0 0:0 1:0 0:0");
        for (int i = 0; i < 3; i++) due("swap(" + i + ")", x.swap(i), NO);
        tell(x, 0, "=a1");
        for (int i = 0; i < 3; i++) due("swap(" + i + "), mended", x.swap(i), STATE);
    }

    private static void outsideAheadOfState() {
        SwapCalls x = calls(with("="), "0:0");
        due("run(3, 0)", x.run(3, 0), OUTSIDE);
        due("run(0, 20)", x.run(0, 20), OUTSIDE);
        due("thrower(3, 0)", x.thrower(3, 0), OUTSIDE);
        due("restore(2)", x.restore(2), OUTSIDE);
        due("stages(7)", x.stages(7), OUTSIDE);
    }

    private static void outsideAheadOfFull() {
        SwapCalls x = with(FULL_TEXT);
        for (int i = 0; i < 16; i++) x.call(0, 0);
        due("say(0, 32)", x.say(0, 32), OUTSIDE);
        due("say(6, 33)", x.say(6, 33), UNKNOWN);
        due("say(0, 33)", x.say(0, 33), FULL);
        due("call(0, 12)", x.call(0, 12), OUTSIDE);
        due("call(6, 0)", x.call(6, 0), UNKNOWN);
        due("call(0, 0)", x.call(0, 0), FULL);
    }

    /** An object with a full text, a full PROGRAM, and an IMAGE 0 that is not as what is now. */
    private static SwapCalls rich() {
        SwapCalls x = with("?b".repeat(15), "=ab", "+cp", "^p1c2>p", "");
        for (int p = 0; p < 18; p++) x.set(p, p * 5);
        calls(x, "0:0 1:11");
        x.image(0);
        x.set(17, 99);
        calls(x, "2:5 1:0 3:4 0:9 4:1 4:0 2:0 2:3 1:1 3:11 3:0 0:1 2:11 1:2");
        return x;
    }

    private static SwapCalls richAndFaulty() {
        SwapCalls x = rich();
        x.say(1, '!');
        return x;
    }

    private static void refusedCallsChangeNothing() {
        changesNothing("say", TermsEdgesTest::rich, x -> {
            due("say(6, '=')", x.say(6, '='), UNKNOWN);
            due("say(1, 32)", x.say(1, 32), OUTSIDE);
            due("say(1, 127)", x.say(1, 127), OUTSIDE);
            due("say(0, '=')", x.say(0, '='), FULL);
        });
        changesNothing("wipe", TermsEdgesTest::rich, x -> due("wipe(6)", x.wipe(6), UNKNOWN));
        changesNothing("set", TermsEdgesTest::rich, x -> {
            due("set(18, 7)", x.set(18, 7), UNKNOWN);
            due("set(0, 100)", x.set(0, 100), OUTSIDE);
            due("set(17, -1)", x.set(17, -1), OUTSIDE);
        });
        changesNothing("call", TermsEdgesTest::rich, x -> {
            due("call(6, 0)", x.call(6, 0), UNKNOWN);
            due("call(0, 12)", x.call(0, 12), OUTSIDE);
            due("call(0, 0)", x.call(0, 0), FULL);
        });
        changesNothing("drop", TermsEdgesTest::rich, x -> {
            due("drop(16)", x.drop(16), UNKNOWN);
            due("drop(-1)", x.drop(-1), UNKNOWN);
        });
        changesNothing("swap", TermsEdgesTest::rich, x -> {
            due("swap(15)", x.swap(15), UNKNOWN);
            due("swap(-1)", x.swap(-1), UNKNOWN);
        });
        changesNothing("swap, STATE", () -> calls(with("?a", "?b"), "0:1 1:2"), x ->
            due("swap(0)", x.swap(0), STATE));
        changesNothing("swap, NO", TermsEdgesTest::richAndFaulty, x -> due("swap(2)", x.swap(2), NO));
        changesNothing("commit", TermsEdgesTest::richAndFaulty, x -> due("commit()", x.commit(), STATE));
        changesNothing("image", TermsEdgesTest::rich, x -> {
            due("image(2)", x.image(2), OUTSIDE);
            due("image(-1)", x.image(-1), OUTSIDE);
        });
        changesNothing("restore", TermsEdgesTest::rich, x -> {
            due("restore(1)", x.restore(1), STATE);
            due("restore(2)", x.restore(2), OUTSIDE);
        });
        changesNothing("questions", TermsEdgesTest::richAndFaulty, x -> {
            due("effect", x.effect(1, 0, 0), NO);
            due("causes", x.causes(1, 0, 0, 0), NO);
            due("told", x.told(0, 3), NO);
            due("stages", x.stages(5), NO);
            due("run", x.run(2, 0), STATE);
            due("thrower", x.thrower(2, 0), STATE);
        });
    }

    private static void saidSignsChangeTheFault() {
        SwapCalls x = new SwapCalls();
        int[] fault = {1, 2, NONE, 4, NONE, 5, 5};
        String text = "=a1?b!?";
        for (int i = 0; i < text.length(); i++) {
            x.say(3, text.charAt(i));
            due("fault(3) behind " + text.substring(0, i + 1), x.fault(3), fault[i]);
        }
        due("a sign that is refused", x.say(3, 127), OUTSIDE);
        due("fault(3) stays", x.fault(3), 5);
        due("fault(2)", x.fault(2), NONE);
    }

    private static void setsAreBits() {
        SwapCalls x = with("=a1", "=f1", "#p1", "+a1", "^p1", "=b~a@p");
        due("a", x.effect(0, 0, 1), 1);
        due("f", x.effect(1, 0, 1), 32);
        for (int given = 0; given < 12; given++) {
            due("cell " + given + " is set", x.effect(2, given, 1), 64 << given);
            due("cell " + given + " is added to", x.effect(4, given, 2), 64 << given);
            due("a, and cell " + given + " is read", x.effect(5, given, 0), 1 | 64 << given);
        }
        SwapCalls all = with("=a1=b1=c1=d1=e1=f1c1p", "#p1c1>p", "c1p");
        due("all places", all.effect(0, 5, 1), (1 << 18) - 1);
        due("all cells", all.effect(2, 11, 1), ((1 << 12) - 1) << 6);
    }

    // ---- places, texts

    private static void numbersAreTheFirstPlaces() {
        for (int p = 0; p < 6; p++) {
            String letter = LETTERS.substring(p, p + 1);
            SwapCalls x = calls(with("=" + letter + "7"), "0:0");
            for (int q = 0; q < 18; q++) due("place " + q + " behind =" + letter + "7", x.run(0, q), p == q ? 7 : 0);
        }
    }

    private static void cellsAreTheLastPlaces() {
        for (int cell = 0; cell < 12; cell++) {
            SwapCalls x = calls(with("#p7"), "0:" + cell);
            for (int q = 0; q < 18; q++) due("place " + q + " behind #p7, given " + cell, x.run(0, q), q == 6 + cell ? 7 : 0);
        }
        SwapCalls x = new SwapCalls();
        due("set(17, 1)", x.set(17, 1), 0);
        due("set(18, 1)", x.set(18, 1), UNKNOWN);
        due("get(18)", x.get(18), UNKNOWN);
        due("get(-1)", x.get(-1), UNKNOWN);
    }

    private static void placesHoldUpTo99() {
        SwapCalls x = new SwapCalls();
        for (int p = 0; p < 18; p++) {
            due("set to 99", x.set(p, 99), 0);
            due("set to 100", x.set(p, 100), OUTSIDE);
            due("set to -1", x.set(p, -1), OUTSIDE);
            due("get", x.get(p), 99);
            due("set to 0", x.set(p, 0), 99);
        }
    }

    private static void placesHold0AtFirst() {
        SwapCalls x = new SwapCalls();
        for (int p = 0; p < 18; p++) due("get(" + p + ")", x.get(p), 0);
        due("and a run finds them so", calls(with("?f"), "0:0").run(0, 18), 1);
    }

    private static void thereAreSixRoutines() {
        SwapCalls x = new SwapCalls();
        for (int r = -1; r <= 6; r++) {
            boolean known = r >= 0 && r < 6;
            due("say(" + r + ")", x.say(r, '?'), known ? 1 : UNKNOWN);
            due("fault(" + r + ")", x.fault(r), known ? 1 : UNKNOWN);
            due("wipe(" + r + ")", x.wipe(r), known ? 1 : UNKNOWN);
            due("effect(" + r + ")", x.effect(r, 0, 0), known ? 0 : UNKNOWN);
            due("causes(" + r + ")", x.causes(r, 0, 0, 0), known ? 0 : UNKNOWN);
            due("causes(.., " + r + ")", x.causes(0, 0, r, 0), known ? 0 : UNKNOWN);
        }
    }

    private static void eachRoutineHasItsOwnText() {
        SwapCalls x = with("=a1", "=b1", "=c1", "=d1", "=e1", "=f1");
        for (int r = 0; r < 6; r++) dueEffect(x, r, 0, "", LETTERS.substring(r, r + 1), "", 0);
        x.wipe(3);
        for (int r = 0; r < 6; r++) due("signs of " + r, x.count(10 + r), r == 3 ? 0 : 3);
    }

    private static void upTo30Signs() {
        SwapCalls x = with(FULL_TEXT);
        due("the 31st", x.say(0, '?'), FULL);
        due("count(10)", x.count(10), 30);
        due("count(20)", x.count(20), 15);
        due("another is not full", x.say(1, '?'), 1);
        x.wipe(0);
        due("wiped, it is not full", x.say(0, '?'), 1);
    }

    private static void codes33To126() {
        SwapCalls x = new SwapCalls();
        int told = 0;
        for (int code = 0; code < 200; code++) {
            boolean good = code >= 33 && code <= 126;
            if (told == 30) told -= x.wipe(2);
            due("say(2, " + code + ")", x.say(2, code), good ? ++told : OUTSIDE);
        }
        for (int wild : WILD) due("say(2, " + wild + ")", x.say(2, wild), OUTSIDE);
    }

    private static void statementsStandBehindOneAnother() {
        String text = "=a1+a1#01^01?ac0p";
        String[] ends = {"=a1", "=a1+a1", "=a1+a1#01", "=a1+a1#01^01", "=a1+a1#01^01?a", text};
        for (int i = 0; i < ends.length; i++) {
            SwapCalls x = with(ends[i]);
            due("fault of " + ends[i], x.fault(0), NONE);
            due("statements of " + ends[i], x.count(20), i + 1);
        }
        due("15 statements", with(FULL_TEXT).count(20), 15);
    }

    private static void noStatementIsNoFault() {
        SwapCalls x = calls(new SwapCalls(), "0:0");
        due("fault(0)", x.fault(0), NONE);
        due("count(20)", x.count(20), 0);
        dueEffect(x, 0, 11, "", "", "", 0);
        due("steps", x.run(0, 19), 0);
    }

    // ---- statements, terms

    /** Behind the text, just these signs can stand; any other one is THE FAULT. */
    private static void dueSigns(String text, String canStand) {
        for (char sign = 33; sign <= 126; sign++) {
            int got = faultOf(text + sign);
            boolean stands = canStand.indexOf(sign) >= 0;
            int more = got == NONE ? NONE : text.length() + 1;
            due("fault of " + text + sign, got, stands ? more : text.length());
        }
    }

    private static void dueWhole(String... texts) {
        for (String text : texts) due("fault of " + text, faultOf(text), NONE);
    }

    private static void duePart(String... texts) {
        for (String text : texts) due("fault of " + text, faultOf(text), text.length());
    }

    private static void signsThatOpenStatements() {
        for (String ahead : new String[] {"", "=a1", "+f~12", "#>p@>0", "^9f", "?e", "c5>>9"}) {
            dueSigns(ahead, STATEMENT_SIGNS);
            for (char sign : STATEMENT_SIGNS.toCharArray()) duePart(ahead + sign);
        }
    }

    private static void signsOfNumberStatements() {
        for (String first : new String[] {"=", "+"}) {
            dueSigns(first, LETTERS);
            for (char letter : LETTERS.toCharArray()) {
                duePart(first + letter);
                dueWhole(first + letter + "0");
            }
            dueSigns(first + "a", TERM_SIGNS);
            dueSigns(first + "f", TERM_SIGNS);
        }
    }

    private static void signsOfCellStatements() {
        for (String first : new String[] {"#", "^"}) {
            dueSigns(first, INDEX_SIGNS);
            for (String index : new String[] {"0", "9", "p", ">p", ">>>>>>9"}) {
                duePart(first + index);
                dueWhole(first + index + "0");
                dueSigns(first + index, TERM_SIGNS);
            }
            duePart(first + ">", first + ">>");
        }
    }

    private static void signsOfTests() {
        dueSigns("?", LETTERS);
        for (char letter : LETTERS.toCharArray()) dueWhole("?" + letter);
    }

    private static void signsOfCalls() {
        dueSigns("c", "012345");
        for (char figure = '0'; figure <= '5'; figure++) {
            duePart("c" + figure);
            dueSigns("c" + figure, INDEX_SIGNS);
            dueWhole("c" + figure + "p", "c" + figure + ">9");
        }
    }

    private static void signsOfTerms() {
        for (String open : new String[] {"=a~", "=a~1", "=a~~1", "=a~~11", "=a~~~", "#p~", "^1~@p", "=a~a", "=a~p"}) {
            dueSigns(open, TERM_SIGNS);
        }
        for (char sign : "0123456789abcdefp".toCharArray()) dueWhole("=a" + sign, "=a~" + sign + sign);
        duePart("=a~", "=a~0", "=a~~00", "=a~0~0", "=a@", "=a~@");
        dueWhole("=a~00", "=a~~000", "=a~0~00", "=a@0", "=a~@0@p");
        dueWhole("=a" + "~".repeat(13) + "0".repeat(14));
    }

    private static void signsOfIndices() {
        for (String open : new String[] {"#", "^", "#>", "^>>>", "c0", "c5>", "=a@", "=a@>", "#p@", "=a~@", "=a~1@>"}) {
            dueSigns(open, INDEX_SIGNS);
            for (char sign : "0123456789p".toCharArray()) due("fault of " + open + sign + "!", faultOf(open + sign + "!"), open.length() + 1);
        }
        dueWhole("#" + ">".repeat(27) + "p0", "c0" + ">".repeat(27) + "9", "=a@" + ">".repeat(26) + "0");
    }

    private static void faultIsTheFirst() {
        due("of the first sign", faultOf("!"), 0);
        due("of several signs", faultOf("=a1!g=g?"), 3);
        due("of the last of 30", faultOf("?a".repeat(14) + "?g"), 29);
        due("a fault stays, whatever comes behind", faultOf("?g=a1=a1"), 1);
        due("ahead of what would be short of signs", faultOf("=g="), 1);
    }

    private static void faultIsTheNumberOfSigns() {
        due("of one sign", faultOf("="), 1);
        due("of 29 signs", faultOf("?a".repeat(14) + "?"), 29);
        due("of 30 signs, though none can come", faultOf("?a".repeat(14) + "=a"), 30);
        due("of 30 signs, many of which must come", faultOf("=a" + "~".repeat(28)), 30);
        due("of 30 signs, an index", faultOf("#" + ">".repeat(29)), 30);
        due("of none, as none must come", faultOf(""), NONE);
    }

    /** What the PLACE holds behind a RUN of the text, given this; PLACES and what they hold ahead of it, by turns. */
    private static int ran(String text, int given, int place, int... held) {
        SwapCalls x = with(text);
        for (int i = 0; i + 1 < held.length; i += 2) x.set(held[i], held[i + 1]);
        x.call(0, given);
        return x.run(0, place);
    }

    private static void numbersBecomeTerms() {
        due("0, once 99", ran("=a0", 0, 0, 0, 99), 0);
        due("9", ran("=f9", 0, 5), 9);
        due("99", ran("=fa", 0, 5, 0, 99), 99);
        due("itself", ran("=aa", 0, 0, 0, 99), 99);
        due("the last cell", ran("=a@p", 11, 0, 17, 98), 98);
    }

    private static void termsAreAddedToNumbers() {
        due("98 and 1", ran("+a1", 0, 0, 0, 98), 99);
        due("99 and 1", ran("+a1", 0, 0, 0, 99), 0);
        due("99 and 99", ran("+ab", 0, 0, 0, 99, 1, 99), 98);
        due("99 and itself", ran("+ff", 0, 5, 5, 99), 98);
        due("99 and 0", ran("+f0", 0, 5, 5, 99), 99);
    }

    private static void cellsBecomeTerms() {
        due("the last cell", ran("#p9", 11, 17, 17, 99), 9);
        due("the first cell", ran("#00", 11, 6, 6, 99), 0);
        due("itself", ran("#p@p", 11, 17, 17, 99), 99);
    }

    private static void termsAreAddedToCells() {
        due("98 and 1", ran("^p1", 11, 17, 17, 98), 99);
        due("99 and 1", ran("^p1", 11, 17, 17, 99), 0);
        due("99 and 99", ran("^0a", 0, 6, 6, 99, 0, 99), 98);
        due("99 and itself", ran("^p@p", 11, 17, 17, 99), 98);
    }

    private static void testsThrowAt0Alone() {
        for (char letter : LETTERS.toCharArray()) {
            due(letter + " is 0", ran("?" + letter, 0, 18), 1);
            due(letter + " is 1", ran("?" + letter, 0, 18, letter - 'a', 1), 0);
            due(letter + " is 99", ran("?" + letter, 0, 18, letter - 'a', 99), 0);
            due(letter + " is 100, left over", ran("+" + letter + "1?" + letter, 0, 18, letter - 'a', 99), 1);
        }
    }

    private static void calledRoutinesAreGivenTheIndex() {
        String[] calls = {"c10", "c19", "c1p", "c1>p", "c1>>>9", "c1>>>>>>>>>>>>p"};
        int[] given0 = {0, 9, 0, 1, 0, 0};
        int[] given11 = {0, 9, 11, 0, 0, 11};
        for (int i = 0; i < calls.length; i++) {
            SwapCalls x = with(calls[i], "=ap#p1");
            calls(x, "0:0");
            due(calls[i] + " given 0", x.run(0, 0), given0[i]);
            due("its cell", x.run(0, 6 + given0[i]), 1);
            x.drop(0);
            calls(x, "0:11");
            due(calls[i] + " given 11", x.run(0, 0), given11[i]);
            due("its cell", x.run(0, 6 + given11[i]), 1);
        }
        SwapCalls last = calls(with("c5p=bp", "", "", "", "", "=ap"), "0:7");
        due("routine 5 is done", last.run(0, 0), 7);
        SwapCalls own = calls(with("c1>p=bp", "=ap"), "0:11");
        due("the callee's own number", own.run(0, 0), 0);
        due("the caller has its own still", own.run(0, 1), 11);
    }

    private static void givenNumbersAreTerms() {
        for (int given = 0; given < 12; given++) due("=ap given " + given, ran("=ap", given, 0), given);
    }

    private static void sumsAreLeftOverBy100() {
        due("50 and 49", ran("=a~bc", 0, 0, 1, 50, 2, 49), 99);
        due("50 and 50", ran("=a~bc", 0, 0, 1, 50, 2, 50), 0);
        due("99 and 99", ran("=a~bb", 0, 0, 1, 99), 98);
        due("into a cell", ran("#0~bb", 0, 6, 1, 99), 98);
        due("14 times 99", ran("=a" + "~".repeat(13) + "b".repeat(14), 0, 0, 1, 99), 86);
        due("14 times 99, added to 99", ran("+a" + "~".repeat(13) + "b".repeat(14), 0, 0, 0, 99, 1, 99), 85);
        due("14 times 50, added to 50, in a cell", ran("^p" + "~b".repeat(13) + "b", 11, 17, 17, 50, 1, 50), 50);
        due("11 and 89", ran("=a~pb", 11, 0, 1, 89), 0);
        due("89 and 11", ran("=a~bp", 11, 0, 1, 89), 0);
        due("91 and 9", ran("=a~b9", 11, 0, 1, 91), 0);
        due("9 and 91", ran("=a~9b", 11, 0, 1, 91), 0);
        due("9 and 9 and 82", ran("=a~9~9b", 11, 0, 1, 82), 0);
    }

    private static void indicesAreLeftOverBy12() {
        for (int more = 0; more <= 26; more++) {
            String index = ">".repeat(more);
            for (int given : new int[] {0, 1, 10, 11}) due(index + "p given " + given, ran("#" + index + "p7", given, 6 + (given + more) % 12), 7);
            for (int figure : new int[] {0, 2, 3, 9}) due(index + figure, ran("#" + index + figure + "7", 5, 6 + (figure + more) % 12), 7);
        }
        due("read: 11 and one more", ran("=a@>p", 11, 0, 6, 42), 42);
        due("read: 9 and 3 more", ran("=a@>>>9", 5, 0, 6, 42), 42);
        due("read: 9 and 2 more", ran("=a@>>9", 5, 0, 17, 42), 42);
        due("added to: 11 and one more", ran("^>p7", 11, 6, 6, 42), 49);
    }

    // ---- effects, causes

    private static void readsInTermsAndTests() {
        SwapCalls x = with("=af", "+b~~cd@p", "#p@>p", "^0a", "?f", "=a~9p");
        dueEffect(x, 0, 0, "f", "a", "", 0);
        dueEffect(x, 1, 11, "c d 11", "", "b", 0);
        dueEffect(x, 2, 11, "0", "11", "", 0);
        dueEffect(x, 3, 11, "a", "", "0", 0);
        dueEffect(x, 4, 11, "f", "", "", 1);
        dueEffect(x, 5, 11, "", "a", "", 0);
        SwapCalls more = with("?a?f", "=ba?c", "?c=ba=bd");
        dueEffect(more, 0, 0, "a f", "", "", 1);
        dueEffect(more, 1, 0, "a c", "b", "", 1);
        dueEffect(more, 2, 0, "a c d", "b", "", 1);
    }

    private static void addingAloneDoesNotRead() {
        SwapCalls x = with("+a1", "^p1", "+aa", "^p@p", "+a1?a", "+a1=ba");
        dueEffect(x, 0, 0, "", "", "a", 0);
        dueEffect(x, 1, 11, "", "", "11", 0);
        dueEffect(x, 2, 0, "a", "", "a", 0);
        dueEffect(x, 3, 11, "11", "", "11", 0);
        dueEffect(x, 4, 0, "a", "", "a", 1);
        dueEffect(x, 5, 0, "a", "b", "a", 0);
    }

    private static void writesAndAdds() {
        SwapCalls x = with("=a1", "#p1", "+a1", "^p1", "=a1+a1", "#p1^p1");
        dueEffect(x, 0, 0, "", "a", "", 0);
        dueEffect(x, 1, 11, "", "11", "", 0);
        dueEffect(x, 2, 0, "", "", "a", 0);
        dueEffect(x, 3, 0, "", "", "0", 0);
        dueEffect(x, 4, 0, "", "a", "a", 0);
        dueEffect(x, 5, 5, "", "5", "5", 0);
    }

    private static void testsMayThrow() {
        SwapCalls x = with("=a1?a", "=a1", "c0p", "c2p", "?a?b", "");
        int[] may = {1, 0, 1, 1, 1, 0};
        for (int r = 0; r < 6; r++) due("effect(" + r + ", 0, 3)", x.effect(r, 0, 3), may[r]);
    }

    private static void whatIsNotComeToCounts() {
        SwapCalls x = with("=a0?a=b1", "c1p=c1", "=a0?ac3p", "+dp");
        dueEffect(x, 0, 0, "a", "a b", "", 1);
        dueEffect(x, 1, 0, "", "c", "", 0);
        dueEffect(x, 2, 0, "a", "a", "d", 1);
    }

    private static void effectsOfThoseCalled() {
        SwapCalls x = with("c1>p", "c2>p", "c3>p", "c4>p", "c5>p", "#p@>p^>>p1?f");
        for (int r = 0; r < 6; r++) {
            for (int given : new int[] {0, 6, 7, 11}) {
                int last = given + 5 - r;
                dueEffect(x, r, given, "f " + (last + 1) % 12, "" + last % 12, "" + (last + 2) % 12, 1);
            }
        }
        SwapCalls fixed = with("c10", "#p1", "c19", "c1>>9", "c1>>>9");
        for (int given : new int[] {0, 11}) {
            dueEffect(fixed, 0, given, "", "0", "", 0);
            dueEffect(fixed, 2, given, "", "9", "", 0);
            dueEffect(fixed, 3, given, "", "11", "", 0);
            dueEffect(fixed, 4, given, "", "0", "", 0);
        }
        SwapCalls round = with("#p1c0>p", "^p1c1>>>>p", "=a@pc2>>>>>>p", "#p1c3" + ">".repeat(12) + "p");
        dueEffect(round, 0, 7, "", "0 1 2 3 4 5 6 7 8 9 10 11", "", 0);
        dueEffect(round, 1, 10, "", "", "2 6 10", 0);
        dueEffect(round, 2, 11, "5 11", "a", "", 0);
        dueEffect(round, 3, 11, "", "11", "", 0);
    }

    /** What comes from far away is new in one part alone, as all else is in each text on the way. */
    private static void effectsComeFromFarAway() {
        String own = "=ab+cd";
        String[] last = {"=ae", "=fb", "+fd"};
        String[][] want = {{"b d e", "a", "c"}, {"b d", "a f", "c"}, {"b d", "a", "c f"}};
        for (int i = 0; i < last.length; i++) {
            SwapCalls up = with(own + "c1p", own + "c2p", own + "c3p", own + "c4p", own + "c5p", own + last[i]);
            SwapCalls down = with(own + last[i], own + "c0p", own + "c1p", own + "c2p", own + "c3p", own + "c4p");
            for (int r = 0; r < 6; r++) {
                dueEffect(up, r, 0, want[i][0], want[i][1], want[i][2], 0);
                dueEffect(down, r, 0, want[i][0], want[i][1], want[i][2], 0);
            }
        }
        SwapCalls thrown = with("=bac1p", "=bac2p", "=bac3p", "=bac4p", "=bac5p", "=ba?a");
        for (int r = 0; r < 6; r++) dueEffect(thrown, r, 11, "a", "b", "", 1);
    }

    private static void asLittleAsCanBe() {
        SwapCalls x = with("c0p", "c2>p", "c1>p", "c4p+a1", "c3p=b1", "c55");
        for (int given : new int[] {0, 11}) {
            dueEffect(x, 0, given, "", "", "", 0);
            dueEffect(x, 1, given, "", "", "", 0);
            dueEffect(x, 2, given, "", "", "", 0);
            dueEffect(x, 3, given, "", "b", "a", 0);
            dueEffect(x, 4, given, "", "b", "a", 0);
            dueEffect(x, 5, given, "", "", "", 0);
        }
        tell(x, 3, "");
        dueEffect(x, 4, 0, "", "b", "", 0);
    }

    private static void faultyIsNotKnown() {
        for (String text : new String[] {"=", "=a1!", "!", "=a1=", "c", "c0"}) {
            SwapCalls x = with(text, "=a1");
            for (int what = 0; what < 4; what++) due("effect of " + text, x.effect(0, 11, what), NO);
            due("effect of another", x.effect(1, 11, 1), 1);
            x.wipe(0);
            due("effect, once " + text, x.effect(0, 11, 1), 0);
        }
    }

    private static void faultsFarAwayAreNotKnown() {
        // Both ways round, as what is not known must spread against the order of the numbers, too.
        SwapCalls up = with("c1p", "c2p", "c3p", "c4p", "c5p", "=");
        SwapCalls down = with("=", "c0p", "c1p", "c2p", "c3p", "c4p");
        for (int r = 0; r < 6; r++) {
            due("up, effect of " + r, up.effect(r, 0, 0), NO);
            due("down, effect of " + r, down.effect(r, 0, 0), NO);
            due("up, fault of " + r, up.fault(r), r == 5 ? 1 : NONE);
        }
        up.wipe(5);
        down.wipe(0);
        for (int r = 0; r < 6; r++) {
            due("up, mended " + r, up.effect(r, 0, 0), 0);
            due("down, mended " + r, down.effect(r, 0, 0), 0);
        }
        SwapCalls ring = with("c1p", "c2p", "c0pc3p", "?", "=a1", "c4pc5p");
        for (int r = 0; r < 4; r++) due("ring, effect of " + r, ring.effect(r, 0, 1), NO);
        due("called by none of them", ring.effect(4, 0, 1), 1);
        due("of itself", ring.effect(5, 0, 1), 1);
        SwapCalls called = with("c1p!", "=a1");
        due("called by one with a fault", called.effect(1, 0, 1), 1);
    }

    private static void dueCauses(SwapCalls x, int one, int other, int want) {
        due("causes(" + one + ", 0, " + other + ", 0)", x.causes(one, 0, other, 0), want);
        due("causes(" + other + ", 0, " + one + ", 0)", x.causes(other, 0, one, 0), want);
    }

    private static void causeOfWrites() {
        SwapCalls x = with("=a1", "+a1", "=b1", "#>p1", "^11", "#01");
        dueCauses(x, 0, 0, 1);
        dueCauses(x, 0, 1, 1);
        dueCauses(x, 0, 2, 0);
        dueCauses(x, 3, 4, 1);
        dueCauses(x, 3, 5, 0);
        due("cells 0 and 0, by 11 and one more", x.causes(3, 11, 5, 0), 1);
        due("cells 11 and 0", x.causes(3, 10, 5, 0), 0);
    }

    private static void causeOfReads() {
        SwapCalls x = with("=ba", "=a1", "+a1", "=ca", "?a", "=d@p");
        dueCauses(x, 0, 1, 2);
        dueCauses(x, 0, 2, 2);
        dueCauses(x, 0, 3, 0);
        dueCauses(x, 4, 1, 2);
        dueCauses(x, 4, 2, 2);
        dueCauses(x, 4, 0, 0);
        tell(x, 0, "#>p1");
        due("cell 0, by 11 and one more", x.causes(0, 11, 5, 0), 2);
        due("cell 1", x.causes(0, 0, 5, 0), 0);
        SwapCalls both = with("=aa", "+bb");
        dueCauses(both, 0, 0, 3);
        dueCauses(both, 1, 1, 2);
    }

    private static void causeOfThrows() {
        SwapCalls x = with("?a", "?b", "c0p", "+c1", "?a+c1", "?b=a1");
        dueCauses(x, 0, 0, 4);
        dueCauses(x, 0, 1, 4);
        dueCauses(x, 1, 2, 4);
        dueCauses(x, 0, 3, 0);
        dueCauses(x, 4, 3, 0);
        dueCauses(x, 4, 4, 4);
        dueCauses(x, 0, 5, 6);
        dueCauses(x, 5, 5, 5);
    }

    private static void freeIsNoCause() {
        String[] texts = {"=a1", "+a1", "=ba", "?a", "?b", "+b1"};
        for (int one = 0; one < 6; one++) {
            for (int other = 0; other < 6; other++) {
                SwapCalls x = calls(with(texts), one + ":0 " + other + ":0");
                boolean free = x.causes(one, 0, other, 0) == 0;
                due("stage of " + other + " behind " + one, x.told(1, 2), free ? 0 : 1);
                due("free pairs", x.stages(4), free ? 1 : 0);
                due("swap", x.swap(0), free ? 1 : STATE);
            }
        }
    }

    // ---- programs

    private static void upTo16Calls() {
        SwapCalls x = new SwapCalls();
        for (int i = 1; i <= 16; i++) due("call " + i, x.call(0, 0), i);
        due("call 17", x.call(0, 0), FULL);
        due("count(0)", x.count(0), 16);
        due("drop(15)", x.drop(15), 15);
        due("call 16 again", x.call(0, 0), 16);
        x.commit();
        due("call 1 again", x.call(0, 0), 1);
    }

    private static void callsAreGiven0To11() {
        SwapCalls x = new SwapCalls();
        due("given 0", x.call(0, 0), 1);
        due("given 11", x.call(5, 11), 2);
        due("given 12", x.call(0, 12), OUTSIDE);
        due("given -1", x.call(0, -1), OUTSIDE);
        due("routine 6", x.call(6, 0), UNKNOWN);
        due("routine -1", x.call(-1, 0), UNKNOWN);
        dueProgram("behind these", x, "0:0 5:11");
    }

    private static void callsAreNumberedFrom0On() {
        SwapCalls x = calls(new SwapCalls(), "0:0 1:1 2:2 3:3 4:4");
        for (int i = 0; i < 5; i++) due("told(" + i + ", 1)", x.told(i, 1), i);
        x.drop(4);
        dueProgram("the last goes", x, "0:0 1:1 2:2 3:3");
        x.drop(1);
        dueProgram("one of the middle goes", x, "0:0 2:2 3:3");
        x.drop(0);
        dueProgram("the first goes", x, "2:2 3:3");
        due("told(2, 0)", x.told(2, 0), UNKNOWN);
    }

    private static void dueStages(SwapCalls x, int... want) {
        for (int i = 0; i < want.length; i++) due("stage of " + i, x.told(i, 2), want[i]);
    }

    private static void dueRanks(SwapCalls x, int... want) {
        for (int i = 0; i < want.length; i++) due("rank of " + i, x.told(i, 3), want[i]);
    }

    private static void stage0IfFreeWithAll() {
        SwapCalls x = with("+a1", "=a1", "#p1");
        calls(x, "1:0 0:0 0:0 0:0 2:0 2:1 2:11");
        dueStages(x, 0, 1, 1, 1, 0, 0, 0);
        SwapCalls alone = calls(with("?a=a1"), "0:0");
        dueStages(alone, 0);
        SwapCalls all = new SwapCalls();
        for (int i = 0; i < 16; i++) all.call(i % 6, i % 12);
        dueStages(all, new int[16]);
    }

    private static void stageBehindTheGreatest() {
        SwapCalls x = with("=a1", "=b1", "=c~ab", "=db", "=ec");
        // The nearest that it is not free with has a smaller stage than one farther ahead.
        calls(x, "0:0 0:0 1:0 2:0 3:0 4:0 4:1 0:0");
        dueStages(x, 0, 1, 0, 2, 1, 3, 4, 3);
        SwapCalls row = with("=a1");
        for (int i = 0; i < 16; i++) row.call(0, i % 12);
        for (int i = 0; i < 16; i++) due("stage of " + i, row.told(i, 2), i);
        due("16 stages", row.stages(0), 16);
    }

    private static void ranksByStages() {
        SwapCalls x = calls(with("=a1", "=b1", "=ca"), "2:0 0:0 0:0 1:0 1:0");
        dueStages(x, 0, 1, 2, 0, 1);
        dueRanks(x, 1, 2, 4, 0, 3);
    }

    private static void ranksByRoutinesThenByGiven() {
        dueRanks(calls(new SwapCalls(), "5:0 0:11 0:0 5:11 0:10 4:9"), 4, 2, 0, 5, 1, 3);
        dueRanks(calls(new SwapCalls(), "1:0 0:11"), 1, 0);
        dueRanks(calls(new SwapCalls(), "0:11 0:0"), 1, 0);
    }

    private static void ranksOfThoseAlike() {
        SwapCalls x = calls(new SwapCalls(), "3:3 2:2 3:3 2:2 3:3");
        dueRanks(x, 2, 0, 3, 1, 4);
        SwapCalls all = new SwapCalls();
        for (int i = 0; i < 16; i++) all.call(5, 11);
        for (int i = 0; i < 16; i++) due("rank of " + i, all.told(i, 3), i);
    }

    private static void ranksFrom0On() {
        dueRanks(calls(new SwapCalls(), "5:11"), 0);
        SwapCalls x = new SwapCalls();
        for (int i = 0; i < 16; i++) x.call(0, 11 - i % 12);
        List<Integer> ranks = new ArrayList<>();
        for (int i = 0; i < 16; i++) ranks.add(x.told(i, 3));
        due("ranks", ranks, List.of(14, 12, 10, 8, 7, 6, 5, 4, 3, 2, 1, 0, 15, 13, 11, 9));
    }

    // ---- runs

    private static void eachStatementIsAStep() {
        SwapCalls x = with("=a1+a1#01^01?ac1p", "?a", "", FULL_TEXT, "=ab=bc=c7", "=c7=bc=ab");
        calls(x, "0:0");
        due("6, and 1 of the one called", x.run(0, 19), 7);
        calls(x, "2:0");
        due("none of one without", x.run(0, 19), 7);
        calls(x, "3:0");
        due("15 more", x.run(0, 19), 22);
        x.commit();
        due("none of no call", x.run(0, 19), 0);
        calls(x, "4:0");
        due("in order, a", x.run(0, 0), 0);
        x.drop(0);
        calls(x, "5:0");
        due("the other order, a", x.run(0, 0), 7);
        SwapCalls y = calls(with("=b1?a=b2"), "0:0");
        due("the test that throws is a step, what is behind it is none", y.run(0, 19), 2);
    }

    private static void throwsEndTheWholeCall() {
        SwapCalls x = with("c1p=a1", "c2p=b1", "c3p=c1", "c4p=d1", "c5p=e1", "?f=f9");
        calls(x, "0:0");
        for (int p = 0; p < 6; p++) due("place " + p, x.run(0, p), 0);
        due("steps", x.run(0, 19), 6);
        due("one call throws", x.run(0, 18), 1);
        x.set(5, 1);
        for (int p = 0; p < 5; p++) due("place " + p + ", no throw", x.run(0, p), 1);
        due("f, no throw", x.run(0, 5), 9);
    }

    private static void whatWasDoneStaysDone() {
        SwapCalls x = with("=a9#p9c1>p=b1", "+c9^p9?f=d1");
        calls(x, "0:11");
        int[] want = {9, 0, 9, 0, 0, 0, 9};
        for (int p = 0; p < want.length; p++) due("place " + p, x.run(0, p), want[p]);
        due("cell 11", x.run(0, 17), 9);
    }

    private static void theNextCallGoesOn() {
        SwapCalls x = with("?f+a1", "+b1=f1", "?e");
        calls(x, "0:0 2:0 1:0 0:0 2:0 0:0");
        due("a", x.run(0, 0), 2);
        due("b", x.run(0, 1), 1);
        due("throws", x.run(0, 18), 3);
        SwapCalls all = with("?a");
        for (int i = 0; i < 16; i++) all.call(0, 0);
        due("all throw", all.run(0, 18), 16);
    }

    private static void whatComesIsTheSame() {
        SwapCalls x = with("+a1", "+ap", "#p@>p", "^p1", "?b+c1", "=b@1");
        calls(x, "4:0 5:0 4:0 3:1 5:3 4:2 0:0 1:11 2:0 2:11 3:2 0:0 4:1 3:1 2:1 1:9");
        for (int how = 1; how <= 2; how++) {
            for (int what = 0; what < 20; what++) due("run(" + how + ", " + what + ")", x.run(how, what), x.run(0, what));
            for (int i = 0; i < 17; i++) due("thrower(" + how + ", " + i + ")", x.thrower(how, i), x.thrower(0, i));
        }
        due("run(0, 0)", x.run(0, 0), 22);
        due("run(0, 18)", x.run(0, 18), 2);
        due("how -1", x.run(-1, 0), OUTSIDE);
        due("how 3", x.run(3, 0), OUTSIDE);
    }

    private static void dueNotKnown(SwapCalls x) {
        for (int how = 0; how < 3; how++) {
            for (int what = 0; what < 20; what++) due("run(" + how + ", " + what + ")", x.run(how, what), STATE);
            due("thrower(" + how + ", 0)", x.thrower(how, 0), STATE);
        }
        int calls = x.count(0);
        due("commit()", x.commit(), STATE);
        due("calls stay", x.count(0), calls);
    }

    private static void runNeedsEffects() {
        SwapCalls x = with("=a1", "c2p", "=a");
        calls(x, "0:0");
        due("a fault that is not called", x.run(0, 0), 1);
        calls(x, "2:0");
        dueNotKnown(x);
        x.drop(1);
        calls(x, "1:0");
        dueNotKnown(x);
        // It would never be come to, but its effect is not known.
        tell(x, 1, "?fc2p");
        dueNotKnown(x);
        x.say(2, '1');
        due("mended", x.run(0, 0), 1);
    }

    /** ROUTINE 0 has 200 STEPS as long as a is not 0; ROUTINE 4 one more. */
    private static SwapCalls longOnes() {
        SwapCalls x = with("c1p".repeat(9) + "c2p", FULL_TEXT, "c1pc1pc1p" + "?a".repeat(7), "", "c0p");
        x.set(0, 1);
        return x;
    }

    private static void upTo200Steps() {
        SwapCalls x = calls(longOnes(), "0:0");
        for (int how = 0; how < 3; how++) due("200 steps", x.run(how, 19), 200);
        x.drop(0);
        calls(x, "4:0");
        dueNotKnown(x);
        tell(x, 2, "c1pc1pc1p" + "?a".repeat(6));
        due("200 steps again", x.run(0, 19), 200);
        tell(x, 2, "c1pc1pc1p" + "?a".repeat(6) + "?b");
        due("the 201st would throw", x.run(0, 19), STATE);
        tell(x, 2, "c1pc1pc1p" + "?a".repeat(5) + "?b");
        due("the 200th throws", x.run(0, 19), 200);
        due("it throws", x.run(0, 18), 1);
        tell(x, 2, "c1pc1pc1p" + "?a".repeat(5) + "?b?a");
        due("the 200th throws, one behind it", x.run(0, 19), 200);
        x.set(1, 1);
        due("the 200th does not throw, one behind it", x.run(0, 19), STATE);
        tell(x, 2, "c1pc1pc1p" + "?a".repeat(6) + "c3p");
        due("a call as the 201st, of one without a statement", x.run(0, 19), STATE);
        tell(x, 2, "c1pc1pc1p" + "?a".repeat(5) + "c3p");
        due("a call as the 200th, of one without a statement", x.run(0, 19), 200);
    }

    private static void stepsOfEachCallForItself() {
        SwapCalls x = longOnes();
        for (int i = 0; i < 15; i++) x.call(0, 0);
        due("15 times 200 steps", x.run(0, 19), 3000);
        calls(x, "0:0");
        due("16 times 200 steps", x.run(0, 19), 3200);
        x.drop(15);
        calls(x, "4:0");
        due("the last has 201", x.run(0, 19), STATE);
        due("thrower", x.thrower(0, 0), STATE);
        due("commit", x.commit(), STATE);
        while (x.count(0) > 1) x.drop(0);
        calls(x, "3:0 0:0");
        due("the first has 201", x.run(0, 19), STATE);
        x.set(0, 0);
        due("it throws ahead of that", x.run(0, 19), 3 + 2);
    }

    private static void upTo20RoutinesWithinOneAnother() {
        // f is 99, which makes a one less: ROUTINE 0 is done a + 1 times within itself, and throws at last.
        SwapCalls x = calls(with("?a+afc0p", ""), "0:0");
        x.set(5, 99);
        x.set(0, 19);
        for (int how = 0; how < 3; how++) due("20 within one another", x.run(how, 19), 19 * 3 + 1);
        due("it throws", x.run(0, 18), 1);
        x.set(0, 20);
        dueNotKnown(x);
        tell(x, 0, "c1p?a+afc0p");
        x.set(0, 18);
        due("the 20th has no statement", x.run(0, 19), 18 * 4 + 2);
        x.set(0, 19);
        due("the 21st has no statement", x.run(0, 19), STATE);
        SwapCalls two = calls(with("?a+afc1>p", "?a+afc0>p"), "0:3");
        two.set(5, 99);
        two.set(0, 19);
        due("20 of two routines", two.run(0, 18), 1);
        two.set(0, 20);
        due("21 of two routines", two.run(0, 18), STATE);
        SwapCalls endless = calls(with("c0p"), "0:0");
        dueNotKnown(endless);
        due("its effect is known", endless.effect(0, 0, 3), 0);
        due("its stage is known", endless.told(0, 2), 0);
    }

    private static void routinesOneBehindAnother() {
        SwapCalls x = with("c1p".repeat(10), "c2p".repeat(10), "c3p", "", "");
        tell(x, 1, "c3p".repeat(10));
        calls(x, "0:0 0:0 0:0");
        due("111 of each call, 3 within one another", x.run(0, 19), 330);
    }
}
