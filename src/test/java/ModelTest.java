import java.util.ArrayDeque;
import java.util.ArrayList;
import java.util.Arrays;
import java.util.Comparator;
import java.util.HashSet;
import java.util.List;
import java.util.Random;
import java.util.Set;

/**
 * Long runs of calls, the same on the class and on a model that is written from the document by other means: a stack of
 * what must come for THE FAULT, sets of what is reached for EFFECTS, terms as trees, exceptions for throws, sorted lists.
 */
public final class ModelTest {
    private static final int OBJECTS = 3000;
    private static final int CALLS_OF_ONE = 512;

    public static void main(String[] args) {
        int[] answers = new int[8];
        for (int seed = 0; seed < OBJECTS; seed++) {
            if (!walk(seed, answers)) System.exit(1);
        }
        System.out.println("model: " + OBJECTS + " objects answered alike; by answer " + Arrays.toString(answers));
        // A walk that never comes to some answer has not tested it.
        for (int a = 1; a <= 6; a++) {
            if (answers[a] < 1000) {
                System.out.println("the walks hardly came to answer -" + a);
                System.exit(1);
            }
        }
    }

    private static boolean walk(int seed, int[] answers) {
        Random random = new Random(seed);
        SwapCalls x = new SwapCalls();
        Model m = new Model();
        StringBuilder calls = new StringBuilder();
        int[] pending = null;
        int next = 0;
        for (int i = 0; i < CALLS_OF_ONE; i++) {
            int[] call;
            if (pending != null && next < pending.length - 1) {
                call = new int[] {0, pending[0], pending[1 + next++], 0, 0};
            } else {
                pending = null;
                call = draw(random, i);
                if (call[0] == 20) {
                    String text = text(random);
                    pending = new int[text.length() + 1];
                    pending[0] = call[1];
                    for (int j = 0; j < text.length(); j++) pending[1 + j] = text.charAt(j);
                    next = 0;
                    call = new int[] {1, call[1], 0, 0, 0};
                }
            }
            int got = ask(x, call);
            int want = m.ask(call);
            calls.append(Arrays.toString(call)).append(" -> ").append(got).append('\n');
            if (got < 0 && got >= -6) answers[-got]++;
            else answers[0]++;
            if (got != want) {
                System.out.println(calls);
                System.out.println("seed " + seed + ": the last one answered " + got + ", the model says " + want);
                return false;
            }
        }
        return true;
    }

    /** A call as numbers: which method, and its arguments; 20: a whole text is to be said. */
    private static int[] draw(Random random, int i) {
        int routine = edge(random, 6);
        int x = edge(random, 12);
        if (i < 60 && random.nextInt(3) == 0 || random.nextInt(60) == 0) return new int[] {20, random.nextInt(6), 0, 0, 0};
        switch (random.nextInt(26)) {
            case 0: return random.nextInt(3) == 0 ? new int[] {0, routine, 32 + random.nextInt(96), 0, 0} : new int[] {2, routine, 0, 0, 0};
            case 1: return random.nextInt(3) == 0 ? new int[] {1, routine, 0, 0, 0} : new int[] {2, routine, 0, 0, 0};
            case 2: return new int[] {3, edge(random, 18), random.nextInt(4) == 0 ? edge(random, 100) : random.nextInt(3), 0, 0};
            case 3: return new int[] {4, edge(random, 18), 0, 0, 0};
            case 4: case 5: return new int[] {5, routine, x, edge(random, 4), 0};
            case 6: case 7: return new int[] {6, routine, x, edge(random, 6), edge(random, 12)};
            case 8: case 9: case 10: case 11: case 12: return new int[] {7, routine, random.nextInt(2) == 0 ? random.nextInt(3) : x, 0, 0};
            case 13: return new int[] {8, edge(random, 12), 0, 0, 0};
            case 14: case 15: return new int[] {9, edge(random, 10), 0, 0, 0};
            case 16: case 17: return new int[] {10, edge(random, 12), edge(random, 4), 0, 0};
            case 18: case 19: return new int[] {11, random.nextInt(3) == 0 ? 6 : edge(random, 7), 0, 0, 0};
            case 20: case 21: return new int[] {12, edge(random, 3), edge(random, 20), 0, 0};
            case 22: return new int[] {13, edge(random, 3), random.nextInt(10) == 0 ? random.nextInt() : edge(random, 5), 0, 0};
            case 23: return random.nextInt(6) == 0 ? new int[] {14, 0, 0, 0, 0} : new int[] {17, random.nextInt(42), 0, 0, 0};
            case 24: return new int[] {15, edge(random, 2), 0, 0, 0};
            default: return new int[] {16, edge(random, 2), 0, 0, 0};
        }
    }

    private static int edge(Random random, int bound) {
        int kind = random.nextInt(60);
        if (kind == 0) return -1;
        if (kind == 1) return bound;
        if (kind == 2) return random.nextInt();
        return random.nextInt(bound);
    }

    private static String text(Random random) {
        StringBuilder text = new StringBuilder();
        int statements = random.nextInt(5);
        for (int s = 0; s < statements; s++) text.append(statement(random));
        while (text.length() > 30) text.setLength(30);
        if (random.nextInt(12) == 0 && text.length() > 0) text.setLength(random.nextInt(text.length()));
        if (random.nextInt(12) == 0 && text.length() > 0) text.setCharAt(random.nextInt(text.length()), (char) (33 + random.nextInt(94)));
        return text.toString();
    }

    private static String statement(Random random) {
        switch (random.nextInt(9)) {
            case 0: return "=" + letter(random) + term(random);
            case 1: case 2: return "+" + letter(random) + term(random);
            case 3: return "#" + index(random) + term(random);
            case 4: case 5: return "^" + index(random) + term(random);
            case 6: return "?" + letter(random);
            default: return "c" + random.nextInt(6) + index(random);
        }
    }

    private static String letter(Random random) {
        return "" + (char) ('a' + random.nextInt(6));
    }

    private static String index(Random random) {
        int kind = random.nextInt(4);
        return kind == 0 ? "" + random.nextInt(10) : kind == 1 ? ">" + index(random) : "p";
    }

    private static String term(Random random) {
        switch (random.nextInt(6)) {
            case 0: case 1: return "" + random.nextInt(10);
            case 2: return letter(random);
            case 3: return "p";
            case 4: return "@" + index(random);
            default: return "~" + term(random) + term(random);
        }
    }

    private static int ask(SwapCalls x, int[] c) {
        switch (c[0]) {
            case 0: return x.say(c[1], c[2]);
            case 1: return x.wipe(c[1]);
            case 2: return x.fault(c[1]);
            case 3: return x.set(c[1], c[2]);
            case 4: return x.get(c[1]);
            case 5: return x.effect(c[1], c[2], c[3]);
            case 6: return x.causes(c[1], c[2], c[3], c[4]);
            case 7: return x.call(c[1], c[2]);
            case 8: return x.drop(c[1]);
            case 9: return x.swap(c[1]);
            case 10: return x.told(c[1], c[2]);
            case 11: return x.stages(c[1]);
            case 12: return x.run(c[1], c[2]);
            case 13: return x.thrower(c[1], c[2]);
            case 14: return x.commit();
            case 15: return x.image(c[1]);
            case 16: return x.restore(c[1]);
            default: return x.count(c[1]);
        }
    }

    private static final class Thrown extends RuntimeException { }
    private static final class TooFar extends RuntimeException { }

    private record Call(int routine, int given) { }
    private record Kept(int[] places, List<Call> program) { }

    private static final class Model {
        final String[] text = {"", "", "", "", "", ""};
        int[] places = new int[18];
        List<Call> program = new ArrayList<>();
        final Kept[] kept = new Kept[2];
        // Of the last run.
        int[] held;
        List<Integer> throwers;
        int allSteps;
        int steps;
        int at;

        int ask(int[] c) {
            int a = c[1];
            int b = c[2];
            switch (c[0]) {
                case 0: return bad(a, 6) ? -1 : b < 33 || b > 126 ? -2 : text[a].length() == 30 ? -4 : (text[a] += (char) b).length();
                case 1: { if (bad(a, 6)) return -1; int n = text[a].length(); text[a] = ""; return n; }
                case 2: return bad(a, 6) ? -1 : fault(text[a]);
                case 3: { if (bad(a, 18)) return -1; if (bad(b, 100)) return -2; int v = places[a]; places[a] = b; return v; }
                case 4: return bad(a, 18) ? -1 : places[a];
                case 5: return bad(a, 6) ? -1 : bad(b, 12) || bad(c[3], 4) ? -2 : !known(a) ? -5 : effect(new Call(a, b))[c[3]];
                case 6: return bad(a, 6) || bad(c[3], 6) ? -1 : bad(b, 12) || bad(c[4], 12) ? -2 : !known(a) || !known(c[3]) ? -5
                    : causes(new Call(a, b), new Call(c[3], c[4]));
                case 7: { if (bad(a, 6)) return -1; if (bad(b, 12)) return -2; if (program.size() == 16) return -4; program.add(new Call(a, b)); return program.size(); }
                case 8: { if (bad(a, program.size())) return -1; program.remove(a); return program.size(); }
                case 9: return swap(a);
                case 10: return told(a, b);
                case 11: return stages(a);
                case 12: return bad(a, 3) || bad(b, 20) ? -2 : !run(a) ? -3 : b < 18 ? held[b] : b == 18 ? throwers.size() : allSteps;
                case 13: return bad(a, 3) ? -2 : !run(a) ? -3 : bad(b, throwers.size()) ? -6 : throwers.get(b);
                case 14: { if (!run(0)) return -3; places = held; program = new ArrayList<>(); return throwers.size(); }
                case 15: { if (bad(a, 2)) return -2; kept[a] = new Kept(places.clone(), new ArrayList<>(program)); return 1; }
                case 16: { if (bad(a, 2)) return -2; if (kept[a] == null) return -3; places = kept[a].places.clone(); program = new ArrayList<>(kept[a].program); return 1; }
                default: return count(a);
            }
        }

        static boolean bad(int number, int bound) {
            return number < 0 || number >= bound;
        }

        /** A stack of what must come: S statements, L letter, I index, F figure of a routine, T term. */
        static int fault(String text) {
            ArrayDeque<Character> due = new ArrayDeque<>();
            for (int i = 0; i < text.length(); i++) {
                char sign = text.charAt(i);
                String then = expand(due.isEmpty() ? 'S' : due.pop(), sign);
                if (then == null) return i;
                for (int j = then.length() - 1; j >= 0; j--) due.push(then.charAt(j));
            }
            return due.isEmpty() ? -6 : text.length();
        }

        static String expand(char what, char sign) {
            switch (what) {
                case 'S': { int i = "=+#^?c".indexOf(sign); return i < 0 ? null : new String[] {"LT", "LT", "IT", "IT", "L", "FI"}[i]; }
                case 'L': return "abcdef".indexOf(sign) < 0 ? null : "";
                case 'F': return "012345".indexOf(sign) < 0 ? null : "";
                case 'I': return sign == '>' ? "I" : "0123456789p".indexOf(sign) < 0 ? null : "";
                default: return sign == '~' ? "TT" : sign == '@' ? "I" : "0123456789abcdefp".indexOf(sign) < 0 ? null : "";
            }
        }

        int index(String t, int given) {
            char sign = t.charAt(at++);
            if (sign == '>') return (index(t, given) + 1) % 12;
            return sign == 'p' ? given : sign - '0';
        }

        /** The value of a TERM; its PLACES are put into reads, if that is not null. */
        int term(String t, int given, int[] now, Set<Integer> reads) {
            char sign = t.charAt(at++);
            if (sign == '~') return (term(t, given, now, reads) + term(t, given, now, reads)) % 100;
            if (sign == 'p') return given;
            if (sign <= '9') return sign - '0';
            int place = sign == '@' ? 6 + index(t, given) : sign - 'a';
            if (reads != null) reads.add(place);
            return now[place];
        }

        boolean known(int routine) {
            Set<Integer> seen = new HashSet<>();
            return known(routine, seen);
        }

        boolean known(int routine, Set<Integer> seen) {
            if (!seen.add(routine)) return true;
            if (fault(text[routine]) != -6) return false;
            for (Call c : ownCalls(new Call(routine, 0), null, null, null)) if (!known(c.routine, seen)) return false;
            return true;
        }

        /** What a routine calls by its own text; its own reads, writes, adds go into the sets (17 and one more: throws). */
        List<Call> ownCalls(Call of, Set<Integer> reads, Set<Integer> writes, Set<Integer> adds) {
            List<Call> calls = new ArrayList<>();
            Set<Integer> read = reads == null ? new HashSet<>() : reads;
            Set<Integer> write = writes == null ? new HashSet<>() : writes;
            Set<Integer> add = adds == null ? new HashSet<>() : adds;
            String t = text[of.routine];
            at = 0;
            while (at < t.length()) {
                char sign = t.charAt(at++);
                if (sign == 'c') {
                    int routine = t.charAt(at++) - '0';
                    calls.add(new Call(routine, index(t, of.given)));
                } else if (sign == '?') {
                    read.add(t.charAt(at++) - 'a');
                    write.add(18);
                } else {
                    int place = sign == '=' || sign == '+' ? t.charAt(at++) - 'a' : 6 + index(t, of.given);
                    (sign == '=' || sign == '#' ? write : add).add(place);
                    term(t, of.given, new int[18], read);
                }
            }
            return calls;
        }

        int[] effect(Call of) {
            Set<Integer> reads = new HashSet<>();
            Set<Integer> writes = new HashSet<>();
            Set<Integer> adds = new HashSet<>();
            Set<Call> seen = new HashSet<>();
            ArrayDeque<Call> open = new ArrayDeque<>();
            open.add(of);
            while (!open.isEmpty()) {
                Call c = open.remove();
                if (seen.add(c)) open.addAll(ownCalls(c, reads, writes, adds));
            }
            int throwing = writes.remove(18) ? 1 : 0;
            return new int[] {bits(reads), bits(writes), bits(adds), throwing};
        }

        static int bits(Set<Integer> set) {
            int bits = 0;
            for (int place : set) bits |= 1 << place;
            return bits;
        }

        int causes(Call c, Call d) {
            int[] e = effect(c);
            int[] f = effect(d);
            int causes = 0;
            for (int p = 0; p < 18; p++) {
                boolean eWrites = (e[1] >> p & 1) == 1, fWrites = (f[1] >> p & 1) == 1;
                boolean eAdds = (e[2] >> p & 1) == 1, fAdds = (f[2] >> p & 1) == 1;
                boolean eReads = (e[0] >> p & 1) == 1, fReads = (f[0] >> p & 1) == 1;
                if (eWrites && fWrites || eWrites && fAdds || eAdds && fWrites) causes |= 1;
                if (eReads && (fWrites || fAdds) || fReads && (eWrites || eAdds)) causes |= 2;
            }
            return e[3] + f[3] == 2 ? causes | 4 : causes;
        }

        int swap(int i) {
            if (bad(i, program.size()) || bad(i + 1, program.size())) return -1;
            Call c = program.get(i);
            Call d = program.get(i + 1);
            if (!known(c.routine) || !known(d.routine)) return -5;
            if (causes(c, d) != 0) return -3;
            program.set(i, d);
            program.set(i + 1, c);
            return 1;
        }

        boolean allKnown(List<Call> calls) {
            for (Call c : calls) if (!known(c.routine)) return false;
            return true;
        }

        int[] stageOf(List<Call> calls) {
            int[] stage = new int[calls.size()];
            for (int i = 0; i < stage.length; i++) {
                for (int j = 0; j < i; j++) {
                    if (causes(calls.get(j), calls.get(i)) != 0 && stage[j] >= stage[i]) stage[i] = stage[j] + 1;
                }
            }
            return stage;
        }

        List<Integer> normalOrder(List<Call> calls) {
            int[] stage = stageOf(calls);
            List<Integer> order = new ArrayList<>();
            for (int i = 0; i < stage.length; i++) order.add(i);
            // The sort is stable.
            order.sort(Comparator.<Integer>comparingInt(i -> stage[i]).thenComparingInt(i -> calls.get(i).routine).thenComparingInt(i -> calls.get(i).given));
            return order;
        }

        List<Call> normal(List<Call> calls) {
            List<Call> normal = new ArrayList<>();
            for (int i : normalOrder(calls)) normal.add(calls.get(i));
            return normal;
        }

        int told(int i, int what) {
            if (bad(i, program.size())) return -1;
            if (bad(what, 4)) return -2;
            if (what == 0) return program.get(i).routine;
            if (what == 1) return program.get(i).given;
            if (!allKnown(program)) return -5;
            return what == 2 ? stageOf(program)[i] : normalOrder(program).indexOf(i);
        }

        int stages(int what) {
            if (bad(what, 7)) return -2;
            if (what == 6 && kept[0] == null) return -3;
            if (!allKnown(program) || what == 6 && !allKnown(kept[0].program)) return -5;
            int[] stage = stageOf(program);
            int[] sizes = new int[17];
            int stages = 0, most = 0, first = -6, pairs = 0;
            for (int s : stage) { sizes[s]++; stages = Math.max(stages, s + 1); most = Math.max(most, sizes[s]); }
            for (int s = 16; s >= 0; s--) if (most > 0 && sizes[s] == most) first = s;
            for (int i = 0; i < stage.length; i++) for (int j = i + 1; j < stage.length; j++) if (causes(program.get(i), program.get(j)) == 0) pairs++;
            switch (what) {
                case 0: return stages;
                case 1: return most;
                case 2: return first;
                case 3: return stages == 0 ? 0 : Float.floatToIntBits((float) stage.length / stages);
                case 4: return pairs;
                case 5: return program.equals(normal(program)) ? 1 : 0;
                default: return normal(program).equals(normal(kept[0].program)) ? 1 : 0;
            }
        }

        boolean run(int how) {
            if (!allKnown(program)) return false;
            int[] stage = stageOf(program);
            List<Integer> order = new ArrayList<>();
            if (how == 0) for (int i = 0; i < stage.length; i++) order.add(i);
            if (how == 1) for (int s = 0; s < 16; s++) for (int i = stage.length - 1; i >= 0; i--) if (stage[i] == s) order.add(i);
            if (how == 2) order = normalOrder(program);
            held = places.clone();
            throwers = new ArrayList<>();
            allSteps = 0;
            for (int i : order) {
                steps = 0;
                try {
                    perform(program.get(i), 1);
                } catch (Thrown t) {
                    throwers.add(i);
                } catch (TooFar t) {
                    return false;
                }
                allSteps += steps;
            }
            return true;
        }

        void perform(Call c, int level) {
            if (level > 20) throw new TooFar();
            String t = text[c.routine];
            int here = 0;
            while (here < t.length()) {
                if (++steps > 200) throw new TooFar();
                at = here;
                char sign = t.charAt(at++);
                if (sign == '?') {
                    if (held[t.charAt(at++) - 'a'] == 0) throw new Thrown();
                    here = at;
                } else if (sign == 'c') {
                    int routine = t.charAt(at++) - '0';
                    int given = index(t, c.given);
                    here = at;
                    perform(new Call(routine, given), level + 1);
                } else {
                    int place = sign == '=' || sign == '+' ? t.charAt(at++) - 'a' : 6 + index(t, c.given);
                    int value = term(t, c.given, held, null);
                    held[place] = sign == '=' || sign == '#' ? value : (held[place] + value) % 100;
                    here = at;
                }
            }
        }

        int count(int what) {
            if (what == 0) return program.size();
            int kind = what / 10;
            int r = what % 10;
            if (kind < 1 || kind > 3 || r > 5) return -2;
            if (kind == 1) return text[r].length();
            if (fault(text[r]) != -6) return -6;
            List<Call> calls = ownCalls(new Call(r, 0), null, null, null);
            int bits = 0;
            for (Call c : calls) bits |= 1 << c.routine;
            if (kind == 3) return bits;
            // Only the first sign of a statement can be one of these.
            int statements = calls.size();
            for (char sign : text[r].toCharArray()) if ("=+#^?".indexOf(sign) >= 0) statements++;
            return statements;
        }
    }
}
