import java.util.ArrayDeque;
import java.util.ArrayList;
import java.util.Arrays;
import java.util.HashMap;
import java.util.HashSet;
import java.util.List;
import java.util.Map;
import java.util.Random;
import java.util.Set;

/** What the document says of all programs: the same comes in each order, and normal forms tell what can be swapped into what. */
public final class SwapsTest {
    private static final String[] PIECES = {"+a1", "+ap", "=a2", "=bp", "+b~a1", "?a", "?b", "#p3", "^p1", "^>p~p1", "=c@p", "+c@>p", "#0c", "c5>p", "c4p", "c3>p"};
    private static int wrong = 0;

    public static void main(String[] args) {
        for (int seed = 0; seed < 400; seed++) {
            sameInEachOrder(new Random(seed));
            normalFormsTellWhatCanBeSwapped(new Random(seed));
        }
        System.out.println(wrong == 0 ? "swaps: all answers are as due" : wrong + " answers are not as due");
        if (wrong != 0) System.exit(1);
    }

    private static void due(String call, int got, int want) {
        if (got != want) {
            wrong++;
            System.out.println(call + " answered " + got + ", due is " + want);
        }
    }

    private static String[] texts(Random random) {
        String[] texts = new String[6];
        for (int r = 0; r < 6; r++) {
            texts[r] = "";
            for (int n = random.nextInt(3); n >= 0; n--) texts[r] += PIECES[random.nextInt(PIECES.length)];
        }
        return texts;
    }

    private static SwapCalls made(String[] texts) {
        SwapCalls x = new SwapCalls();
        for (int r = 0; r < 6; r++) for (char sign : texts[r].toCharArray()) x.say(r, sign);
        return x;
    }

    private static void sameInEachOrder(Random random) {
        SwapCalls x = made(texts(random));
        for (int p = 0; p < 18; p++) x.set(p, random.nextInt(3));
        int calls = random.nextInt(17);
        for (int i = 0; i < calls; i++) x.call(random.nextInt(6), random.nextInt(12));
        for (int how = 1; how <= 2; how++) {
            for (int what = 0; what < 20; what++) due("run(" + how + ", " + what + ")", x.run(how, what), x.run(0, what));
            for (int i = 0; i <= 16; i++) due("thrower(" + how + ", " + i + ")", x.thrower(how, i), x.thrower(0, i));
        }
        int[] before = new int[20];
        for (int what = 0; what < 20; what++) before[what] = x.run(0, what);
        x.image(0);
        for (int i = 0; i < 60; i++) x.swap(random.nextInt(16));
        due("stages(6) behind swaps", x.stages(6), 1);
        for (int what = 0; what < 20; what++) due("run(0, " + what + ") behind swaps", x.run(0, what), before[what]);
        // Sorted by ranks, a program is its own normal form.
        int[][] form = new int[calls][];
        for (int i = 0; i < calls; i++) form[x.told(i, 3)] = new int[] {x.told(i, 0), x.told(i, 1)};
        while (x.count(0) > 0) x.drop(0);
        for (int[] call : form) x.call(call[0], call[1]);
        due("stages(5) of the normal form", x.stages(5), 1);
        due("stages(6) of the normal form", x.stages(6), 1);
    }

    private static void normalFormsTellWhatCanBeSwapped(Random random) {
        String[] texts = texts(random);
        int size = 1 + random.nextInt(5);
        int[] first = new int[size];
        for (int i = 0; i < size; i++) first[i] = random.nextInt(6) * 12 + random.nextInt(2);
        Set<List<Integer>> reached = reachable(texts, first);
        for (List<Integer> order : orders(first)) {
            SwapCalls x = made(texts);
            load(x, first);
            x.image(0);
            while (x.count(0) > 0) x.drop(0);
            load(x, order.stream().mapToInt(c -> c).toArray());
            due("stages(6) of " + order + " and " + Arrays.toString(first), x.stages(6), reached.contains(order) ? 1 : 0);
        }
    }

    private static void load(SwapCalls x, int[] calls) {
        for (int c : calls) x.call(c / 12, c % 12);
    }

    private static Set<List<Integer>> reachable(String[] texts, int[] first) {
        SwapCalls x = made(texts);
        Map<List<Integer>, Boolean> free = new HashMap<>();
        for (int c : first) for (int d : first) free.put(List.of(c, d), x.causes(c / 12, c % 12, d / 12, d % 12) == 0);
        Set<List<Integer>> reached = new HashSet<>();
        ArrayDeque<List<Integer>> open = new ArrayDeque<>();
        open.add(Arrays.stream(first).boxed().toList());
        while (!open.isEmpty()) {
            List<Integer> order = open.remove();
            if (!reached.add(order)) continue;
            for (int i = 0; i + 1 < order.size(); i++) {
                if (!free.get(List.of(order.get(i), order.get(i + 1)))) continue;
                List<Integer> next = new ArrayList<>(order);
                next.set(i, order.get(i + 1));
                next.set(i + 1, order.get(i));
                open.add(next);
            }
        }
        return reached;
    }

    private static Set<List<Integer>> orders(int[] calls) {
        Set<List<Integer>> orders = new HashSet<>();
        orders.add(List.of());
        for (int c : calls) {
            Set<List<Integer>> longer = new HashSet<>();
            for (List<Integer> order : orders) {
                for (int i = 0; i <= order.size(); i++) {
                    List<Integer> more = new ArrayList<>(order);
                    more.add(i, c);
                    longer.add(more);
                }
            }
            orders = longer;
        }
        return orders;
    }
}
