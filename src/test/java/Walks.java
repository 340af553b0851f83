import java.util.ArrayDeque;

/** Finds the fewest steps by trying all walks, a step longer each time. */
final class Walks {
    private Walks() {
    }

    static int fewestSteps(int from, int[] spots, int sight) {
        int all = (1 << spots.length) - 1;
        int[] steps = new int[16 << spots.length];
        java.util.Arrays.fill(steps, -1);
        ArrayDeque<Integer> open = new ArrayDeque<>();
        int first = from + 16 * seenFrom(from, spots, sight);
        steps[first] = 0;
        open.add(first);
        while (true) {
            int place = open.remove();
            int seen = place / 16;
            if (seen == all) {
                return steps[place];
            }
            for (int way = -1; way <= 1; way += 2) {
                int spot = (place % 16 + way + 16) % 16;
                int next = spot + 16 * (seen | seenFrom(spot, spots, sight));
                if (steps[next] < 0) {
                    steps[next] = steps[place] + 1;
                    open.add(next);
                }
            }
        }
    }

    private static int seenFrom(int from, int[] spots, int sight) {
        int seen = 0;
        for (int i = 0; i < spots.length; i++) {
            int steps = Math.abs(from - spots[i]);
            if (steps <= sight || 16 - steps <= sight) {
                seen |= 1 << i;
            }
        }
        return seen;
    }
}
