import java.util.Arrays;
import java.util.Random;

/** FEWEST in small halls against trying all that the people of each set could tell. */
public final class FewestTest extends Asker {
    private static final int HALLS = 480;
    private static final Random RANDOM = new Random(5);

    private static int[] numbers;
    private static int[] weights;
    private static int rule;

    private static int middle(int[] told) {
        int[] sorted = told.clone();
        Arrays.sort(sorted);
        int many = sorted.length;
        return switch (rule) {
            case 0 -> Arrays.stream(told).sum() / many;
            case 1 -> sorted[(many - 1) / 2];
            case 2 -> sorted[many / 2];
            case 3 -> (sorted[0] + sorted[many - 1]) / 2;
            case 4 -> commonest(sorted);
            default -> weighted(told);
        };
    }

    private static int commonest(int[] sorted) {
        int found = -1;
        int most = 0;
        for (int v : sorted) {
            int many = 0;
            for (int w : sorted) {
                many += v == w ? 1 : 0;
            }
            if (many > most) {
                most = many;
                found = v;
            }
        }
        return found;
    }

    private static int weighted(int[] told) {
        int sum = 0;
        for (int i = 0; i < told.length; i++) {
            sum += told[i] * weights[i];
        }
        return sum / Arrays.stream(weights).sum();
    }

    private static int near(int base) {
        return switch (RANDOM.nextInt(4)) {
            case 0 -> RANDOM.nextInt(100);
            case 1 -> RANDOM.nextBoolean() ? 0 : 99;
            case 2 -> base;
            default -> Math.min(99, Math.max(0, base + RANDOM.nextInt(5) - 2));
        };
    }

    private static MeanMan drawHall(int people) {
        rule = RANDOM.nextInt(6);
        numbers = new int[people];
        weights = new int[people];
        int base = RANDOM.nextInt(100);
        StringBuilder text = new StringBuilder("rule 0 " + rule);
        for (int p = 0; p < people; p++) {
            numbers[p] = near(base);
            weights[p] = 1 + RANDOM.nextInt(9);
            text.append(";person ").append(numbers[p]).append(" 0 0 0 weight ").append(weights[p]);
        }
        return hall(text.toString());
    }

    /** The middles that a set brings about by all numbers it could tell. */
    private static boolean[] reached(int set) {
        boolean[] reached = new boolean[100];
        int ways = 1;
        for (int i = Integer.bitCount(set); i > 0; i--) {
            ways *= 100;
        }
        int[] told = numbers.clone();
        for (int way = 0; way < ways; way++) {
            int rest = way;
            for (int p = 0; p < told.length; p++) {
                if ((set >> p & 1) == 1) {
                    told[p] = rest % 100;
                    rest /= 100;
                }
            }
            reached[middle(told)] = true;
        }
        return reached;
    }

    private static int[] fewest() {
        int[] fewest = new int[100];
        Arrays.fill(fewest, MeanMan.NONE);
        int all = (1 << numbers.length) - 1;
        for (int many = 0; many <= numbers.length; many++) {
            for (int set = 0; set <= all; set++) {
                // All together need not be tried: if each tells V, the middle is V by every rule.
                boolean[] reached = Integer.bitCount(set) == many && set != all ? reached(set) : null;
                for (int v = 0; v < 100 && Integer.bitCount(set) == many; v++) {
                    if (fewest[v] == MeanMan.NONE && (reached == null || reached[v])) {
                        fewest[v] = set;
                    }
                }
            }
        }
        return fewest;
    }

    public static void main(String[] args) {
        for (int i = 0; i < HALLS; i++) {
            // Sets of three are dear, so only few halls have four people.
            MeanMan x = drawHall(i % 20 == 0 ? 4 : 1 + i % 3);
            int[] due = fewest();
            for (int v = 0; v < 100; v++) {
                due("fewest of " + Arrays.toString(numbers) + " for " + v + " by rule " + rule, x.fewest(0, v), due[v]);
            }
        }
        finish();
    }
}
