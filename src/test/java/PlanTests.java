import java.util.Arrays;
import java.util.Random;

/**
 * Full plans of the fans, too many for a trial of all: each switch is set in turn to on, if a flow of the
 * least cost through what is left costs no more than the whole plan.
 */
public final class PlanTests {
    private static int wrong = 0;

    public static void main(String[] args) {
        Random r = new Random(7);
        int plans = 0;
        for (int n = 0; n < 6000; n++) {
            plans += compare(r, 1 + r.nextInt(4), r.nextInt(4));
        }
        System.out.println(plans + " plans, " + wrong + " are not as due");
        if (wrong != 0 || plans < 1000) {
            System.exit(1);
        }
    }

    /** 1 if there was a plan. */
    private static int compare(Random r, int prices, int wetOfTen) {
        GrainHouse x = new GrainHouse();
        Flow f = new Flow();
        f.power = 1 + r.nextInt(8);
        x.needs(-1, f.power, 0);
        int mostNeed = Math.max(1, f.power * 12 / 8);
        for (int h = 0; h < 12; h++) {
            f.cost[h] = r.nextInt(prices);
            f.room[h] = r.nextInt(10) < wetOfTen ? 0 : f.power;
            x.hour(h, f.room[h] > 0, f.cost[h]);
        }
        for (int bin = 0; bin < 8; bin++) {
            int ahead = r.nextInt(3) == 0 ? 12 : r.nextInt(13);
            f.need[bin] = Math.min(r.nextInt(mostNeed + 1), r.nextInt(8) == 0 ? 12 : ahead);
            x.needs(bin, f.need[bin], ahead);
            for (int h = 0; h < ahead; h++) {
                f.may[bin][h] = true;
            }
        }
        int least = f.least();
        int[] due = f.firstPlan(least);
        boolean same = x.fans() == least;
        for (int bin = 0; bin < 8; bin++) {
            same &= x.fansOf(bin) == due[bin];
        }
        if (!same) {
            wrong++;
            System.out.println("due is " + least + " " + Arrays.toString(due) + ", answered was " + x.fans());
        }
        return least < 0 ? 0 : 1;
    }

    private static final class Flow {
        private static final int SOURCE = 20;
        private static final int SINK = 21;
        private static final int FAR = 1000000;
        final int[] need = new int[8];
        final int[] room = new int[12];
        final int[] cost = new int[12];
        final boolean[][] may = new boolean[8][12];
        int power;

        /** The least cost by paths of Bellman and Ford over all edges; -1 if the needs can't be met. */
        int least() {
            int[][] free = new int[22][22];
            int[][] price = new int[22][22];
            int wanted = 0;
            for (int bin = 0; bin < 8; bin++) {
                free[SOURCE][bin] = need[bin];
                wanted += need[bin];
                for (int h = 0; h < 12; h++) {
                    free[bin][8 + h] = may[bin][h] ? 1 : 0;
                }
            }
            for (int h = 0; h < 12; h++) {
                free[8 + h][SINK] = room[h];
                price[8 + h][SINK] = cost[h];
                price[SINK][8 + h] = -cost[h];
            }
            int sum = 0;
            for (int n = 0; n < wanted; n++) {
                int[] from = new int[22];
                int[] far = distances(free, price, from);
                if (far[SINK] >= FAR) {
                    return -1;
                }
                sum += far[SINK];
                for (int at = SINK; at != SOURCE; at = from[at]) {
                    free[from[at]][at]--;
                    free[at][from[at]]++;
                }
            }
            return sum;
        }

        private static int[] distances(int[][] free, int[][] price, int[] from) {
            int[] far = new int[22];
            Arrays.fill(far, FAR);
            far[SOURCE] = 0;
            boolean again = true;
            while (again) {
                again = false;
                for (int a = 0; a < 22; a++) {
                    for (int b = 0; b < 22; b++) {
                        if (far[a] < FAR && free[a][b] > 0 && far[a] + price[a][b] < far[b]) {
                            far[b] = far[a] + price[a][b];
                            from[b] = a;
                            again = true;
                        }
                    }
                }
            }
            return far;
        }

        int[] firstPlan(int least) {
            int[] plan = new int[8];
            Arrays.fill(plan, least < 0 ? -1 : 0);
            int rest = least;
            for (int bin = 0; bin < 8 && least >= 0; bin++) {
                for (int h = 0; h < 12; h++) {
                    if (!may[bin][h]) {
                        continue;
                    }
                    may[bin][h] = false;
                    if (need[bin] == 0 || room[h] == 0) {
                        continue;
                    }
                    need[bin]--;
                    room[h]--;
                    int then = least();
                    if (then >= 0 && then + cost[h] == rest) {
                        plan[bin] |= 1 << h;
                        rest = then;
                    } else {
                        need[bin]++;
                        room[h]++;
                    }
                }
            }
            return plan;
        }
    }
}
