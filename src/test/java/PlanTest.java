import java.util.Random;

/** Promises 22 to 24: plan, planned, ends; THE PLAN also against a search through all HEADINGS. */
public final class PlanTest {
    private static final int LEAST = Integer.MIN_VALUE;
    private static final int MOST = Integer.MAX_VALUE;

    public static void main(String[] args) {
        refusals();
        endsByTheMap();
        endsRefusals();
        withoutGliders();
        none();
        firstThree();
        powerAndSinks();
        farthestHeadings();
        gainRoundsUp();
        for (int i = 0; i < 150; i++) {
            againstAllHeadings(20261118 + i);
        }
        Due.end();
    }

    private static int code(int east, int north) {
        return 20 * (east + 10) + north + 10;
    }

    private static void refusals() {
        DeepWings w = new DeepWings();
        w.glider(0, 0, 0, 50);
        for (int layer : new int[] {-1, 4, LEAST, MOST}) {
            Due.is("plan", w.plan(layer), -1);
            Due.is("planned", w.planned(layer, 0), -1);
        }
        Due.is("planned", w.planned(0, 1), -1);
        Due.is("planned", w.planned(0, -1), -1);
        Due.is("planned", w.planned(0, MOST), -1);
        Scene scene = new Scene(s -> s.glider(0, 0, 0, 50));
        scene.onlyTells(150, "plan", 3);
        scene.onlyTells(code(1, 1), "planned", 3, 0);
    }

    private static void endsByTheMap() {
        DeepWings w = new DeepWings();
        w.glider(0, 4, 4, 0);
        w.stream(4, 4, 0, -2, -2, false);
        w.stream(4, 4, 0, 1, 0, true);
        w.stream(5, 4, 1, 0, 2, true);
        w.stream(5, 6, 2, 2, 2, true);
        w.salt(5, 4, 0, 1000);
        Due.is("layer 0", w.ends(0, 0, 0, 0), 44);
        Due.is("layer 1", w.ends(0, 1, 0, 0), 46);
        Due.is("layer 2, the border stops it", w.ends(0, 2, 0, 0), 63);
        Due.is("with a heading", w.ends(0, 1, -1, -1), 37);
        w.sea(55, 66, 0, 2);
        Due.is("it sinks no deeper", w.ends(0, 2, 0, 0), 46);
        w.sea(55, 55, 0, 0);
        Due.is("land stops it", w.ends(0, 2, 0, 0), 44);
        Due.is("nothing happened", w.about(0, 9), 0);
    }

    private static void endsRefusals() {
        DeepWings w = new DeepWings();
        w.glider(0, 0, 0, 0);
        int[][] wrong = {{1, 0, 0, 0}, {-1, 0, 0, 0}, {0, 3, 0, 0}, {0, -1, 0, 0}, {0, 0, 3, 0}, {0, 0, -2, 1},
            {0, 0, LEAST, 0}, {0, 0, 0, LEAST}, {0, 0, MOST, MOST}, {0, MOST, 0, 0}};
        for (int[] a : wrong) {
            Due.is("ends", w.ends(a[0], a[1], a[2], a[3]), -1);
        }
        Due.is("power isn't wanted", w.ends(0, 2, 2, 0), 16);
        w.fetch(0);
        Due.is("not up", w.ends(0, 2, 2, 0), -3);
        Due.is("not up, but no such layer", w.ends(0, 3, 2, 0), -1);
    }

    private static void withoutGliders() {
        DeepWings w = new DeepWings();
        Due.is("no gliders", w.plan(0), 0);
        w.glider(0, 4, 4, 3);
        Due.is("none with power", w.plan(0), 0);
        Due.is("it has none", w.planned(0, 0), -4);
        w.sea(9, 7, 2, 0);
        w.glider(0, 4, 4, 30);
        Due.is("nothing to gain is a plan too", w.plan(0), 0);
        Due.is("with the least heading", w.planned(0, 1), code(-2, 0));
    }

    private static void none() {
        DeepWings w = new DeepWings();
        w.sea(9, 7, 0, 0);
        w.sea(0, 1, 0, 4);
        w.sea(9, 7, 2, 40);
        w.glider(0, 0, 0, 99);
        w.glider(1, 0, 0, 99);
        Due.is("two in two cells", w.plan(0), 80);
        Due.is("least heading first", w.planned(0, 0), code(-2, 0));
        Due.is("then the other cell", w.planned(0, 1), code(-2, 1));
        w.glider(2, 0, 1, 99);
        Due.is("three in two cells", w.plan(0), -4);
        Due.is("none has one", w.planned(0, 0), -4);
        Due.is("none has one", w.planned(0, 2), -4);
        w.fetch(1);
        Due.is("two again", w.plan(0), 80);
        Due.is("it has none", w.planned(0, 1), -4);
        Due.is("the deep one", w.planned(0, 2), code(-1, 0));
        Due.is("the first one makes room", w.planned(0, 0), code(-2, 0));
    }

    private static void firstThree() {
        DeepWings w = new DeepWings();
        w.glider(0, 0, 0, 99);
        w.glider(0, 9, 0, 99);
        w.glider(0, 0, 7, 99);
        w.glider(0, 9, 7, 99);
        Due.is("three of four", w.plan(0), 450);
        Due.is("the fourth has none", w.planned(0, 3), -4);
        w.fetch(0);
        Due.is("three of four", w.plan(0), 450);
        Due.is("the first has none", w.planned(0, 0), -4);
        Due.is("the fourth has one", w.planned(0, 3), code(-1, -1));
        Due.is("the second", w.planned(0, 1), code(-1, 1));
    }

    private static void powerAndSinks() {
        DeepWings w = new DeepWings();
        w.glider(1, 4, 4, 3);
        w.glider(0, 4, 4, 7);
        Due.is("layer 3: the light one to layer 1, the plain one lacks power", w.planned(3, 1), -4);
        Due.isTrue("the light one has power", w.planned(3, 0) >= 0);
        Due.is("gain", w.plan(3), 150);
        Due.is("both", w.plan(1), 300);
        w.leak(0, true);
        Due.is("a leak takes power", w.plan(1), 150);
        Due.is("a leak takes power", w.planned(1, 0), -4);
        w = new DeepWings();
        w.sea(9, 7, 2, 0);
        w.sea(88, 44, 2, 90);
        w.glider(1, 4, 4, 99);
        w.stream(4, 4, 0, 1, 0, true);
        w.stream(5, 4, 1, 1, 0, true);
        w.stream(6, 4, 2, 2, 0, true);
        w.salt(5, 4, 0, 1000);
        Due.is("by the map, as deep as it sinks, nets left out", w.planned(3, 0), code(2, 0));
        Due.is("layer 0", w.planned(0, 0), code(3, 0));
    }

    private static void farthestHeadings() {
        DeepWings w = new DeepWings();
        w.sea(9, 7, 2, 0);
        w.sea(88, 44, 2, 60);
        w.glider(3, 4, 4, 99);
        Due.is("the last of all headings", w.planned(0, 0), code(4, 0));
        w.sea(0, 44, 2, 61);
        Due.is("the first of all headings", w.planned(0, 0), code(-4, 0));
    }

    private static void gainRoundsUp() {
        DeepWings w = new DeepWings();
        w.sea(9, 7, 2, 0);
        w.sea(44, 44, 2, 7);
        w.sea(55, 44, 2, 5);
        w.sea(44, 55, 2, 1);
        w.glider(2, 4, 4, 99);
        Due.is("7, half of 5 and of 1 rounded up", w.plan(0), 11);
        Due.is("it stays", w.planned(0, 0), code(0, 0));
        w.glider(2, 5, 4, 99);
        Due.is("of a cell the most: 7, 5 and 1", w.plan(0), 13);
        Due.is("it stays", w.planned(0, 0), code(0, 0));
        Due.is("it stays", w.planned(0, 1), code(0, 0));
    }

    /** A random sea, gliders in it, and the best of all HEADINGS, told by ends and cell alone. */
    private static void againstAllHeadings(long seed) {
        Scene scene = new Scene(w -> fill(w, new Random(seed)));
        for (int layer = 0; layer < 4; layer++) {
            DeepWings w = scene.made();
            int[] team = team(w, layer);
            int[] best = best(scene, layer, team);
            Due.is("plan " + layer, w.plan(layer), best[0]);
            for (int g = 0; g < w.count(0); g++) {
                int due = -4;
                for (int k = 0; k < team.length && best[0] >= 0; k++) {
                    due = team[k] == g ? best[k + 1] : due;
                }
                Due.is("planned " + layer + " " + g, w.planned(layer, g), due);
            }
        }
    }

    private static void fill(DeepWings w, Random random) {
        int style = random.nextInt(4);
        for (int i = 0; i < 60; i++) {
            int x = random.nextInt(10);
            int y = random.nextInt(8);
            if (style > 0 || i < 10) {
                w.sea(11 * x, 11 * y, 0, random.nextInt(style == 3 ? 2 : 5));
            }
            int doubt = style == 1 ? 10 * random.nextInt(4) : random.nextInt(100);
            w.sea(11 * random.nextInt(10), 11 * random.nextInt(8), 2, doubt);
            w.stream(x, y, random.nextInt(4), random.nextInt(5) - 2, random.nextInt(5) - 2, true);
        }
        int gx = random.nextInt(10);
        int gy = random.nextInt(8);
        for (int i = 0; i < 8; i++) {
            int x = Math.floorMod(gx + random.nextInt(3) - 1, 10);
            int y = Math.floorMod(gy + random.nextInt(3) - 1, 8);
            w.glider(random.nextInt(4), x, y, random.nextInt(8) == 0 ? random.nextInt(9) : 50);
        }
    }

    private static int depthOf(DeepWings w, int g, int layer) {
        return Math.min(layer, w.can(g, 0));
    }

    private static int[] team(DeepWings w, int layer) {
        int[] found = new int[3];
        int n = 0;
        for (int g = 0; g < w.count(0) && n < 3; g++) {
            if (w.about(g, 4) == 0 && w.about(g, 3) >= w.can(g, 2 + depthOf(w, g, layer))) {
                found[n++] = g;
            }
        }
        return java.util.Arrays.copyOf(found, n);
    }

    private static int[] best(Scene scene, int layer, int[] team) {
        int[] best = {-4, 0, 0, 0};
        int[][] options = new int[3][];
        for (int k = 0; k < 3; k++) {
            options[k] = k < team.length ? optionsOf(scene.made(), team[k], layer) : new int[] {0, -1 - k};
        }
        int[] doubt = new int[80];
        DeepWings w = scene.made();
        for (int c = 0; c < 80; c++) {
            doubt[c] = w.cell(c / 8, c % 8, 0, 2);
        }
        for (int a = 0; a < options[0].length; a += 2) {
            for (int b = 0; b < options[1].length; b += 2) {
                for (int c = 0; c < options[2].length; c += 2) {
                    int[] ends = {options[0][a + 1], options[1][b + 1], options[2][c + 1]};
                    if (ends[0] == ends[1] || ends[0] == ends[2] || ends[1] == ends[2]) {
                        continue;
                    }
                    int gain = gain(doubt, ends);
                    if (gain > best[0]) {
                        best = new int[] {gain, options[0][a], options[1][b], options[2][c]};
                    }
                }
            }
        }
        return best;
    }

    private static int[] optionsOf(DeepWings w, int g, int layer) {
        int goes = w.can(g, 1);
        int depth = depthOf(w, g, layer);
        int[] found = new int[200];
        int n = 0;
        for (int east = -goes; east <= goes; east++) {
            for (int north = -goes; north <= goes; north++) {
                int end = w.ends(g, depth, east, north);
                if (end >= 0) {
                    found[n++] = code(east, north);
                    found[n++] = end;
                }
            }
        }
        return java.util.Arrays.copyOf(found, n);
    }

    private static int gain(int[] doubt, int[] ends) {
        int all = 0;
        for (int c = 0; c < 80; c++) {
            int most = 0;
            for (int end : ends) {
                if (end >= 0) {
                    int off = Math.abs(end / 8 - c / 8) + Math.abs(end % 8 - c % 8);
                    most = Math.max(most, off == 0 ? doubt[c] : off == 1 ? (doubt[c] + 1) / 2 : 0);
                }
            }
            all += most;
        }
        return all;
    }
}
