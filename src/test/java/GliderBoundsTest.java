/** The bounds that the document names for GLIDERS, a test for each sentence: promises 6 to 9. */
public final class GliderBoundsTest {
    private static final int[] SINKS = {2, 1, 3, 1};
    private static final int[] GOES = {2, 3, 1, 4};
    private static final int[][] COST = {{4, 6, 8}, {2, 3}, {3, 5, 7, 9}, {3, 4}};

    public static void main(String[] args) {
        kinds();
        sinks();
        goes();
        headings();
        costs();
        states();
        powers();
        power();
        eightGliders();
        onLand();
        firstRefusalOfGlider();
        aboutBounds();
        aboutNone();
        lostDiveCounts();
        readingNotKept();
        canBounds();
        leaks();
        Due.end();
    }

    private static void kinds() {
        Due.sentence("of KINDS: 0 PLAIN; 1 LIGHT under PLAIN; 2 DEEP under PLAIN; 3 SCOUT under LIGHT.");
        for (int kind = 0; kind <= 3; kind++) {
            DeepWings w = new DeepWings();
            Due.call(w, 0, "glider", kind, 0, 0, 0);
            Due.call(w, kind, "about", 0, 0);
        }
        Scene.NEW.refusesOutside(-1, 0, 0, 3, "glider", 0, 1, 1, 1);
        Scene.RICH.refusesOutside(-1, 0, 0, 3, "glider", 0, 1, 1, 1);
    }

    private static DeepWings fleet(int power) {
        DeepWings w = new DeepWings();
        for (int kind = 0; kind < 4; kind++) {
            w.glider(kind, 4, 3, power);
        }
        return w;
    }

    private static void sinks() {
        Due.sentence("SINKS (the deepest LAYER): PLAIN 2; LIGHT 1 less; DEEP 1 more than PLAIN; SCOUT as LIGHT.");
        for (int kind = 0; kind < 4; kind++) {
            Due.call(fleet(50), SINKS[kind], "can", kind, 0);
            for (int layer = -1; layer <= 4; layer++) {
                boolean may = layer >= 0 && layer <= SINKS[kind];
                Due.call(fleet(50), may ? 35 : -1, "dive", kind, layer, 0, 0);
                Due.call(fleet(50), may ? 35 : -1, "ends", kind, layer, 0, 0);
            }
            int glider = kind;
            new Scene(w -> w.glider(glider, 4, 3, 99)).refusesOutside(-1, 1, 0, SINKS[kind], "dive", 0, 0, 0, 0);
        }
    }

    private static void goes() {
        Due.sentence("GOES: PLAIN 2; LIGHT 1 more; DEEP 1 less than PLAIN; SCOUT twice a LIGHT's less 2.");
        for (int kind = 0; kind < 4; kind++) {
            Due.call(fleet(50), GOES[kind], "can", kind, 1);
        }
    }

    private static void headings() {
        Due.sentence("a HEADING, east and north (without signs together GOES at most)");
        for (int kind = 0; kind < 4; kind++) {
            for (int east = -6; east <= 6; east++) {
                for (int north = -6; north <= 6; north++) {
                    boolean may = Math.abs(east) + Math.abs(north) <= GOES[kind];
                    int due = may ? 8 * (4 + east) + Math.max(0, Math.min(7, 3 + north)) : -1;
                    Due.call(fleet(50), due, "dive", kind, 1, east, north);
                    Due.call(fleet(50), due, "ends", kind, 1, east, north);
                }
            }
        }
        int least = Integer.MIN_VALUE;
        int most = Integer.MAX_VALUE;
        int[][] far = {{least, 0}, {0, least}, {least, least}, {most, most}, {most, least}, {least, most},
            {least, 1}, {-1, least}, {most, 1}, {1, most}, {most, -most}, {least, 4}, {4, least}};
        for (int[] heading : far) {
            Scene.RICH.refuses(-1, "dive", 0, 0, heading[0], heading[1]);
            Scene.RICH.refuses(-1, "ends", 0, 0, heading[0], heading[1]);
        }
        Scene.RICH.refuses(-1, "dive", 0, 0, 2, -1);
        Scene.RICH.refuses(-1, "dive", 0, 0, 0, 3);
    }

    private static void costs() {
        Due.sentence("COST of a DIVE to LAYER d: PLAIN 4 and twice d; LIGHT half of that, cut; DEEP 1 less than PLAIN; SCOUT 1 more than LIGHT; 3 more, if it LEAKS.");
        for (int kind = 0; kind < 4; kind++) {
            for (int layer = 0; layer < 4; layer++) {
                for (int leak = 0; leak < 2; leak++) {
                    DeepWings w = fleet(500);
                    w.leak(kind, leak == 1);
                    int cost = layer > SINKS[kind] ? -3 : COST[kind][layer] + 3 * leak;
                    Due.call(w, cost, "can", kind, 2 + layer);
                    w.dive(kind, layer, 0, 0);
                    Due.call(w, cost < 0 ? 500 : 500 - cost, "about", kind, 3);
                }
            }
        }
    }

    private static void states() {
        Due.sentence("and is UP (0), FETCHED (1) or LOST (2); FOUL (0 at first)");
        DeepWings w = fleet(50);
        w.ship(4, 3);
        w.fetch(1);
        w.salt(4, 3, 0, 1000);
        w.dive(2, 0, 0, 0);
        int[] due = {0, 1, 2, 0};
        for (int g = 0; g < 4; g++) {
            Due.call(w, due[g], "about", g, 4);
            Due.call(w, 0, "about", g, 6);
        }
        Due.call(w, 2, "count", 1);
        Due.call(w, 1, "count", 2);
        Due.call(w, 1, "count", 3);
    }

    private static void powers() {
        Due.sentence("Each has POWER (0 .. 999)");
        for (int power : new int[] {0, 1, 998, 999}) {
            DeepWings w = new DeepWings();
            Due.call(w, 0, "glider", 0, 0, 0, power);
            Due.call(w, power, "about", 0, 3);
            Due.call(w, power, "count", 10);
        }
        Scene.NEW.refusesOutside(-1, 3, 0, 999, "glider", 0, 1, 1, 1);
        Scene.RICH.refusesOutside(-1, 3, 0, 999, "glider", 0, 1, 1, 1);
    }

    private static void power() {
        Due.sentence("1 COST goes from its POWER (it must have that).");
        for (int kind = 0; kind < 4; kind++) {
            for (int layer = 0; layer <= SINKS[kind]; layer++) {
                for (int leak = 0; leak < 2; leak++) {
                    onePower(kind, layer, leak == 1);
                }
            }
        }
    }

    private static void onePower(int kind, int layer, boolean leak) {
        int cost = COST[kind][layer] + (leak ? 3 : 0);
        for (int power = cost - 1; power <= cost + 1; power++) {
            DeepWings w = fleet(power);
            w.leak(kind, leak);
            Due.call(w, power < cost ? -3 : 35, "dive", kind, layer, 0, 0);
            Due.call(w, power < cost ? power : power - cost, "about", kind, 3);
            Due.call(w, power < cost ? 0 : 1, "about", kind, 9);
        }
        new Scene(w -> {
            w.glider(kind, 4, 3, cost - 1);
            w.leak(0, leak);
        }).refuses(-3, "dive", 0, layer, 0, 0);
    }

    private static void eightGliders() {
        Due.sentence("GLIDERS 0 .. 7 as they come");
        DeepWings w = new DeepWings();
        for (int g = 0; g < 8; g++) {
            Due.call(w, -1, "about", g, 0);
            Due.call(w, g, "glider", g % 4, 9 - g, g, g);
            Due.call(w, g + 1, "count", 0);
            Due.call(w, g, "about", g, 3);
        }
        Due.call(w, -2, "glider", 0, 0, 0, 0);
        Due.call(w, -1, "about", 8, 0);
        w.fetch(7);
        Due.call(w, -2, "glider", 0, 0, 0, 0);
        int[] full = {8, 8, 0, 0, 400, 200, 60, 10};
        for (int what = 0; what < full.length; what++) {
            Due.call(Scene.FULL.made(), full[what], "count", what);
        }
        Due.call(Scene.FULL.made(), 60, "count", 9);
        Scene.FULL.refuses(-2, "glider", 0, 0, 0, 0);
    }

    private static void onLand() {
        Due.sentence("A GLIDER: its number. -1; -2; -3: LAND.");
        for (int depth = 0; depth <= 4; depth++) {
            DeepWings w = new DeepWings();
            w.sea(55, 55, 0, depth);
            Due.call(w, depth == 0 ? -3 : 0, "glider", 3, 5, 5, 9);
            Due.call(w, depth == 0 ? 0 : 1, "count", 0);
        }
        Scene.RICH.refuses(-3, "glider", 0, 8, 7, 0);
    }

    private static void firstRefusalOfGlider() {
        Due.sentence("Answers of several refusals are the first one here");
        Scene.RICH.refuses(-1, "glider", 4, 8, 7, 0);
        Scene.RICH.refuses(-1, "glider", 0, 8, 8, 0);
        Scene.RICH.refuses(-1, "glider", 0, 8, 7, 1000);
        Scene.FULL.refuses(-1, "glider", 4, 0, 0, 0);
        Scene.FULL.refuses(-1, "glider", 0, 10, 0, 0);
        Scene.FULL.refuses(-1, "glider", 0, 0, 0, -1);
        Scene.FULL.refuses(-2, "glider", 0, 9, 7, 0);
        Scene.FULL.refuses(-1, "glider", 0, 9, 7, 1000);
    }

    private static void aboutBounds() {
        Due.sentence("Of a GLIDER: 0 KIND, 1 x, 2 y, 3 POWER, 4 what it is (0 .. 2), 5 LEAK, 6 FOUL, 7 its ORDER (-4)");
        Scene.RICH.refusesOutside(-1, 1, 0, 10, "about", 0, 0);
        Scene.RICH.refusesOutside(-1, 0, 0, 4, "about", 0, 0);
        Scene.FULL.refusesOutside(-1, 0, 0, 7, "about", 0, 10);
        DeepWings w = Scene.RICH.made();
        int[] states = {0, 0, 1, 2, 0};
        for (int g = 0; g < states.length; g++) {
            Due.call(w, states[g], "about", g, 4);
        }
        Due.call(w, -1, "about", 5, 11);
    }

    private static void aboutNone() {
        Due.sentence("7 its ORDER (-4), 8 when it heard last (-4)");
        DeepWings w = new DeepWings();
        w.glider(0, 9, 7, 100);
        for (int what : new int[] {7, 8, 10}) {
            Due.call(w, -4, "about", 0, what);
        }
        Due.order(w, "p>0?u;");
        w.letter(0, 0);
        w.dive(0, 0, 0, 0);
        Due.call(w, -4, "about", 0, 7);
        Due.call(w, -4, "about", 0, 8);
        Due.call(w, 0, "about", 0, 10);
        w.times(1);
        Due.call(w, -4, "about", 0, 7);
        Due.call(w, 0, "about", 0, 8);
        w.times(1);
        Due.call(w, 0, "about", 0, 7);
        Due.call(w, 1, "about", 0, 8);
    }

    private static void lostDiveCounts() {
        Due.sentence("9 DIVES (with one in which it was LOST)");
        DeepWings w = new DeepWings();
        w.glider(0, 4, 4, 100);
        Due.call(w, 0, "about", 0, 9);
        w.dive(0, 0, 0, 0);
        Due.call(w, 1, "about", 0, 9);
        w.salt(4, 4, 0, 1000);
        Due.call(w, -5, "dive", 0, 0, 0, 0);
        Due.call(w, 2, "about", 0, 9);
        Due.call(w, -3, "dive", 0, 0, 0, 0);
        Due.call(w, 2, "about", 0, 9);
    }

    private static void readingNotKept() {
        Due.sentence("10 its latest READING as it showed (-4; kept or not).");
        DeepWings w = readings(199);
        w.glider(0, 9, 0, 50);
        w.salt(9, 0, 0, 77);
        Due.call(w, -4, "about", 7, 10);
        w.dive(7, 0, 0, 0);
        Due.call(w, 77, "about", 7, 10);
        Due.call(w, 200, "count", 5);
        w.dive(7, 0, 0, 0);
        Due.call(w, 80, "about", 7, 10);
        Due.call(w, 200, "count", 5);
    }

    /** An object with 7 GLIDERS and so many READINGS of them. */
    static DeepWings readings(int many) {
        DeepWings w = new DeepWings();
        Due.order(w, "p>3?s0;");
        for (int g = 0; g < 7; g++) {
            w.glider(0, g, 4, 4 * (many / 7 + (g < many % 7 ? 1 : 0)));
            w.letter(g, 0);
        }
        w.times(1);
        w.times(many / 7 + 1);
        Due.call(w, many, "count", 5);
        return w;
    }

    private static void canBounds() {
        Due.sentence("SINKS (0), GOES (1), COST of a DIVE to LAYER 0 .. 3 (2 .. 5; -3: deeper than SINKS) of a GLIDER. -1.");
        Scene.RICH.refusesOutside(-1, 1, 0, 5, "can", 0, 0);
        Scene.RICH.refusesOutside(-1, 0, 0, 4, "can", 0, 0);
        Scene.FULL.refusesOutside(-1, 0, 0, 7, "can", 0, 5);
        Scene.RICH.refuses(-3, "can", 0, 5);
        Scene.RICH.refuses(-3, "can", 1, 4);
        Due.call(Scene.RICH.made(), 9, "can", 2, 5);
        Due.call(Scene.RICH.made(), -1, "can", 5, 5);
    }

    private static void leaks() {
        Due.sentence("LEAK: 1 if it was otherwise, else 0. -1.");
        DeepWings w = fleet(9);
        int[][] due = {{0, 0}, {1, 1}, {1, 0}, {0, 1}, {0, 0}};
        for (int[] d : due) {
            Due.call(w, d[1], "leak", 3, d[0]);
            Due.call(w, d[0], "about", 3, 5);
            Due.call(w, 0, "about", 0, 5);
        }
        Scene.RICH.refusesOutside(-1, 0, 0, 4, "leak", 0, 1);
        Scene.RICH.refusesOutside(-1, 0, 0, 4, "leak", 0, 0);
        Scene.FULL.refusesOutside(-1, 0, 0, 7, "leak", 0, 1);
    }
}
