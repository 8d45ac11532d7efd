/** The bounds that the document names for THE PLAN and for WHOLE water, a test for each sentence: promises 22 to 25. */
public final class PlanBoundsTest {
    public static void main(String[] args) {
        refusals();
        withoutGliders();
        none();
        noTwoEnds();
        eachToLayerOrSinks();
        powerForThatDive();
        firstThree();
        anyHeading();
        threeOfAllHeadings();
        headingNumbers();
        streamsOfTheMap();
        halfRoundedUp();
        besideInTheSea();
        justTheMost();
        leastHeadingOfTheFirst();
        thenTheNextOne();
        eachItsLeastHeading();
        togetherGreatest();
        anotherTeam();
        endsRefusals();
        endsWithoutPower();
        whole();
        wholeOfLayersThatThereAre();
        wholeAtBorders();
        Due.end();
    }

    private static int code(int east, int north) {
        return 20 * (east + 10) + north + 10;
    }

    private static void refusals() {
        Due.sentence("THE PLAN for a LAYER (0 .. 3): all GAIN; -4: none. -1.");
        for (Scene scene : new Scene[] {Scene.RICH, Scene.FULL}) {
            scene.refusesOutside(-1, 0, 0, 3, "plan", 0);
            scene.refusesOutside(-1, 0, 0, 3, "planned", 0, 0);
        }
        Scene.NEW.refusesOutside(-1, 0, 0, 3, "plan", 0);
        Scene.RICH.refusesOutside(-1, 1, 0, 4, "planned", 0, 0);
        Scene.FULL.refusesOutside(-1, 1, 0, 7, "planned", 3, 0);
        Scene.RICH.refuses(-4, "planned", 0, 2);
        Scene.RICH.refuses(-4, "planned", 0, 3);
        Scene.RICH.refuses(-4, "planned", 0, 4);
        String plan = Call.answer(Scene.RICH.made(), "plan", 2);
        Scene.RICH.refuses(plan, "plan", 2);
    }

    private static void withoutGliders() {
        Due.sentence("without GLIDERS GAIN is 0");
        for (int layer = 0; layer < 4; layer++) {
            Scene.NEW.refuses(0, "plan", layer);
            DeepWings w = new DeepWings();
            w.glider(0, 0, 0, 3);
            w.glider(0, 1, 1, 99);
            w.glider(0, 2, 2, 99);
            w.fetch(1);
            w.salt(2, 2, 0, 1000);
            w.dive(2, 0, 0, 0);
            Due.call(w, 0, "plan", layer);
            for (int g = 0; g < 3; g++) {
                Due.call(w, -4, "planned", layer, g);
            }
        }
    }

    /** A sea of so many CELLS in a row from 0, 0 on, all else LAND, with PLAIN GLIDERS in 0, 0. */
    private static DeepWings pond(int cells, int gliders) {
        DeepWings w = new DeepWings();
        w.sea(9, 17, 0, 0);
        if (cells < 10) {
            w.sea(10 * cells + 9, 0, 0, 0);
        }
        w.sea(9, 7, 2, 40);
        for (int g = 0; g < gliders; g++) {
            w.glider(0, 0, 0, 99);
        }
        return w;
    }

    private static void none() {
        Due.sentence("None, if two would come to one CELL by all HEADINGS");
        int[] gain = {0, 40, 80, 120, 120, 120};
        for (int cells = 1; cells <= 5; cells++) {
            for (int gliders = 0; gliders <= 4; gliders++) {
                DeepWings w = pond(cells, gliders);
                int team = Math.min(3, gliders);
                boolean may = team <= Math.min(3, cells);
                if (team == 0) {
                    Due.call(w, 0, "plan", 0);
                } else if (!may) {
                    Due.call(w, -4, "plan", 0);
                } else if (team == Math.min(3, cells)) {
                    Due.call(w, gain[team] + (cells > 3 && team == 3 ? 20 : 0), "plan", 0);
                }
                for (int g = 0; g < gliders; g++) {
                    Due.isTrue("planned " + g, (w.planned(0, g) == -4) == (!may || g >= 3));
                }
            }
        }
        DeepWings w = pond(2, 3);
        w.fetch(0);
        Due.call(w, 80, "plan", 0);
        Due.call(w, -4, "planned", 0, 0);
        Due.call(w, code(-2, 0), "planned", 0, 1);
        Due.call(w, code(1, -1), "planned", 0, 2);
    }

    private static void noTwoEnds() {
        Due.sentence("No two ends are one CELL.");
        for (int kind = 0; kind < 4; kind++) {
            for (int at = 0; at < 80; at += 7) {
                DeepWings w = new DeepWings();
                w.sea(9, 7, 2, 0);
                w.sea(11 * (at / 8), 11 * (at % 8), 2, 99);
                int[] ends = new int[3];
                for (int g = 0; g < 3; g++) {
                    w.glider(kind, at / 8, at % 8, 99);
                }
                for (int g = 0; g < 3; g++) {
                    int heading = w.planned(0, g);
                    ends[g] = w.ends(g, 0, heading / 20 - 10, heading % 20 - 10);
                    Due.isTrue("an end", ends[g] >= 0);
                }
                Due.isTrue("they differ", ends[0] != ends[1] && ends[0] != ends[2] && ends[1] != ends[2]);
                Due.call(w, 99, "plan", 0);
            }
        }
    }

    private static void eachToLayerOrSinks() {
        Due.sentence("(each to LAYER d, or SINKS, if that is less)");
        int[] sinks = {2, 1, 3, 1};
        for (int kind = 0; kind < 4; kind++) {
            for (int layer = 0; layer < 4; layer++) {
                DeepWings w = new DeepWings();
                w.sea(9, 7, 2, 0);
                for (int l = 0; l < 4; l++) {
                    w.stream(2 + l, 3, l, 1, 0, true);
                }
                int end = 3 + Math.min(layer, sinks[kind]);
                w.sea(11 * end, 33, 2, 9);
                w.glider(kind, 2, 3, 99);
                Due.call(w, 9, "plan", layer);
                Due.call(w, code(0, 0), "planned", layer, 0);
            }
        }
    }

    private static void powerForThatDive() {
        Due.sentence("GLIDERS that are UP and have POWER for that DIVE");
        int[] sinks = {2, 1, 3, 1};
        for (int kind = 0; kind < 4; kind++) {
            for (int layer = 0; layer < 4; layer++) {
                for (int leak = 0; leak < 2; leak++) {
                    DeepWings w = new DeepWings();
                    w.glider(kind, 4, 3, 0);
                    w.leak(0, leak == 1);
                    int cost = w.can(0, 2 + Math.min(layer, sinks[kind]));
                    for (int power = cost - 1; power <= cost; power++) {
                        w = new DeepWings();
                        w.glider(kind, 4, 3, power);
                        w.leak(0, leak == 1);
                        Due.call(w, power < cost ? 0 : 150, "plan", layer);
                        Due.isTrue("has one", (w.planned(layer, 0) == -4) == power < cost);
                    }
                }
            }
        }
    }

    private static void firstThree() {
        Due.sentence("the first 3 by numbers");
        for (int gliders = 1; gliders <= 8; gliders++) {
            DeepWings w = new DeepWings();
            for (int g = 0; g < gliders; g++) {
                w.glider(2, g, g % 2 * 7, 99);
            }
            for (int g = 0; g < gliders; g++) {
                Due.isTrue("glider " + g + " of " + gliders, (w.planned(0, g) == -4) == g >= 3);
            }
        }
        DeepWings w = new DeepWings();
        int[] powers = {2, 99, 0, 99, 99, 99};
        for (int g = 0; g < powers.length; g++) {
            w.glider(2, 1 + g, g % 2, powers[g]);
        }
        w.fetch(1);
        for (int g = 0; g < powers.length; g++) {
            Due.isTrue("glider " + g, (w.planned(0, g) == -4) == g < 3);
        }
    }

    private static void anyHeading() {
        Due.sentence("each has a HEADING (any that it may have)");
        int[] goes = {2, 3, 1, 4};
        for (int kind = 0; kind < 4; kind++) {
            for (int goal = 0; goal < 80; goal++) {
                DeepWings w = new DeepWings();
                w.sea(9, 7, 2, 0);
                w.sea(11 * (goal / 8), 11 * (goal % 8), 2, 1);
                w.glider(kind, 4, 3, 99);
                int off = Math.abs(goal / 8 - 4) + Math.abs(goal % 8 - 3);
                Due.call(w, off <= goes[kind] + 1 ? 1 : 0, "plan", 0);
            }
        }
    }

    private static void threeOfAllHeadings() {
        Due.sentence("the first 3 by numbers: each has a HEADING (any that it may have)");
        for (int y = 3; y <= 4; y++) {
            DeepWings w = new DeepWings();
            int far = y == 3 ? 4 : -4;
            w.sea(9, 7, 2, 0);
            w.sea(0, 11 * y, 2, 9);
            w.sea(44, 11 * (y + far), 2, 9);
            w.sea(88, 11 * y, 2, 9);
            for (int g = 0; g < 4; g++) {
                w.glider(3, 4, y, 99);
            }
            Due.call(w, 27, "plan", 0);
            int[] due = {code(-4, 0), code(0, far), code(4, 0), -4};
            for (int g = 0; g < due.length; g++) {
                Due.call(w, due[g], "planned", 0, g);
            }
        }
    }

    private static void headingNumbers() {
        Due.sentence("The HEADING of a GLIDER in THE PLAN, as 20 * (east and 10) and north and 10; -4: it has none. -1.");
        int[][] far = {{4, 0}, {-4, 0}, {0, 3}, {0, -4}, {1, 3}, {-1, -3}, {3, -1}, {-2, 2}, {0, 0}};
        for (int[] f : far) {
            DeepWings w = new DeepWings();
            w.sea(9, 7, 2, 0);
            w.sea(11 * (4 + f[0]), 11 * (4 + f[1]), 2, 99);
            w.glider(3, 4, 4, 99);
            Due.call(w, 99, "plan", 0);
            Due.call(w, code(f[0], f[1]), "planned", 0, 0);
        }
        DeepWings w = new DeepWings();
        w.sea(9, 7, 2, 0);
        w.sea(44, 77, 2, 99);
        w.glider(3, 4, 3, 99);
        Due.call(w, code(0, 4), "planned", 0, 0);
    }

    private static void streamsOfTheMap() {
        Due.sentence("by which THE MAP tells its end: STREAMS of THE MAP by LAYERS as in a DIVE (NETS left out), then HEADING.");
        DeepWings w = new DeepWings();
        w.sea(9, 7, 2, 0);
        w.sea(77, 33, 2, 9);
        w.stream(4, 3, 0, -2, 2, false);
        w.stream(4, 3, 0, 2, 0, true);
        w.stream(6, 3, 1, 1, 0, true);
        w.salt(6, 3, 0, 1000);
        w.salt(7, 3, 1, 1000);
        w.glider(0, 4, 3, 99);
        Due.call(w, 56 + 3, "ends", 0, 1, 0, 0);
        Due.call(w, code(0, 0), "planned", 1, 0);
        w.sea(66, 33, 0, 1);
        Due.call(w, 48 + 3, "ends", 0, 1, 0, 0);
        Due.call(w, code(1, 0), "planned", 1, 0);
        w.sea(77, 33, 0, 0);
        Due.call(w, 48 + 3, "ends", 0, 1, 2, 0);
    }

    private static void halfRoundedUp() {
        Due.sentence("GAIN: DOUBT of an end, and of CELLS beside it half (rounded up)");
        for (int doubt : new int[] {0, 1, 2, 3, 50, 97, 98, 99}) {
            for (int side = 0; side < 4; side++) {
                DeepWings w = new DeepWings();
                w.sea(9, 7, 0, 0);
                w.sea(44, 44, 0, 1);
                int[][] sides = {{5, 4}, {3, 4}, {4, 5}, {4, 3}};
                w.sea(11 * sides[side][0], 11 * sides[side][1], 0, 1);
                w.sea(11 * sides[side][0], 11 * sides[side][1], 2, doubt);
                w.sea(44, 44, 2, 99);
                w.glider(2, 4, 4, 99);
                Due.call(w, 99 + (doubt + 1) / 2, "plan", 0);
            }
        }
    }

    private static void besideInTheSea() {
        Due.sentence("of CELLS beside it half (rounded up)");
        for (int at = 0; at < 80; at++) {
            DeepWings w = new DeepWings();
            w.sea(9, 7, 0, 0);
            int x = at / 8;
            int y = at % 8;
            w.sea(11 * x, 11 * y, 0, 1);
            w.sea(9, 7, 2, 30);
            w.glider(0, x, y, 99);
            Due.call(w, 30, "plan", 0);
            w.sea(9, 7, 0, 2);
            w.sea(9, 7, 2, 0);
            w.sea(11 * x, 11 * y, 2, 99);
            w.glider(2, x, y, 99);
            Due.call(w, 99, "plan", 0);
        }
        DeepWings w = new DeepWings();
        w.stream(0, 7, 0, -2, 2, true);
        w.sea(11, 7, 0, 0);
        w.sea(0, 66, 0, 0);
        w.sea(2, 7, 2, 99);
        w.glider(0, 0, 7, 99);
        Due.call(w, 99, "plan", 0);
    }

    private static void justTheMost() {
        Due.sentence("of a CELL for several of them just the most");
        DeepWings w = pond(2, 2);
        w.sea(0, 0, 2, 99);
        w.sea(11, 0, 2, 7);
        Due.call(w, 99 + 7, "plan", 0);
        w = pond(3, 2);
        w.sea(2, 0, 2, 9);
        Due.call(w, 9 + 9 + 5, "plan", 0);
        w.sea(11, 0, 2, 0);
        Due.call(w, 9 + 9, "plan", 0);
        w.sea(11, 0, 2, 99);
        Due.call(w, 99 + 9 + 5, "plan", 0);
        w = new DeepWings();
        w.sea(9, 7, 2, 0);
        w.sea(44, 44, 2, 9);
        int[][] sides = {{5, 4}, {3, 4}, {4, 5}};
        for (int[] s : sides) {
            w.glider(2, s[0], s[1], 99);
            w.sea(11 * s[0], 11 * s[1], 2, 99);
        }
        Due.call(w, 3 * 99 + 5, "plan", 0);
    }

    private static void leastHeadingOfTheFirst() {
        Due.sentence("of several the one in which the first GLIDER has the least HEADING (by east from the least on, then by north likewise)");
        int[][] pairs = {{-2, 1, 2, -1}, {-2, -2, -2, 2}, {-3, 0, 3, 0}, {0, -3, 0, 3}, {0, 3, 3, 0}, {-3, 0, 0, -3},
            {0, -2, 1, 2}, {1, -2, 1, 1}, {-1, -1, 0, 1}, {-4, 0, 4, 0}, {0, 0, 0, 3}};
        for (int[] p : pairs) {
            DeepWings w = new DeepWings();
            w.sea(9, 7, 2, 0);
            for (int k = 0; k < 4; k += 2) {
                w.sea(11 * (4 + p[k]), 11 * (4 + p[k + 1]), 2, 9);
            }
            w.glider(3, 4, 4, 99);
            Due.call(w, code(p[0], p[1]), "planned", 0, 0);
            w.sea(11 * (4 + p[2]), 11 * (4 + p[3]), 2, 10);
            Due.call(w, code(p[2], p[3]), "planned", 0, 0);
        }
        int[] least = {code(-2, 0), code(-3, 0), code(-1, 0), code(-4, 0)};
        for (int kind = 0; kind < 4; kind++) {
            DeepWings w = new DeepWings();
            w.sea(9, 7, 2, 0);
            w.glider(kind, 4, 4, 99);
            Due.call(w, 0, "plan", 0);
            Due.call(w, least[kind], "planned", 0, 0);
        }
        DeepWings w = new DeepWings();
        w.glider(3, 0, 0, 99);
        w.sea(9, 7, 2, 0);
        w.sea(0, 0, 2, 9);
        Due.call(w, code(-4, 0), "planned", 0, 0);
    }

    private static void thenTheNextOne() {
        Due.sentence("the first GLIDER has the least HEADING (by east from the least on, then by north likewise), then the next one.");
        DeepWings w = new DeepWings();
        w.sea(9, 7, 2, 0);
        for (int g = 0; g < 3; g++) {
            w.glider(0, 4, 4, 99);
        }
        Due.call(w, 0, "plan", 0);
        Due.call(w, code(-2, 0), "planned", 0, 0);
        Due.call(w, code(-1, -1), "planned", 0, 1);
        Due.call(w, code(-1, 0), "planned", 0, 2);
        w = new DeepWings();
        w.sea(9, 7, 2, 0);
        w.sea(33, 44, 2, 9);
        w.sea(55, 44, 2, 9);
        for (int g = 0; g < 2; g++) {
            w.glider(0, 4, 4, 99);
        }
        Due.call(w, 18, "plan", 0);
        Due.call(w, code(-1, 0), "planned", 0, 0);
        Due.call(w, code(1, 0), "planned", 0, 1);
    }

    private static void eachItsLeastHeading() {
        Due.sentence("the first GLIDER has the least HEADING (by east from the least on, then by north likewise), then the next one.");
        DeepWings w = new DeepWings();
        w.sea(9, 7, 2, 0);
        int[][] at = {{3, 0}, {3, 4}, {8, 7}};
        for (int kind = 0; kind < 3; kind++) {
            w.glider(kind, at[kind][0], at[kind][1], 99);
        }
        int[] due = {code(-2, 0), code(-3, 0), code(-1, 0)};
        for (int g = 0; g < 3; g++) {
            Due.call(w, due[g], "planned", 0, g);
        }
    }

    private static void togetherGreatest() {
        Due.sentence("It is that by which all GAIN together is greatest");
        int[][] at = {{2, 0}, {2, 4}, {7, 7}};
        for (int east = -2; east <= 2; east += 4) {
            for (int gliders = 1; gliders <= 3; gliders++) {
                DeepWings w = new DeepWings();
                w.sea(9, 7, 2, 0);
                w.sea(44, 0, 2, 9);
                for (int g = 0; g < gliders; g++) {
                    w.glider(0, at[g][0], at[g][1], 99);
                    if (g > 0) {
                        w.sea(11 * (at[g][0] + east), 11 * at[g][1], 2, 60);
                    }
                }
                Due.call(w, 9 + 60 * (gliders - 1), "plan", 0);
                for (int g = 0; g < gliders; g++) {
                    Due.call(w, code(g == 0 ? 2 : east, 0), "planned", 0, g);
                }
            }
        }
        DeepWings w = new DeepWings();
        w.sea(9, 7, 2, 0);
        w.sea(0, 0, 2, 99);
        w.sea(33, 0, 2, 97);
        w.glider(0, 1, 0, 99);
        w.glider(2, 0, 1, 99);
        Due.call(w, 99 + 97, "plan", 0);
        Due.call(w, code(2, 0), "planned", 0, 0);
        Due.call(w, code(0, -1), "planned", 0, 1);
    }

    private static void anotherTeam() {
        Due.sentence("GLIDERS that are UP and have POWER for that DIVE");
        DeepWings w = new DeepWings();
        w.sea(9, 7, 2, 0);
        w.sea(22, 22, 2, 99);
        w.ship(4, 3);
        w.glider(3, 4, 3, 99);
        w.glider(2, 4, 3, 99);
        Due.call(w, 99, "plan", 0);
        Due.call(w, code(-2, -1), "planned", 0, 0);
        Due.call(w, 0, "fetch", 0);
        Due.call(w, 0, "plan", 0);
        Due.call(w, code(-1, 0), "planned", 0, 1);
        Due.call(w, 0, "fetch", 1);
        Due.call(w, 0, "plan", 0);
        Due.call(w, -4, "planned", 0, 1);
    }

    private static void endsRefusals() {
        Due.sentence("Where a DIVE would end by THE MAP: 8 x and y. -1 (LAYER, HEADING); -3: it isn't UP.");
        Scene.RICH.refusesOutside(-1, 0, 0, 4, "ends", 0, 0, 0, 0);
        Scene.FULL.refusesOutside(-1, 0, 0, 7, "ends", 0, 0, 0, 0);
        Scene.RICH.refusesOutside(-1, 1, 0, 2, "ends", 0, 0, 0, 0);
        Scene.RICH.refusesOutside(-1, 2, -2, 2, "ends", 0, 0, 0, 0);
        Scene.RICH.refusesOutside(-1, 3, -2, 2, "ends", 0, 0, 0, 0);
        Scene.RICH.refuses(-3, "ends", 2, 3, 0, 1);
        Scene.RICH.refuses(-3, "ends", 3, 1, 4, 0);
        Scene.RICH.refuses(-1, "ends", 2, 4, 0, 1);
        Scene.RICH.refuses(-1, "ends", 3, 1, 4, 1);
    }

    private static void endsWithoutPower() {
        Due.sentence("-3: it isn't UP.");
        for (int at = 0; at < 80; at++) {
            DeepWings w = new DeepWings();
            w.glider(0, at / 8, at % 8, 0);
            w.salt(at / 8, at % 8, 0, 1000);
            Due.call(w, at, "ends", 0, 2, 0, 0);
            Due.call(w, 8 * Math.min(9, at / 8 + 2) + at % 8, "ends", 0, 2, 2, 0);
            Due.call(w, at / 8 * 8 + Math.max(0, at % 8 - 2), "ends", 0, 2, 0, -2);
        }
        Scene.FULL.refuses(12, "ends", 0, 2, 1, 0);
    }

    private static void whole() {
        Due.sentence("as much goes out (east and north, without signs) as comes in from CELLS beside");
        Scene.RICH.refusesOutside(-1, 0, 0, 3, "whole", 0);
        Scene.FULL.refusesOutside(-1, 0, 0, 3, "whole", 0);
        int[][] sides = {{1, 0}, {-1, 0}, {0, 1}, {0, -1}};
        for (int[] s : sides) {
            for (int in = -2; in <= 2; in++) {
                for (int out = -2; out <= 2; out++) {
                    DeepWings w = new DeepWings();
                    w.stream(4 - s[0], 4 - s[1], 2, in * s[0], in * s[1], true);
                    w.stream(4, 4, 2, out * s[1], out * s[0], true);
                    boolean here = Math.max(0, in) == Math.abs(out);
                    int others = (in == 0 ? 0 : in > 0 ? 1 : 2) + (out == 0 ? 0 : 1);
                    Due.call(w, 80 - others - (here ? 0 : 1), "whole", 2);
                    Due.call(w, 80, "whole", 1);
                }
            }
        }
        DeepWings w = new DeepWings();
        w.stream(4, 4, 0, -2, 2, false);
        Due.call(w, 80, "whole", 0);
        w.stream(3, 3, 0, 1, 0, true);
        w.stream(4, 3, 0, 0, 1, true);
        w.stream(4, 4, 0, -1, 0, true);
        w.stream(3, 4, 0, 0, -1, true);
        Due.call(w, 80, "whole", 0);
    }

    private static void wholeOfLayersThatThereAre() {
        Due.sentence("WHOLE is THE MAP's water in a CELL and LAYER (that there is)");
        for (int layer = 0; layer < 4; layer++) {
            for (int depth = 0; depth <= 4; depth++) {
                DeepWings w = new DeepWings();
                w.sea(44, 44, 0, depth);
                boolean has = depth > layer;
                Due.call(w, has ? 80 : 79, "whole", layer);
                w.stream(4, 4, layer, 1, 0, true);
                Due.call(w, has ? 78 : 79, "whole", layer);
                w.stream(5, 4, layer, 0, 1, true);
                Due.call(w, has ? 78 : 77, "whole", layer);
            }
        }
        DeepWings w = new DeepWings();
        w.sea(9, 7, 0, 0);
        Due.call(w, 0, "whole", 0);
    }

    private static void wholeAtBorders() {
        Due.sentence("as comes in from CELLS beside (that have the LAYER) by what goes towards it");
        for (int at = 0; at < 80; at++) {
            int x = at / 8;
            int y = at % 8;
            DeepWings w = new DeepWings();
            w.stream(x, y, 0, 2, 0, true);
            Due.call(w, x == 9 ? 79 : 78, "whole", 0);
            w.stream(x, y, 0, -2, 0, true);
            Due.call(w, x == 0 ? 79 : 78, "whole", 0);
            w.stream(x, y, 0, 0, 2, true);
            Due.call(w, y == 7 ? 79 : 78, "whole", 0);
            w.stream(x, y, 0, 0, -2, true);
            Due.call(w, y == 0 ? 79 : 78, "whole", 0);
        }
    }
}
