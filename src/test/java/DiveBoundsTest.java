/** The bounds that the document names for a DIVE, a test for each sentence: promise 10. */
public final class DiveBoundsTest {
    private static final int[][] SIDES = {{1, 0}, {-1, 0}, {0, 1}, {0, -1}};

    public static void main(String[] args) {
        refusals();
        notUp();
        outOfTheSea();
        ontoLand();
        oneByOne();
        eastAheadOfNorth();
        laterStepsAreTried();
        sinksNoDeeper();
        sinksByTheCellsOnItsWay();
        nets();
        netOnTheWay();
        lostAndNothingElse();
        measuresWhereItSank();
        readingShows();
        readings200();
        doubtHalved();
        doubtAtBorders();
        foulIsOneMore();
        lanes();
        laneWhereItIsUp();
        mapBounds();
        mapBoundsOfSeveralLayers();
        driftFromWhereHeadingAloneLeads();
        toldByLayersThatAreThere();
        answersCells();
        timeStays();
        Due.end();
    }

    private static void refusals() {
        Due.sentence("-1 (LAYER, HEADING); -3: it isn't UP, or hasn't the POWER.");
        Scene.RICH.refusesOutside(-1, 0, 0, 4, "dive", 0, 0, 0, 0);
        Scene.FULL.refusesOutside(-1, 0, 0, 7, "dive", 0, 0, 0, 0);
        Scene.RICH.refusesOutside(-1, 1, 0, 2, "dive", 0, 0, 0, 0);
        Scene.RICH.refusesOutside(-1, 2, -2, 2, "dive", 0, 0, 0, 0);
        Scene.RICH.refusesOutside(-1, 3, -2, 2, "dive", 0, 0, 0, 0);
        Scene.RICH.refuses(-3, "dive", 4, 0, 0, 0);
        Scene.FULL.refuses(-3, "dive", 0, 0, 0, 0);
    }

    private static void notUp() {
        Due.sentence("Answers of several refusals are the first one here");
        Scene.RICH.refuses(-3, "dive", 2, 3, 1, 0);
        Scene.RICH.refuses(-3, "dive", 3, 1, 0, 4);
        Scene.RICH.refuses(-1, "dive", 2, 4, 0, 0);
        Scene.RICH.refuses(-1, "dive", 2, 0, 1, 1);
        Scene.RICH.refuses(-1, "dive", 3, 2, 0, 0);
        Scene.RICH.refuses(-1, "dive", 4, 3, 0, 0);
        Scene.RICH.refuses(-1, "dive", 4, 0, 3, 0);
    }

    private static int up(int x, int y) {
        return 8 * x + y;
    }

    /** Where a SCOUT comes up behind a DIVE to LAYER 0. */
    private static void goes(DeepWings w, int x, int y, int east, int north, int due) {
        w.glider(3, x, y, 99);
        Due.call(w, due, "ends", w.count(0) - 1, 0, east, north);
        Due.call(w, due, "dive", w.count(0) - 1, 0, east, north);
    }

    private static void drifts(int x, int y, int east, int north, int due) {
        DeepWings w = new DeepWings();
        w.stream(x, y, 0, east, north, false);
        w.stream(x, y, 0, east, north, true);
        goes(w, x, y, 0, 0, due);
    }

    private static void outOfTheSea() {
        Due.sentence("a STEP onto LAND, or out of THE SEA, isn't gone");
        for (int far = 1; far <= 2; far++) {
            for (int x = 0; x < 10; x++) {
                goes(new DeepWings(), x, 7, 0, far, up(x, 7));
                goes(new DeepWings(), x, 0, 0, -far, up(x, 0));
                drifts(x, 7, 0, far, up(x, 7));
                drifts(x, 0, 0, -far, up(x, 0));
            }
            for (int y = 0; y < 8; y++) {
                goes(new DeepWings(), 9, y, far, 0, up(9, y));
                goes(new DeepWings(), 0, y, -far, 0, up(0, y));
                drifts(9, y, far, 0, up(9, y));
                drifts(0, y, -far, 0, up(0, y));
            }
        }
        drifts(9, 7, 2, 2, up(9, 7));
        drifts(0, 0, -2, -2, up(0, 0));
        drifts(8, 6, 2, 2, up(9, 7));
        drifts(1, 1, -2, -2, up(0, 0));
        drifts(7, 5, 2, 2, up(9, 7));
    }

    private static void ontoLand() {
        Due.sentence("a STEP onto LAND, or out of THE SEA, isn't gone");
        for (int[] side : SIDES) {
            for (int depth = 0; depth < 2; depth++) {
                int x = 4 + side[0];
                int y = 4 + side[1];
                DeepWings w = new DeepWings();
                w.sea(11 * x, 11 * y, 0, depth);
                goes(w, 4, 4, side[0], side[1], depth == 0 ? up(4, 4) : up(x, y));
                w = new DeepWings();
                w.sea(11 * x, 11 * y, 0, depth);
                w.stream(4, 4, 0, side[0], side[1], false);
                w.stream(4, 4, 0, side[0], side[1], true);
                goes(w, 4, 4, 0, 0, depth == 0 ? up(4, 4) : up(x, y));
            }
        }
    }

    private static void oneByOne() {
        Due.sentence("STEPS east or west are gone one by one");
        for (int[] side : SIDES) {
            DeepWings w = new DeepWings();
            int x = 4 + 2 * side[0];
            int y = 4 + 2 * side[1];
            w.sea(11 * x, 11 * y, 0, 0);
            goes(w, 4, 4, 3 * side[0], 3 * side[1], up(4 + side[0], 4 + side[1]));
            w = new DeepWings();
            w.sea(11 * x, 11 * y, 0, 0);
            w.stream(4, 4, 0, 2 * side[0], 2 * side[1], false);
            w.stream(4, 4, 0, 2 * side[0], 2 * side[1], true);
            goes(w, 4, 4, 0, 0, up(4 + side[0], 4 + side[1]));
        }
    }

    private static void eastAheadOfNorth() {
        Due.sentence("ahead of those north or south");
        for (int east = -1; east <= 1; east += 2) {
            for (int north = -1; north <= 1; north += 2) {
                DeepWings w = new DeepWings();
                w.sea(44, 11 * (4 + north), 0, 0);
                goes(w, 4, 4, east, north, up(4 + east, 4 + north));
                w.stream(4, 4, 0, east, north, false);
                w.stream(4, 4, 0, east, north, true);
                goes(w, 4, 4, 0, 0, up(4 + east, 4 + north));
            }
        }
    }

    private static void laterStepsAreTried() {
        Due.sentence("(later ones are tried all the same)");
        for (int east = -1; east <= 1; east += 2) {
            for (int north = -1; north <= 1; north += 2) {
                DeepWings w = new DeepWings();
                w.sea(11 * (4 + east), 44, 0, 0);
                goes(w, 4, 4, east, north, up(4, 4 + north));
                w.stream(4, 4, 0, 2 * east, 2 * north, false);
                w.stream(4, 4, 0, 2 * east, 2 * north, true);
                goes(w, 4, 4, 0, 0, up(4, 4 + 2 * north));
            }
        }
        goes(new DeepWings(), 9, 4, 2, 2, up(9, 6));
        goes(new DeepWings(), 0, 4, -2, -2, up(0, 2));
    }

    private static void sinksNoDeeper() {
        Due.sentence("2 For each LAYER l from 0 to d: if its CELL has no LAYER l it sinks no deeper");
        for (int depth = 1; depth <= 4; depth++) {
            for (int d = 0; d <= 3; d++) {
                for (int stream = 0; stream <= 3; stream++) {
                    DeepWings w = new DeepWings();
                    w.sea(44, 44, 0, depth);
                    w.stream(4, 4, stream, 1, 0, false);
                    w.glider(2, 4, 4, 99);
                    boolean swept = stream < depth && stream <= d;
                    Due.call(w, swept ? up(5, 4) : up(4, 4), "dive", 0, d, 0, 0);
                    Due.call(w, swept ? d : Math.min(d, depth - 1), "reading", 0, 3);
                    Due.call(w, 99 - (3 + 2 * d), "about", 0, 3);
                }
            }
        }
    }

    private static void sinksByTheCellsOnItsWay() {
        Due.sentence("(it sank to l less 1 then; 1 .. d only; LAYER 0 is everywhere but on LAND)");
        for (int there = 1; there <= 4; there++) {
            DeepWings w = new DeepWings();
            w.stream(4, 4, 0, 1, 0, false);
            w.sea(55, 44, 0, there);
            for (int l = 1; l < 4; l++) {
                w.stream(5, 4, l, 0, 1, false);
                w.stream(5, 5, l, 0, 1, false);
                w.stream(4, 4, l, 0, -1, false);
            }
            w.glider(2, 4, 4, 99);
            Due.call(w, there == 1 ? up(5, 4) : up(5, 6), "dive", 0, 3, 0, 0);
            Due.call(w, there == 1 ? 0 : 3, "reading", 0, 3);
        }
    }

    private static void nets() {
        Due.sentence("if its CELL then has a NET in LAYER l (and has that LAYER) it is LOST there");
        for (int depth = 1; depth <= 4; depth++) {
            for (int d = 0; d <= 3; d++) {
                for (int net = 0; net <= 3; net++) {
                    DeepWings w = new DeepWings();
                    w.sea(44, 44, 0, depth);
                    w.salt(4, 4, net, 1000);
                    w.glider(2, 4, 4, 99);
                    boolean lost = net <= d && net < depth;
                    Due.call(w, lost ? -5 : up(4, 4), "dive", 0, d, 0, 0);
                    Due.call(w, lost ? 2 : 0, "about", 0, 4);
                    Due.call(w, lost ? 0 : 1, "count", 5);
                }
            }
        }
    }

    private static void netOnTheWay() {
        Due.sentence("if its CELL then has a NET in LAYER l");
        for (int there = 0; there < 2; there++) {
            DeepWings w = new DeepWings();
            w.stream(4, 4, 0, 2, 0, false);
            w.salt(4 + 2 * there, 4, 0, 1000);
            w.glider(0, 4, 4, 99);
            Due.call(w, there == 1 ? -5 : up(6, 4), "dive", 0, 2, 0, 0);
            Due.call(w, 6, "about", 0, 1);
        }
        DeepWings w = new DeepWings();
        w.stream(4, 4, 0, 2, 0, false);
        w.salt(5, 4, 0, 1000);
        w.salt(6, 5, 0, 1000);
        w.glider(0, 4, 4, 99);
        Due.call(w, up(6, 5), "dive", 0, 2, 0, 1);
        w = new DeepWings();
        w.sea(55, 44, 0, 1);
        w.stream(4, 4, 1, 1, 0, false);
        w.salt(5, 4, 1, 1000);
        w.glider(0, 4, 4, 99);
        Due.call(w, up(5, 4), "dive", 0, 1, 0, 0);
        w.sea(55, 44, 0, 2);
        w.glider(0, 4, 4, 99);
        Due.call(w, -5, "dive", 1, 1, 0, 0);
    }

    private static void lostAndNothingElse() {
        Due.sentence("it is LOST there, and all else of the DIVE isn't");
        Scene ahead = new Scene(w -> {
            w.stream(4, 4, 0, 1, 1, false);
            w.salt(5, 5, 1, 1000);
            w.sea(9, 7, 1, 1);
            w.glider(0, 4, 4, 99);
        });
        DeepWings w = ahead.made();
        Due.call(w, -5, "dive", 0, 2, -1, -1);
        int[] about = {0, 5, 5, 91, 2, 0, 0, -4, -4, 1, -4};
        for (int what = 0; what < about.length; what++) {
            Due.call(w, about[what], "about", 0, what);
        }
        Due.call(w, 0, "count", 5);
        Due.call(w, 4000, "count", 8);
        for (int layer = 0; layer < 4; layer++) {
            Due.call(w, 0, "cell", 4, 4, layer, 5);
            Due.call(w, 0, "cell", 4, 4, layer, 6);
        }
        Due.call(w, -3, "dive", 0, 0, 0, 0);
    }

    private static void measuresWhereItSank() {
        Due.sentence("at the LAYER to which it sank (if its CELL then has that; else the deepest one that it has) it MEASURES");
        for (int depth = 1; depth <= 4; depth++) {
            for (int d = 0; d <= 3; d++) {
                DeepWings w = new DeepWings();
                w.sea(55, 44, 0, depth);
                for (int l = 0; l < 4; l++) {
                    w.salt(5, 4, l, 10 + l);
                    w.salt(4, 4, l, 20 + l);
                }
                w.glider(2, 4, 4, 99);
                Due.call(w, up(5, 4), "dive", 0, d, 1, 0);
                int layer = Math.min(d, depth - 1);
                Due.call(w, layer, "reading", 0, 3);
                Due.call(w, 10 + layer, "about", 0, 10);
            }
        }
    }

    private static void readingShows() {
        Due.sentence("SALT there and then, and FOUL times 3 more, is its READING");
        for (int salt : new int[] {0, 1, 999}) {
            DeepWings w = new DeepWings();
            w.salt(0, 7, 0, salt);
            w.glider(0, 0, 7, 99);
            for (int foul = 0; foul < 4; foul++) {
                Due.call(w, foul, "about", 0, 6);
                w.dive(0, 0, 0, 0);
                Due.call(w, salt + 3 * foul, "about", 0, 10);
                Due.call(w, salt + 3 * foul, "read", foul, 0);
                Due.call(w, foul, "reading", foul, 4);
            }
        }
    }

    private static void readings200() {
        Due.sentence("(numbered from 0 on, 200 at most; more aren't kept)");
        DeepWings w = GliderBoundsTest.readings(198);
        w.glider(0, 9, 0, 100);
        w.salt(9, 0, 0, 50);
        for (int k = 0; k < 4; k++) {
            int kept = Math.min(200, 199 + k);
            Due.call(w, -1, "reading", Math.min(200, 198 + k), 0);
            Due.call(w, up(9, 0), "dive", 7, 0, 0, 0);
            Due.call(w, kept, "count", 5);
            Due.call(w, 7, "reading", kept - 1, 0);
            Due.call(w, 50 + 3 * Math.min(1, k), "read", kept - 1, 0);
            Due.call(w, -1, "reading", kept, 0);
            Due.call(w, "IllegalArgumentException", "read", kept, 0);
            Due.call(w, 50 + 3 * k, "about", 7, 10);
            Due.call(w, k + 1, "about", 7, 6);
            Due.call(w, k + 1, "about", 7, 9);
            Due.call(w, 96 - 4 * k, "about", 7, 3);
            Due.call(w, 0, "cell", 9, 0, 0, 2);
            w.sea(99, 0, 2, 50);
        }
    }

    private static void doubtHalved() {
        Due.sentence("DOUBT of the CELL is 0, that of the CELLS beside (sides) is halved, cut.");
        for (int doubt : new int[] {0, 1, 2, 3, 98, 99}) {
            DeepWings w = new DeepWings();
            w.sea(9, 7, 2, doubt);
            w.glider(0, 4, 4, 99);
            w.dive(0, 0, 1, 0);
            for (int c = 0; c < 80; c++) {
                int off = Math.abs(c / 8 - 5) + Math.abs(c % 8 - 4);
                Due.call(w, off == 0 ? 0 : off == 1 ? doubt / 2 : doubt, "cell", c / 8, c % 8, 0, 2);
            }
        }
    }

    private static void doubtAtBorders() {
        Due.sentence("that of the CELLS beside (sides) is halved, cut.");
        for (int at = 0; at < 80; at++) {
            DeepWings w = new DeepWings();
            w.glider(0, at / 8, at % 8, 99);
            w.dive(0, 0, 0, 0);
            for (int c = 0; c < 80; c++) {
                int off = Math.abs(c / 8 - at / 8) + Math.abs(c % 8 - at % 8);
                Due.call(w, off == 0 ? 0 : off == 1 ? 25 : 50, "cell", c / 8, c % 8, 0, 2);
            }
        }
    }

    private static void foulIsOneMore() {
        Due.sentence("FOUL is one more.");
        DeepWings w = new DeepWings();
        w.glider(1, 0, 0, 999);
        w.glider(1, 9, 7, 999);
        for (int k = 0; k < 100; k++) {
            Due.call(w, k, "about", 0, 6);
            w.dive(0, k % 2, 0, 0);
        }
        Due.call(w, 100, "about", 0, 6);
        Due.call(w, 0, "about", 1, 6);
    }

    private static void lanes() {
        Due.sentence("in a LANE 5 of POWER go more (0 at least)");
        for (int left = 0; left <= 12; left++) {
            DeepWings w = new DeepWings();
            w.sea(44, 44, 1, 1);
            w.glider(0, 4, 4, 4 + left);
            Due.call(w, up(4, 4), "dive", 0, 0, 0, 0);
            Due.call(w, Math.max(0, left - 5), "about", 0, 3);
        }
    }

    private static void laneWhereItIsUp() {
        Due.sentence("4 It is UP; in a LANE 5 of POWER go more");
        DeepWings w = new DeepWings();
        w.sea(44, 44, 1, 1);
        w.stream(4, 4, 0, 1, 0, false);
        w.glider(0, 4, 4, 100);
        Due.call(w, up(5, 5), "dive", 0, 0, 0, 1);
        Due.call(w, 96, "about", 0, 3);
        Due.call(w, up(4, 4), "dive", 0, 0, -1, -1);
        Due.call(w, 87, "about", 0, 3);
    }

    private static void mapBounds() {
        Due.sentence("THE MAP's east becomes 1 more, if DRIFT east is above TOLD's, 1 less, if below (-2 .. 2); north likewise.");
        for (int told = -2; told <= 2; told++) {
            for (int drift = -2; drift <= 2; drift++) {
                int due = told + Integer.compare(drift, told);
                DeepWings w = new DeepWings();
                w.stream(4, 4, 0, drift, -drift, false);
                w.stream(4, 4, 0, told, -told, true);
                w.glider(0, 4, 4, 99);
                w.dive(0, 0, 0, 0);
                Due.call(w, due, "cell", 4, 4, 0, 5);
                Due.call(w, -due, "cell", 4, 4, 0, 6);
                Due.call(w, drift, "cell", 4, 4, 0, 3);
                w = new DeepWings();
                w.stream(4, 4, 0, drift, 0, false);
                w.stream(4, 4, 0, told, told, true);
                w.glider(0, 4, 4, 99);
                w.dive(0, 0, 1, 0);
                Due.call(w, due, "cell", 4, 4, 0, 5);
                Due.call(w, told + Integer.compare(0, told), "cell", 4, 4, 0, 6);
            }
        }
    }

    private static void mapBoundsOfSeveralLayers() {
        Due.sentence("1 less, if below (-2 .. 2); north likewise.");
        for (int sign = -1; sign <= 1; sign += 2) {
            DeepWings w = new DeepWings();
            w.stream(4, 4, 0, sign, sign, false);
            w.stream(4, 4, 0, 2 * sign, 2 * sign, true);
            w.stream(4, 4, 1, -2 * sign, -2 * sign, true);
            w.stream(4, 4, 2, sign, sign, true);
            w.glider(0, 4, 4, 99);
            w.dive(0, 1, 0, 0);
            int[] due = {2, -1, 1, 0};
            for (int layer = 0; layer < 4; layer++) {
                Due.call(w, sign * due[layer], "cell", 4, 4, layer, 5);
                Due.call(w, sign * due[layer], "cell", 4, 4, layer, 6);
                Due.call(w, 0, "cell", 5, 5, layer, 5);
            }
        }
    }

    private static void driftFromWhereHeadingAloneLeads() {
        Due.sentence("DRIFT: how much farther east, north it came than by HEADING alone from where it began (HEADING gone by STEPS from there)");
        for (int[] side : SIDES) {
            DeepWings w = new DeepWings();
            w.sea(11 * (4 + side[0]), 11 * (4 + side[1]), 0, 0);
            w.glider(3, 4, 4, 99);
            Due.call(w, up(4, 4), "dive", 0, 0, 3 * side[0], 3 * side[1]);
            Due.call(w, 0, "cell", 4, 4, 0, 5);
            Due.call(w, 0, "cell", 4, 4, 0, 6);
            w = new DeepWings();
            w.stream(4, 4, 0, -side[1], -side[0], false);
            w.sea(11 * (4 + side[0]), 11 * (4 + side[1]), 0, 0);
            w.glider(0, 4, 4, 99);
            int x = 4 + side[0] - side[1];
            int y = 4 + side[1] - side[0];
            Due.call(w, up(x, y), "dive", 0, 0, side[0], side[1]);
            Due.call(w, side[0] - side[1], "cell", 4, 4, 0, 5);
            Due.call(w, side[1] - side[0], "cell", 4, 4, 0, 6);
        }
        for (int far = 1; far <= 4; far++) {
            DeepWings w = new DeepWings();
            w.glider(3, 9, 7, 99);
            w.dive(0, 0, far, 0);
            Due.call(w, 0, "cell", 9, 7, 0, 5);
            w.dive(0, 0, 0, far);
            Due.call(w, 0, "cell", 9, 7, 0, 6);
        }
    }

    private static void toldByLayersThatAreThere() {
        Due.sentence("for LAYERS 0 to the one to which it sank (that this CELL has), come to together");
        for (int depth = 1; depth <= 4; depth++) {
            for (int d = 0; d <= 3; d++) {
                DeepWings w = new DeepWings();
                w.sea(44, 44, 0, depth);
                w.stream(4, 4, 0, 1, 0, false);
                for (int layer = 0; layer < 4; layer++) {
                    w.stream(4, 4, layer, 1, -1, true);
                }
                w.glider(2, 4, 4, 99);
                Due.call(w, up(5, 4), "dive", 0, d, 0, 0);
                Due.call(w, d, "reading", 0, 3);
                int learnt = Math.min(d + 1, depth);
                for (int layer = 0; layer < 4; layer++) {
                    boolean learns = layer < learnt;
                    Due.call(w, learns && learnt > 1 ? 0 : 1, "cell", 4, 4, layer, 5);
                    Due.call(w, learns ? 0 : -1, "cell", 4, 4, layer, 6);
                }
            }
        }
    }

    private static void answersCells() {
        Due.sentence("CELL where it is UP, as 8 x and y; -5: it is LOST.");
        for (int c = 0; c < 80; c++) {
            DeepWings w = new DeepWings();
            w.glider(0, c / 8, c % 8, 99);
            Due.call(w, c, "dive", 0, 0, 0, 0);
            w.salt(c / 8, c % 8, 0, 1000);
            Due.call(w, -5, "dive", 0, 0, 0, 0);
        }
    }

    private static void timeStays() {
        Due.sentence("A DIVE (at once; TIME stays)");
        DeepWings w = new DeepWings();
        w.glider(1, 4, 4, 99);
        Due.call(w, 36, "dive", 0, 0, 0, 0);
        Due.call(w, 0, "count", 4);
        Due.call(w, 0, "reading", 0, 1);
        Due.call(w, 50, "cell", 9, 7, 0, 2);
        for (int i = 0; i < 10; i++) {
            w.times(40);
        }
        Due.call(w, 44, "dive", 0, 1, 1, 0);
        Due.call(w, 400, "count", 4);
        Due.call(w, 400, "reading", 1, 1);
        Due.call(w, 36, "known", 0, 400);
    }
}
