/** The bounds that the document names for THE SEA, a test for each sentence: promises 1 to 5. */
public final class SeaBoundsTest {
    private static final int[][] CORNERS = {{0, 0}, {9, 0}, {0, 7}, {9, 7}};

    public static void main(String[] args) {
        newObject();
        noGliders();
        places();
        spans();
        layers();
        eachPlaceItsOwn();
        depths();
        lanes();
        doubts();
        streams();
        salts();
        nets();
        howManyChange();
        landHasNoDoubt();
        doubtOfLandStays();
        landUnderGliders();
        landWhereNoneIsUp();
        firstRefusalOfSea();
        layerLookedAtFrom3();
        streamsOfMinus1();
        Due.end();
    }

    private static void newObject() {
        Due.sentence("All as told at first; no GLIDERS.");
        DeepWings w = Scene.NEW.made();
        int[] counts = {0, 0, 0, 0, 0, 0, 0, 0, 80 * 50, 0, 0};
        for (int what = 0; what < counts.length; what++) {
            Due.call(w, counts[what], "count", what);
        }
        int[] first = {4, 0, 50, 0, 0, 0, 0, 0, 0};
        for (int[] c : CORNERS) {
            for (int what = 0; what < first.length; what++) {
                Due.call(w, first[what], "cell", c[0], c[1], 0, what);
                Due.call(w, first[what], "cell", c[0], c[1], 3, what);
            }
        }
        Due.call(w, -4, "next");
        Due.call(w, -3, "restore");
        Due.call(w, 0, "plan", 0);
        Due.call(w, 80, "whole", 3);
        Due.call(w, -1, "reading", 0, 0);
        Due.call(w, "IllegalArgumentException", "read", 0, 0);
        for (int d = 0; d < 8; d++) {
            Due.call(w, -11, "sum", d);
        }
        Due.call(w, 0, "ship", 9, 7);
    }

    private static void noGliders() {
        Due.sentence("-1 no such thing");
        DeepWings w = Scene.NEW.made();
        for (String name : new String[] {"waiting", "rule", "left", "fetch"}) {
            Due.call(w, -1, name, 0);
        }
        for (String name : new String[] {"about", "can", "leak", "letter", "known", "clean", "planned"}) {
            Due.call(w, -1, name, 0, 0);
        }
        Due.call(w, -1, "dive", 0, 0, 0, 0);
        Due.call(w, -1, "ends", 0, 0, 0, 0);
        Due.call(w, -1, "keep", 0, 1, 0);
        Due.call(w, 0, "times", 1);
    }

    private static void places() {
        Due.sentence("CELLS x 0 .. 9, y 0 .. 7");
        for (int k = 0; k < CORNERS.length; k++) {
            int x = CORNERS[k][0];
            int y = CORNERS[k][1];
            DeepWings w = new DeepWings();
            Due.call(w, 0, "stream", x, y, 0, 1, -1, 0);
            Due.call(w, 1, "salt", x, y, 0, 5);
            Due.call(w, 4, "cell", x, y, 0, 0);
            Due.call(w, 5, "cell", x, y, 0, 7);
            Due.call(w, 0, "glider", 0, x, y, 9);
            Due.call(w, x, "about", 0, 1);
            Due.call(w, y, "about", 0, 2);
            Due.call(w, 0, "ship", x, y);
            Due.call(w, 8 * x + y, "ship", 4, 4);
            Due.call(w, 0, "stream", x, y, 0, 0, 0, 0);
            Due.call(w, 8 * x + y, "dive", 0, 0, 0, 0);
        }
        for (int place = 0; place < 2; place++) {
            int most = place == 0 ? 9 : 7;
            Scene.RICH.refusesOutside(-1, place, 0, most, "stream", 1, 1, 1, 1, 1, 0);
            Scene.RICH.refusesOutside(-1, place, 0, most, "stream", 1, 1, 1, 1, 1, 1);
            Scene.RICH.refusesOutside(-1, place, 0, most, "salt", 1, 1, 1, 1);
            Scene.RICH.refusesOutside(-1, place, 0, most, "cell", 1, 1, 1, 1);
            Scene.RICH.refusesOutside(-1, place, 0, most, "cell", 1, 1, 1, 7);
            Scene.RICH.refusesOutside(-1, place + 1, 0, most, "glider", 1, 1, 1, 1);
            Scene.RICH.refusesOutside(-1, place, 0, most, "ship", 1, 1);
        }
    }

    private static void spans() {
        Due.sentence("CELLS x0 .. x1, y0 .. y1 (each told as 10 * least + greatest)");
        DeepWings w = new DeepWings();
        for (int s = -12; s < 122; s++) {
            int least = Math.floorDiv(s, 10);
            int most = Math.floorMod(s, 10);
            boolean told = least >= 0 && least <= most;
            Due.call(w, told ? 0 : -1, "sea", s, 0, 1, 0);
            Due.call(w, told && most <= 7 ? 0 : -1, "sea", 0, s, 1, 0);
        }
        Scene.RICH.refusesOutside(-1, 0, 0, 99, "sea", 0, 0, 0, 1);
        Scene.RICH.refusesOutside(-1, 1, 0, 77, "sea", 0, 0, 0, 1);
        Scene.RICH.refuses(-1, "sea", 10, 0, 0, 1);
        Scene.RICH.refuses(-1, "sea", 98, 0, 0, 1);
        Scene.RICH.refuses(-1, "sea", 0, 8, 0, 1);
        Scene.RICH.refuses(-1, "sea", 0, 76, 0, 1);
        for (int x = 0; x < 10; x++) {
            for (int y = 0; y < 8; y++) {
                oneCell(x, y);
            }
        }
        w = new DeepWings();
        Due.call(w, 2 * 3, "sea", 23, 46, 2, 7);
        for (int c = 0; c < 80; c++) {
            boolean within = c / 8 >= 2 && c / 8 <= 3 && c % 8 >= 4 && c % 8 <= 6;
            Due.call(w, within ? 7 : 50, "cell", c / 8, c % 8, 0, 2);
        }
    }

    private static void oneCell(int x, int y) {
        DeepWings w = new DeepWings();
        Due.call(w, 1, "sea", 11 * x, 11 * y, 0, 3);
        for (int c = 0; c < 80; c++) {
            Due.call(w, c == 8 * x + y ? 3 : 4, "cell", c / 8, c % 8, 0, 0);
        }
    }

    private static void layers() {
        Due.sentence("LAYERS 0 (up) .. 3");
        for (int layer = 0; layer < 4; layer++) {
            DeepWings w = new DeepWings();
            Due.call(w, 0, "stream", 3, 3, layer, 1, 2, 0);
            Due.call(w, 0, "stream", 3, 3, layer, -1, -2, 1);
            Due.call(w, 1, "salt", 3, 3, layer, 5);
            Due.call(w, 1, "salt", 3, 3, layer, 1000);
            int[] due = {1, 2, -1, -2, 5, 1};
            for (int l = 0; l < 4; l++) {
                for (int what = 3; what <= 8; what++) {
                    Due.call(w, l == layer ? due[what - 3] : 0, "cell", 3, 3, l, what);
                }
            }
            Due.call(new DeepWings(), 80, "whole", layer);
            Due.call(new DeepWings(), 0, "plan", layer);
        }
        Scene.RICH.refusesOutside(-1, 2, 0, 3, "stream", 1, 1, 0, 1, 1, 0);
        Scene.RICH.refusesOutside(-1, 2, 0, 3, "stream", 1, 1, 0, 1, 1, 1);
        Scene.RICH.refusesOutside(-1, 2, 0, 3, "salt", 1, 1, 0, 1);
        Scene.RICH.refusesOutside(-1, 2, 0, 3, "salt", 1, 1, 0, 1000);
        Scene.RICH.refusesOutside(-1, 0, 0, 3, "whole", 0);
        Scene.RICH.refusesOutside(-1, 0, 0, 3, "plan", 0);
        Scene.RICH.refusesOutside(-1, 0, 0, 3, "planned", 0, 0);
    }

    private static void eachPlaceItsOwn() {
        Due.sentence("Each CELL and LAYER has a STREAM, east and north (-2 .. 2 each; 0 at first), THE MAP's of it (likewise), SALT (0 .. 999; 0 at first), and may have a NET.");
        for (int place = 0; place < 320; place++) {
            for (int what = 3; what <= 8; what++) {
                DeepWings w = new DeepWings();
                w.stream(place / 32, place / 4 % 8, place % 4, 1, 1, false);
                w.stream(place / 32, place / 4 % 8, place % 4, 1, 1, true);
                w.salt(place / 32, place / 4 % 8, place % 4, 1);
                w.salt(place / 32, place / 4 % 8, place % 4, 1000);
                int found = 0;
                for (int other = 0; other < 320; other++) {
                    found += w.cell(other / 32, other / 4 % 8, other % 4, what);
                }
                Due.is("places with " + what, found, 1);
                Due.call(w, 1, "cell", place / 32, place / 4 % 8, place % 4, what);
            }
        }
    }

    private static void depths() {
        Due.sentence("DEPTH: how many LAYERS it has (0 .. 4; 4 at first; 0 is LAND)");
        for (int depth = 0; depth <= 4; depth++) {
            DeepWings w = new DeepWings();
            Due.call(w, depth == 4 ? 0 : 1, "sea", 55, 55, 0, depth);
            Due.call(w, depth, "cell", 5, 5, 0, 0);
            for (int layer = 0; layer < 4; layer++) {
                Due.call(w, layer < depth ? 80 : 79, "whole", layer);
            }
            Due.call(w, depth == 0 ? -3 : 0, "glider", 0, 5, 5, 9);
            Due.call(w, depth == 0 ? -3 : 0, "ship", 5, 5);
        }
        Scene.RICH.refusesOutside(-1, 3, 0, 4, "sea", 0, 0, 0, 1);
    }

    private static void lanes() {
        Due.sentence("1 LANE (0, 1)");
        DeepWings w = new DeepWings();
        Due.call(w, 0, "sea", 0, 0, 1, 0);
        Due.call(w, 1, "sea", 0, 0, 1, 1);
        Due.call(w, 1, "cell", 0, 0, 0, 1);
        Due.call(w, 0, "sea", 0, 0, 1, 1);
        Due.call(w, 1, "sea", 0, 0, 1, 0);
        Due.call(w, 0, "cell", 0, 0, 0, 1);
        Scene.RICH.refusesOutside(-1, 3, 0, 1, "sea", 0, 0, 1, 1);
        Scene.RICH.refusesOutside(-1, 2, 0, 2, "sea", 0, 0, 0, 1);
    }

    private static void doubts() {
        Due.sentence("DOUBT of a CELL: 0 .. 99 (50 at first");
        DeepWings w = new DeepWings();
        Due.call(w, 0, "sea", 0, 0, 2, 50);
        for (int doubt : new int[] {0, 99, 1, 98}) {
            Due.call(w, 1, "sea", 0, 0, 2, doubt);
            Due.call(w, doubt, "cell", 0, 0, 0, 2);
            Due.call(w, 79 * 50 + doubt, "count", 8);
        }
        Due.call(w, 80, "sea", 9, 7, 2, 99);
        Due.call(w, 80 * 99, "count", 8);
        Scene.RICH.refusesOutside(-1, 3, 0, 99, "sea", 0, 0, 2, 1);
    }

    private static void streams() {
        Due.sentence("a STREAM, east and north (-2 .. 2 each; 0 at first), THE MAP's of it (likewise)");
        for (int east = -3; east <= 3; east++) {
            for (int north = -3; north <= 3; north++) {
                boolean may = Math.abs(east) <= 2 && Math.abs(north) <= 2;
                for (int map = 0; map < 2; map++) {
                    DeepWings w = new DeepWings();
                    Due.call(w, may ? 0 : -1, "stream", 9, 7, 3, east, north, map);
                    Due.call(w, may ? east : 0, "cell", 9, 7, 3, 3 + 2 * map);
                    Due.call(w, may ? north : 0, "cell", 9, 7, 3, 4 + 2 * map);
                    Due.call(w, 0, "cell", 9, 7, 3, 5 - 2 * map);
                    Due.call(w, 0, "cell", 9, 7, 3, 6 - 2 * map);
                }
            }
        }
        for (int map = 0; map < 2; map++) {
            Scene.RICH.refusesOutside(-1, 3, -2, 2, "stream", 3, 3, 0, 1, 1, map);
            Scene.RICH.refusesOutside(-1, 4, -2, 2, "stream", 3, 3, 0, 1, 1, map);
        }
    }

    private static void salts() {
        Due.sentence("SALT (0 .. 999; 0 at first)");
        DeepWings w = new DeepWings();
        Due.call(w, 0, "salt", 5, 5, 2, 0);
        Due.call(w, 1, "salt", 5, 5, 2, 1);
        Due.call(w, 1, "salt", 5, 5, 2, 999);
        Due.call(w, 0, "salt", 5, 5, 2, 999);
        Due.call(w, 999, "cell", 5, 5, 2, 7);
        Due.call(w, 0, "cell", 5, 5, 2, 8);
        Due.call(w, 1, "salt", 5, 5, 2, 0);
        Due.call(w, 0, "cell", 5, 5, 2, 7);
        Scene.RICH.refusesOutside(-1, 3, 0, 1001, "salt", 4, 4, 0, 1);
    }

    private static void nets() {
        Due.sentence("1000: a NET is there, 1001: none is: 1 if that was otherwise, else 0");
        DeepWings w = new DeepWings();
        w.salt(5, 5, 2, 44);
        int[][] due = {{1001, 0, 0}, {1000, 1, 1}, {1000, 0, 1}, {1001, 1, 0}, {1001, 0, 0}, {1000, 1, 1}};
        for (int[] d : due) {
            Due.call(w, d[1], "salt", 5, 5, 2, d[0]);
            Due.call(w, d[2], "cell", 5, 5, 2, 8);
            Due.call(w, 44, "cell", 5, 5, 2, 7);
        }
        Due.call(w, 1, "salt", 5, 5, 2, 0);
        Due.call(w, 1, "cell", 5, 5, 2, 8);
    }

    private static void howManyChange() {
        Due.sentence("becomes v: how many changed");
        DeepWings w = new DeepWings();
        int[][] due = {{0, 4, 0, 1}, {0, 3, 80, 80}, {1, 0, 0, 0}, {1, 1, 80, 80}, {2, 50, 0, 0}, {2, 51, 80, 80}};
        for (int[] d : due) {
            Due.call(w, d[2], "sea", 9, 7, d[0], d[1]);
            Due.call(w, 0, "sea", 9, 7, d[0], d[1]);
        }
        Due.call(w, 1, "sea", 99, 77, 0, 2);
        Due.call(w, 79, "sea", 9, 7, 0, 2);
    }

    private static void landHasNoDoubt() {
        Due.sentence("what becomes LAND has 0");
        DeepWings w = new DeepWings();
        w.sea(55, 55, 2, 99);
        w.sea(55, 55, 0, 1);
        Due.call(w, 99, "cell", 5, 5, 0, 2);
        Due.call(w, 1, "sea", 55, 55, 0, 0);
        Due.call(w, 0, "cell", 5, 5, 0, 2);
        Due.call(w, 50, "cell", 5, 4, 0, 2);
        Due.call(w, 1, "sea", 55, 55, 0, 4);
        Due.call(w, 0, "cell", 5, 5, 0, 2);
        Due.call(w, 1, "sea", 55, 55, 2, 99);
        Due.call(w, 80, "sea", 9, 7, 0, 0);
        Due.call(w, 0, "count", 8);
    }

    private static void doubtOfLandStays() {
        Due.sentence("(of DOUBT: LAND isn't)");
        DeepWings w = new DeepWings();
        w.sea(55, 55, 0, 0);
        Due.call(w, 0, "sea", 55, 55, 2, 99);
        Due.call(w, 0, "cell", 5, 5, 0, 2);
        Due.call(w, 1, "sea", 56, 55, 2, 99);
        Due.call(w, 1, "sea", 55, 55, 1, 1);
        Due.call(w, 1, "cell", 5, 5, 0, 1);
    }

    private static void landUnderGliders() {
        Due.sentence("-3: DEPTH 0 of a CELL where a GLIDER is UP.");
        for (int xs = 0; xs < 100; xs++) {
            for (int ys = 0; ys < 78; ys++) {
                if (xs / 10 > xs % 10 || ys / 10 > ys % 10 || ys % 10 > 7) {
                    continue;
                }
                DeepWings w = new DeepWings();
                w.glider(0, 4, 3, 9);
                boolean over = xs / 10 <= 4 && xs % 10 >= 4 && ys / 10 <= 3 && ys % 10 >= 3;
                int cells = (xs % 10 - xs / 10 + 1) * (ys % 10 - ys / 10 + 1);
                Due.call(w, over ? -3 : cells, "sea", xs, ys, 0, 0);
            }
        }
        Scene up = new Scene(w -> {
            w.glider(0, 0, 0, 9);
            w.glider(2, 9, 7, 9);
        });
        up.refuses(-3, "sea", 0, 0, 0, 0);
        up.refuses(-3, "sea", 99, 77, 0, 0);
        up.refuses(-3, "sea", 9, 7, 0, 0);
        Due.call(up.made(), 80, "sea", 9, 7, 0, 1);
        Due.call(up.made(), 0, "sea", 9, 7, 1, 0);
        Due.call(up.made(), 80, "sea", 9, 7, 2, 0);
    }

    private static void landWhereNoneIsUp() {
        Due.sentence("-3: DEPTH 0 of a CELL where a GLIDER is UP.");
        DeepWings w = new DeepWings();
        w.salt(4, 4, 0, 1000);
        w.glider(0, 4, 4, 9);
        w.glider(0, 1, 1, 9);
        Due.call(w, -5, "dive", 0, 0, 0, 0);
        Due.call(w, 2, "fetch", 1);
        Due.call(w, 1, "sea", 44, 44, 0, 0);
        Due.call(w, 1, "sea", 11, 11, 0, 0);
        Due.call(w, 1, "sea", 0, 0, 0, 0);
        Due.call(w, 0, "ship", 1, 2);
    }

    private static void firstRefusalOfSea() {
        Due.sentence("Answers of several refusals are the first one here");
        Scene up = new Scene(w -> w.glider(0, 4, 7, 9));
        up.refuses(-1, "sea", 44, 78, 0, 0);
        up.refuses(-1, "sea", 43, 77, 0, 0);
        up.refuses(-1, "sea", 44, 77, 0, -1);
        up.refuses(-1, "sea", 44, 77, 3, 0);
        up.refuses(-3, "sea", 44, 77, 0, 0);
    }

    private static void layerLookedAtFrom3() {
        Due.sentence("-1 (LAYER is looked at from 3 on)");
        DeepWings w = new DeepWings();
        int[] first = {4, 0, 50};
        for (int layer : Scene.outside(0, 3)) {
            for (int what = 0; what < 9; what++) {
                Due.call(w, what < 3 ? first[what] : -1, "cell", 9, 7, layer, what);
            }
            Due.call(w, -1, "cell", 9, 7, layer, 9);
            Due.call(w, -1, "cell", 10, 7, layer, 0);
        }
        for (int what : Scene.outside(0, 8)) {
            Due.call(w, -1, "cell", 0, 0, 0, what);
        }
        Due.call(w, 0, "cell", 0, 0, 3, 3);
        Due.call(w, 0, "cell", 0, 0, 3, 8);
    }

    private static void streamsOfMinus1() {
        Due.sentence("STREAMS as they are may be -1, too.");
        DeepWings w = new DeepWings();
        w.stream(0, 0, 0, -1, -1, false);
        w.stream(0, 0, 0, -1, -1, true);
        for (int what = 3; what <= 6; what++) {
            Due.call(w, -1, "cell", 0, 0, 0, what);
        }
    }
}
