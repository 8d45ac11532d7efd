/** The bounds that the document names for SHELVES, a test for each sentence: promises 33 to 39. */
public final class ShelfBoundsTest {
    private static final int LEAST = Integer.MIN_VALUE;
    private static final int MOST = Integer.MAX_VALUE;

    public static void main(String[] args) {
        shelves();
        keepBounds();
        nothing();
        gliderAsThen();
        rowSorts();
        rowSizes();
        rowRefusals();
        zeroAtFirst();
        lowestBits();
        putPlaces();
        putRefusals();
        elementRefusals();
        copyPlaces();
        copyOfNone();
        copyWithinOne();
        copyRefusals();
        sums();
        sumRefusals();
        tosses();
        tossRefusals();
        Due.end();
    }

    private static void shelves() {
        Due.sentence("SHELVES 0 .. 7 each hold nothing (at first), a GLIDER (as then), a ROW.");
        DeepWings w = new DeepWings();
        w.glider(1, 9, 7, 5);
        for (int d = 0; d < 8; d++) {
            Due.call(w, -11, "sum", d);
            Due.call(w, 0, "row", d, 2, 1);
            Due.call(w, 0, "put", d, 0, d + 1);
        }
        for (int d = 0; d < 8; d++) {
            Due.call(w, d + 1, "element", d, 0);
            Due.call(w, 0, "keep", d, 1, 0);
            Due.call(w, 79, "toss", d);
            Due.call(w, d == 7 ? -12 : 1, "copy", 7, 0, d == 7 ? 0 : 7, 0, 1);
            Due.call(w, 0, "keep", d, d == 7 ? 1 : 0, 0);
            Due.call(w, 0, "row", d, 2, 1);
        }
        for (Scene scene : new Scene[] {Scene.NEW, Scene.RICH}) {
            scene.refusesOutside(-1, 0, 0, 7, "keep", 0, 0, 0);
            scene.refusesOutside(-1, 0, 0, 7, "row", 0, 0, 1);
            scene.refusesOutside(-1, 0, 0, 7, "put", 0, 0, 1);
            scene.refusesOutside("IllegalArgumentException", 0, 0, 7, "element", 0, 0);
            scene.refusesOutside(-1, 0, 0, 7, "copy", 3, 0, 3, 1, 1);
            scene.refusesOutside(-1, 2, 0, 7, "copy", 3, 0, 3, 1, 1);
            scene.refusesOutside(-1, 0, 0, 7, "sum", 0);
            scene.refusesOutside(-1, 0, 0, 7, "toss", 0);
        }
    }

    private static void keepBounds() {
        Due.sentence("1 GLIDER k: 0. -1.");
        Scene.RICH.refusesOutside(-1, 1, 0, 1, "keep", 1, 0, 0);
        Scene.RICH.refusesOutside(-1, 2, 0, 4, "keep", 1, 1, 0);
        Scene.RICH.refusesOutside(-1, 2, 0, 4, "keep", 0, 1, 0);
        Scene.FULL.refusesOutside(-1, 2, 0, 7, "keep", 3, 1, 0);
        Scene.NEW.refuses(-1, "keep", 0, 1, 0);
        for (int g = 0; g < 8; g++) {
            DeepWings w = Scene.FULL.made();
            Due.call(w, 0, "keep", 7, 1, g);
            Due.call(w, 122, "sum", 7);
        }
    }

    private static void nothing() {
        Due.sentence("what = 0 nothing (the others do not matter)");
        for (int k : new int[] {0, 1, 7, 8, -1, LEAST, MOST}) {
            for (int d = 0; d < 8; d++) {
                DeepWings w = Scene.RICH.made();
                Due.call(w, 0, "keep", d, 0, k);
                Due.call(w, -11, "sum", d);
                Due.call(w, "IllegalStateException", "element", d, 0);
            }
        }
    }

    private static void gliderAsThen() {
        Due.sentence("a GLIDER (as then)");
        DeepWings w = new DeepWings();
        w.glider(2, 4, 4, 99);
        w.glider(3, 0, 0, 50);
        w.keep(0, 1, 0);
        w.keep(1, 1, 1);
        w.dive(0, 0, 1, 0);
        w.fetch(1);
        Due.call(w, 100 + 30 + 1 + 99, "sum", 0);
        Due.call(w, 36, "toss", 0);
        Due.call(w, 100, "toss", 1);
        w.keep(2, 1, 0);
        w.keep(3, 1, 1);
        Due.call(w, 100 + 30 + 1 + 96, "sum", 2);
        Due.call(w, 44, "toss", 2);
        Due.call(w, -15, "toss", 3);
    }

    private static void rowSorts() {
        Due.sentence("A ROW has a SORT (0 bytes, 1 shorts, 2 ints)");
        long[] due = {(byte) 0x12345678, (short) 0x12345678, 0x12345678};
        for (int sort = 0; sort <= 2; sort++) {
            DeepWings w = new DeepWings();
            Due.call(w, 0, "row", 0, sort, 1);
            Due.call(w, 0, "put", 0, 0, 0x12345678);
            Due.call(w, due[sort], "element", 0, 0);
        }
        Scene.RICH.refusesOutside(-1, 1, 0, 2, "row", 3, 0, 1);
    }

    private static void rowSizes() {
        Due.sentence("0 .. 80 elements");
        for (int sort = 0; sort <= 2; sort++) {
            for (int n = 0; n <= 80; n++) {
                DeepWings w = new DeepWings();
                Due.call(w, 0, "row", 7, sort, n);
                Due.call(w, n > 0 ? "0" : "IllegalStateException", "element", 7, Math.max(0, n - 1));
                Due.call(w, "IllegalStateException", "element", 7, n);
                Due.call(w, n > 0 ? 0 : -13, "put", 7, Math.max(0, n - 1), 1);
                Due.call(w, -13, "put", 7, n, 1);
            }
        }
    }

    private static void rowRefusals() {
        Due.sentence("SHELF d gets a ROW of a SORT: 0. -1 (n above 80); -14.");
        for (int d = 0; d < 8; d++) {
            Scene.RICH.refuses(-1, "row", d, d % 3, 81);
            Scene.RICH.refuses(-14, "row", d, d % 3, -1);
        }
        Scene.RICH.refuses(-1, "row", 3, 0, MOST);
        Scene.RICH.refuses(-14, "row", 3, 0, LEAST);
        Scene.RICH.refuses(-1, "row", 8, 0, -1);
        Scene.RICH.refuses(-1, "row", -1, 0, -1);
        Scene.RICH.refuses(-1, "row", 3, 3, -1);
        Scene.RICH.refuses(-1, "row", 3, -1, LEAST);
    }

    private static void zeroAtFirst() {
        Due.sentence("0 .. 80 elements, 0 at first");
        DeepWings w = new DeepWings();
        w.row(0, 2, 80);
        for (int i = 0; i < 80; i++) {
            w.put(0, i, i + 1);
        }
        w.row(0, 2, 1);
        w.row(0, 2, 80);
        for (int i = 0; i < 80; i++) {
            Due.call(w, 0, "element", 0, i);
        }
        w.put(0, 5, 9);
        w.keep(0, 0, 0);
        w.row(0, 2, 6);
        Due.call(w, 0, "element", 0, 5);
    }

    private static void lowestBits() {
        Due.sentence("what is put in keeps its lowest bits");
        int[] values = {0, 1, -1, 127, 128, 129, -127, -128, -129, 255, 256, 257, -256, -257, 32767, 32768, -32768, -32769,
            65535, 65536, 65537, -65536, 8388608, MOST, LEAST, MOST - 1, LEAST + 1};
        for (int v : values) {
            long[] due = {Math.floorMod(v + 128L, 256L) - 128, Math.floorMod(v + 32768L, 65536L) - 32768, v};
            for (int sort = 0; sort <= 2; sort++) {
                DeepWings w = new DeepWings();
                w.row(0, sort, 3);
                Due.call(w, 0, "put", 0, 1, v);
                Due.call(w, 0, "element", 0, 0);
                Due.call(w, due[sort], "element", 0, 1);
                Due.call(w, 0, "element", 0, 2);
            }
        }
    }

    private static void putPlaces() {
        Due.sentence("-13 a place that isn't there");
        DeepWings w = new DeepWings();
        w.row(0, 2, 80);
        for (int i = -2; i < 84; i++) {
            boolean there = i >= 0 && i < 80;
            Due.call(w, there ? 0 : -13, "put", 0, i, i + 5);
            Due.call(w, there ? String.valueOf(i + 5) : "IllegalStateException", "element", 0, i);
        }
    }

    private static void putRefusals() {
        Due.sentence("Element i of the ROW becomes v: 0. -1, -11, -12, -13.");
        Scene.RICH.refusesOutside(-13, 1, 0, 3, "put", 3, 0, 1);
        Scene.RICH.refusesOutside(-13, 1, 0, 2, "put", 4, 0, 1);
        Scene.FULL.refusesOutside(-13, 1, 0, 79, "put", 7, 0, 1);
        Scene.RICH.refuses(-11, "put", 0, 0, 1);
        Scene.RICH.refuses(-11, "put", 0, -1, 1);
        Scene.RICH.refuses(-12, "put", 1, 0, 1);
        Scene.RICH.refuses(-12, "put", 2, 99, 1);
        Scene.RICH.then(w -> w.row(3, 0, 0)).refuses(-13, "put", 3, 0, 1);
        Scene.RICH.refuses(-1, "put", 8, -1, 1);
    }

    private static void elementRefusals() {
        Due.sentence("IllegalArgumentException: no such SHELF; IllegalStateException: no ROW, no such place.");
        Scene.RICH.refusesOutside("IllegalStateException", 1, 0, 3, "element", 3, 0);
        Scene.FULL.refusesOutside("IllegalStateException", 1, 0, 79, "element", 7, 0);
        Scene.RICH.refuses("IllegalStateException", "element", 0, 0);
        Scene.RICH.refuses("IllegalStateException", "element", 1, 0);
        Scene.RICH.refuses("IllegalStateException", "element", 2, 0);
        Scene.RICH.refuses("IllegalArgumentException", "element", 8, -1);
        Scene.RICH.refuses("IllegalArgumentException", "element", -1, MOST);
        Scene.RICH.then(w -> w.row(3, 0, 0)).refuses("IllegalStateException", "element", 3, 0);
        Due.call(Scene.RICH.made(), -9, "element", 3, 2);
        Due.call(Scene.RICH.made(), 123456, "element", 4, 0);
    }

    /** ROW 0 of 5 shorts 10 .. 14, ROW 1 of 3 shorts 0. */
    private static DeepWings rows() {
        DeepWings w = new DeepWings();
        w.row(0, 1, 5);
        for (int i = 0; i < 5; i++) {
            w.put(0, i, 10 + i);
        }
        w.row(1, 1, 3);
        return w;
    }

    private static void copyPlaces() {
        Due.sentence("n elements of the ROW in SHELF d from i on come to that in SHELF e from j on: n.");
        for (int i = -1; i <= 6; i++) {
            for (int j = -1; j <= 4; j++) {
                for (int n = -1; n <= 6; n++) {
                    DeepWings w = rows();
                    boolean may = i >= 0 && j >= 0 && n >= 0 && i + n <= 5 && j + n <= 3;
                    Due.call(w, may ? n : -13, "copy", 0, i, 1, j, n);
                    for (int k = 0; k < 3; k++) {
                        boolean copied = may && k >= j && k < j + n;
                        Due.call(w, copied ? 10 + i + k - j : 0, "element", 1, k);
                    }
                    for (int k = 0; k < 5; k++) {
                        Due.call(w, 10 + k, "element", 0, k);
                    }
                }
            }
        }
        DeepWings w = new DeepWings();
        w.row(0, 2, 80);
        w.row(7, 2, 80);
        w.put(0, 79, MOST);
        w.put(0, 0, LEAST);
        Due.call(w, 80, "copy", 0, 0, 7, 0, 80);
        Due.call(w, MOST, "element", 7, 79);
        Due.call(w, LEAST, "element", 7, 0);
        Due.call(w, -13, "copy", 0, 0, 7, 0, 81);
        Due.call(w, -13, "copy", 0, 1, 7, 0, 80);
        Due.call(w, -13, "copy", 0, 0, 7, 1, 80);
    }

    private static void copyOfNone() {
        Due.sentence("n elements of the ROW in SHELF d from i on");
        DeepWings w = new DeepWings();
        w.row(0, 0, 0);
        w.row(1, 0, 0);
        Due.call(w, 0, "copy", 0, 0, 1, 0, 0);
        Due.call(w, -13, "copy", 0, 0, 1, 0, 1);
        Due.call(w, -13, "copy", 0, 1, 1, 0, 0);
        Due.call(w, -13, "copy", 0, 0, 1, 1, 0);
        Due.call(w, 0, "copy", 0, 0, 0, 0, 0);
    }

    private static void copyWithinOne() {
        Due.sentence("n elements of the ROW in SHELF d from i on come to that in SHELF e from j on");
        for (int i = 0; i <= 5; i++) {
            for (int j = 0; j <= 5; j++) {
                for (int n = 0; n <= 5 - Math.max(i, j); n++) {
                    DeepWings w = rows();
                    Due.call(w, n, "copy", 0, i, 0, j, n);
                    for (int k = 0; k < 5; k++) {
                        Due.call(w, k >= j && k < j + n ? 10 + i + k - j : 10 + k, "element", 0, k);
                    }
                }
            }
        }
    }

    private static void copyRefusals() {
        Due.sentence("-1, -11 (either), -12 (no ROWS of one SORT), -13.");
        int[][] due = {{-1, 8, 0, 0, 0, 1}, {-1, 0, 0, 8, 0, 1}, {-1, 8, 0, 1, 0, 1}, {-1, 1, 0, -1, 0, 1},
            {-11, 0, 0, 6, 0, 1}, {-11, 0, 0, 3, 0, 1}, {-11, 3, 0, 0, 0, 1}, {-11, 1, 0, 0, 0, 1}, {-11, 0, 0, 1, 0, 1},
            {-11, 3, -1, 0, -1, -1}, {-12, 1, 0, 2, 0, 1}, {-12, 1, 0, 3, 0, 1}, {-12, 3, 0, 1, 0, 1}, {-12, 1, 0, 1, 0, 0},
            {-12, 3, 0, 4, 0, 1}, {-12, 4, 0, 3, 0, 1}, {-12, 3, 0, 5, 0, 1}, {-12, 5, 0, 4, 0, 1}, {-12, 3, -1, 4, 0, 1},
            {-12, 3, 0, 4, 9, 9}, {-13, 3, -1, 3, 0, 1}, {-13, 3, 0, 3, -1, 1}, {-13, 3, 0, 3, 0, 5}, {-13, 3, 4, 3, 0, 1},
            {-13, 3, 0, 3, 4, 1}, {-13, 3, 5, 3, 0, 0}, {-13, 3, 0, 3, 5, 0}, {-13, 3, 0, 3, 0, -1}, {-13, 3, 1, 3, 0, MOST},
            {-13, 3, MOST, 3, 0, 1}, {-13, 3, 0, 3, MOST, 1}, {-13, 3, MOST, 3, MOST, MOST}, {-13, 3, LEAST, 3, 0, 1},
            {-13, 3, 0, 3, LEAST, 1}, {-13, 3, 0, 3, 0, LEAST}, {-13, 3, 1, 3, 1, LEAST}, {-13, 3, LEAST, 3, LEAST, LEAST},
            {-13, 7, 0, 5, 0, 3}, {-13, 5, 0, 7, 6, 2}};
        for (int[] d : due) {
            Scene.RICH.refuses(d[0], "copy", d[1], d[2], d[3], d[4], d[5]);
        }
        for (int d = 0; d < 8; d++) {
            for (int e = 0; e < 8; e++) {
                Due.call(Scene.FULL.made(), d % 3 == e % 3 ? 80 : -12, "copy", d, 0, e, 0, 80);
            }
        }
    }

    private static void sums() {
        Due.sentence("of LIGHT ones and what is under them COST of LAYER 0 (without a LEAK) more; of DEEP ones POWER more; of SCOUTS twice all that.");
        for (int power : new int[] {0, 1, 999}) {
            int[] due = {100 + 20 + 2, 100 + 10 + 3 + 2, 100 + 30 + 1 + power, 2 * (100 + 10 + 4 + 3)};
            for (int kind = 0; kind < 4; kind++) {
                for (int leak = 0; leak < 2; leak++) {
                    DeepWings w = new DeepWings();
                    w.glider(kind, 3, 3, power);
                    w.leak(0, leak == 1);
                    w.keep(0, 1, 0);
                    Due.call(w, due[kind], "sum", 0);
                    w.ship(3, 3);
                    w.fetch(0);
                    w.keep(0, 1, 0);
                    Due.call(w, due[kind], "sum", 0);
                }
            }
        }
    }

    private static void sumRefusals() {
        Due.sentence("-1, -11, -12 (a ROW).");
        for (String name : new String[] {"sum", "toss"}) {
            Scene.RICH.refuses(-11, name, 0);
            Scene.RICH.refuses(-11, name, 6);
            Scene.RICH.refuses(-12, name, 3);
            Scene.RICH.refuses(-12, name, 4);
            Scene.RICH.refuses(-12, name, 5);
            Scene.RICH.then(w -> w.row(1, 2, 0)).refuses(-12, name, 1);
            Scene.FULL.refuses(-12, name, 7);
        }
    }

    private static void tosses() {
        Due.sentence("The FAILURE of the GLIDER on SHELF d is thrown, and caught: 8 x and y; of SCOUTS 100 more.");
        for (int c = 0; c < 80; c++) {
            int[] due = {-15, c, c, 100 + c};
            for (int kind = 0; kind < 4; kind++) {
                DeepWings w = new DeepWings();
                w.glider(kind, c / 8, c % 8, 0);
                w.keep(7, 1, 0);
                Due.call(w, due[kind], "toss", 7);
                Due.call(w, due[kind], "toss", 7);
            }
        }
    }

    private static void tossRefusals() {
        Due.sentence("-15: PLAIN ones, and those that were not UP, have none.");
        Scene.RICH.refuses(-15, "toss", 1);
        Scene.RICH.refuses(-15, "toss", 2);
        for (int kind = 0; kind < 4; kind++) {
            DeepWings w = new DeepWings();
            w.glider(kind, 0, 0, 99);
            w.glider(kind, 0, 1, 99);
            w.fetch(0);
            w.salt(0, 1, 0, 1000);
            w.dive(1, 0, 0, 0);
            for (int g = 0; g < 2; g++) {
                w.keep(g, 1, g);
                Due.call(w, -15, "toss", g);
            }
        }
    }
}
