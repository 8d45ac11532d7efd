/** Promises 33 to 39: keep, row, put, element, copy, sum, toss. */
public final class ShelfTest {
    private static final int LEAST = Integer.MIN_VALUE;
    private static final int MOST = Integer.MAX_VALUE;

    public static void main(String[] args) {
        keep();
        keptAsThen();
        row();
        put();
        element();
        copy();
        copyRefusals();
        sum();
        toss();
        Due.end();
    }

    private static DeepWings fleet() {
        DeepWings w = new DeepWings();
        addFleet(w);
        return w;
    }

    private static void addFleet(DeepWings w) {
        for (int kind = 0; kind < 4; kind++) {
            w.glider(kind, 6, kind, 70);
        }
    }

    private static void keep() {
        DeepWings w = fleet();
        Due.is("a glider", w.keep(7, 1, 3), 0);
        Due.is("is there", w.sum(7), 234);
        Due.is("no such glider", w.keep(7, 1, 4), -1);
        Due.is("no such glider", w.keep(7, 1, -1), -1);
        Due.is("no such what", w.keep(7, 2, 0), -1);
        Due.is("no such what", w.keep(7, -1, 0), -1);
        Due.is("no such shelf", w.keep(8, 1, 0), -1);
        Due.is("no such shelf", w.keep(-1, 0, 0), -1);
        Due.is("no such shelf", w.keep(LEAST, 0, 0), -1);
        Due.is("still there", w.sum(7), 234);
        Due.is("nothing", w.keep(7, 0, MOST), 0);
        Due.is("is not there", w.sum(7), -11);
        w.row(7, 0, 2);
        Due.is("a glider for a row", w.keep(7, 1, 0), 0);
        Due.is("is there", w.sum(7), 122);
        Due.same("no row", Due.elementAs(w, 7, 0), "IllegalStateException");
    }

    private static void keptAsThen() {
        DeepWings w = fleet();
        w.keep(2, 1, 2);
        w.keep(3, 1, 1);
        w.dive(2, 0, 1, 0);
        w.ship(6, 1);
        w.fetch(1);
        Due.is("power as then", w.sum(2), 201);
        Due.is("place as then", w.toss(2), 50);
        Due.is("up as then", w.toss(3), 49);
        w.keep(2, 1, 2);
        Due.is("power now", w.sum(2), 198);
        Due.is("place now", w.toss(2), 58);
    }

    private static void row() {
        DeepWings w = fleet();
        int[][] wrong = {{-1, 0, 1}, {8, 0, 1}, {0, 3, 1}, {0, -1, 1}, {0, 0, 81}, {0, 0, MOST}, {LEAST, 0, 0},
            {8, 0, -1}, {0, 3, -1}};
        w.keep(0, 1, 0);
        for (int[] a : wrong) {
            Due.is("row", w.row(a[0], a[1], a[2]), -1);
        }
        Due.is("below 0", w.row(0, 0, -1), -14);
        Due.is("below 0", w.row(0, 2, LEAST), -14);
        Due.is("the glider stays", w.sum(0), 122);
        Due.is("of 80", w.row(0, 2, 80), 0);
        Due.same("the last", Due.elementAs(w, 0, 79), "0");
        w.put(0, 79, 5);
        Due.is("of 80 again", w.row(0, 2, 80), 0);
        Due.same("0 at first", Due.elementAs(w, 0, 79), "0");
        Due.is("of 0", w.row(0, 2, 0), 0);
        Due.same("no place", Due.elementAs(w, 0, 0), "IllegalStateException");
    }

    private static void put() {
        DeepWings w = fleet();
        long[][] due = {{0, 127, 127}, {0, 128, -128}, {0, -129, 127}, {0, 511, -1}, {1, 32767, 32767},
            {1, 32768, -32768}, {1, -32769, 32767}, {1, 65536, 0}, {2, MOST, MOST}, {2, LEAST, LEAST}, {0, LEAST, 0}};
        for (long[] a : due) {
            w.row(1, (int) a[0], 3);
            Due.is("put", w.put(1, 2, (int) a[1]), 0);
            Due.same("lowest bits", Due.elementAs(w, 1, 2), "" + a[2]);
            Due.same("others stay", Due.elementAs(w, 1, 1), "0");
        }
        Due.is("no place", w.put(1, 3, 1), -13);
        Due.is("no place", w.put(1, -1, 1), -13);
        Due.is("no place", w.put(1, LEAST, 1), -13);
        Due.is("no place", w.put(1, MOST, 1), -13);
        Due.is("no shelf", w.put(8, 0, 1), -1);
        Due.is("no shelf", w.put(-1, 0, 1), -1);
        Due.is("nothing", w.put(0, 0, 1), -11);
        w.keep(0, 1, 1);
        Due.is("a glider", w.put(0, 0, 1), -12);
        Due.is("a glider, and no place", w.put(0, -1, 1), -12);
    }

    private static void element() {
        DeepWings w = fleet();
        Due.same("no shelf", Due.elementAs(w, -1, 0), "IllegalArgumentException");
        Due.same("no shelf", Due.elementAs(w, 8, 0), "IllegalArgumentException");
        Due.same("no shelf", Due.elementAs(w, MOST, -1), "IllegalArgumentException");
        Due.same("nothing", Due.elementAs(w, 0, 0), "IllegalStateException");
        w.keep(0, 1, 0);
        Due.same("a glider", Due.elementAs(w, 0, 0), "IllegalStateException");
        w.row(0, 1, 2);
        Due.same("a place", Due.elementAs(w, 0, 1), "0");
        Due.same("no place", Due.elementAs(w, 0, 2), "IllegalStateException");
        Due.same("no place", Due.elementAs(w, 0, -1), "IllegalStateException");
        Due.same("no place", Due.elementAs(w, 0, LEAST), "IllegalStateException");
        Due.same("no place", Due.elementAs(w, 0, MOST), "IllegalStateException");
    }

    private static String all(DeepWings w, int d, int n) {
        StringBuilder s = new StringBuilder();
        for (int i = 0; i < n; i++) {
            s.append(Due.elementAs(w, d, i)).append(' ');
        }
        return s.toString();
    }

    private static void addRows(DeepWings w) {
        addFleet(w);
        w.row(0, 1, 5);
        for (int i = 0; i < 5; i++) {
            w.put(0, i, 10 + i);
        }
        w.row(1, 1, 3);
        w.row(2, 0, 5);
        w.keep(3, 1, 0);
    }

    private static void copy() {
        DeepWings w = new Scene(ShelfTest::addRows).made();
        Due.is("copy", w.copy(0, 1, 1, 0, 2), 2);
        Due.same("there", all(w, 1, 3), "11 12 0 ");
        Due.same("stays", all(w, 0, 5), "10 11 12 13 14 ");
        Due.is("onto itself, upwards", w.copy(0, 0, 0, 1, 4), 4);
        Due.same("as it was ahead of the copy", all(w, 0, 5), "10 10 11 12 13 ");
        Due.is("onto itself, downwards", w.copy(0, 1, 0, 0, 4), 4);
        Due.same("as it was ahead of the copy", all(w, 0, 5), "10 11 12 13 13 ");
        Due.is("none", w.copy(0, 5, 1, 3, 0), 0);
        Due.is("all", w.copy(0, 2, 1, 0, 3), 3);
        Due.same("there", all(w, 1, 3), "12 13 13 ");
    }

    private static void copyRefusals() {
        Scene scene = new Scene(ShelfTest::addRows);
        int[][] due = {{8, 0, 0, 0, 1, -1}, {0, 0, 8, 0, 1, -1}, {-1, 0, 0, 0, 1, -1}, {0, 0, LEAST, 0, 1, -1},
            {4, 0, 0, 0, 1, -11}, {0, 0, 4, 0, 1, -11}, {3, 0, 4, 0, 1, -11}, {4, 0, 3, 0, 1, -11},
            {4, -1, 4, -1, 1, -11}, {8, 0, 4, 0, 1, -1}, {4, 0, 8, 0, 1, -1},
            {0, 0, 2, 0, 1, -12}, {2, 0, 0, 0, 1, -12}, {3, 0, 0, 0, 1, -12}, {0, 0, 3, 0, 1, -12},
            {3, 0, 3, 0, 0, -12}, {3, 0, 2, 0, 1, -12}, {2, 0, 3, 0, 1, -12}, {3, 0, 2, 0, 0, -12}, {0, -1, 2, 0, 1, -12}, {0, 0, 1, 0, 4, -13}, {1, 0, 0, 0, 4, -13},
            {0, -1, 1, 0, 1, -13}, {0, 0, 1, -1, 1, -13}, {0, 0, 1, 0, -1, -13}, {0, 4, 1, 0, 2, -13},
            {0, 0, 1, 2, 2, -13}, {0, 5, 1, 0, 1, -13}, {0, 6, 1, 0, 0, -13}, {0, 0, 1, 4, 0, -13},
            {0, MOST, 1, 0, MOST, -13}, {0, 1, 1, 1, MOST, -13}, {0, 0, 1, 0, LEAST, -13}, {0, LEAST, 1, 0, 1, -13},
            {0, 0, 1, MOST, 1, -13}};
        for (int[] a : due) {
            scene.refuses(a[5], "copy", a[0], a[1], a[2], a[3], a[4]);
        }
    }

    private static void sum() {
        DeepWings w = fleet();
        int[] due = {122, 115, 201, 234};
        for (int kind = 0; kind < 4; kind++) {
            w.keep(kind, 1, kind);
            Due.is("sum", w.sum(kind), due[kind]);
            w.leak(kind, true);
            w.keep(kind, 1, kind);
            Due.is("a leak does not count", w.sum(kind), due[kind]);
        }
        Due.is("no shelf", w.sum(-1), -1);
        Due.is("no shelf", w.sum(8), -1);
        Due.is("nothing", w.sum(4), -11);
        w.row(4, 2, 0);
        Due.is("a row", w.sum(4), -12);
    }

    private static void toss() {
        DeepWings w = fleet();
        int[] due = {-15, 49, 50, 151};
        for (int kind = 0; kind < 4; kind++) {
            w.keep(kind, 1, kind);
            Due.is("toss", w.toss(kind), due[kind]);
        }
        w.ship(6, 2);
        for (int kind = 0; kind < 4; kind++) {
            w.fetch(kind);
            w.keep(kind, 1, kind);
            Due.is("fetched", w.toss(kind), -15);
        }
        w.glider(1, 6, 0, 9);
        w.salt(6, 0, 0, 1000);
        w.dive(4, 0, 0, 0);
        w.keep(4, 1, 4);
        Due.is("lost", w.toss(4), -15);
        Due.is("no shelf", w.toss(-1), -1);
        Due.is("no shelf", w.toss(8), -1);
        Due.is("nothing", w.toss(5), -11);
        w.row(5, 0, 1);
        Due.is("a row", w.toss(5), -12);
    }
}
