/** Promises 19 to 21 and 25: clean, reading, read, whole. */
public final class MeasureTest {
    private static final int LEAST = Integer.MIN_VALUE;
    private static final int MOST = Integer.MAX_VALUE;

    public static void main(String[] args) {
        cleaning();
        cleaningLimits();
        putRight();
        firstCleaningBehind();
        readingsAreNumbered();
        readingLimit();
        readingRefusals();
        whole();
        wholeByDepth();
        Due.end();
    }

    private static DeepWings withDives(int salt, int dives) {
        DeepWings w = new DeepWings();
        w.glider(0, 4, 4, 999);
        w.salt(4, 4, 0, salt);
        for (int i = 0; i < dives; i++) {
            w.dive(0, 0, 0, 0);
        }
        return w;
    }

    private static void cleaning() {
        DeepWings w = withDives(10, 3);
        Due.is("foul", w.about(0, 6), 3);
        Due.is("clean", w.clean(0, 5), 1);
        Due.is("not foul", w.about(0, 6), 0);
        w.dive(0, 0, 0, 0);
        Due.is("shows as it is", w.about(0, 10), 10);
        Due.is("foul again", w.about(0, 6), 1);
        Due.is("clean", w.clean(0, 5), 2);
        Due.is("cleanings", w.count(9), 2);
        w.glider(0, 0, 0, 0);
        Due.is("clean of another", w.clean(1, 0), 3);
        w.fetch(1);
        Due.is("clean of a fetched one", w.clean(1, 0), 4);
    }

    private static void cleaningLimits() {
        DeepWings w = withDives(10, 2);
        Due.is("no glider", w.clean(1, 0), -1);
        Due.is("no glider", w.clean(-1, 0), -1);
        Due.is("too much", w.clean(0, 2001), -1);
        Due.is("too little", w.clean(0, -2001), -1);
        Due.is("far", w.clean(0, LEAST), -1);
        Due.is("far", w.clean(0, MOST), -1);
        Due.is("still foul", w.about(0, 6), 2);
        for (int i = 1; i <= 60; i++) {
            Due.is("clean", w.clean(0, i % 2 == 0 ? 2000 : -2000), i);
        }
        w.dive(0, 0, 0, 0);
        Due.is("no room", w.clean(0, 0), -2);
        Due.is("out of range ahead of no room", w.clean(0, 2001), -1);
        Due.is("foul stays", w.about(0, 6), 1);
        Due.is("cleanings", w.count(9), 60);
    }

    private static void putRight() {
        DeepWings w = withDives(500, 3);
        Due.same("without a cleaning", Due.readAs(w, 2, true), "500");
        Due.same("as it was", Due.readAs(w, 2, false), "506");
        w.clean(0, 10);
        Due.same("10 * 1 / 3", Due.readAs(w, 0, true), "497");
        Due.same("10 * 2 / 3", Due.readAs(w, 1, true), "497");
        Due.same("10 * 3 / 3", Due.readAs(w, 2, true), "496");
        Due.same("as it was", Due.readAs(w, 1, false), "503");
        w = withDives(500, 3);
        w.clean(0, -10);
        Due.same("-10 * 1 / 3, cut", Due.readAs(w, 0, true), "503");
        Due.same("-10 * 2 / 3, cut", Due.readAs(w, 1, true), "509");
        Due.same("-10 * 3 / 3", Due.readAs(w, 2, true), "516");
        w = withDives(0, 2);
        w.clean(0, 2000);
        Due.same("below 0", Due.readAs(w, 0, true), "-1000");
        Due.same("below 0", Due.readAs(w, 1, true), "-1997");
    }

    private static void firstCleaningBehind() {
        DeepWings w = withDives(100, 2);
        w.glider(0, 4, 4, 99);
        w.dive(1, 0, 0, 0);
        w.clean(1, 50);
        Due.same("of another glider", Due.readAs(w, 1, true), "100");
        Due.same("of its own", Due.readAs(w, 2, true), "50");
        w.clean(0, 20);
        w.dive(0, 0, 0, 0);
        Due.same("a reading behind the cleaning", Due.readAs(w, 3, true), "100");
        w.dive(0, 0, 0, 0);
        Due.same("less 3 times its foul", Due.readAs(w, 4, true), "100");
        w.clean(0, 40);
        Due.same("the first one behind it", Due.readAs(w, 0, true), "90");
        Due.same("the first one behind it", Due.readAs(w, 1, true), "83");
        Due.same("the second", Due.readAs(w, 3, true), "80");
        Due.same("the second", Due.readAs(w, 4, true), "63");
        w.clean(0, 999);
        Due.same("a third changes nothing", Due.readAs(w, 4, true), "63");
        Due.same("nor of the other", Due.readAs(w, 2, true), "50");
    }

    private static void readingsAreNumbered() {
        DeepWings w = new DeepWings();
        w.glider(0, 1, 2, 99);
        w.glider(2, 8, 6, 99);
        w.times(7);
        w.dive(1, 3, 0, 1);
        w.times(1);
        w.dive(0, 1, 0, 0);
        w.dive(1, 2, 0, 0);
        int[][] due = {{1, 7, 71, 3, 0}, {0, 8, 10, 1, 0}, {1, 8, 71, 2, 1}};
        for (int r = 0; r < due.length; r++) {
            for (int what = 0; what < 5; what++) {
                Due.is("reading " + r + " " + what, w.reading(r, what), due[r][what]);
            }
        }
        Due.is("readings", w.count(5), 3);
    }

    private static void readingLimit() {
        DeepWings w = new DeepWings();
        w.glider(1, 3, 3, 999);
        for (int i = 0; i < 199; i++) {
            w.dive(0, 0, 0, 0);
        }
        w.salt(3, 3, 0, 400);
        w.clean(0, 0);
        w.dive(0, 0, 0, 0);
        Due.is("kept", w.count(5), 200);
        w.salt(3, 3, 0, 444);
        w.sea(33, 33, 2, 50);
        Due.is("a dive", w.dive(0, 0, 0, 0), 27);
        Due.is("no more are kept", w.count(5), 200);
        Due.is("latest all the same", w.about(0, 10), 447);
        Due.is("foul all the same", w.about(0, 6), 2);
        Due.is("doubt all the same", w.cell(3, 3, 0, 2), 0);
        Due.same("the last kept", Due.readAs(w, 199, false), "400");
        Due.is("its foul", w.reading(198, 4), 198);
        Due.same("not there", Due.readAs(w, 200, false), "IllegalArgumentException");
        Due.is("not there", w.reading(200, 0), -1);
        w.clean(0, 10);
        Due.same("a cleaning behind it", Due.readAs(w, 199, true), "395");
    }

    private static void readingRefusals() {
        DeepWings w = withDives(3, 2);
        int[][] wrong = {{2, 0}, {-1, 0}, {0, 5}, {0, -1}, {LEAST, 0}, {MOST, 0}, {0, LEAST}, {0, MOST}};
        for (int[] a : wrong) {
            Due.is("reading", w.reading(a[0], a[1]), -1);
        }
        for (int r : new int[] {-1, 2, LEAST, MOST, 200}) {
            Due.same("read", Due.readAs(w, r, false), "IllegalArgumentException");
            Due.same("read", Due.readAs(w, r, true), "IllegalArgumentException");
        }
    }

    private static void whole() {
        DeepWings w = new DeepWings();
        for (int layer = 0; layer < 4; layer++) {
            Due.is("all are whole", w.whole(layer), 80);
        }
        Due.is("no layer", w.whole(-1), -1);
        Due.is("no layer", w.whole(4), -1);
        Due.is("no layer", w.whole(LEAST), -1);
        w.stream(5, 5, 1, 2, 0, false);
        Due.is("streams as they are do not count", w.whole(1), 80);
        w.stream(0, 3, 1, 1, 0, true);
        Due.is("one out, one in", w.whole(1), 78);
        Due.is("other layers", w.whole(0), 80);
        for (int x = 1; x < 10; x++) {
            w.stream(x, 3, 1, 1, 0, true);
        }
        Due.is("a river: only its spring isn't whole", w.whole(1), 79);
        w = new DeepWings();
        w.stream(4, 4, 0, 1, 0, true);
        w.stream(5, 4, 0, 0, 1, true);
        w.stream(5, 5, 0, -1, 0, true);
        w.stream(4, 5, 0, 0, -1, true);
        Due.is("a ring is whole", w.whole(0), 80);
        w.stream(4, 4, 0, 2, 0, true);
        Due.is("more goes out than comes in", w.whole(0), 78);
        w = new DeepWings();
        w.stream(0, 0, 2, 1, 0, true);
        w.stream(1, 0, 2, 1, 0, true);
        Due.is("from the corner", w.whole(2), 78);
        w = new DeepWings();
        w.stream(4, 4, 0, 1, -2, true);
        Due.is("out both ways", w.whole(0), 77);
        w.stream(3, 4, 0, 2, 0, true);
        w.stream(4, 5, 0, 1, -1, true);
        Due.is("three come in, three go out; two springs and three ends are not whole", w.whole(0), 75);
    }

    private static void wholeByDepth() {
        DeepWings w = new DeepWings();
        w.sea(9, 0, 0, 2);
        w.sea(0, 7, 0, 0);
        Due.is("layer 0", w.whole(0), 72);
        Due.is("layer 1", w.whole(1), 72);
        Due.is("layer 2", w.whole(2), 63);
        w.stream(1, 0, 2, 1, 0, true);
        w.stream(0, 3, 0, 2, 0, true);
        Due.is("a cell without the layer does not flow", w.whole(2), 63);
        w.stream(2, 0, 2, 0, 1, true);
        Due.is("nor into one that has it", w.whole(2), 63);
        Due.is("nor does land", w.whole(0), 72);
        w.stream(1, 3, 0, -1, 0, true);
        Due.is("but a cell may flow onto land", w.whole(0), 71);
    }
}
