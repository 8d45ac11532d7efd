/** Promises 1 to 5: a new object, sea, stream, salt, cell. */
public final class SeaTest {
    private static final int LEAST = Integer.MIN_VALUE;
    private static final int MOST = Integer.MAX_VALUE;

    public static void main(String[] args) {
        newObject();
        seaDepth();
        seaLaneAndDoubt();
        seaRefusals();
        streams();
        saltsAndNets();
        cells();
        Due.end();
    }

    private static void newObject() {
        DeepWings w = new DeepWings();
        for (int x = 0; x < 10; x++) {
            w = new DeepWings();
            for (int y = 0; y < 8; y++) {
                Due.is("new depth", w.cell(x, y, 0, 0), 4);
                Due.is("new lane", w.cell(x, y, 0, 1), 0);
                Due.is("new doubt", w.cell(x, y, 0, 2), 50);
                for (int layer = 0; layer < 4; layer++) {
                    for (int what = 3; what <= 8; what++) {
                        Due.is("new cell " + what, w.cell(x, y, layer, what), 0);
                    }
                }
            }
        }
        w = new DeepWings();
        int[] counts = {0, 0, 0, 0, 0, 0, 0, 0, 4000, 0, 0};
        for (int what = 0; what < counts.length; what++) {
            Due.is("new count " + what, w.count(what), counts[what]);
        }
        Due.is("new next", w.next(), -4);
        Due.is("new restore", w.restore(), -3);
        Due.is("no glider", w.about(0, 0), -1);
        for (int d = 0; d < 8; d++) {
            Due.is("new shelf", w.sum(d), -11);
        }
        Due.is("ship at first", w.ship(9, 7), 0);
        Due.is("no order", w.fault(0), -11);
        Due.same("no reading", Due.readAs(w, 0, false), "IllegalArgumentException");
    }

    private static void seaDepth() {
        DeepWings w = new DeepWings();
        Due.is("sea depth 2", w.sea(13, 25, 0, 2), 12);
        Due.is("in span", w.cell(1, 2, 0, 0), 2);
        Due.is("in span", w.cell(3, 5, 0, 0), 2);
        Due.is("west of span", w.cell(0, 2, 0, 0), 4);
        Due.is("east of span", w.cell(4, 5, 0, 0), 4);
        Due.is("south of span", w.cell(1, 1, 0, 0), 4);
        Due.is("north of span", w.cell(3, 6, 0, 0), 4);
        Due.is("only others change", w.sea(12, 15, 0, 2), 2);
        Due.is("same again", w.sea(12, 15, 0, 2), 0);
        Due.is("whole sea land", w.sea(9, 7, 0, 0), 80);
        Due.is("land has no doubt", w.count(8), 0);
        Due.is("no more change", w.sea(9, 7, 0, 0), 0);
        Due.is("land to water", w.sea(0, 0, 0, 3), 1);
        Due.is("its doubt stays 0", w.cell(0, 0, 0, 2), 0);
    }

    private static void seaLaneAndDoubt() {
        DeepWings w = new DeepWings();
        Due.is("lanes", w.sea(99, 67, 1, 1), 2);
        Due.is("lane", w.cell(9, 7, 0, 1), 1);
        Due.is("no lane", w.cell(9, 5, 0, 1), 0);
        Due.is("lane off", w.sea(9, 77, 1, 0), 1);
        w.sea(22, 22, 0, 0);
        Due.is("lane on land", w.sea(22, 22, 1, 1), 1);
        Due.is("doubt not of land", w.sea(23, 22, 2, 99), 1);
        Due.is("land's doubt", w.cell(2, 2, 0, 2), 0);
        Due.is("doubt", w.cell(3, 2, 0, 2), 99);
        Due.is("doubt 0", w.sea(33, 22, 2, 0), 1);
        Due.is("doubt alike", w.sea(9, 7, 2, 50), 1);
    }

    private static void seaRefusals() {
        Scene scene = new Scene(s -> s.glider(0, 4, 4, 99));
        int[][] wrong = {
            {-1, 0, 0, 1}, {100, 0, 0, 1}, {10, 0, 0, 1}, {98, 0, 0, 1}, {0, 8, 0, 1}, {0, 88, 0, 1},
            {0, 10, 0, 1}, {0, -1, 0, 1}, {0, 100, 0, 1}, {0, 78, 0, 1}, {0, 0, 3, 1}, {0, 0, -1, 1},
            {0, 0, 0, 5}, {0, 0, 0, -1}, {0, 0, 1, 2}, {0, 0, 1, -1}, {0, 0, 2, 100}, {0, 0, 2, -1},
            {LEAST, 0, 0, 1}, {MOST, 0, 0, 1}, {0, LEAST, 0, 1}, {0, MOST, 0, 1}, {0, 0, LEAST, 1},
            {0, 0, MOST, 1}, {0, 0, 0, LEAST}, {0, 0, 2, MOST}, {0, 8, 0, 0}};
        for (int[] a : wrong) {
            scene.refuses(-1, "sea", a);
        }
        scene.refuses(-3, "sea", 49, 47, 0, 0);
        scene.refuses(-3, "sea", 4, 4, 0, 0);
        scene.refuses(-3, "sea", 44, 44, 0, 0);
        DeepWings w = scene.made();
        Due.is("less depth is fine", w.sea(44, 44, 0, 1), 1);
        Due.is("lane 0 and doubt 0 are fine", w.sea(44, 44, 1, 0) + w.sea(44, 44, 2, 0), 1);
        Due.is("beside it", w.sea(33, 44, 0, 0) + w.sea(55, 44, 0, 0), 2);
        Due.is("beside it", w.sea(44, 33, 0, 0) + w.sea(44, 55, 0, 0), 2);
        w.ship(4, 6);
        Due.is("fetched", w.fetch(0), 2);
        Due.is("land where one was fetched", w.sea(44, 44, 0, 0), 1);
    }

    private static void streams() {
        DeepWings w = new DeepWings();
        Due.is("stream", w.stream(3, 4, 1, 2, -2, false), 0);
        Due.is("east", w.cell(3, 4, 1, 3), 2);
        Due.is("north", w.cell(3, 4, 1, 4), -2);
        Due.is("map east", w.cell(3, 4, 1, 5), 0);
        Due.is("map north", w.cell(3, 4, 1, 6), 0);
        Due.is("map", w.stream(3, 4, 1, -1, 1, true), 0);
        Due.is("east stays", w.cell(3, 4, 1, 3), 2);
        Due.is("map east", w.cell(3, 4, 1, 5), -1);
        Due.is("map north", w.cell(3, 4, 1, 6), 1);
        Due.is("other layer", w.cell(3, 4, 0, 3), 0);
        Due.is("other cell", w.cell(4, 3, 1, 3), 0);
        Scene scene = new Scene(x -> x.stream(3, 4, 1, 2, -2, false));
        int[][] wrong = {
            {-1, 0, 0, 0, 0}, {10, 0, 0, 0, 0}, {0, -1, 0, 0, 0}, {0, 8, 0, 0, 0}, {0, 0, -1, 0, 0},
            {0, 0, 4, 0, 0}, {3, 4, 1, 3, 0}, {3, 4, 1, -3, 0}, {3, 4, 1, 0, 3}, {3, 4, 1, 0, -3},
            {LEAST, 0, 0, 0, 0}, {0, MOST, 0, 0, 0}, {0, 0, MOST, 0, 0}, {3, 4, 1, LEAST, 0}, {3, 4, 1, 0, MOST}};
        for (int[] a : wrong) {
            scene.refuses(-1, "stream", a[0], a[1], a[2], a[3], a[4], 0);
            scene.refuses(-1, "stream", a[0], a[1], a[2], a[3], a[4], 1);
        }
        w.sea(0, 0, 0, 0);
        Due.is("every layer has one", w.stream(0, 0, 3, 1, 1, false), 0);
    }

    private static void saltsAndNets() {
        DeepWings w = new DeepWings();
        Due.is("salt", w.salt(9, 7, 3, 999), 1);
        Due.is("salt again", w.salt(9, 7, 3, 999), 0);
        Due.is("salt there", w.cell(9, 7, 3, 7), 999);
        Due.is("salt elsewhere", w.cell(9, 7, 2, 7), 0);
        Due.is("salt 0", w.salt(9, 7, 2, 0), 0);
        Due.is("net", w.salt(9, 7, 3, 1000), 1);
        Due.is("net again", w.salt(9, 7, 3, 1000), 0);
        Due.is("net there", w.cell(9, 7, 3, 8), 1);
        Due.is("net elsewhere", w.cell(9, 7, 2, 8), 0);
        Due.is("salt stays", w.cell(9, 7, 3, 7), 999);
        Due.is("no net", w.salt(9, 7, 2, 1001), 0);
        Due.is("net gone", w.salt(9, 7, 3, 1001), 1);
        Due.is("net gone", w.cell(9, 7, 3, 8), 0);
        Scene scene = new Scene(x -> x.salt(0, 0, 0, 7));
        int[][] wrong = {
            {-1, 0, 0, 5}, {10, 0, 0, 5}, {0, -1, 0, 5}, {0, 8, 0, 5}, {0, 0, -1, 5}, {0, 0, 4, 5},
            {0, 0, 0, -1}, {0, 0, 0, 1002}, {0, 0, 0, LEAST}, {0, 0, 0, MOST}, {LEAST, MOST, 0, 5}};
        for (int[] a : wrong) {
            scene.refuses(-1, "salt", a);
        }
    }

    private static void cells() {
        DeepWings w = new DeepWings();
        Due.is("layer not looked at", w.cell(0, 0, 77, 0), 4);
        Due.is("layer not looked at", w.cell(0, 0, -1, 1), 0);
        Due.is("layer not looked at", w.cell(0, 0, LEAST, 2), 50);
        for (int what = 3; what <= 8; what++) {
            Due.is("layer 4", w.cell(0, 0, 4, what), -1);
            Due.is("layer -1", w.cell(0, 0, -1, what), -1);
            Due.is("layer 3", w.cell(0, 0, 3, what), 0);
        }
        int[][] wrong = {{-1, 0, 0}, {10, 0, 0}, {0, -1, 0}, {0, 8, 0}, {0, 0, -1}, {0, 0, 9}, {LEAST, 0, 3}, {0, MOST, 3}, {0, 0, MOST}};
        for (int[] a : wrong) {
            Due.is("cell", w.cell(a[0], a[1], 0, a[2]), -1);
        }
        w.stream(5, 5, 2, -1, 2, false);
        Due.is("a stream of -1", w.cell(5, 5, 2, 3), -1);
        Due.is("a stream of 2", w.cell(5, 5, 2, 4), 2);
    }
}
