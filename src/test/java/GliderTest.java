/** Promises 6 to 10: glider, about, can, leak, dive. */
public final class GliderTest {
    private static final int LEAST = Integer.MIN_VALUE;
    private static final int MOST = Integer.MAX_VALUE;

    public static void main(String[] args) {
        making();
        telling();
        abilities();
        leaks();
        diveRefusals();
        stepsAndBorders();
        sinkingByDepth();
        nets();
        measuring();
        doubtAround();
        lanes();
        mapLearns();
        mapKeepsBounds();
        mapOfShallowStart();
        Due.end();
    }

    private static void making() {
        DeepWings w = new DeepWings();
        w.sea(55, 55, 0, 0);
        int[][] wrong = {{-1, 0, 0, 0}, {4, 0, 0, 0}, {0, -1, 0, 0}, {0, 10, 0, 0}, {0, 0, -1, 0}, {0, 0, 8, 0},
            {0, 0, 0, -1}, {0, 0, 0, 1000}, {LEAST, 0, 0, 0}, {MOST, 0, 0, 0}, {0, MOST, 0, 0}, {0, 0, LEAST, 0},
            {0, 0, 0, MOST}, {4, 5, 5, 0}};
        for (int[] a : wrong) {
            Due.is("glider", w.glider(a[0], a[1], a[2], a[3]), -1);
        }
        Due.is("on land", w.glider(0, 5, 5, 10), -3);
        Due.is("none made", w.count(0), 0);
        for (int i = 0; i < 8; i++) {
            Due.is("glider", w.glider(i % 4, 9 - i, 7 - i, i == 0 ? 999 : i), i);
        }
        Due.is("no room", w.glider(0, 0, 0, 0), -2);
        Due.is("no room, on land", w.glider(0, 5, 5, 0), -2);
        Due.is("out of range, no room", w.glider(4, 0, 0, 0), -1);
        Due.is("gliders", w.count(0), 8);
        Due.is("kind", w.about(3, 0), 3);
        Due.is("x", w.about(3, 1), 6);
        Due.is("y", w.about(3, 2), 4);
        Due.is("power", w.about(0, 3), 999);
        Due.is("power", w.about(7, 3), 7);
    }

    private static void telling() {
        DeepWings w = new DeepWings();
        w.glider(2, 7, 3, 321);
        int[] first = {2, 7, 3, 321, 0, 0, 0, -4, -4, 0, -4};
        for (int what = 0; what < first.length; what++) {
            Due.is("about " + what, w.about(0, what), first[what]);
        }
        Due.is("about", w.about(0, 11), -1);
        Due.is("about", w.about(0, -1), -1);
        Due.is("about", w.about(0, MOST), -1);
        Due.is("about", w.about(1, 0), -1);
        Due.is("about", w.about(-1, 0), -1);
        Due.is("about", w.about(LEAST, 0), -1);
        w.salt(7, 3, 0, 7);
        w.leak(0, true);
        w.dive(0, 0, 0, 0);
        Due.order(w, "p<1?u;");
        Due.order(w, "p<2?u;");
        w.letter(0, 1);
        w.times(2);
        int[] later = {2, 7, 3, 315, 0, 1, 1, 1, 1, 1, 7};
        for (int what = 0; what < later.length; what++) {
            Due.is("about later " + what, w.about(0, what), later[what]);
        }
    }

    private static void abilities() {
        DeepWings w = new DeepWings();
        int[][] due = {{2, 2, 4, 6, 8, -3}, {1, 3, 2, 3, -3, -3}, {3, 1, 3, 5, 7, 9}, {1, 4, 3, 4, -3, -3}};
        for (int kind = 0; kind < 4; kind++) {
            w.glider(kind, 1, 1, 5);
            for (int what = 0; what < 6; what++) {
                Due.is("can " + kind + " " + what, w.can(kind, what), due[kind][what]);
            }
            w.leak(kind, true);
            for (int what = 0; what < 6; what++) {
                int more = what < 2 || due[kind][what] < 0 ? 0 : 3;
                Due.is("leaking can " + kind + " " + what, w.can(kind, what), due[kind][what] + more);
            }
        }
        Due.is("can", w.can(0, 6), -1);
        Due.is("can", w.can(0, -1), -1);
        Due.is("can", w.can(0, MOST), -1);
        Due.is("can", w.can(0, LEAST), -1);
        Due.is("can", w.can(4, 0), -1);
        Due.is("can", w.can(-1, 0), -1);
    }

    private static void leaks() {
        DeepWings w = new DeepWings();
        w.glider(0, 0, 0, 50);
        Due.is("leak", w.leak(0, false), 0);
        Due.is("leak", w.leak(0, true), 1);
        Due.is("leak", w.leak(0, true), 0);
        Due.is("leaks", w.about(0, 5), 1);
        Due.is("leak", w.leak(0, false), 1);
        Due.is("leaks no more", w.about(0, 5), 0);
        Due.is("leak", w.leak(1, true), -1);
        Due.is("leak", w.leak(-1, true), -1);
        w.leak(0, true);
        w.dive(0, 1, 0, 0);
        Due.is("a leak costs", w.about(0, 3), 41);
        w.fetch(0);
        Due.is("leak of a fetched one", w.leak(0, false), 1);
    }

    private static void diveRefusals() {
        Scene scene = new Scene(s -> {
            s.glider(0, 4, 4, 8);
            s.glider(3, 4, 4, 3);
        });
        int[][] wrong = {{2, 0, 0, 0}, {-1, 0, 0, 0}, {0, -1, 0, 0}, {0, 3, 0, 0}, {0, 0, 3, 0}, {0, 0, 0, -3},
            {0, 0, 2, 1}, {0, 0, -1, -2}, {0, 0, LEAST, 0}, {0, 0, 0, LEAST}, {0, 0, LEAST, LEAST},
            {0, 0, MOST, MOST}, {0, 0, MOST, LEAST}, {0, MOST, 0, 0}, {0, LEAST, 0, 0}, {LEAST, 0, 0, 0},
            {1, 2, 0, 0}, {1, 0, 3, 2}, {1, 0, 5, 0}, {1, 0, LEAST, 4}};
        for (int[] a : wrong) {
            scene.refuses(-1, "dive", a);
        }
        scene.refuses(-3, "dive", 1, 1, 0, 0);
        DeepWings w = scene.made();
        Due.is("power just enough", w.dive(0, 2, 0, 0), 36);
        Due.is("power", w.about(0, 3), 0);
        Due.is("no power", w.dive(0, 0, 0, 0), -3);
        Due.is("power just enough", w.dive(1, 0, 2, -2), 50);
        w.ship(4, 4);
        w.fetch(0);
        Due.is("not up", w.dive(0, 0, 0, 0), -3);
        Due.is("not up, and no such layer", w.dive(0, 3, 0, 0), -1);
    }

    private static void stepsAndBorders() {
        DeepWings w = new DeepWings();
        w.glider(3, 0, 0, 999);
        Due.is("west and south are borders", w.dive(0, 0, -1, -1), 0);
        Due.is("east ahead of north", w.dive(0, 0, 2, 2), 18);
        w.sea(44, 22, 0, 0);
        Due.is("land in the way", w.dive(0, 0, 3, 0), 26);
        Due.is("later steps are tried", w.dive(0, 0, 1, 3), 29);
        w.sea(33, 44, 0, 0);
        Due.is("west round land", w.dive(0, 0, -1, -3), 18);
        Due.is("north", w.dive(0, 0, 0, 4), 22);
        Due.is("north", w.dive(0, 0, 0, 4), 23);
        w.glider(3, 9, 7, 999);
        Due.is("east and north are borders", w.dive(1, 0, 2, 2), 79);
        w.stream(9, 7, 0, -2, -1, false);
        Due.is("streams first", w.dive(1, 0, 1, 0), 70);
        w.stream(8, 6, 0, 2, 2, false);
        Due.is("streams stop at borders", w.dive(1, 0, 0, 0), 79);
        w.stream(9, 7, 0, 1, -2, false);
        Due.is("the north part though the east part was not gone", w.dive(1, 0, 0, 0), 77);
        w.stream(5, 5, 0, 1, 1, false);
        w.sea(66, 55, 0, 0);
        w.glider(0, 5, 5, 99);
        Due.is("streams stop at land", w.dive(2, 0, 0, 0), 46);
        Due.is("power", w.about(2, 3), 95);
    }

    private static void sinkingByDepth() {
        DeepWings w = new DeepWings();
        w.sea(44, 44, 0, 2);
        w.stream(4, 4, 2, 2, 0, false);
        w.stream(4, 4, 1, 0, 1, false);
        w.stream(4, 5, 2, 1, 0, false);
        w.stream(5, 5, 3, 0, 2, false);
        w.glider(2, 4, 4, 100);
        Due.is("layer by layer where it is", w.dive(0, 3, 0, 0), 47);
        Due.is("layer of the reading", w.reading(0, 3), 3);
        w = new DeepWings();
        w.sea(44, 44, 0, 2);
        w.stream(4, 4, 2, 2, 0, false);
        w.stream(4, 4, 3, 2, 0, false);
        w.stream(4, 4, 1, 0, 0, false);
        w.glider(2, 4, 4, 100);
        Due.is("no layer 2, no stream of it", w.dive(0, 3, 0, 0), 36);
        Due.is("it sank to 1", w.reading(0, 3), 1);
        Due.is("cost of layer 3", w.about(0, 3), 91);
        Due.is("it sank to 1 and measures there", w.dive(0, 3, 1, 0), 44);
        Due.is("though the end is deeper", w.reading(1, 3), 1);
        w.sea(66, 44, 0, 1);
        Due.is("an end that is less deep", w.dive(0, 3, 1, 0), 52);
        Due.is("measures at its deepest", w.reading(2, 3), 0);
        Due.is("from there layer 0", w.dive(0, 3, 1, 0), 60);
        Due.is("from there layer 0", w.reading(3, 3), 0);
    }

    private static void nets() {
        DeepWings w = new DeepWings();
        w.stream(4, 4, 0, 1, 0, false);
        w.stream(4, 4, 1, 1, 0, false);
        w.salt(5, 4, 1, 1000);
        w.sea(55, 44, 0, 1);
        w.glider(0, 4, 4, 100);
        Due.is("a net in a layer that isn't there", w.dive(0, 2, 0, 0), 44);
        w.sea(55, 44, 0, 2);
        w.glider(0, 4, 4, 100);
        w.salt(5, 4, 2, 7);
        w.stream(5, 4, 0, 0, 0, true);
        String map = "" + w.cell(4, 4, 0, 5);
        int doubt = w.count(8);
        Due.is("caught in layer 1", w.dive(1, 2, 1, 1), -5);
        Due.is("lost", w.about(1, 4), 2);
        Due.is("there x", w.about(1, 1), 5);
        Due.is("there y", w.about(1, 2), 4);
        Due.is("cost is gone", w.about(1, 3), 92);
        Due.is("not foul", w.about(1, 6), 0);
        Due.is("dives", w.about(1, 9), 1);
        Due.is("no reading", w.about(1, 10), -4);
        Due.is("readings", w.count(5), 1);
        Due.is("doubt stays", w.count(8), doubt);
        Due.same("the map learns nothing", "" + w.cell(4, 4, 0, 5), map);
        Due.is("lost ones", w.count(3), 1);
        Due.is("no more dives", w.dive(1, 0, 0, 0), -3);
        w.glider(0, 4, 4, 100);
        Due.is("layer 0 has no net", w.dive(2, 0, 0, 0), 44);
        w.salt(6, 4, 0, 1000);
        Due.is("heading passes nets", w.dive(2, 0, 1, 0), 52);
        Due.is("one that begins in a net", w.dive(2, 0, 0, 0), -5);
        w.glider(2, 1, 1, 100);
        w.salt(1, 1, 3, 1000);
        w.sea(11, 11, 1, 1);
        Due.is("caught in the last layer", w.dive(3, 3, 0, 0), -5);
        Due.is("no lane for a lost one", w.about(3, 3), 91);
        w.glider(2, 1, 1, 100);
        Due.is("not that deep", w.dive(4, 2, 0, 0), 9);
        w.sea(88, 77, 1, 1);
        w.glider(2, 8, 6, 100);
        w.stream(8, 6, 0, 0, 1, false);
        w.salt(8, 7, 0, 1000);
        Due.is("caught after layer 0", w.dive(5, 3, 0, 0), -5);
        Due.is("with no layer deeper", w.about(5, 2), 7);
    }

    private static void measuring() {
        DeepWings w = new DeepWings();
        w.salt(2, 2, 0, 100);
        w.salt(2, 2, 1, 200);
        w.salt(3, 2, 1, 300);
        w.glider(1, 2, 2, 200);
        w.times(3);
        w.dive(0, 0, 0, 0);
        w.dive(0, 1, 0, 0);
        w.dive(0, 1, 1, 0);
        Due.same("reading 0", Due.readAs(w, 0, false), "100");
        Due.same("reading 1", Due.readAs(w, 1, false), "203");
        Due.same("reading 2", Due.readAs(w, 2, false), "306");
        Due.is("latest", w.about(0, 10), 306);
        Due.is("foul", w.about(0, 6), 3);
        Due.is("dives", w.about(0, 9), 3);
        Due.is("time", w.reading(2, 1), 3);
        Due.is("cell", w.reading(2, 2), 26);
        Due.is("cell", w.reading(1, 2), 18);
        Due.is("layer", w.reading(2, 3), 1);
        Due.is("foul then", w.reading(2, 4), 2);
        w.salt(3, 2, 1, 0);
        Due.same("salt as it was then", Due.readAs(w, 2, false), "306");
    }

    private static void doubtAround() {
        DeepWings w = new DeepWings();
        w.sea(9, 7, 2, 99);
        w.sea(55, 44, 0, 0);
        w.glider(0, 4, 4, 100);
        w.dive(0, 0, 0, 0);
        Due.is("its own", w.cell(4, 4, 0, 2), 0);
        Due.is("west", w.cell(3, 4, 0, 2), 49);
        Due.is("land", w.cell(5, 4, 0, 2), 0);
        Due.is("south", w.cell(4, 3, 0, 2), 49);
        Due.is("north", w.cell(4, 5, 0, 2), 49);
        Due.is("across", w.cell(5, 5, 0, 2), 99);
        Due.is("two off", w.cell(2, 4, 0, 2), 99);
        w.dive(0, 0, 0, 0);
        Due.is("halved again", w.cell(3, 4, 0, 2), 24);
        w.glider(0, 0, 0, 100);
        w.dive(1, 0, 0, 0);
        Due.is("in a corner", w.cell(0, 1, 0, 2), 49);
        Due.is("no wrap", w.cell(0, 7, 0, 2), 99);
        w.sea(0, 0, 2, 99);
        w.dive(1, 0, 1, 0);
        Due.is("the corner beside it", w.cell(0, 0, 0, 2), 49);
        w.glider(0, 9, 7, 100);
        w.dive(2, 0, 0, 0);
        Due.is("in a corner", w.cell(8, 7, 0, 2), 49);
        Due.is("in a corner", w.cell(9, 6, 0, 2), 49);
    }

    private static void lanes() {
        DeepWings w = new DeepWings();
        w.sea(44, 44, 1, 1);
        w.glider(0, 4, 4, 24);
        w.dive(0, 0, 1, 0);
        Due.is("begins in a lane, ends outside", w.about(0, 3), 20);
        w.dive(0, 0, -1, 0);
        Due.is("ends in a lane", w.about(0, 3), 11);
        w.dive(0, 1, 0, 0);
        Due.is("just to 0", w.about(0, 3), 0);
        w.glider(0, 4, 4, 6);
        w.dive(1, 0, 0, 0);
        Due.is("never below 0", w.about(1, 3), 0);
    }

    private static void mapLearns() {
        DeepWings w = new DeepWings();
        w.stream(4, 4, 0, 1, 0, false);
        w.stream(5, 4, 1, 1, -2, false);
        w.stream(4, 4, 2, 1, 1, true);
        w.stream(4, 4, 3, 2, 2, true);
        w.glider(0, 4, 4, 100);
        Due.is("drift of 2 and -2", w.dive(0, 2, 1, 1), 59);
        int[][] due = {{1, -1}, {1, -1}, {2, 0}, {2, 2}};
        for (int layer = 0; layer < 4; layer++) {
            Due.is("map east " + layer, w.cell(4, 4, layer, 5), due[layer][0]);
            Due.is("map north " + layer, w.cell(4, 4, layer, 6), due[layer][1]);
            Due.is("map elsewhere", w.cell(5, 4, layer, 5), 0);
        }
        Due.is("streams stay", w.cell(4, 4, 0, 3), 1);
        w = new DeepWings();
        w.stream(4, 4, 0, 2, -1, false);
        w.stream(4, 4, 0, 2, -1, true);
        w.stream(4, 4, 1, 1, 1, true);
        w.stream(4, 4, 2, -1, -1, true);
        w.glider(0, 4, 4, 100);
        w.dive(0, 2, 0, 0);
        Due.is("as told: stays", w.cell(4, 4, 0, 5), 2);
        Due.is("as told: stays", w.cell(4, 4, 1, 6), 1);
        Due.is("as told: stays", w.cell(4, 4, 2, 5), -1);
        w = new DeepWings();
        w.glider(0, 0, 4, 100);
        w.stream(0, 4, 0, 1, 0, false);
        Due.is("a heading that the border stops", w.dive(0, 0, -2, 0), 4);
        Due.is("is compared with what it would be alone", w.cell(0, 4, 0, 5), 0);
        w.sea(33, 7, 0, 0);
        w.stream(2, 2, 0, 0, 1, false);
        w.glider(0, 2, 2, 100);
        Due.is("land stops the heading", w.dive(1, 0, 1, 0), 19);
        Due.is("no drift east", w.cell(2, 2, 0, 5), 0);
        Due.is("drift north", w.cell(2, 2, 0, 6), 1);
    }

    private static void mapKeepsBounds() {
        DeepWings w = new DeepWings();
        w.glider(2, 0, 0, 999);
        w.stream(0, 0, 0, 2, 2, false);
        w.stream(2, 2, 1, 2, 2, false);
        w.stream(4, 4, 2, 1, 2, false);
        w.stream(0, 0, 0, 2, 2, true);
        w.stream(0, 0, 1, -2, 0, true);
        Due.is("far", w.dive(0, 2, 0, 0), 46);
        Due.is("2 at most", w.cell(0, 0, 0, 5), 2);
        Due.is("2 at most", w.cell(0, 0, 0, 6), 2);
        Due.is("one more", w.cell(0, 0, 1, 5), -1);
        Due.is("one more", w.cell(0, 0, 1, 6), 1);
        Due.is("layer 3 not", w.cell(0, 0, 3, 5), 0);
        w.stream(9, 7, 0, -1, -1, false);
        w.stream(9, 7, 0, -2, -2, true);
        w.stream(9, 7, 1, 2, 2, true);
        w.glider(0, 9, 7, 99);
        w.dive(1, 1, 0, 0);
        Due.is("-2 at least", w.cell(9, 7, 0, 5), -2);
        Due.is("-2 at least", w.cell(9, 7, 0, 6), -2);
        Due.is("one less", w.cell(9, 7, 1, 5), 1);
        Due.is("one less", w.cell(9, 7, 1, 6), 1);
    }

    private static void mapOfShallowStart() {
        DeepWings w = new DeepWings();
        w.sea(44, 44, 0, 1);
        w.stream(4, 4, 0, 1, 0, false);
        w.stream(5, 4, 1, 1, 0, false);
        w.stream(4, 4, 1, 2, 0, true);
        w.glider(0, 4, 4, 99);
        Due.is("sinks where it drifts", w.dive(0, 2, 0, 0), 52);
        Due.is("layer", w.reading(0, 3), 2);
        Due.is("its only layer learns", w.cell(4, 4, 0, 5), 1);
        Due.is("a layer that isn't there doesn't, nor tells", w.cell(4, 4, 1, 5), 2);
        w = new DeepWings();
        w.stream(4, 4, 0, 1, 0, false);
        w.sea(55, 44, 0, 1);
        w.glider(0, 4, 4, 99);
        w.dive(0, 2, 0, 0);
        Due.is("layers to which it sank", w.cell(4, 4, 0, 5), 1);
        Due.is("not deeper", w.cell(4, 4, 1, 5), 0);
    }
}
