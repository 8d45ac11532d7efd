/** The bounds that the document names for THE SHIP, THE IMAGE and what is told, a test for each sentence: promises 26 to 32. */
public final class ShipBoundsTest {
    public static void main(String[] args) {
        shipAtFirst();
        shipOnLand();
        leftIsCut();
        leftRefusals();
        nextNone();
        leastDivesLeft();
        nearestOfSeveral();
        thenTheLeast();
        threeSteps();
        fetchRefusals();
        noImage();
        imageTime();
        imageHoldsAll();
        goesOnAsItWas();
        imageOfTheFirstMoment();
        imageIsNotInTheImage();
        latestImage();
        shelvesStay();
        roomBehindRestore();
        counts();
        Due.end();
    }

    private static void shipAtFirst() {
        Due.sentence("A SHIP is in a CELL (0, 0 at first).");
        for (int c = 0; c < 80; c++) {
            DeepWings w = new DeepWings();
            Due.call(w, 0, "ship", c / 8, c % 8);
            Due.call(w, c, "ship", 9 - c / 8, 7 - c % 8);
            Due.call(w, 79 - c, "ship", 0, 0);
        }
        Scene.NEW.refusesOutside(-1, 0, 0, 9, "ship", 0, 0);
        Scene.NEW.refusesOutside(-1, 1, 0, 7, "ship", 0, 0);
    }

    private static void shipOnLand() {
        Due.sentence("8 x and y where it was. -1; -3: LAND.");
        for (int depth = 0; depth <= 4; depth++) {
            DeepWings w = new DeepWings();
            w.sea(99, 77, 0, depth);
            Due.call(w, depth == 0 ? -3 : 0, "ship", 9, 7);
            Due.call(w, depth == 0 ? 0 : 79, "ship", 1, 1);
        }
        Scene.RICH.refuses(-3, "ship", 8, 7);
        Scene.RICH.refuses(-1, "ship", 8, 8);
        DeepWings w = new DeepWings();
        w.sea(0, 0, 0, 0);
        Due.call(w, -3, "ship", 0, 0);
        Due.call(w, 0, "ship", 1, 0);
    }

    private static void leftIsCut() {
        Due.sentence("DIVES LEFT of a GLIDER: POWER by COST of a DIVE to LAYER 1 (or SINKS), cut.");
        int[] cost = {6, 3, 5, 4};
        for (int kind = 0; kind < 4; kind++) {
            for (int leak = 0; leak < 2; leak++) {
                for (int power = 0; power <= 40; power++) {
                    DeepWings w = new DeepWings();
                    w.glider(kind, 0, 0, power);
                    w.leak(0, leak == 1);
                    Due.call(w, power / (cost[kind] + 3 * leak), "left", 0);
                }
                DeepWings w = new DeepWings();
                w.glider(kind, 0, 0, 999);
                w.leak(0, leak == 1);
                Due.call(w, 999 / (cost[kind] + 3 * leak), "left", 0);
            }
        }
    }

    private static void leftRefusals() {
        Due.sentence("DIVES LEFT. -1; -3: it isn't UP.");
        Scene.RICH.refusesOutside(-1, 0, 0, 4, "left", 0);
        Scene.FULL.refusesOutside(-1, 0, 0, 7, "left", 0);
        Scene.RICH.refuses(-3, "left", 2);
        Scene.RICH.refuses(-3, "left", 3);
        Scene.RICH.refuses(0, "left", 4);
        Scene.FULL.refuses(0, "left", 7);
    }

    private static void nextNone() {
        Due.sentence("THE FETCHING: which GLIDER; -4: none is UP.");
        Scene.NEW.refuses(-4, "next");
        Scene noneUp = new Scene(w -> {
            w.glider(0, 0, 0, 9);
            w.glider(0, 5, 5, 9);
            w.fetch(0);
            w.salt(5, 5, 0, 1000);
            w.dive(1, 0, 0, 0);
        });
        noneUp.refuses(-4, "next");
        Due.call(noneUp.then(w -> w.glider(0, 9, 7, 0)).made(), 2, "next");
        Scene.RICH.refuses(4, "next");
    }

    private static void leastDivesLeft() {
        Due.sentence("of GLIDERS that are UP the one with the least DIVES LEFT");
        for (int least = 0; least < 8; least++) {
            DeepWings w = new DeepWings();
            for (int g = 0; g < 8; g++) {
                w.glider(0, g == least ? 9 : 0, g == least ? 7 : 0, g == least ? 59 : 60);
            }
            Due.call(w, least, "next");
        }
    }

    private static void nearestOfSeveral() {
        Due.sentence("of several the one nearest to THE SHIP (STEPS east and north together)");
        for (int c = 0; c < 80; c++) {
            DeepWings w = new DeepWings();
            w.ship(c / 8, c % 8);
            int[][] at = {{0, 0}, {9, 7}, {0, 7}, {9, 0}, {4, 4}, {6, 2}};
            int best = 0;
            int nearest = 99;
            for (int g = 0; g < at.length; g++) {
                w.glider(0, at[g][0], at[g][1], 60 + g % 6);
                int off = Math.abs(at[g][0] - c / 8) + Math.abs(at[g][1] - c % 8);
                if (off < nearest) {
                    nearest = off;
                    best = g;
                }
            }
            Due.call(w, best, "next");
        }
    }

    private static void thenTheLeast() {
        Due.sentence("of several the one nearest to THE SHIP (STEPS east and north together), then the least.");
        DeepWings w = new DeepWings();
        w.ship(4, 4);
        int[][] at = {{2, 4}, {4, 6}, {5, 5}, {3, 3}, {4, 2}, {6, 4}, {5, 3}, {3, 5}};
        for (int[] a : at) {
            w.glider(0, a[0], a[1], 99);
        }
        for (int g = 0; g < 8; g++) {
            Due.call(w, g, "next");
            Due.call(w, 2, "fetch", g);
        }
        Due.call(w, -4, "next");
    }

    private static void threeSteps() {
        Due.sentence("A GLIDER is FETCHED: STEPS to THE SHIP. -1; -3: it isn't UP, or is more than 3 STEPS off.");
        for (int c = 0; c < 80; c++) {
            DeepWings w = new DeepWings();
            w.ship(4, 3);
            w.glider(0, c / 8, c % 8, 9);
            int off = Math.abs(c / 8 - 4) + Math.abs(c % 8 - 3);
            Due.call(w, off <= 3 ? off : -3, "fetch", 0);
            Due.call(w, off <= 3 ? 1 : 0, "about", 0, 4);
            Due.call(w, off <= 3 ? 1 : 0, "count", 2);
            Due.call(w, c / 8, "about", 0, 1);
            Due.call(w, c % 8, "about", 0, 2);
        }
    }

    private static void fetchRefusals() {
        Due.sentence("-1; -3: it isn't UP, or is more than 3 STEPS off.");
        Scene.RICH.refusesOutside(-1, 0, 0, 4, "fetch", 0);
        Scene.FULL.refusesOutside(-1, 0, 0, 7, "fetch", 0);
        Scene.RICH.refuses(-3, "fetch", 2);
        Scene.RICH.refuses(-3, "fetch", 3);
        Scene.RICH.refuses(-3, "fetch", 4);
        Scene.RICH.then(w -> w.ship(1, 1)).refuses(-3, "fetch", 2);
        Scene.RICH.then(w -> w.ship(0, 7)).refuses(-3, "fetch", 3);
        Scene.FULL.refuses(-3, "fetch", 0);
        Due.call(Scene.FULL.then(w -> w.ship(0, 1)).made(), 3, "fetch", 0);
    }

    private static void noImage() {
        Due.sentence("THE IMAGE is RESTORED: TIME. -3: there is none.");
        Scene.NEW.refuses(-3, "restore");
        Scene without = new Scene(w -> {
            w.glider(0, 4, 4, 99);
            w.times(9);
            w.dive(0, 2, 1, 1);
        });
        without.refuses(-3, "restore");
        Due.call(without.then(w -> w.image()).made(), 9, "restore");
    }

    private static void imageTime() {
        Due.sentence("THE IMAGE is taken: TIME.");
        for (int time = 0; time <= 400; time += 40) {
            DeepWings w = new DeepWings();
            for (int t = 0; t < time; t += 40) {
                w.times(40);
            }
            Due.call(w, time, "image");
            Due.call(w, time == 400 ? -2 : 0, "times", 1);
            Due.call(w, time, "restore");
            Due.call(w, time, "count", 4);
            Due.call(w, time == 400 ? -2 : 0, "times", 40);
        }
    }

    /** Changes of every sort, more of each than SCENES hold. */
    private static void changeAll(DeepWings w) {
        w.sea(9, 0, 2, 1);
        w.sea(9, 7, 1, 1);
        w.sea(77, 77, 0, 2);
        w.stream(7, 3, 3, 2, 2, false);
        w.stream(7, 3, 3, 2, 2, true);
        w.salt(9, 5, 0, 77);
        w.salt(7, 3, 3, 999);
        w.salt(7, 3, 3, 1000);
        w.glider(3, 9, 3, 500);
        w.leak(0, true);
        w.leak(1, false);
        w.dive(0, 1, 1, 1);
        w.dive(w.count(0) - 1, 0, 1, 1);
        Due.order(w, "x=9?s0;");
        w.letter(0, w.count(7) - 1);
        w.letter(1, 0);
        for (int t = 0; t <= 400; t += 25) {
            w.deaf(t, true);
        }
        w.times(3);
        w.clean(0, 55);
        w.clean(1, 66);
        w.dive(0, 0, 0, 0);
        w.ship(9, 5);
        w.glider(0, 9, 5, 9);
        w.leak(w.count(0) - 1, true);
        w.dive(w.count(0) - 1, 0, 0, 0);
        w.fetch(w.count(0) - 1);
        w.fetch(0);
        w.sea(88, 77, 0, 3);
    }

    private static Scene[] scenes() {
        Scene unused = new Scene(w -> {
            w.glider(2, 4, 4, 500);
            w.glider(1, 2, 2, 400);
        });
        return new Scene[] {Scene.NEW, unused, Scene.RICH, Scene.FULL, Scene.RICH.then(w -> w.restore()),
            Scene.FULL.then(w -> w.restore())};
    }

    /** What is made where changes had made something else ahead of RESTORE. */
    private static void makeAnew(DeepWings w) {
        for (int k = 0; k < 3; k++) {
            w.glider(2 - k, 3 + k, 6, 60 + k);
        }
        Due.order(w, "s=0&p<61?s0;s=0?g331;");
        for (int g = 0; g < 8; g++) {
            w.letter(g, w.count(7) - 1);
        }
        w.times(2);
        w.dive(1, 0, 0, 1);
        w.clean(1, 44);
    }

    private static void goesOnAsItWas() {
        Due.sentence("RESTORED all is as it was then.");
        for (Scene scene : scenes()) {
            Scene restored = scene.then(w -> {
                w.image();
                changeAll(w);
                w.restore();
            });
            Due.isTrue("as new", restored.then(ShipBoundsTest::makeAnew).toldOfSea().equals(scene.then(ShipBoundsTest::makeAnew).toldOfSea()));
        }
    }

    private static void imageHoldsAll() {
        Due.sentence("THE IMAGE: all that there is, but SHELVES (and THE IMAGE); RESTORED all is as it was then.");
        for (Scene scene : scenes()) {
            String then = scene.toldOfSea();
            Scene changed = scene.then(w -> {
                w.image();
                changeAll(w);
            });
            Due.isTrue("it changes", !changed.toldOfSea().equals(then));
            Due.isTrue("restored", changed.then(w -> w.restore()).toldOfSea().equals(then));
        }
    }

    private static void imageOfTheFirstMoment() {
        Due.sentence("RESTORED all is as it was then.");
        DeepWings w = new DeepWings();
        Due.call(w, 0, "image");
        Due.text(w, 0, "p<1?u;");
        for (int g = 0; g < 8; g++) {
            w.glider(0, g, g, 99);
        }
        for (int k = 0; k < 10; k++) {
            w.order(0);
        }
        w.times(40);
        Due.call(w, 0, "restore");
        Due.call(w, -1, "about", 0, 0);
        Due.call(w, 0, "glider", 1, 0, 0, 99);
        Due.call(w, -1, "letter", 0, 0);
        Due.call(w, 0, "order", 0);
        Due.call(w, 1, "letter", 0, 0);
        Due.call(w, -4, "known", 0, 400);
        Due.call(w, -4, "about", 0, 8);
    }

    private static void imageIsNotInTheImage() {
        Due.sentence("all that there is, but SHELVES (and THE IMAGE)");
        Scene scene = Scene.RICH.then(w -> w.image());
        String then = scene.toldOfSea();
        for (int k = 1; k <= 3; k++) {
            scene = scene.then(ShipBoundsTest::changeLittle).then(w -> w.restore());
            Due.isTrue("restored " + k + " times", scene.toldOfSea().equals(then));
        }
    }

    private static void changeLittle(DeepWings w) {
        w.glider(0, 9, 6, 9);
        w.dive(0, 1, 1, 0);
        w.times(2);
        w.letter(0, 0);
        w.sea(0, 0, 2, 5);
    }

    private static void latestImage() {
        Due.sentence("THE IMAGE is taken: TIME.");
        DeepWings w = new DeepWings();
        w.glider(0, 4, 4, 99);
        w.image();
        w.glider(1, 5, 5, 88);
        w.times(2);
        Due.call(w, 2, "image");
        w.times(3);
        w.glider(2, 6, 6, 77);
        Due.call(w, 2, "restore");
        Due.call(w, 2, "count", 0);
        Due.call(w, 88, "about", 1, 3);
        w.times(1);
        Due.call(w, 3, "image");
        Due.call(w, 3, "restore");
    }

    private static void shelvesStay() {
        Due.sentence("THE IMAGE: all that there is, but SHELVES");
        DeepWings w = new DeepWings();
        w.glider(2, 4, 4, 99);
        w.keep(0, 1, 0);
        w.row(1, 1, 3);
        w.keep(2, 1, 0);
        w.image();
        w.glider(3, 9, 7, 5);
        w.dive(0, 0, 0, 0);
        w.keep(0, 1, 1);
        w.put(1, 0, 7);
        w.keep(2, 0, 0);
        w.row(3, 2, 80);
        w.restore();
        Due.call(w, 2 * (100 + 10 + 4 + 3), "sum", 0);
        Due.call(w, 100 + 79, "toss", 0);
        Due.call(w, 7, "element", 1, 0);
        Due.call(w, -11, "sum", 2);
        Due.call(w, 0, "element", 3, 79);
        Due.call(w, -1, "keep", 4, 1, 1);
        w.keep(0, 1, 0);
        Due.call(w, 100 + 30 + 1 + 99, "sum", 0);
    }

    private static void roomBehindRestore() {
        Due.sentence("RESTORED all is as it was then.");
        DeepWings w = Scene.FULL.made();
        Due.call(w, 400, "image");
        w.restore();
        Due.call(w, -2, "glider", 0, 0, 0, 0);
        Due.call(w, -2, "order", 7);
        Due.call(w, -2, "letter", 0, 0);
        Due.call(w, -2, "clean", 0, 0);
        Due.call(w, -2, "times", 1);
        w = Scene.FULL.made();
        Due.call(w, 26, "restore");
        Due.call(w, 8, "count", 6);
        Due.call(w, 9, "letter", 7, 0);
        Due.call(w, 0, "count", 9);
        Due.call(w, 1, "clean", 7, 0);
        Due.call(w, 0, "times", 40);
        Due.call(w, 66, "count", 4);
    }

    private static void counts() {
        Due.sentence("10 POWER of all; -1 for others.");
        for (Scene scene : new Scene[] {Scene.NEW, Scene.RICH, Scene.FULL}) {
            scene.refusesOutside(-1, 0, 0, 10, "count", 0);
        }
        int[] rich = {5, 3, 1, 1, 3, 6, 6, 2};
        for (int what = 0; what < rich.length; what++) {
            Due.call(Scene.RICH.made(), rich[what], "count", what);
        }
        DeepWings w = new DeepWings();
        for (int g = 0; g < 8; g++) {
            w.glider(g % 4, 0, 0, 999);
        }
        w.fetch(0);
        w.salt(0, 0, 0, 1000);
        w.dive(1, 0, 0, 0);
        Due.call(w, 8 * 999 - 2, "count", 10);
        Due.call(w, 6, "count", 1);
        Due.call(w, 1, "count", 2);
        Due.call(w, 1, "count", 3);
    }
}
