/** Promises 26 to 32: ship, left, next, fetch, image, restore, count. */
public final class ShipTest {
    private static final int LEAST = Integer.MIN_VALUE;
    private static final int MOST = Integer.MAX_VALUE;

    public static void main(String[] args) {
        ship();
        left();
        next();
        fetch();
        image();
        imageIsWhole();
        imageTwice();
        counts();
        Due.end();
    }

    private static void ship() {
        DeepWings w = new DeepWings();
        w.sea(55, 55, 0, 0);
        Due.is("from 0, 0", w.ship(3, 2), 0);
        Due.is("from 3, 2", w.ship(9, 7), 26);
        Due.is("land", w.ship(5, 5), -3);
        int[][] wrong = {{-1, 0}, {10, 0}, {0, -1}, {0, 8}, {LEAST, 0}, {0, MOST}};
        for (int[] a : wrong) {
            Due.is("ship", w.ship(a[0], a[1]), -1);
        }
        Due.is("it stayed", w.ship(0, 0), 79);
        w.sea(0, 0, 0, 0);
        Due.is("from where land is now", w.ship(1, 1), 0);
    }

    private static void left() {
        DeepWings w = new DeepWings();
        int[] due = {16, 33, 20, 25};
        int[] leaking = {11, 16, 12, 14};
        for (int kind = 0; kind < 4; kind++) {
            w.glider(kind, 0, 0, 100);
            Due.is("left", w.left(kind), due[kind]);
            w.leak(kind, true);
            Due.is("left", w.left(kind), leaking[kind]);
        }
        Due.is("left", w.left(4), -1);
        Due.is("left", w.left(-1), -1);
        w.fetch(0);
        Due.is("not up", w.left(0), -3);
        w.glider(0, 0, 0, 5);
        Due.is("none", w.left(4), 0);
    }

    private static void next() {
        DeepWings w = new DeepWings();
        Due.is("none", w.next(), -4);
        w.glider(0, 4, 4, 60);
        w.glider(1, 0, 0, 30);
        w.glider(2, 9, 7, 50);
        Due.is("all 10 dives: the nearest", w.next(), 1);
        w.ship(9, 6);
        Due.is("nearest now", w.next(), 2);
        w.ship(5, 5);
        Due.is("nearest now", w.next(), 0);
        w.glider(0, 5, 5, 66);
        Due.is("11 dives are more", w.next(), 0);
        w.glider(0, 0, 7, 59);
        Due.is("9 dives are least", w.next(), 4);
        w.leak(3, true);
        Due.is("7 dives are least", w.next(), 3);
        w.fetch(3);
        Due.is("it is fetched", w.next(), 4);
        w = new DeepWings();
        w.glider(0, 2, 1, 60);
        w.glider(0, 1, 2, 60);
        w.glider(0, 0, 3, 61);
        Due.is("then the least number", w.next(), 0);
        w.fetch(0);
        Due.is("then the next", w.next(), 1);
        w.fetch(1);
        w.fetch(2);
        Due.is("none is up", w.next(), -4);
    }

    private static void fetch() {
        DeepWings w = new DeepWings();
        w.glider(0, 4, 4, 60);
        w.glider(0, 4, 5, 60);
        w.ship(3, 2);
        Due.is("three steps", w.fetch(0), 3);
        Due.is("four steps", w.fetch(1), -3);
        Due.is("up", w.about(1, 4), 0);
        Due.is("fetched", w.about(0, 4), 1);
        Due.is("power stays", w.about(0, 3), 60);
        Due.is("x stays", w.about(0, 1), 4);
        Due.is("again", w.fetch(0), -3);
        Due.is("fetch", w.fetch(2), -1);
        Due.is("fetch", w.fetch(-1), -1);
        w.ship(4, 5);
        Due.is("no steps", w.fetch(1), 0);
        w.glider(0, 4, 5, 60);
        w.salt(4, 5, 0, 1000);
        w.dive(2, 0, 0, 0);
        Due.is("a lost one", w.fetch(2), -3);
    }

    private static void image() {
        DeepWings w = new DeepWings();
        Due.is("none", w.restore(), -3);
        w.times(7);
        Due.is("image", w.image(), 7);
        w.times(3);
        Due.is("restore", w.restore(), 7);
        Due.is("time", w.count(4), 7);
        w.times(1);
        Due.is("restore again", w.restore(), 7);
        w.times(2);
        Due.is("a later image", w.image(), 9);
        w.times(2);
        Due.is("restore", w.restore(), 9);
    }

    private static final Scene RICH = new Scene(ShipTest::fill);

    private static void fill(DeepWings w) {
        w.sea(88, 77, 0, 0);
        w.sea(22, 22, 1, 1);
        w.stream(3, 3, 1, 1, 1, false);
        w.stream(4, 3, 1, 1, 1, true);
        w.salt(3, 3, 0, 55);
        w.salt(6, 6, 0, 1000);
        w.glider(0, 3, 3, 200);
        w.glider(3, 3, 3, 200);
        w.leak(1, true);
        w.dive(0, 2, 0, 0);
        w.clean(0, 6);
        w.dive(0, 2, 0, 0);
        w.ship(2, 2);
        Due.order(w, "p>0?g662;");
        w.letter(0, 0);
        w.letter(1, 0);
        w.deaf(4, true);
        w.times(2);
        w.letter(1, 0);
        w.keep(0, 1, 0);
    }

    private static void imageIsWhole() {
        Scene changed = RICH.then(ShipTest::imageAndChanges);
        Due.isTrue("it changes", !changed.toldOfSea().equals(RICH.toldOfSea()));
        Due.isTrue("all as it was then", changed.then(w -> w.restore()).toldOfSea().equals(RICH.toldOfSea()));
        behindTheImage(changed.made());
        goesOnAlike();
    }

    private static void imageAndChanges(DeepWings w) {
        Due.is("image", w.image(), 2);
        w.sea(9, 0, 0, 2);
        w.sea(9, 7, 1, 1);
        w.sea(9, 7, 2, 9);
        for (int i = 0; i < 320; i += 7) {
            w.stream(i / 32, i / 4 % 8, i % 4, -1, 1, i % 2 == 0);
            w.stream(i / 32, i / 4 % 8, i % 4, 1, -1, i % 2 == 1);
            w.salt(i / 32, i / 4 % 8, i % 4, 9);
            w.salt(i / 32, i / 4 % 8, i % 4, i % 3 == 0 ? 1000 : 1001);
        }
        w.glider(2, 0, 0, 9);
        w.dive(1, 0, 2, 2);
        w.clean(1, 60);
        w.dive(0, 0, 0, 0);
        w.leak(0, true);
        w.leak(1, false);
        Due.order(w, "p>0?u;");
        w.letter(0, 1);
        w.deaf(5, true);
        w.deaf(4, false);
        w.times(9);
        w.ship(0, 0);
        w.keep(1, 1, 2);
        w.row(2, 0, 4);
    }

    private static void behindTheImage(DeepWings w) {
        Due.is("restore", w.restore(), 2);
        Due.is("the ship", w.ship(2, 2), 18);
        Due.is("shelves stay", w.sum(1), 140);
        Due.is("shelves stay", w.fault(2), 0);
        Due.is("deaf as then", w.deaf(4, true), 0);
        Due.is("deaf as then", w.deaf(5, false), 0);
        Due.is("no order 1", w.letter(0, 1), -1);
        Due.is("a new order 1", Due.order(w, "p>0?s0;"), 1);
        Due.is("a new glider 2", w.glider(1, 5, 5, 77), 2);
        Due.is("with nothing of the old one", w.about(2, 0) + w.about(2, 9) + w.about(2, 3), 78);
    }

    /** What follows a RESTORE is what would have followed then. */
    private static void goesOnAlike() {
        Scene straight = RICH.then(w -> w.times(10));
        Scene again = RICH.then(w -> {
            w.image();
            w.times(20);
            w.restore();
            w.times(10);
        });
        Due.isTrue("goes on alike", again.toldOfSea().equals(straight.toldOfSea()));
    }

    private static void imageTwice() {
        DeepWings w = new DeepWings();
        w.glider(0, 1, 1, 50);
        w.image();
        w.dive(0, 0, 1, 0);
        w.restore();
        w.dive(0, 0, 0, 1);
        Due.is("the image is not what goes on", w.restore(), 0);
        Due.is("x", w.about(0, 1), 1);
        Due.is("y", w.about(0, 2), 1);
        w.glider(1, 2, 2, 30);
        w.times(4);
        w.restore();
        Due.is("one glider", w.count(0), 1);
        Due.is("again a glider", w.glider(2, 3, 3, 20), 1);
        Due.is("of its own kind", w.about(1, 0), 2);
        Due.is("never heard", w.about(1, 8), -4);
        Due.is("never fixed", w.known(1, 400), -4);
        usedAgain();
    }

    /** What comes behind a RESTORE has nothing of what came behind THE IMAGE. */
    private static void usedAgain() {
        DeepWings w = new DeepWings();
        w.glider(0, 1, 1, 50);
        Due.order(w, "s=0?u;");
        Due.order(w, "p<9?u;");
        w.image();
        w.glider(3, 2, 2, 300);
        w.leak(1, true);
        w.salt(2, 2, 0, 5);
        w.dive(0, 0, 0, 0);
        w.dive(1, 0, 0, 0);
        w.letter(1, 1);
        w.times(2);
        w.salt(2, 2, 0, 1000);
        w.dive(1, 0, 0, 0);
        Due.is("lost", w.about(1, 4), 2);
        w.restore();
        Due.is("no reading then", w.about(0, 10), -4);
        Due.is("a glider", w.glider(1, 3, 4, 44), 1);
        int[] first = {1, 3, 4, 44, 0, 0, 0, -4, -4, 0, -4};
        for (int what = 0; what < first.length; what++) {
            Due.is("a new glider " + what, w.about(1, what), first[what]);
        }
        Due.is("a letter", w.letter(1, 0), 1);
        Due.is("waits", w.waiting(1), 1);
        w.times(2);
        Due.is("its order", w.about(1, 7), 0);
        Due.is("s is 0 without a reading", w.rule(1), 0);
    }

    private static void counts() {
        DeepWings w = new DeepWings();
        Due.is("count", w.count(-1), -1);
        Due.is("count", w.count(11), -1);
        Due.is("count", w.count(LEAST), -1);
        Due.is("count", w.count(MOST), -1);
        w.glider(0, 0, 0, 100);
        w.glider(0, 0, 0, 20);
        w.glider(1, 7, 7, 3);
        w.glider(0, 4, 4, 50);
        w.fetch(1);
        w.salt(0, 0, 0, 1000);
        w.dive(0, 0, 0, 0);
        w.dive(2, 0, 0, -1);
        w.dive(2, 0, 0, 0);
        w.clean(2, 3);
        Due.order(w, "p<1?u;");
        Due.order(w, "p<1?u;");
        w.letter(2, 0);
        w.letter(2, 0);
        w.letter(2, 0);
        int[] due = {4, 2, 1, 1, 0, 1, 3, 2, 4000 - 150, 1, 96 + 20 + 1 + 50};
        for (int what = 0; what < due.length; what++) {
            Due.is("count " + what, w.count(what), due[what]);
        }
        w.times(5);
        Due.is("time", w.count(4), 5);
    }
}
