/** The bounds that the document names for PROBES, a test for each sentence: promises 19 to 21. */
public final class ProbeBoundsTest {
    public static void main(String[] args) {
        tooMuch();
        sixtyCleanings();
        refusalsOfClean();
        foulIs0();
        cut();
        cutAtTheBounds();
        laterThanIt();
        asCallsTell();
        ofItsGlider();
        theFirstSuchOne();
        withoutCleaning();
        foulOfDivesNotKept();
        readingBounds();
        readBounds();
        Due.end();
    }

    /** An object whose GLIDER 0 made so many DIVES where SALT is 500. */
    private static DeepWings dived(int dives) {
        DeepWings w = new DeepWings();
        w.glider(1, 4, 4, 999);
        w.salt(4, 4, 0, 500);
        for (int k = 0; k < dives; k++) {
            w.dive(0, 0, 0, 0);
        }
        return w;
    }

    private static void tooMuch() {
        Due.sentence("(TOO MUCH, -2000 .. 2000)");
        for (int much : new int[] {-2000, -1999, -1, 0, 1, 1999, 2000}) {
            DeepWings w = dived(1);
            Due.call(w, 1, "clean", 0, much);
            Due.call(w, 500 - much, "read", 0, 1);
            Due.call(w, 500, "read", 0, 0);
        }
        Scene.RICH.refusesOutside(-1, 1, -2000, 2000, "clean", 0, 0);
        Scene.FULL.refusesOutside(-1, 1, -2000, 2000, "clean", 0, 0);
    }

    private static void sixtyCleanings() {
        Due.sentence("A CLEANING: how many there were. -1; -2: 60.");
        DeepWings w = dived(2);
        w.glider(0, 0, 0, 99);
        for (int k = 1; k <= 60; k++) {
            Due.call(w, k, "clean", k % 2, 5);
            Due.call(w, k, "count", 9);
        }
        w.dive(0, 0, 0, 0);
        Due.call(w, -2, "clean", 0, 5);
        Due.call(w, -2, "clean", 1, 5);
        Due.call(w, 60, "count", 9);
        Due.call(w, 1, "about", 0, 6);
        Due.call(w, 500, "read", 2, 1);
    }

    private static void refusalsOfClean() {
        Due.sentence("Answers of several refusals are the first one here");
        Scene.RICH.refusesOutside(-1, 0, 0, 4, "clean", 0, 0);
        Scene.FULL.refusesOutside(-1, 0, 0, 7, "clean", 0, 0);
        Scene.FULL.refuses(-2, "clean", 0, 2000);
        Scene.FULL.refuses(-2, "clean", 7, -2000);
        Scene.FULL.refuses(-1, "clean", 0, 2001);
        Scene.FULL.refuses(-1, "clean", 8, 2001);
        Scene foul = Scene.FULL.then(w -> {
            w.restore();
            for (int k = 0; k < 60; k++) {
                w.clean(1, k);
            }
        });
        Due.call(foul.made(), 25, "about", 0, 6);
        foul.refuses(-2, "clean", 0, 0);
    }

    private static void foulIs0() {
        Due.sentence("FOUL is 0 then.");
        DeepWings w = dived(3);
        w.glider(0, 4, 4, 99);
        w.dive(1, 0, 0, 0);
        Due.call(w, 3, "about", 0, 6);
        w.clean(0, 9);
        Due.call(w, 0, "about", 0, 6);
        Due.call(w, 1, "about", 1, 6);
        w.clean(0, 9);
        Due.call(w, 0, "about", 0, 6);
        w.dive(0, 0, 0, 0);
        Due.call(w, 1, "about", 0, 6);
        Due.call(w, 0, "reading", 4, 4);
        Due.call(w, 500, "read", 4, 0);
    }

    private static void cut() {
        Due.sentence("it less TOO MUCH of the first such one times (its FOUL and 1) by FOUL as it was right ahead of that CLEANING, cut");
        int[][] due = {{3, 10, 3, 6, 10}, {3, -10, -3, -6, -10}, {3, 1, 0, 0, 1}, {3, -1, 0, 0, -1}, {3, 2, 0, 1, 2},
            {3, -2, 0, -1, -2}, {2, 1, 0, 1}, {2, -1, 0, -1}, {2, 3, 1, 3}, {2, -3, -1, -3}, {1, 7, 7}, {1, -7, -7},
            {4, 5, 1, 2, 3, 5}, {4, -5, -1, -2, -3, -5}, {3, 0, 0, 0, 0}};
        for (int[] d : due) {
            DeepWings w = dived(d[0]);
            w.clean(0, d[1]);
            for (int r = 0; r < d[0]; r++) {
                Due.call(w, 500 + 3 * r - d[2 + r], "read", r, 1);
                Due.call(w, 500 + 3 * r, "read", r, 0);
            }
        }
    }

    private static void cutAtTheBounds() {
        Due.sentence("TOO MUCH of the first such one times (its FOUL and 1) by FOUL as it was right ahead of that CLEANING, cut");
        for (int sign = -1; sign <= 1; sign += 2) {
            DeepWings w = dived(150);
            w.clean(0, 2000 * sign);
            for (int r = 0; r < 150; r++) {
                Due.call(w, 500 + 3 * r - sign * (2000 * (r + 1) / 150), "read", r, 1);
            }
        }
    }

    private static void laterThanIt() {
        Due.sentence("if a CLEANING of its GLIDER came later than it");
        for (int ahead = 0; ahead <= 3; ahead++) {
            DeepWings w = dived(ahead);
            w.clean(0, 60);
            for (int k = ahead; k < 3; k++) {
                w.dive(0, 0, 0, 0);
            }
            for (int r = 0; r < 3; r++) {
                int foul = r < ahead ? r : r - ahead;
                Due.call(w, foul, "reading", r, 4);
                Due.call(w, r < ahead ? 500 + 3 * r - 60 * (r + 1) / ahead : 500, "read", r, 1);
            }
        }
    }

    private static void asCallsTell() {
        Due.sentence("(READINGS and CLEANINGS come one behind the other as calls tell, and as DIVES come.)");
        DeepWings w = Due.ordered(0, 4, 4, 99, "p>0?s0;");
        w.times(3);
        Due.call(w, 1, "clean", 0, 50);
        w.dive(0, 0, 0, 0);
        Due.call(w, 2, "clean", 0, 7);
        w.times(2);
        Due.call(w, 5, "count", 5);
        int[] due = {-25, 3 - 50, -7, 0, 0};
        for (int r = 0; r < due.length; r++) {
            Due.call(w, due[r], "read", r, 1);
        }
        Due.call(w, 3, "clean", 0, 20);
        Due.call(w, -10, "read", 3, 1);
        Due.call(w, 3 - 20, "read", 4, 1);
    }

    private static void ofItsGlider() {
        Due.sentence("if a CLEANING of its GLIDER came later than it");
        DeepWings w = dived(2);
        w.glider(1, 4, 4, 99);
        w.dive(1, 0, 0, 0);
        Due.call(w, 1, "clean", 1, 40);
        Due.call(w, 500, "read", 0, 1);
        Due.call(w, 500, "read", 1, 1);
        Due.call(w, 460, "read", 2, 1);
        Due.call(w, 2, "clean", 0, 20);
        Due.call(w, 490, "read", 0, 1);
        Due.call(w, 483, "read", 1, 1);
        Due.call(w, 460, "read", 2, 1);
    }

    private static void theFirstSuchOne() {
        Due.sentence("TOO MUCH of the first such one");
        DeepWings w = dived(1);
        w.clean(0, 10);
        w.clean(0, 99);
        w.dive(0, 0, 0, 0);
        w.dive(0, 0, 0, 0);
        w.clean(0, 30);
        w.clean(0, 77);
        Due.call(w, 490, "read", 0, 1);
        Due.call(w, 485, "read", 1, 1);
        Due.call(w, 473, "read", 2, 1);
    }

    private static void withoutCleaning() {
        Due.sentence("else it less 3 times its FOUL");
        DeepWings w = dived(4);
        for (int r = 0; r < 4; r++) {
            Due.call(w, 500 + 3 * r, "read", r, 0);
            Due.call(w, 500, "read", r, 1);
        }
        w.salt(4, 4, 0, 0);
        w.dive(0, 0, 0, 0);
        Due.call(w, 12, "read", 4, 0);
        Due.call(w, 0, "read", 4, 1);
    }

    private static void foulOfDivesNotKept() {
        Due.sentence("FOUL as it was right ahead of that CLEANING");
        DeepWings w = GliderBoundsTest.readings(199);
        w.glider(0, 9, 0, 99);
        w.salt(9, 0, 0, 300);
        for (int k = 0; k < 4; k++) {
            w.dive(7, 0, 0, 0);
        }
        Due.call(w, 200, "count", 5);
        Due.call(w, 300, "read", 199, 1);
        w.clean(7, 40);
        Due.call(w, 300 - 40 / 4, "read", 199, 1);
        w.clean(6, 0);
        w.dive(7, 0, 0, 0);
        w.clean(7, 80);
        Due.call(w, 300 - 40 / 4, "read", 199, 1);
    }

    private static void readingBounds() {
        Due.sentence("Of a READING: 0 its GLIDER, 1 TIME, 2 the CELL as 8 x and y, 3 LAYER, 4 FOUL then. -1.");
        DeepWings w = new DeepWings();
        w.glider(2, 9, 7, 99);
        w.glider(0, 0, 0, 99);
        w.times(1);
        w.dive(0, 3, 0, 0);
        w.dive(0, 0, 0, 0);
        w.dive(1, 1, 0, 0);
        int[][] due = {{0, 1, 79, 3, 0}, {0, 1, 79, 0, 1}, {1, 1, 0, 1, 0}};
        for (int r = 0; r < 3; r++) {
            for (int what = 0; what < 5; what++) {
                Due.call(w, due[r][what], "reading", r, what);
            }
        }
        Scene.NEW.refusesOutside(-1, 0, 0, -1, "reading", 0, 0);
        Scene.RICH.refusesOutside(-1, 0, 0, 5, "reading", 0, 0);
        Scene.RICH.refusesOutside(-1, 1, 0, 4, "reading", 0, 0);
        Scene.FULL.refusesOutside(-1, 0, 0, 199, "reading", 0, 4);
        Due.call(Scene.RICH.made(), 6, "count", 5);
        Due.call(Scene.RICH.made(), 1, "reading", 5, 0);
        Due.call(Scene.FULL.made(), 7, "reading", 199, 0);
        Due.call(Scene.FULL.made(), 24, "reading", 199, 4);
    }

    private static void readBounds() {
        Due.sentence("A READING as it was (right false), or put RIGHT. IllegalArgumentException: no such.");
        for (int right = 0; right < 2; right++) {
            Scene.NEW.refusesOutside("IllegalArgumentException", 0, 0, -1, "read", 0, right);
            Scene.RICH.refusesOutside("IllegalArgumentException", 0, 0, 5, "read", 0, right);
            Scene.FULL.refusesOutside("IllegalArgumentException", 0, 0, 199, "read", 0, right);
        }
        Due.call(Scene.FULL.made(), 72, "read", 199, 0);
        Due.call(Scene.FULL.made(), 72 - 7, "read", 199, 1);
    }
}
