/** The bounds that the document names for LETTERS and TIME, a test for each sentence: promises 13 to 15, 17 and 18. */
public final class TimeBoundsTest {
    public static void main(String[] args) {
        sixtyLetters();
        refusalsOfLetter();
        waiting();
        heardBehindItsTime();
        lastOfThoseAtOnce();
        lettersOfOneTime();
        onlyUpHears();
        deafBounds();
        deafAtItsTime();
        toldAheadOrNot();
        nobodyHearsThen();
        timesBounds();
        timeIs400AtMost();
        beyond400();
        howManyDives();
        hearingAheadOfDoing();
        glidersByNumbers();
        doubtGrows();
        knownBounds();
        knownByThen();
        lastFix();
        Due.end();
    }

    private static void sixtyLetters() {
        Due.sentence("A LETTER is sent: how many there are. -1; -2: there are 60.");
        DeepWings w = new DeepWings();
        w.glider(0, 0, 0, 9);
        w.glider(0, 0, 0, 9);
        Due.order(w, "p<1?u;");
        for (int k = 1; k <= 60; k++) {
            Due.call(w, k, "letter", k % 2, 0);
            Due.call(w, k, "count", 6);
        }
        Due.call(w, -2, "letter", 0, 0);
        Due.call(w, 60, "count", 6);
        Due.call(w, 30, "waiting", 0);
        w.times(2);
        Due.call(w, -2, "letter", 1, 0);
        Due.call(w, 0, "waiting", 1);
    }

    private static void refusalsOfLetter() {
        Due.sentence("Answers of several refusals are the first one here");
        Scene.RICH.refusesOutside(-1, 0, 0, 4, "letter", 0, 0);
        Scene.RICH.refusesOutside(-1, 1, 0, 1, "letter", 0, 0);
        Scene.FULL.refuses(-2, "letter", 0, 0);
        Scene.FULL.refuses(-2, "letter", 7, 9);
        Scene.FULL.refusesOutside(-1, 0, 0, 7, "letter", 0, 0);
        Scene.FULL.refusesOutside(-1, 1, 0, 9, "letter", 0, 0);
    }

    private static void waiting() {
        Due.sentence("How many LETTERS to a GLIDER it didn't hear yet. -1.");
        Scene.RICH.refusesOutside(-1, 0, 0, 4, "waiting", 0);
        Scene.FULL.refusesOutside(-1, 0, 0, 7, "waiting", 0);
        DeepWings w = Scene.RICH.made();
        int[] due = {2, 1, 0, 1, 0};
        for (int g = 0; g < due.length; g++) {
            Due.call(w, due[g], "waiting", g);
        }
    }

    private static void heardBehindItsTime() {
        Due.sentence("it is sent at TIME, and heard at the first TIME behind that at which the GLIDER is UP and hears");
        for (int sent = 0; sent < 4; sent++) {
            DeepWings w = new DeepWings();
            w.glider(0, 0, 0, 9);
            Due.order(w, "p<1?u;");
            for (int t = 0; t < 6; t++) {
                if (t == sent) {
                    w.letter(0, 0);
                }
                Due.call(w, t > sent + 1 ? 0 : -4, "about", 0, 7);
                Due.call(w, t >= sent && t <= sent + 1 ? 1 : 0, "waiting", 0);
                w.times(1);
            }
        }
    }

    private static void lastOfThoseAtOnce() {
        Due.sentence("(the last one of those that it hears at once)");
        for (int last = 0; last < 4; last++) {
            DeepWings w = new DeepWings();
            w.glider(0, 0, 0, 9);
            w.glider(0, 0, 0, 9);
            for (int k = 0; k < 4; k++) {
                Due.order(w, "p<1?u;");
            }
            w.deaf(1, true);
            w.letter(0, 3);
            w.letter(0, (last + 1) % 4);
            w.times(1);
            w.letter(0, last);
            w.letter(1, 0);
            w.times(1);
            Due.call(w, -4, "about", 0, 7);
            Due.call(w, 3, "waiting", 0);
            w.times(1);
            Due.call(w, last, "about", 0, 7);
            Due.call(w, 0, "about", 1, 7);
            Due.call(w, 0, "waiting", 0);
        }
    }

    private static void lettersOfOneTime() {
        Due.sentence("each hears LETTERS sent ahead of TIME that it did not hear yet");
        DeepWings w = new DeepWings();
        w.glider(0, 0, 0, 9);
        Due.order(w, "p<1?u;");
        Due.order(w, "p<1?u;");
        w.letter(0, 0);
        w.times(1);
        w.letter(0, 1);
        w.times(1);
        Due.call(w, 0, "about", 0, 7);
        Due.call(w, 1, "waiting", 0);
        w.times(1);
        Due.call(w, 1, "about", 0, 7);
        w.times(1);
        Due.call(w, 1, "about", 0, 7);
    }

    private static void onlyUpHears() {
        Due.sentence("GLIDERS by numbers that are UP: if TIME isn't DEAF");
        DeepWings w = Scene.RICH.made();
        Due.call(w, 7, "letter", 2, 0);
        Due.call(w, 8, "letter", 3, 0);
        w.times(20);
        Due.call(w, 1, "waiting", 2);
        Due.call(w, 2, "waiting", 3);
        Due.call(w, 0, "waiting", 0);
        Due.call(w, -4, "about", 2, 7);
        Due.call(w, -4, "about", 2, 8);
        Due.call(w, -4, "about", 3, 8);
        Due.call(w, -4, "known", 2, 400);
        Due.call(w, 22, "about", 4, 8);
    }

    private static void deafBounds() {
        Due.sentence("TIMES may be DEAF (told ahead or not: 0 .. 400): nobody hears then.");
        DeepWings w = new DeepWings();
        for (int time : new int[] {0, 1, 399, 400}) {
            Due.call(w, 0, "deaf", time, 0);
            Due.call(w, 1, "deaf", time, 1);
            Due.call(w, 0, "deaf", time, 1);
            Due.call(w, 1, "deaf", time, 0);
            Due.call(w, 0, "deaf", time, 0);
        }
        for (int is = 0; is < 2; is++) {
            Scene.RICH.refusesOutside(-1, 0, 0, 400, "deaf", 0, is);
            Scene.FULL.refusesOutside(-1, 0, 0, 400, "deaf", 0, is);
        }
    }

    private static void deafAtItsTime() {
        Due.sentence("TIMES may be DEAF");
        for (int deaf = 0; deaf < 5; deaf++) {
            DeepWings w = new DeepWings();
            w.glider(0, 4, 4, 9);
            w.deaf(deaf, true);
            for (int t = 0; t < 5; t++) {
                w.times(1);
                Due.call(w, t != deaf ? t : deaf == 0 ? -4 : t - 1, "about", 0, 8);
                Due.call(w, t == 0 && deaf == 0 ? -4 : 36, "known", 0, t);
            }
        }
        DeepWings w = new DeepWings();
        w.glider(0, 4, 4, 9);
        w.deaf(399, true);
        for (int k = 0; k < 10; k++) {
            w.times(40);
        }
        Due.call(w, 398, "about", 0, 8);
        w = new DeepWings();
        w.glider(0, 4, 4, 9);
        w.deaf(400, true);
        for (int k = 0; k < 10; k++) {
            w.times(40);
        }
        Due.call(w, 399, "about", 0, 8);
    }

    private static void toldAheadOrNot() {
        Due.sentence("(told ahead or not: 0 .. 400)");
        DeepWings w = new DeepWings();
        w.glider(0, 4, 4, 9);
        w.times(3);
        Due.call(w, 1, "deaf", 2, 1);
        Due.call(w, 1, "deaf", 3, 1);
        Due.call(w, 2, "about", 0, 8);
        Due.call(w, 36, "known", 0, 2);
        w.times(1);
        Due.call(w, 2, "about", 0, 8);
        Due.call(w, 1, "deaf", 3, 0);
        w.times(1);
        Due.call(w, 4, "about", 0, 8);
    }

    private static void nobodyHearsThen() {
        Due.sentence("nobody hears then.");
        DeepWings w = new DeepWings();
        Due.order(w, "p<1?u;");
        for (int g = 0; g < 8; g++) {
            w.glider(0, g, 4, 9);
            w.letter(g, 0);
        }
        for (int t = 0; t < 40; t++) {
            w.deaf(t, true);
        }
        w.times(40);
        for (int g = 0; g < 8; g++) {
            Due.call(w, 1, "waiting", g);
            Due.call(w, -4, "about", g, 8);
            Due.call(w, -4, "known", g, 400);
        }
        w.times(1);
        for (int g = 0; g < 8; g++) {
            Due.call(w, 0, "waiting", g);
            Due.call(w, 40, "about", g, 8);
            Due.call(w, -4, "known", g, 39);
            Due.call(w, 8 * g + 4, "known", g, 40);
        }
    }

    private static void timesBounds() {
        Due.sentence("n TIMES (1 .. 40) go by");
        for (int n : new int[] {1, 2, 39, 40}) {
            DeepWings w = new DeepWings();
            Due.call(w, 0, "times", n);
            Due.call(w, n, "count", 4);
            Due.call(w, Math.min(99, 50 + n), "cell", 9, 7, 0, 2);
        }
        Scene.RICH.refusesOutside(-1, 0, 1, 40, "times", 1);
        Scene.FULL.refusesOutside(-1, 0, 1, 40, "times", 1);
        Scene.NEW.refusesOutside(-1, 0, 1, 40, "times", 1);
    }

    private static void timeIs400AtMost() {
        Due.sentence("TIME is 0 at first, 400 at most.");
        DeepWings w = new DeepWings();
        Due.call(w, 0, "count", 4);
        for (int t = 1; t <= 400; t++) {
            w.times(1);
        }
        Due.call(w, 400, "count", 4);
        Due.call(w, -2, "times", 1);
        Due.call(w, 400, "count", 4);
    }

    private static void beyond400() {
        Due.sentence("-2: beyond 400.");
        for (int short400 = 0; short400 < 40; short400++) {
            int at = 400 - short400;
            Scene scene = new Scene(w -> {
                w.glider(0, 4, 4, 9);
                for (int k = 0; k < 9; k++) {
                    w.times(40);
                }
                w.times(at - 360);
            });
            Due.call(scene.made(), at, "count", 4);
            Due.call(scene.made(), -2, "times", short400 + 1);
            Due.call(scene.made(), -2, "times", 40);
            Due.call(scene.made(), short400 > 0 ? 0 : -1, "times", short400);
            Due.call(scene.made(), -1, "times", 41);
            if (short400 % 13 == 0) {
                scene.refuses(-2, "times", short400 + 1);
            }
        }
        for (int n : new int[] {1, 2, 40}) {
            Scene.FULL.refuses(-2, "times", n);
        }
        DeepWings w = Scene.FULL.made();
        Due.call(w, 400, "count", 4);
        Due.call(w, 399, "about", 0, 8);
    }

    private static void howManyDives() {
        Due.sentence("go by: how many DIVES were done.");
        for (int power : new int[] {0, 3, 4, 7, 8, 11, 12, 160, 164}) {
            DeepWings w = Due.ordered(0, 4, 4, power, "p<999?s0;");
            w.times(1);
            Due.call(w, Math.min(40, power / 4), "times", 40);
        }
        DeepWings w = Due.ordered(0, 4, 4, 99, "p>0?s0;");
        w.glider(0, 2, 2, 99);
        w.salt(4, 4, 0, 1000);
        w.times(1);
        Due.call(w, 1, "times", 4);
        Due.call(w, 2, "about", 0, 4);
    }

    private static void hearingAheadOfDoing() {
        Due.sentence("1 GLIDERS by numbers that are UP: if TIME isn't DEAF: each hears");
        DeepWings w = Due.ordered(0, 4, 4, 99, "h=0?g740;");
        w.times(1);
        Due.call(w, 1, "times", 1);
        Due.call(w, 36, "known", 0, 1);
        w.times(1);
        Due.call(w, 52, "known", 0, 2);
        w.deaf(3, true);
        Due.call(w, 0, "times", 1);
        Due.call(w, 52, "known", 0, 3);
    }

    private static void glidersByNumbers() {
        Due.sentence("2 GLIDERS by numbers that are UP and have an ORDER");
        DeepWings w = new DeepWings();
        Due.order(w, "p>0?s0;");
        for (int g = 0; g < 8; g++) {
            w.glider(0, 4, 4, 99);
        }
        for (int g = 7; g >= 0; g--) {
            w.letter(g, 0);
        }
        w.times(1);
        Due.call(w, 8, "times", 1);
        for (int r = 0; r < 8; r++) {
            Due.call(w, r, "reading", r, 0);
            Due.call(w, 1, "reading", r, 1);
        }
    }

    private static void doubtGrows() {
        Due.sentence("3 DOUBT of each CELL (not LAND) is 1 more (99 at most).");
        DeepWings w = new DeepWings();
        int[] doubts = {0, 1, 50, 97, 98, 99};
        for (int x = 0; x < doubts.length; x++) {
            w.sea(11 * x, 0, 2, doubts[x]);
        }
        w.sea(88, 0, 0, 0);
        w.sea(99, 77, 0, 1);
        for (int t = 1; t <= 3; t++) {
            w.times(1);
            for (int x = 0; x < doubts.length; x++) {
                Due.call(w, Math.min(99, doubts[x] + t), "cell", x, 0, 0, 2);
            }
            Due.call(w, 0, "cell", 8, 0, 0, 2);
            Due.call(w, 50 + t, "cell", 9, 7, 0, 2);
        }
        w.times(40);
        w.times(40);
        Due.call(w, 99 * 79 - (99 - 83) - (99 - 84), "count", 8);
        w.times(40);
        Due.call(w, 99 * 79, "count", 8);
    }

    private static void knownBounds() {
        Due.sentence("KNOWN at a TIME: 8 x and y; -4: no FIX by then. -1.");
        Scene.RICH.refusesOutside(-1, 0, 0, 4, "known", 0, 0);
        Scene.RICH.refusesOutside(-1, 1, 0, 400, "known", 0, 0);
        Scene.FULL.refusesOutside(-1, 0, 0, 7, "known", 0, 400);
        Scene.FULL.refusesOutside(-1, 1, 0, 400, "known", 0, 0);
        Scene.RICH.refuses(-4, "known", 2, 400);
        Scene.RICH.refuses(-4, "known", 3, 0);
        DeepWings w = Scene.FULL.made();
        for (int g = 0; g < 8; g++) {
            Due.call(w, 8 * g + 4, "known", g, 0);
            Due.call(w, 8 * g + 4, "known", g, 399);
            Due.call(w, 8 * g + 4, "known", g, 400);
        }
    }

    private static void knownByThen() {
        Due.sentence("the CELL of a GLIDER's latest FIX of that TIME or earlier");
        DeepWings w = new DeepWings();
        w.deaf(4, true);
        w.times(2);
        w.glider(3, 0, 0, 999);
        for (int t = 2; t <= 5; t++) {
            w.times(1);
            w.dive(0, 0, 1, 0);
        }
        int[] due = {-4, -4, 0, 8, 8, 24};
        for (int t = 0; t <= 400; t++) {
            Due.call(w, t < due.length ? due[t] : 24, "known", 0, t);
        }
    }

    private static void lastFix() {
        Due.sentence("KNOWN at a TIME: the CELL of a GLIDER's latest FIX of that TIME or earlier.");
        DeepWings w = new DeepWings();
        w.glider(0, 4, 4, 99);
        for (int k = 0; k < 9; k++) {
            w.times(40);
        }
        w.times(38);
        for (int k = 0; k < 3; k++) {
            w.dive(0, 0, 1, 0);
            w.times(1);
        }
        int[] due = {36, 44, 52, 52};
        for (int k = 0; k < due.length; k++) {
            Due.call(w, due[k], "known", 0, 397 + k);
        }
        Due.call(w, 60, "dive", 0, 0, 0, 0);
    }
}
