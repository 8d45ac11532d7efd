/** Promises 13 to 15, 17 and 18: letter, waiting, deaf, times, known. */
public final class TimeTest {
    public static void main(String[] args) {
        letters();
        lastLetterCounts();
        hearing();
        deafTimes();
        timeLimits();
        doubtGrows();
        glidersByNumber();
        lostAndFetchedHearNothing();
        fixes();
        knownRefusals();
        Due.end();
    }

    private static void letters() {
        DeepWings w = new DeepWings();
        w.glider(0, 0, 0, 10);
        w.glider(0, 0, 0, 10);
        Due.is("no order", w.letter(0, 0), -1);
        Due.order(w, "p<1?u;");
        Due.is("no glider", w.letter(2, 0), -1);
        Due.is("no glider", w.letter(-1, 0), -1);
        Due.is("no order", w.letter(0, 1), -1);
        Due.is("no order", w.letter(0, -1), -1);
        Due.is("no order", w.letter(0, Integer.MIN_VALUE), -1);
        Due.is("none", w.count(6), 0);
        Due.is("waiting", w.waiting(0), 0);
        for (int i = 1; i <= 60; i++) {
            Due.is("letter", w.letter(i % 3 == 0 ? 1 : 0, 0), i);
        }
        Due.is("no room", w.letter(0, 0), -2);
        Due.is("no such ahead of no room", w.letter(0, 1), -1);
        Due.is("letters", w.count(6), 60);
        Due.is("waiting", w.waiting(0), 40);
        Due.is("waiting", w.waiting(1), 20);
        Due.is("waiting", w.waiting(2), -1);
        Due.is("waiting", w.waiting(-1), -1);
        w.times(2);
        Due.is("heard", w.waiting(0) + w.waiting(1), 0);
        Due.is("letters stay counted", w.count(6), 60);
        Due.is("still no room", w.letter(0, 0), -2);
    }

    private static void lastLetterCounts() {
        DeepWings w = new DeepWings();
        w.glider(0, 0, 0, 10);
        for (int i = 0; i < 4; i++) {
            Due.order(w, "p<1?u;");
        }
        w.letter(0, 3);
        w.letter(0, 1);
        w.letter(0, 2);
        w.times(1);
        Due.is("sent at 0, not heard at 0", w.about(0, 7), -4);
        Due.is("waiting", w.waiting(0), 3);
        w.letter(0, 0);
        w.times(1);
        Due.is("the last of those sent ahead", w.about(0, 7), 2);
        Due.is("one waits", w.waiting(0), 1);
        w.times(1);
        Due.is("then that", w.about(0, 7), 0);
        Due.is("none waits", w.waiting(0), 0);
        w.times(1);
        Due.is("it keeps it", w.about(0, 7), 0);
    }

    private static void hearing() {
        DeepWings w = new DeepWings();
        w.glider(0, 0, 0, 10);
        Due.is("never", w.about(0, 8), -4);
        w.times(1);
        Due.is("hears without letters", w.about(0, 8), 0);
        w.times(5);
        Due.is("hears each time", w.about(0, 8), 5);
        w.glider(0, 0, 0, 10);
        Due.is("a later one", w.about(1, 8), -4);
        w.times(1);
        Due.is("a later one", w.about(1, 8), 6);
        w.deaf(7, true);
        w.times(1);
        Due.is("deaf", w.about(1, 8), 6);
    }

    private static void deafTimes() {
        DeepWings w = new DeepWings();
        Due.is("not before 0", w.deaf(-1, true), -1);
        Due.is("not behind 400", w.deaf(401, true), -1);
        Due.is("far off", w.deaf(Integer.MAX_VALUE, true), -1);
        Due.is("far off", w.deaf(Integer.MIN_VALUE, false), -1);
        Due.is("deaf", w.deaf(400, true), 1);
        Due.is("deaf", w.deaf(400, true), 0);
        Due.is("not deaf", w.deaf(400, false), 1);
        Due.is("not deaf", w.deaf(0, false), 0);
        w.glider(0, 1, 1, 10);
        Due.order(w, "p<1?u;");
        w.letter(0, 0);
        w.deaf(1, true);
        w.deaf(2, true);
        w.times(3);
        Due.is("waits", w.waiting(0), 1);
        Due.is("known", w.known(0, 2), 9);
        w.deaf(3, true);
        w.deaf(3, false);
        Due.is("one that was may be told", w.deaf(0, true), 1);
        w.times(1);
        Due.is("heard", w.waiting(0), 0);
        Due.is("order", w.about(0, 7), 0);
    }

    private static void timeLimits() {
        DeepWings w = new DeepWings();
        Due.is("none", w.times(0), -1);
        Due.is("below", w.times(-1), -1);
        Due.is("more than 40", w.times(41), -1);
        Due.is("far", w.times(Integer.MAX_VALUE), -1);
        Due.is("far", w.times(Integer.MIN_VALUE), -1);
        Due.is("time", w.count(4), 0);
        for (int i = 0; i < 9; i++) {
            Due.is("times", w.times(40), 0);
        }
        Due.is("times", w.times(39), 0);
        Due.is("beyond", w.times(2), -2);
        Due.is("out of range ahead of beyond", w.times(41), -1);
        Due.is("time", w.count(4), 399);
        w.glider(0, 2, 2, 9);
        Due.is("the last", w.times(1), 0);
        Due.is("time", w.count(4), 400);
        Due.is("beyond", w.times(1), -2);
        Due.is("known at the last", w.known(0, 399), 18);
        Due.is("known at the end", w.known(0, 400), 18);
        Due.is("not earlier", w.known(0, 398), -4);
    }

    private static void doubtGrows() {
        DeepWings w = new DeepWings();
        w.sea(0, 0, 0, 0);
        w.sea(11, 11, 2, 98);
        w.sea(22, 22, 2, 0);
        w.sea(33, 33, 0, 1);
        w.times(1);
        Due.is("of one layer", w.cell(3, 3, 0, 2), 51);
        Due.is("land", w.cell(0, 0, 0, 2), 0);
        Due.is("99", w.cell(1, 1, 0, 2), 99);
        Due.is("1", w.cell(2, 2, 0, 2), 1);
        Due.is("51", w.cell(9, 7, 0, 2), 51);
        w.times(2);
        Due.is("99 at most", w.cell(1, 1, 0, 2), 99);
        Due.is("53", w.cell(9, 7, 0, 2), 53);
        w = Due.ordered(0, 5, 5, 100, "p>0?s0;");
        w.times(1);
        Due.is("in the corner", w.cell(0, 0, 0, 2), 51);
        w.times(1);
        Due.is("measured, then one more", w.cell(5, 5, 0, 2), 1);
        Due.is("beside: half of 51, one more", w.cell(5, 4, 0, 2), 26);
        Due.is("time of the reading", w.reading(0, 1), 1);
    }

    private static void glidersByNumber() {
        DeepWings w = new DeepWings();
        w.glider(0, 4, 4, 100);
        w.glider(0, 6, 4, 100);
        Due.order(w, "p>0?g540;");
        w.letter(1, 0);
        w.letter(0, 0);
        w.times(1);
        Due.is("both dive", w.times(1), 2);
        Due.is("glider 0 first", w.reading(0, 0), 0);
        Due.is("then glider 1", w.reading(1, 0), 1);
        Due.is("known ahead of the dives", w.known(1, 1), 52);
        Due.is("many", w.times(3), 6);
    }

    private static void lostAndFetchedHearNothing() {
        DeepWings w = new DeepWings();
        w.glider(0, 4, 4, 100);
        w.glider(0, 1, 1, 100);
        w.salt(4, 4, 0, 1000);
        Due.order(w, "p>0?s0;");
        w.letter(0, 0);
        w.letter(1, 0);
        w.times(1);
        Due.is("a dive in which one is lost is one", w.times(1), 2);
        Due.is("lost", w.about(0, 4), 2);
        Due.is("letters to a lost one may be sent", w.letter(0, 0), 3);
        Due.is("fetched", w.fetch(1), 2);
        Due.is("letters to a fetched one may be sent", w.letter(1, 0), 4);
        Due.is("no dives any more", w.times(5), 0);
        Due.is("it hears nothing", w.waiting(0), 1);
        Due.is("it hears nothing", w.waiting(1), 1);
        Due.is("heard last", w.about(0, 8), 1);
        Due.is("heard last", w.about(1, 8), 1);
        Due.is("the last fix", w.known(0, 6), 36);
        Due.is("time", w.count(4), 7);
    }

    private static void fixes() {
        DeepWings w = new DeepWings();
        w.deaf(0, true);
        w.glider(0, 4, 4, 100);
        Due.is("none yet", w.known(0, 400), -4);
        w.times(2);
        Due.is("deaf at 0", w.known(0, 0), -4);
        Due.is("fix at 1", w.known(0, 1), 36);
        w.dive(0, 0, 1, 0);
        Due.is("the office does not know yet", w.known(0, 2), 36);
        w.deaf(2, true);
        w.times(1);
        Due.is("deaf at 2", w.known(0, 2), 36);
        w.times(1);
        Due.is("known at 2", w.known(0, 2), 36);
        Due.is("known at 3", w.known(0, 3), 44);
        Due.is("known later", w.known(0, 400), 44);
    }

    private static void knownRefusals() {
        DeepWings w = new DeepWings();
        Due.is("no glider", w.known(0, 0), -1);
        w.glider(0, 0, 0, 0);
        w.times(1);
        Due.is("no glider", w.known(-1, 0), -1);
        Due.is("no time", w.known(0, -1), -1);
        Due.is("no time", w.known(0, 401), -1);
        Due.is("no time", w.known(0, Integer.MAX_VALUE), -1);
        Due.is("no time", w.known(0, Integer.MIN_VALUE), -1);
        Due.is("a time", w.known(0, 0), 0);
    }
}
