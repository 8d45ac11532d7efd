import java.util.ArrayList;
import java.util.List;

/**
 * A run of calls that is made anew on a new object for each handful of questions: so all that an
 * object holds can be asked, though an object is used for at most 512 calls.
 */
final class Scene {
    interface Calls {
        void on(DeepWings w);
    }

    private interface Ask {
        long of(DeepWings w);
    }

    private static final int AT_ONCE = 200;
    private static final List<Ask> STATE = stateQuestions();

    static final Scene NEW = new Scene(w -> { });
    static final Scene RICH = new Scene(Scene::rich);
    static final Scene FULL = new Scene(Scene::full);

    private final Calls calls;
    private String told = null;

    Scene(Calls calls) {
        this.calls = calls;
    }

    Scene then(Calls more) {
        return new Scene(w -> {
            calls.on(w);
            more.on(w);
        });
    }

    DeepWings made() {
        DeepWings w = new DeepWings();
        calls.on(w);
        return w;
    }

    /** A call is refused as is due (a number, or what it throws), and all else stays as it was. */
    void refuses(Object due, String name, int... args) {
        onlyTells(due, name, args);
    }

    /** A call answers as is due, and all else stays as it was. */
    void onlyTells(Object due, String name, int... args) {
        Due.call(made(), due, name, args);
        Scene behind = then(w -> Call.answer(w, name, args));
        Due.isTrue(Call.told(name, args) + " changes nothing", behind.told().equals(told()));
    }

    /** Refused: the argument at a place right outside of its bounds, and as far off as can be. */
    void refusesOutside(Object due, int place, int least, int most, String name, int... args) {
        for (int v : outside(least, most)) {
            int[] wrong = args.clone();
            wrong[place] = v;
            refuses(due, name, wrong);
        }
    }

    static int[] outside(int least, int most) {
        return new int[] {least - 1, most + 1, Integer.MIN_VALUE, Integer.MAX_VALUE};
    }

    /** All that can be asked, as it is and in THE IMAGE. */
    String told() {
        if (told == null) {
            StringBuilder all = new StringBuilder();
            tellOne(all);
            if (made().restore() >= 0) {
                then(w -> w.restore()).tellOne(all.append("IMAGE "));
            }
            told = all.toString();
        }
        return told;
    }

    /** All that can be asked but SHELVES and THE IMAGE. */
    String toldOfSea() {
        StringBuilder all = new StringBuilder();
        tellSea(all);
        return all.toString();
    }

    private void tellOne(StringBuilder all) {
        tellSea(all);
        for (int d = 0; d < 8; d++) {
            tellShelf(all.append("SHELF "), d);
        }
    }

    private void tellSea(StringBuilder all) {
        ask(all.append("STATE "), STATE);
        ask(all.append("READINGS "), readingQuestions(made().count(5)));
        List<Ask> deafness = new ArrayList<>();
        for (int t = 0; t <= 400; t++) {
            int time = t;
            deafness.add(w -> w.deaf(time, true));
        }
        ask(all.append("DEAF "), deafness);
        DeepWings w = made();
        for (int c = 0; c < 80; c++) {
            all.append(w.ship(c / 8, c % 8)).append(' ');
        }
        tellFuture(all.append("FUTURE "));
        tellNext(all.append("NEXT "));
    }

    private void ask(StringBuilder all, List<Ask> questions) {
        for (int from = 0; from < questions.size(); from += AT_ONCE) {
            DeepWings w = made();
            for (Ask question : questions.subList(from, Math.min(questions.size(), from + AT_ONCE))) {
                all.append(question.of(w)).append(' ');
            }
        }
    }

    /** The SORT shows when an element is put; that is done behind all else. */
    private void tellShelf(StringBuilder all, int d) {
        DeepWings w = made();
        all.append(w.sum(d)).append(' ').append(w.toss(d)).append(' ').append(w.fault(d));
        int size = 0;
        for (String element = ""; size <= 80 && !element.startsWith("Ill"); size++) {
            element = Due.elementAs(w, d, size);
            all.append(' ').append(element);
        }
        all.append(' ').append(w.put(d, 0, 70000)).append(' ').append(Due.elementAs(w, d, 0)).append(' ');
    }

    /** What LETTERS and ORDERS hold shows only when they are heard and done. */
    private void tellFuture(StringBuilder all) {
        DeepWings w = made();
        int gliders = w.count(0);
        for (int round = 0; round < 5; round++) {
            all.append(w.times(round < 4 ? 1 : 40)).append(' ').append(w.count(5)).append(' ').append(w.next());
            for (int g = 0; g < gliders; g++) {
                all.append(' ').append(w.about(g, 7)).append(' ').append(w.waiting(g)).append(' ')
                    .append(w.about(g, 3)).append(' ').append(w.about(g, 1)).append(' ').append(w.about(g, 2));
            }
        }
        for (int order = made().count(7) - 1; order >= 0; order--) {
            w = made();
            all.append(" ORDER ").append(w.letter(0, order)).append(' ').append(w.times(1)).append(' ')
                .append(w.rule(0)).append(' ').append(w.times(1)).append(' ').append(w.rule(0)).append(' ')
                .append(w.about(0, 1)).append(' ').append(w.about(0, 2)).append(' ').append(w.about(0, 3)).append(' ');
        }
    }

    /** What comes next is as it would have been: a GLIDER, an ORDER, a LETTER, a READING, a CLEANING. */
    private void tellNext(StringBuilder all) {
        DeepWings w = made();
        int g = w.glider(2, 0, 7, 77);
        int order = Due.order(w, "x<9&p>7?g071;");
        all.append(g).append(' ').append(order).append(' ').append(w.letter(g, order)).append(' ')
            .append(w.letter(0, order)).append(' ').append(w.times(1)).append(' ').append(w.times(1));
        for (int what = 0; what <= 10; what++) {
            all.append(' ').append(w.about(g, what)).append(' ').append(w.about(0, what));
        }
        all.append(' ').append(w.rule(g)).append(' ').append(w.rule(0)).append(' ').append(w.waiting(g)).append(' ')
            .append(w.dive(g, 3, 0, -1)).append(' ').append(w.clean(g, 5)).append(' ').append(w.count(5)).append(' ');
        for (int r = Math.max(0, w.count(5) - 4); r < w.count(5); r++) {
            all.append(w.read(r, false)).append(' ').append(w.read(r, true)).append(' ');
        }
        for (int time = 0; time <= 400; time += 10) {
            all.append(w.known(g, time)).append(' ');
        }
    }

    private static List<Ask> stateQuestions() {
        List<Ask> list = new ArrayList<>();
        for (int c = 0; c < 80; c++) {
            int x = c / 8;
            int y = c % 8;
            for (int k = 0; k < 27; k++) {
                int what = k < 3 ? k : 3 + (k - 3) / 4;
                int layer = k < 3 ? 0 : (k - 3) % 4;
                list.add(w -> w.cell(x, y, layer, what));
            }
        }
        for (int k = 0; k <= 10; k++) {
            int what = k;
            list.add(w -> w.count(what));
        }
        list.add(w -> w.next());
        for (int g = 0; g < 8; g++) {
            addGliderQuestions(list, g);
        }
        return list;
    }

    private static void addGliderQuestions(List<Ask> list, int g) {
        for (int k = 0; k <= 10; k++) {
            int what = k;
            list.add(w -> w.about(g, what));
            list.add(w -> w.can(g, what));
        }
        list.add(w -> w.waiting(g));
        list.add(w -> w.rule(g));
        list.add(w -> w.left(g));
        for (int t = 0; t <= 400; t++) {
            int time = t;
            list.add(w -> w.known(g, time));
        }
    }

    private static List<Ask> readingQuestions(int readings) {
        List<Ask> list = new ArrayList<>();
        for (int r = 0; r < readings; r++) {
            int reading = r;
            for (int k = 0; k < 5; k++) {
                int what = k;
                list.add(w -> w.reading(reading, what));
            }
            list.add(w -> w.read(reading, false));
            list.add(w -> w.read(reading, true));
        }
        return list;
    }

    /**
     * Some of all: GLIDERS 0 and 1 UP (1 LEAKS), 2 FETCHED, 3 LOST, 4 UP with POWER 3; ORDERS 0 and 1;
     * SHELVES 0 and 6 hold nothing, 1 and 2 GLIDERS, 3 shorts, 4 ints, 5 bytes, 7 an ORDER's text;
     * LAND at 8, 7; an IMAGE from which it differs.
     */
    private static void rich(DeepWings w) {
        w.sea(88, 77, 0, 0);
        w.sea(33, 33, 0, 2);
        w.sea(66, 2, 1, 1);
        w.sea(12, 12, 2, 77);
        w.stream(3, 3, 0, 1, -1, false);
        w.stream(4, 4, 1, -2, 2, true);
        w.salt(4, 4, 0, 321);
        w.salt(0, 7, 0, 1000);
        w.glider(0, 4, 4, 500);
        w.glider(1, 5, 5, 400);
        w.glider(2, 1, 1, 300);
        w.glider(3, 0, 7, 200);
        w.glider(0, 9, 0, 3);
        w.leak(1, true);
        w.fetch(2);
        w.dive(3, 0, 0, 0);
        Due.order(w, "p>400?g442;");
        Due.order(w, "x>0?s1;");
        w.letter(0, 0);
        w.letter(1, 1);
        w.deaf(2, true);
        w.deaf(9, true);
        w.times(3);
        w.clean(0, 7);
        w.dive(0, 1, 1, 0);
        w.letter(0, 1);
        w.letter(1, 0);
        w.letter(3, 0);
        richShelves(w);
        w.ship(6, 6);
        w.image();
        w.deaf(5, true);
        w.dive(1, 0, 0, 0);
        w.clean(1, -8);
        w.letter(0, 0);
        w.ship(5, 6);
    }

    private static void richShelves(DeepWings w) {
        w.keep(1, 1, 0);
        w.keep(2, 1, 3);
        w.row(3, 1, 4);
        w.put(3, 2, -9);
        w.row(4, 2, 3);
        w.put(4, 0, 123456);
        w.row(5, 0, 2);
        w.put(5, 1, 66);
    }

    /** 8 GLIDERS, 200 READINGS, 60 LETTERS, 10 ORDERS, 60 CLEANINGS, TIME 400, ROWS of 80; LAND at 9, 7. */
    private static void full(DeepWings w) {
        w.sea(99, 77, 0, 0);
        Due.text(w, 7, "p>3?s0;");
        for (int i = 0; i < 10; i++) {
            w.order(7);
        }
        for (int g = 0; g < 8; g++) {
            w.glider(0, g, 4, 100);
            w.letter(g, g);
        }
        w.times(1);
        w.times(25);
        w.image();
        for (int i = 8; i < 60; i++) {
            w.letter(i % 8, i % 10);
        }
        for (int i = 0; i < 60; i++) {
            w.clean(i % 8, i);
        }
        for (int i = 0; i < 9; i++) {
            w.times(40);
        }
        w.times(14);
        for (int d = 0; d < 8; d++) {
            w.row(d, d % 3, 80);
        }
    }
}
