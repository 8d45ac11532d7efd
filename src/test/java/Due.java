/** Compares answers with those that are due, and ends a test with exit code 1 if one differs. */
final class Due {
    private static final int MOST_TOLD = 40;
    private static int asked = 0;
    private static int wrong = 0;
    private static String sentence = "";

    private Due() {
    }

    /** The words of the document to which the next answers hold. */
    static void sentence(String words) {
        sentence = "\"" + words + "\": ";
    }

    static void is(String what, long got, long want) {
        same(what, String.valueOf(got), String.valueOf(want));
    }

    /** A call by its name; due is a number, or the name of what it throws. */
    static void call(DeepWings w, Object due, String name, int... args) {
        same(Call.told(name, args), Call.answer(w, name, args), String.valueOf(due));
    }

    static void isTrue(String what, boolean holds) {
        is(what, holds ? 1 : 0, 1);
    }

    static boolean anyWrong() {
        return wrong > 0;
    }

    static void end() {
        System.out.println(asked + " answers looked at, " + wrong + " wrong");
        System.exit(wrong == 0 && asked > 0 ? 0 : 1);
    }

    /** Puts a text on a SHELF as a ROW of bytes. */
    static void text(DeepWings w, int d, String text) {
        w.row(d, 0, text.length());
        for (int i = 0; i < text.length(); i++) {
            w.put(d, i, text.charAt(i));
        }
    }

    /** Makes a text an ORDER by way of SHELF 7. */
    static int order(DeepWings w, String text) {
        text(w, 7, text);
        return w.order(7);
    }

    /** An object in which GLIDER 0 of a KIND has heard an ORDER and TIME is 2. */
    static DeepWings ordered(int kind, int x, int y, int power, String text) {
        DeepWings w = new DeepWings();
        w.glider(kind, x, y, power);
        order(w, text);
        w.letter(0, 0);
        return w;
    }

    static String readAs(DeepWings w, int reading, boolean right) {
        try {
            return String.valueOf(w.read(reading, right));
        } catch (RuntimeException e) {
            return e.getClass().getSimpleName();
        }
    }

    static String elementAs(DeepWings w, int d, int i) {
        try {
            return String.valueOf(w.element(d, i));
        } catch (RuntimeException e) {
            return e.getClass().getSimpleName();
        }
    }

    static void same(String what, String got, String want) {
        asked++;
        if (!got.equals(want)) {
            wrong++;
            if (wrong <= MOST_TOLD) {
                System.out.println(sentence + what + " answered " + got + ", due is " + want);
            }
        }
    }

    /** All that the calls tell of an object, SHELVES left out where asked. */
    static String state(DeepWings w, boolean shelves) {
        StringBuilder s = new StringBuilder();
        for (int x = 0; x < 10; x++) {
            for (int y = 0; y < 8; y++) {
                for (int what = 0; what < 3; what++) {
                    s.append(w.cell(x, y, 0, what)).append(' ');
                }
                for (int layer = 0; layer < 4; layer++) {
                    for (int what = 3; what < 9; what++) {
                        s.append(w.cell(x, y, layer, what)).append(' ');
                    }
                }
            }
        }
        s.append("| ");
        for (int what = 0; what <= 10; what++) {
            s.append(w.count(what)).append(' ');
        }
        for (int g = 0; g < w.count(0); g++) {
            s.append("| ");
            for (int what = 0; what <= 10; what++) {
                s.append(w.about(g, what)).append(' ');
            }
            s.append(w.waiting(g)).append(' ').append(w.rule(g)).append(' ');
            for (int time = 0; time <= 400; time += 3) {
                s.append(w.known(g, time)).append(' ');
            }
        }
        s.append("| ");
        for (int r = 0; r < w.count(5); r++) {
            for (int what = 0; what < 5; what++) {
                s.append(w.reading(r, what)).append(' ');
            }
            s.append(w.read(r, false)).append(' ').append(w.read(r, true)).append(' ');
        }
        s.append("| ").append(w.next());
        for (int d = 0; d < 8 && shelves; d++) {
            s.append("| ").append(w.sum(d)).append(' ').append(w.toss(d)).append(' ').append(w.fault(d));
            for (int i = 0; i <= 80; i++) {
                s.append(' ').append(elementAs(w, d, i));
            }
        }
        return s.toString();
    }
}
