/** Compares answers with those that are due, and ends a test with exit code 1 if one differs. */
final class Due {
    private static final int MOST_TOLD = 40;
    private static int asked = 0;
    private static int wrong = 0;
    private static String sentence = "";

    private Due() {
    }

    /** The words of the document to which the next answers hold. */
    static void sentence(String words) {
        sentence = "\"" + words + "\": ";
    }

    static void is(String what, long got, long want) {
        same(what, String.valueOf(got), String.valueOf(want));
    }

    /** A call by its name; due is a number, or the name of what it throws. */
    static void call(DeepWings w, Object due, String name, int... args) {
        same(Call.told(name, args), Call.answer(w, name, args), String.valueOf(due));
    }

    static void isTrue(String what, boolean holds) {
        is(what, holds ? 1 : 0, 1);
    }

    static boolean anyWrong() {
        return wrong > 0;
    }

    static void end() {
        System.out.println(asked + " answers looked at, " + wrong + " wrong");
        System.exit(wrong == 0 && asked > 0 ? 0 : 1);
    }

    /** Puts a text on a SHELF as a ROW of bytes. */
    static void text(DeepWings w, int d, String text) {
        w.row(d, 0, text.length());
        for (int i = 0; i < text.length(); i++) {
            w.put(d, i, text.charAt(i));
        }
    }

    /** Makes a text an ORDER by way of SHELF 7. */
    static int order(DeepWings w, String text) {
        text(w, 7, text);
        return w.order(7);
    }

    /** An object in which GLIDER 0 of a KIND has heard an ORDER and TIME is 2. */
    static DeepWings ordered(int kind, int x, int y, int power, String text) {
        DeepWings w = new DeepWings();
        w.glider(kind, x, y, power);
        order(w, text);
        w.letter(0, 0);
        return w;
    }

    static String readAs(DeepWings w, int reading, boolean right) {
        try {
            return String.valueOf(w.read(reading, right));
        } catch (RuntimeException e) {
            return e.getClass().getSimpleName();
        }
    }

    static String elementAs(DeepWings w, int d, int i) {
        try {
            return String.valueOf(w.element(d, i));
        } catch (RuntimeException e) {
            return e.getClass().getSimpleName();
        }
    }

    static void same(String what, String got, String want) {
        asked++;
        if (!got.equals(want)) {
            wrong++;
            if (wrong <= MOST_TOLD) {
                System.out.println(sentence + what + " answered " + got + ", due is " + want);
            }
        }
    }
}
