import java.lang.reflect.Method;
import java.util.ArrayList;
import java.util.List;
import java.util.Map;
import java.util.Random;

/**
 * Random runs of calls, wrong inputs among them, answered by DeepWings and by Model alike; at
 * times all that can be asked is compared too, so that a refused call that changes something shows.
 */
public final class ModelTest {
    private static final int RUNS = 400;
    /** An object is used for at most 512 calls; what is told behind some of them is asked of others like it. */
    private static final int CALLS = 512;
    private static final int COMPARED_WITHIN = 250;
    private static final int MOST_OF_A_TEXT = 90;
    private static final String SIGNS = ";?&!pxs0123489<>=ug \u00e9";

    /** Name, weight, then least and greatest of each argument in its range. */
    private static final Object[][] FACE = {
        {"sea", 6}, {"stream", 30, 0, 9, 0, 7, 0, 3, -2, 2, -2, 2, 0, 1}, {"salt", 20, 0, 9, 0, 7, 0, 3, 0, 1001},
        {"cell", 10, 0, 9, 0, 7, 0, 3, 0, 8}, {"glider", 6, 0, 3, 0, 9, 0, 7, 0, 999}, {"about", 10, 0, 7, 0, 10},
        {"can", 4, 0, 7, 0, 5}, {"leak", 4, 0, 7, 0, 1}, {"dive", 40, 0, 7, 0, 3, -2, 2, -2, 2}, {"fault", 2, 0, 7},
        {"order", 4, 0, 7}, {"letter", 14, 0, 7, 0, 3}, {"waiting", 4, 0, 7}, {"deaf", 6, 0, 60, 0, 1},
        {"rule", 8, 0, 7}, {"times", 14, 1, 5}, {"known", 8, 0, 7, 0, 60}, {"clean", 6, 0, 7, -60, 60},
        {"reading", 8, 0, 40, 0, 4}, {"read", 10, 0, 40, 0, 1}, {"plan", 1, 0, 3}, {"planned", 1, 0, 3, 0, 7},
        {"ends", 8, 0, 7, 0, 3, -2, 2, -2, 2}, {"whole", 4, 0, 3}, {"ship", 6, 0, 9, 0, 7}, {"left", 4, 0, 7},
        {"next", 5}, {"fetch", 2, 0, 7}, {"image", 2}, {"restore", 2}, {"count", 8, 0, 10},
        {"keep", 6, 0, 7, 0, 1, 0, 7}, {"row", 4, 0, 7, 0, 2, 0, 12}, {"put", 8, 0, 7, 0, 12, -300, 70000},
        {"element", 8, 0, 7, 0, 12}, {"copy", 8, 0, 7, 0, 6, 0, 7, 0, 6, 0, 6}, {"sum", 5, 0, 7}, {"toss", 5, 0, 7}};

    private static final Map<String, Method> MODELS = Call.methods(Model.class);

    private final Random random;
    private final DeepWings wings = new DeepWings();
    private final Model model = new Model();
    private final List<String> names = new ArrayList<>();
    private final List<int[]> arguments = new ArrayList<>();
    private boolean alike = true;
    private DeepWings twin = null;
    private int askedOfTwin = 0;

    private ModelTest(long seed) {
        random = new Random(seed);
    }

    public static void main(String[] args) {
        int runs = args.length > 0 ? Integer.parseInt(args[0]) : RUNS;
        long seed = args.length > 1 ? Long.parseLong(args[1]) : 1;
        for (int i = 0; i < runs && !Due.anyWrong(); i++) {
            new ModelTest(seed + i).run();
        }
        Due.end();
    }

    private void call(String name, int... args) {
        names.add(name);
        arguments.add(args);
        compare(Call.answer(wings, name, args), name, args);
    }

    private void compare(String ours, String name, int... args) {
        if (alike) {
            String models = Call.answer(model, MODELS.get(name), args);
            Due.same(Call.told(name, args), ours, models);
            alike = ours.equals(models);
            for (int i = 0; i < names.size() && !alike; i++) {
                System.out.println(Call.told(names.get(i), arguments.get(i)));
            }
        }
    }

    /** Asks an object that has seen the same calls. */
    private void ask(String name, int... args) {
        if (twin == null || names.size() + askedOfTwin >= CALLS) {
            twin = new DeepWings();
            askedOfTwin = 0;
            for (int i = 0; i < names.size(); i++) {
                Call.answer(twin, names.get(i), arguments.get(i));
            }
        }
        askedOfTwin++;
        compare(Call.answer(twin, name, args), name, args);
    }

    private void run() {
        int style = random.nextInt(6);
        for (int i = random.nextInt(5); i >= 0; i--) {
            call("glider", random.nextInt(4), random.nextInt(10), random.nextInt(8), random.nextInt(999));
        }
        int compareAt = random.nextInt(COMPARED_WITHIN);
        while (names.size() < CALLS && alike) {
            if (names.size() >= compareAt) {
                compareAll();
                compareAt = CALLS;
            }
            if (random.nextInt(30) == 0 && names.size() + MOST_OF_A_TEXT < CALLS) {
                writeOrder();
            } else {
                oneCall(style);
            }
        }
    }

    private void oneCall(int style) {
        int all = 0;
        for (Object[] row : FACE) {
            all += (Integer) row[1];
        }
        int pick = random.nextInt(all);
        int k = 0;
        while (pick >= (Integer) FACE[k][1]) {
            pick -= (Integer) FACE[k++][1];
        }
        String name = (String) FACE[k][0];
        if (name.equals("sea")) {
            oneSea(style);
            return;
        }
        int[] args = new int[(FACE[k].length - 2) / 2];
        for (int i = 0; i < args.length; i++) {
            args[i] = value((Integer) FACE[k][2 + 2 * i], (Integer) FACE[k][3 + 2 * i]);
        }
        if (name.equals("times") && style == 0) {
            args[0] = 30 + random.nextInt(12);
        }
        if (name.equals("salt") && random.nextInt(3) > 0) {
            args[3] = 1000 + random.nextInt(style == 1 ? 2 : 30) * (style == 1 ? 1 : -1);
        }
        call(name, args);
    }

    private int value(int least, int most) {
        switch (random.nextInt(40)) {
            case 0: return least - 1;
            case 1: return most + 1;
            case 2: return random.nextBoolean() ? Integer.MIN_VALUE : Integer.MAX_VALUE;
            case 3: return random.nextBoolean() ? -random.nextInt(100) : random.nextInt(3000);
            default: return least + random.nextInt(most - least + 1);
        }
    }

    private void oneSea(int style) {
        int x = random.nextInt(10);
        int y = random.nextInt(8);
        int xs = 10 * x + Math.min(9, x + random.nextInt(3));
        int ys = 10 * y + Math.min(7, y + random.nextInt(3));
        int what = random.nextInt(3);
        int v = what == 0 ? value(style == 2 ? 0 : 1, 4) : what == 1 ? value(0, 1) : value(0, 99);
        if (random.nextInt(12) == 0) {
            xs = value(0, 99);
            ys = value(0, 88);
        }
        call("sea", xs, ys, random.nextInt(20) == 0 ? value(0, 2) : what, v);
    }

    private String check() {
        return "!".repeat(random.nextInt(4) == 0 ? random.nextInt(3) : 0) + "pxylfhtsd".charAt(random.nextInt(9))
            + "<>=".charAt(random.nextInt(3)) + random.nextInt(random.nextBoolean() ? 8 : 400);
    }

    private String rules() {
        StringBuilder s = new StringBuilder();
        for (int i = random.nextInt(4); i >= 0; i--) {
            s.append(check());
            for (int j = random.nextInt(3); j > 0; j--) {
                s.append('&').append(check());
            }
            String go = "g" + random.nextInt(10) + random.nextInt(8);
            s.append('?').append(new String[] {"u", "s" + random.nextInt(4), go + random.nextInt(4)}[random.nextInt(3)]).append(';');
        }
        return s.toString();
    }

    private void writeOrder() {
        String text = rules();
        if (random.nextInt(6) == 0) {
            text = "p>" + random.nextInt(9) + "?u;" + text + text;
        }
        if (random.nextInt(3) == 0) {
            int at = random.nextInt(text.length() + 1);
            String wrong = "" + SIGNS.charAt(random.nextInt(SIGNS.length()));
            text = text.substring(0, at) + (random.nextBoolean() ? wrong : "") + text.substring(Math.min(text.length(), at + random.nextInt(2)));
        }
        if (random.nextInt(8) == 0) {
            text = text.substring(0, random.nextInt(Math.min(8, text.length()) + 1));
        }
        text = text.substring(0, Math.min(80, text.length()));
        int d = random.nextInt(8);
        call("row", d, 0, text.length());
        for (int i = 0; i < text.length(); i++) {
            call("put", d, i, text.charAt(i));
        }
        call("fault", d);
        call("order", d);
        call("letter", random.nextInt(3), random.nextInt(2));
    }

    private void compareAll() {
        twin = null;
        for (int c = 0; c < 80; c++) {
            for (int what = 0; what < 3; what++) {
                ask("cell", c / 8, c % 8, 0, what);
            }
            for (int what = 3; what < 9; what++) {
                for (int layer = 0; layer < 4; layer++) {
                    ask("cell", c / 8, c % 8, layer, what);
                }
            }
        }
        for (int what = 0; what <= 10; what++) {
            ask("count", what);
            for (int g = 0; g < 8; g++) {
                ask("about", g, what);
            }
        }
        for (int g = 0; g < 8; g++) {
            ask("waiting", g);
            ask("rule", g);
            ask("left", g);
            ask("sum", g);
            ask("toss", g);
            ask("fault", g);
            for (int i = 0; i < 81; i++) {
                ask("element", g, i);
            }
            for (int t = 0; t <= 400; t += 7) {
                ask("known", g, t);
            }
        }
        for (int r = 0; r <= 200; r++) {
            for (int what = 0; what < 5; what++) {
                ask("reading", r, what);
            }
            ask("read", r, 0);
            ask("read", r, 1);
        }
    }
}
