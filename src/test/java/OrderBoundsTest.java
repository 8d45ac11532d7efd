/** The bounds that the document names for ORDERS, a test for each sentence: promises 11, 12 and 16. */
public final class OrderBoundsTest {
    private static final String FIELDS = "pxylfhtsd";
    private static final String DIGITS = "0123456789";
    private static final String RULE = "p<1?u;";

    public static void main(String[] args) {
        sixRules();
        noRule();
        semicolonBehindEach();
        everyByte();
        everyByteBehindSix();
        numbers();
        digitsOfActs();
        endsTooEarly();
        eightyBytes();
        nothingOfTextsWithFaults();
        manyTurns();
        lowestBits();
        tenOrders();
        refusalsOfFault();
        refusalsOfOrder();
        fieldsAgainstNumbers();
        fieldBounds();
        turnedChecks();
        allChecks();
        firstRule();
        ruleRefusals();
        actLayer();
        actHeading();
        actPower();
        Due.end();
    }

    private static void faultOf(String text, int due) {
        DeepWings w = new DeepWings();
        Due.text(w, 3, text);
        Due.is("fault of " + text, w.fault(3), due);
        Due.is("order of " + text, w.order(3), due == -4 ? 0 : -100 - due);
        Due.is("orders behind " + text, w.count(7), due == -4 ? 1 : 0);
    }

    private static void sixRules() {
        Due.sentence("RULES, each with ; behind, 6 at most");
        for (int rules = 1; rules <= 8; rules++) {
            faultOf(RULE.repeat(rules), rules <= 6 ? -4 : 36);
        }
        DeepWings w = Due.ordered(0, 4, 4, 7, "p<1?u;p<2?u;p<3?u;p<4?u;p<5?u;p<9?u;");
        w.times(2);
        Due.call(w, 5, "rule", 0);
    }

    private static void noRule() {
        Due.sentence("(the size, if it ends too early)");
        faultOf("", 0);
        DeepWings w = new DeepWings();
        Due.text(w, 0, RULE);
        w.fault(0);
        w.row(1, 0, 0);
        Due.call(w, 0, "fault", 1);
        Due.call(w, -100, "order", 1);
        Due.call(w, 0, "order", 0);
        Due.call(w, -100, "order", 1);
        Due.call(w, 1, "count", 7);
    }

    private static void semicolonBehindEach() {
        Due.sentence("RULES, each with ; behind");
        faultOf("p<1?u", 5);
        faultOf("p<1?u;p<1?u", 11);
        faultOf("p<1?up<1?u;", 5);
        faultOf("p<1?u;;", 6);
        faultOf(RULE.repeat(6) + ";", 36);
        faultOf(RULE.repeat(5) + "p<1?u", 35);
    }

    /** What may stand at each place of two texts; all other bytes are the FAULT there. */
    private static void everyByte() {
        Due.sentence("FAULT: the place of the first byte with which no ORDER can go on");
        String signs = "<>=";
        String test = "!" + FIELDS;
        everyByteOf("p<12?g973;p=0?u;", test, signs, DIGITS.substring(0), DIGITS + "&?", DIGITS + "&?", "sgu", DIGITS,
            "01234567", "0123", ";", test, signs, DIGITS, "&?", "sgu", ";");
        everyByteOf("!!x>123&y<7?s3;", test, test, test, signs, DIGITS, DIGITS + "&?", DIGITS + "&?", "&?", test, signs,
            DIGITS, DIGITS + "&?", "sgu", "0123", ";");
    }

    private static void everyByteOf(String text, String... may) {
        faultOf(text, -4);
        DeepWings w = new DeepWings();
        for (int at = 0; at < text.length(); at++) {
            for (int b = -128; b < 128; b++) {
                if (b % 16 == 0) {
                    w = new DeepWings();
                    Due.text(w, 0, text);
                }
                w.put(0, at, b);
                boolean goesOn = b > 0 && may[at].indexOf(b) >= 0;
                int fault = w.fault(0);
                Due.isTrue("byte " + b + " at " + at + " of " + text + ", fault " + fault, goesOn ? fault == -4 || fault > at : fault == at);
            }
        }
    }

    private static void everyByteBehindSix() {
        Due.sentence("RULES, each with ; behind, 6 at most");
        for (int b = -128; b < 128; b++) {
            DeepWings w = new DeepWings();
            Due.text(w, 0, RULE.repeat(6) + "x");
            w.put(0, 36, b);
            Due.call(w, 36, "fault", 0);
        }
    }

    private static void numbers() {
        Due.sentence("a NUMBER of 1 to 3 digits without 0 ahead of another");
        for (int n = 0; n <= 1100; n++) {
            faultOf("p<" + n + "?u;", n < 1000 ? -4 : 5);
            if (n < 100) {
                faultOf("p<0" + n + "?u;", 3);
                faultOf("p<00" + n + "?u;", 3);
            }
        }
        faultOf("p<?u;", 2);
        faultOf("p<-1?u;", 2);
        faultOf("p<9999?u;", 5);
        for (int n : new int[] {0, 9, 10, 99, 100, 101, 998, 999}) {
            DeepWings w = new DeepWings();
            w.glider(0, 0, 0, n);
            Due.order(w, "p=" + n + "?u;");
            w.letter(0, 0);
            w.times(2);
            Due.call(w, 0, "rule", 0);
        }
    }

    private static void digitsOfActs() {
        Due.sentence("s and a digit 0 .. 3");
        for (int k = 0; k <= 9; k++) {
            faultOf("p<1?s" + k + ";", k <= 3 ? -4 : 5);
            faultOf("p<1?g00" + k + ";", k <= 3 ? -4 : 7);
            faultOf("p<1?g0" + k + "0;", k <= 7 ? -4 : 6);
            faultOf("p<1?g" + k + "00;", -4);
        }
        faultOf("p<1?s;", 5);
        faultOf("p<1?s00;", 6);
        faultOf("p<1?g00;", 7);
        faultOf("p<1?g0000;", 8);
        faultOf("p<1?u0;", 5);
        faultOf("p<1?;", 4);
        faultOf("?u;", 0);
    }

    private static void endsTooEarly() {
        Due.sentence("(the size, if it ends too early)");
        String text = "!p<999&!!x=0?g973;h>1?s0;d<5&t=9?u;";
        for (int size = 0; size <= text.length(); size++) {
            String part = text.substring(0, size);
            faultOf(part, part.endsWith(";") ? -4 : size);
        }
    }

    private static void eightyBytes() {
        Due.sentence("(the size, if it ends too early)");
        String all = "p<999&" + "p<9&".repeat(17) + "p<9?u;";
        Due.is("size", all.length(), 80);
        String two = "!p<999&!!x=0?g973;h>1?s0;";
        for (int size = 1; size <= two.length(); size++) {
            String part = two.substring(0, size);
            faultOf("!".repeat(80 - size) + part, part.endsWith(";") ? -4 : 80);
        }
        faultOf(all, -4);
        faultOf("p<9&".repeat(20), 80);
        faultOf("!".repeat(80), 80);
        faultOf(all.substring(0, 79) + "!", 79);
        faultOf("!".repeat(79) + "?", 79);
        faultOf(("p<9&".repeat(20)).substring(1) + "p", 0);
    }

    private static void nothingOfTextsWithFaults() {
        Due.sentence("A refused call changes nothing.");
        String[] before = {"p>9?s0;p<", "!x=1&y=1&d=0?u;p", "x=9?u;x=9?u;x=9?u;x=9?u;x=9?u;x=9?u", "p=1?u;"};
        for (String text : before) {
            DeepWings w = new DeepWings();
            w.glider(0, 4, 4, 8);
            Due.text(w, 0, text);
            Due.text(w, 1, "p>8?u;p=8?s2;");
            Due.isTrue("fault of " + text, w.fault(0) != 0);
            if (!text.endsWith(";")) {
                Due.call(w, -100 - text.length(), "order", 0);
            }
            Due.call(w, 0, "order", 1);
            w.fault(0);
            w.letter(0, 0);
            w.times(1);
            w.fault(0);
            Due.call(w, 1, "times", 1);
            Due.call(w, 2, "reading", 0, 3);
        }
    }

    private static void manyTurns() {
        Due.sentence("CHECK: ! CHECK");
        for (int turns : new int[] {0, 1, 2, 3, 73, 74}) {
            DeepWings w = new DeepWings();
            w.glider(0, 4, 4, 0);
            Due.is("order", Due.order(w, "!".repeat(turns) + RULE), 0);
            w.letter(0, 0);
            w.times(2);
            Due.call(w, turns % 2 == 0 ? 0 : -4, "rule", 0);
        }
    }

    private static void lowestBits() {
        Due.sentence("what is put in keeps its lowest bits");
        DeepWings w = new DeepWings();
        w.row(0, 0, 6);
        for (int i = 0; i < 6; i++) {
            w.put(0, i, RULE.charAt(i) + 256 * (i * 1000 - 3000));
        }
        Due.call(w, -4, "fault", 0);
        w.put(0, 5, ';' + 128);
        Due.call(w, 5, "fault", 0);
    }

    private static void tenOrders() {
        Due.sentence("ORDERS are numbered from 0 on, 10 at most.");
        DeepWings w = new DeepWings();
        Due.text(w, 0, RULE);
        w.glider(0, 0, 0, 9);
        for (int k = 0; k < 10; k++) {
            Due.call(w, -1, "letter", 0, k);
            Due.call(w, k, "order", 0);
            Due.call(w, k + 1, "count", 7);
            Due.call(w, k + 1, "letter", 0, k);
        }
        Due.call(w, -2, "order", 0);
        Due.call(w, -1, "letter", 0, 10);
        Due.call(w, 10, "count", 7);
        Due.call(w, -4, "fault", 0);
    }

    private static void refusalsOfFault() {
        Due.sentence("-4: it is an ORDER. -1, -11, -12 (no ROW of bytes).");
        Scene.RICH.refusesOutside(-1, 0, 0, 7, "fault", 0);
        Scene.FULL.refusesOutside(-1, 0, 0, 7, "fault", 0);
        Scene.RICH.refuses(-11, "fault", 0);
        Scene.RICH.refuses(-12, "fault", 1);
        Scene.RICH.refuses(-12, "fault", 3);
        Scene.RICH.refuses(-12, "fault", 4);
        Scene.RICH.refuses(0, "fault", 5);
        Scene.RICH.refuses(-4, "fault", 7);
    }

    private static void refusalsOfOrder() {
        Due.sentence("-1, -2, -11, -12, -100 less a FAULT, in this order.");
        Scene.RICH.refusesOutside(-1, 0, 0, 7, "order", 0);
        Scene.RICH.refuses(-11, "order", 0);
        Scene.RICH.refuses(-12, "order", 1);
        Scene.RICH.refuses(-12, "order", 3);
        Scene.RICH.refuses(-12, "order", 4);
        Scene.RICH.refuses(-100, "order", 5);
        Scene.RICH.then(w -> Due.text(w, 5, "p<1?")).refuses(-104, "order", 5);
        Scene.RICH.then(w -> Due.text(w, 5, RULE + "p<1&x?u;")).refuses(-111, "order", 5);
        Scene.RICH.then(w -> Due.text(w, 5, "!".repeat(80))).refuses(-180, "order", 5);
        Scene.FULL.refusesOutside(-1, 0, 0, 7, "order", 0);
        Scene.FULL.refuses(-2, "order", 0);
        Scene.FULL.refuses(-2, "order", 1);
        Scene.FULL.then(w -> w.keep(1, 0, 0)).refuses(-2, "order", 1);
        Scene.FULL.then(w -> w.keep(1, 1, 0)).refuses(-2, "order", 1);
        Scene.FULL.then(w -> Due.text(w, 1, RULE)).refuses(-2, "order", 1);
    }

    /** The RULE that GLIDER 0 has for a text which it heard one TIME ago. */
    private static int ruleFor(Scene scene, String text) {
        DeepWings w = scene.made();
        Due.order(w, text);
        w.letter(0, w.count(7) - 1);
        w.times(1);
        w.times(1);
        return w.rule(0);
    }

    /** That a FIELD senses a value: the three signs with the NUMBERS beside it. */
    private static void senses(Scene scene, char field, int value) {
        for (int n = Math.max(0, value - 1); n <= Math.min(999, value + 1); n++) {
            Due.is(field + "<" + n, ruleFor(scene, field + "<" + n + "?u;"), value < n ? 0 : -4);
            Due.is(field + ">" + n, ruleFor(scene, field + ">" + n + "?u;"), value > n ? 0 : -4);
            Due.is(field + "=" + n, ruleFor(scene, field + "=" + n + "?u;"), value == n ? 0 : -4);
            Due.is("!" + field + "=" + n, ruleFor(scene, "!" + field + "=" + n + "?u;"), value != n ? 0 : -4);
        }
    }

    private static void fieldsAgainstNumbers() {
        Due.sentence("FIELDS: p POWER, x, y its CELL, l 1 if it LEAKS, f FOUL");
        Scene least = new Scene(w -> {
            w.glider(0, 0, 0, 0);
            w.sea(0, 0, 0, 1);
        });
        Scene most = new Scene(w -> {
            w.glider(2, 9, 7, 999);
            w.salt(9, 7, 0, 998);
            w.leak(0, true);
            w.dive(0, 0, 0, 0);
            w.salt(9, 7, 0, 996);
            w.dive(0, 0, 0, 0);
        });
        int[] dueLeast = {0, 0, 0, 0, 0, 1, 2, 0, 1};
        int[] dueMost = {999 - 12, 9, 7, 1, 2, 1, 2, 999, 4};
        for (int i = 0; i < FIELDS.length(); i++) {
            senses(least, FIELDS.charAt(i), dueLeast[i]);
            senses(most, FIELDS.charAt(i), dueMost[i]);
        }
    }

    private static void fieldBounds() {
        Due.sentence("h TIMES since it heard last (it hears at each TIME at which it is UP and that isn't DEAF, LETTERS or none; never: TIME), t TIME modulo 10");
        String times = "h=0?u;h=1?u;h=2?u;h=3?u;h=9?u;h=10?u;";
        DeepWings w = Due.ordered(0, 4, 4, 9, times);
        w.times(2);
        for (int t = 2; t <= 11; t++) {
            Due.call(w, t - 2 < 3 ? t - 1 : t - 2 == 8 ? 4 : t - 2 == 9 ? 5 : -4, "rule", 0);
            w.deaf(t, true);
            w.times(1);
        }
        w.times(1);
        Due.call(w, 1, "rule", 0);
        Due.sentence("t TIME modulo 10");
        w = Due.ordered(0, 4, 4, 9, "t=0?u;t=1?u;t=2?u;t=8?u;t=9?u;t>9?u;");
        w.times(8);
        int[] due = {3, 4, 0, 1, 2};
        for (int t = 8; t < 53; t++) {
            int k = (t + 2) % 10;
            Due.call(w, k < 5 ? due[k] : -4, "rule", 0);
            w.times(1);
        }
        Due.sentence("s its latest READING (0: none)");
        w = Due.ordered(0, 4, 4, 99, "s=0?u;s=7?u;");
        w.salt(4, 4, 0, 7);
        w.times(2);
        Due.call(w, 0, "rule", 0);
        w.dive(0, 0, 0, 0);
        Due.call(w, 1, "rule", 0);
        w.clean(0, 7);
        Due.call(w, 1, "rule", 0);
    }

    private static void turnedChecks() {
        Due.sentence("CHECK: ! CHECK, or FIELD, one of < > =, a NUMBER");
        Scene scene = new Scene(w -> w.glider(0, 4, 5, 9));
        Due.is("! binds one CHECK", ruleFor(scene, "!x=4&y=5?u;"), -4);
        Due.is("! binds one CHECK", ruleFor(scene, "!x=3&y=5?u;"), 0);
        Due.is("! binds one CHECK", ruleFor(scene, "!x=3&y=4?u;"), -4);
        Due.is("! binds one CHECK", ruleFor(scene, "x=4&!y=4?u;"), 0);
    }

    private static void allChecks() {
        Due.sentence("TEST: CHECK, or CHECK & TEST.");
        Scene scene = new Scene(w -> w.glider(0, 4, 4, 8));
        for (int wrong = 0; wrong <= 19; wrong++) {
            StringBuilder s = new StringBuilder();
            for (int k = 0; k < 19; k++) {
                s.append(k > 0 ? "&" : "").append(k == wrong ? "p<8" : "p<9");
            }
            Due.is(s.toString(), ruleFor(scene, s + "?u;"), wrong == 19 ? 0 : -4);
        }
    }

    private static void firstRule() {
        Due.sentence("the first RULE whose TEST holds is done");
        for (int power = 0; power <= 6; power++) {
            int start = power;
            Scene scene = new Scene(w -> w.glider(0, 4, 4, start));
            Due.is("power " + power, ruleFor(scene, "p<1?u;p<2?u;p<3?u;p<4?u;p<5?u;p<6?u;"), power < 6 ? power : -4);
            Due.is("power " + power, ruleFor(scene, "p>4&p<6?u;p=1?u;p>1&x=5?u;p>0?u;"), new int[] {-4, 1, 3, 3, 3, 0, 3}[power]);
        }
    }

    private static void ruleRefusals() {
        Due.sentence("The RULE (from 0) that a GLIDER would do now; -4: none. -1; -3: it isn't UP, or has no ORDER.");
        Scene.RICH.refusesOutside(-1, 0, 0, 4, "rule", 0);
        Scene.FULL.refusesOutside(-1, 0, 0, 7, "rule", 0);
        Scene.RICH.refuses(0, "rule", 0);
        Scene.RICH.refuses(-3, "rule", 2);
        Scene.RICH.refuses(-3, "rule", 3);
        Scene.RICH.refuses(-3, "rule", 4);
        Scene.FULL.refuses(-4, "rule", 0);
        DeepWings w = Due.ordered(0, 0, 0, 9, "p<10?u;");
        Due.call(w, -3, "rule", 0);
        w.times(1);
        Due.call(w, -3, "rule", 0);
        w.times(1);
        Due.call(w, 0, "rule", 0);
        w.fetch(0);
        Due.call(w, -3, "rule", 0);
    }

    private static void actLayer() {
        Due.sentence("(a DIVE to that LAYER, or SINKS, if that is less; without HEADING)");
        int[] sinks = {2, 1, 3, 1};
        for (int kind = 0; kind < 4; kind++) {
            for (int layer = 0; layer <= 3; layer++) {
                for (String act : new String[] {"s" + layer, "g44" + layer}) {
                    DeepWings w = Due.ordered(kind, 4, 4, 99, "p>0?" + act + ";");
                    int d = Math.min(layer, sinks[kind]);
                    int cost = w.can(0, 2 + d);
                    w.times(1);
                    Due.call(w, 1, "times", 1);
                    Due.call(w, d, "reading", 0, 3);
                    Due.call(w, 36, "reading", 0, 2);
                    Due.call(w, 99 - cost, "about", 0, 3);
                }
            }
        }
    }

    private static void actHeading() {
        Due.sentence("as many STEPS east or west as are between, GOES at most, then north or south with those that are left");
        int[] goes = {2, 3, 1, 4};
        for (int kind = 0; kind < 4; kind++) {
            for (int goal = 0; goal < 80; goal++) {
                DeepWings w = Due.ordered(kind, 5, 4, 99, "p>0?g" + goal / 8 + goal % 8 + "0;");
                int left = goes[kind];
                int east = Math.max(-left, Math.min(left, goal / 8 - 5));
                left -= Math.abs(east);
                int north = Math.max(-left, Math.min(left, goal % 8 - 4));
                w.times(2);
                Due.call(w, 8 * (5 + east) + 4 + north, "reading", 0, 2);
            }
        }
    }

    private static void actPower() {
        Due.sentence("(its DIVE, if POWER is enough; else it stays up; without a RULE, too)");
        for (int power = 0; power <= 9; power++) {
            DeepWings w = Due.ordered(0, 4, 4, power, "p<9?s2;p<99?s0;");
            w.times(1);
            Due.call(w, power >= 8 ? 1 : 0, "times", 1);
            Due.call(w, power == 9 ? 5 : power == 8 ? 0 : power, "about", 0, 3);
            w = Due.ordered(0, 4, 4, power, "p>9?s2;");
            Due.call(w, 0, "times", 2);
            Due.call(w, power, "about", 0, 3);
            w = Due.ordered(0, 4, 4, power, "p<99?u;p<99?s0;");
            Due.call(w, 0, "times", 2);
            Due.call(w, power, "about", 0, 3);
            Due.call(w, 0, "about", 0, 4);
        }
    }
}
