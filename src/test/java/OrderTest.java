/** Promises 11, 12 and 16: fault, order, rule; and what each FIELD and ACT does. */
public final class OrderTest {
    public static void main(String[] args) {
        good();
        faults();
        ruleLimit();
        noRule();
        faultRefusals();
        orderRefusals();
        orderKeepsItsText();
        ruleRefusals();
        signsAndTurns();
        fields();
        firstRuleThatHolds();
        actSink();
        actGo();
        actWithoutPower();
        Due.end();
    }

    private static int faultOf(String text) {
        DeepWings w = new DeepWings();
        Due.text(w, 0, text);
        return w.fault(0);
    }

    private static void good() {
        String[] texts = {"p<0?u;", "x>9?s0;", "y=10?s3;", "l<100?g000;", "f<999?g973;", "h=1?u;", "t=0?u;",
            "s=5?u;d=4?u;", "!p<1?u;", "!!!p<1&!!x=1&y=2?u;", "p<1?u;p<2?u;p<3?u;p<4?u;p<5?u;p<6?u;",
            "p<1&p<1&p<1&p<1&p<1&p<1&p<1&p<1&p<1&p<1&p<1&p<1&p<1&p<1&p<1&p<1&p<1&p<1&p<1?u;",
            "!!!!!!!!!!!!!!!!!!!!!!!!!!!!!!!!!!!!!!!!!!!!!!!!!!!!!!!!!!!!!!!!!!!!!!!!!!!!p<1?u;".substring(2)};
        for (String text : texts) {
            Due.is("fault of " + text, faultOf(text), -4);
        }
    }

    private static void faults() {
        Object[][] due = {
            {"q<1?u;", 0}, {"P<1?u;", 0}, {"?u;", 0}, {";", 0}, {" p<1?u;", 0}, {"&", 0}, {"1<p?u;", 0},
            {"p", 1}, {"p!1?u;", 1}, {"pp", 1}, {"p?", 1}, {"p<", 2}, {"p<<", 2}, {"p<?u;", 2}, {"p<-1?u;", 2},
            {"p<1", 3}, {"p<00?u;", 3}, {"p<01?u;", 3}, {"p<1;", 3}, {"p<1u;", 3}, {"p<12", 4}, {"p<1x", 3},
            {"p<1234?u;", 5}, {"p<123", 5}, {"p<100?u;", -4}, {"p<1000?u;", 5}, {"p<1&", 4}, {"p<1&&", 4},
            {"p<1&?u;", 4}, {"p<1!x<1?u;", 3}, {"p<1?", 4}, {"p<1?;", 4}, {"p<1?x;", 4}, {"p<1?u", 5},
            {"p<1?uu", 5}, {"p<1?u?", 5}, {"p<1?s", 5}, {"p<1?s4;", 5}, {"p<1?s;", 5}, {"p<1?s3", 6}, {"p<1?g;", 5}, {"p<1?g0;", 6}, {"p<1?g00;", 7},
            {"p<1?s33;", 6}, {"p<1?g", 5}, {"p<1?g9", 6}, {"p<1?g98", 6}, {"p<1?g97", 7}, {"p<1?g974", 7},
            {"p<1?g973", 8}, {"p<1?g9733;", 8}, {"p<1?g:00;", 5}, {"p<1?g/00;", 5}, {"p<1?u;;", 6}, {"p<1?u;p", 7},
            {"p<1?u; ", 6}, {"!", 1}, {"!!", 2}, {"!?", 1}, {"!p<1&!", 6}, {"p<:?u;", 2}, {"p</?u;", 2}};
        for (Object[] row : due) {
            Due.is("fault of " + row[0], faultOf((String) row[0]), (Integer) row[1]);
        }
        DeepWings w = new DeepWings();
        Due.text(w, 0, "p<1?u;");
        w.put(0, 1, '<' + 256);
        Due.is("the lowest bits are what is there", w.fault(0), -4);
        w.put(0, 1, -1);
        Due.is("a byte below 0", w.fault(0), 1);
    }

    private static void ruleLimit() {
        String six = "p<1?u;p<1?u;p<1?u;p<1?u;p<1?u;p<1?u;";
        Due.is("six rules", faultOf(six), -4);
        Due.is("a seventh rule", faultOf(six + "p<1?u;"), 36);
        Due.is("anything behind the sixth", faultOf(six + "#"), 36);
        Due.is("the sixth isn't whole", faultOf(six.substring(0, 35)), 35);
    }

    /** A ROW without elements holds no RULE, so the text ends too early. */
    private static void noRule() {
        DeepWings w = new DeepWings();
        w.glider(0, 2, 2, 100);
        w.row(1, 0, 0);
        Due.is("fault of no bytes", w.fault(1), 0);
        Due.is("order of no bytes", w.order(1), -100);
        Due.is("no order yet", w.count(7), 0);
        Due.is("no letter can tell it", w.letter(0, 0), -1);
        Due.is("the next text is the first order", Due.order(w, "p>0?u;"), 0);
        Due.is("fault of no bytes behind a good text", w.fault(1), 0);
        Due.is("order of no bytes behind a good text", w.order(1), -100);
        Due.is("still the one", w.count(7), 1);
        w.letter(0, 0);
        w.times(2);
        Due.is("its rule as it was read", w.rule(0), 0);
        w.row(1, 1, 0);
        Due.is("no shorts", w.order(1), -12);
        w.row(1, 0, 1);
        Due.is("a byte 0", w.fault(1), 0);
    }

    private static void faultRefusals() {
        DeepWings w = new DeepWings();
        w.glider(0, 0, 0, 1);
        Due.is("no shelf", w.fault(-1), -1);
        Due.is("no shelf", w.fault(8), -1);
        Due.is("no shelf", w.fault(Integer.MIN_VALUE), -1);
        Due.is("nothing", w.fault(3), -11);
        w.keep(3, 1, 0);
        Due.is("a glider", w.fault(3), -12);
        w.row(3, 1, 3);
        Due.is("shorts", w.fault(3), -12);
        w.row(3, 2, 3);
        Due.is("ints", w.fault(3), -12);
        w.row(3, 0, 3);
        Due.is("bytes", w.fault(3), 0);
    }

    private static void orderRefusals() {
        DeepWings w = new DeepWings();
        w.glider(0, 0, 0, 1);
        Due.is("no shelf", w.order(-1), -1);
        Due.is("no shelf", w.order(8), -1);
        Due.is("nothing", w.order(0), -11);
        w.keep(0, 1, 0);
        Due.is("a glider", w.order(0), -12);
        w.row(0, 2, 3);
        Due.is("ints", w.order(0), -12);
        Due.text(w, 0, "p<1?u");
        Due.is("ends too early", w.order(0), -105);
        Due.text(w, 0, "p<1?g080;");
        Due.is("no such cell", w.order(0), -106);
        Due.is("no order yet", w.count(7), 0);
        Due.text(w, 0, "p<1?u;");
        for (int i = 0; i < 10; i++) {
            Due.is("order", w.order(0), i);
        }
        Due.is("orders", w.count(7), 10);
        Due.is("no room", w.order(0), -2);
        Due.is("no room ahead of nothing held", w.order(1), -2);
        w.row(0, 1, 1);
        Due.is("no room ahead of another kind", w.order(0), -2);
        Due.is("no shelf ahead of no room", w.order(8), -1);
        Due.is("orders", w.count(7), 10);
    }

    private static void orderKeepsItsText() {
        DeepWings w = new DeepWings();
        w.glider(0, 2, 2, 100);
        Due.text(w, 0, "p>9?u;");
        Due.is("order", w.order(0), 0);
        w.put(0, 1, '<');
        Due.is("another text, another order", w.order(0), 1);
        Due.text(w, 0, "p>9?u;p=3?u;x");
        Due.is("fault", w.fault(0), 13);
        Due.text(w, 0, "p=3?u;");
        Due.is("nothing of a text with a fault stays", w.order(0), 2);
        w.letter(0, 0);
        w.times(2);
        Due.is("the first as it was read", w.rule(0), 0);
        w.letter(0, 1);
        w.times(2);
        Due.is("the second as it was read", w.rule(0), -4);
        w.letter(0, 2);
        w.times(2);
        Due.is("the third as it was read", w.rule(0), -4);
    }

    private static void ruleRefusals() {
        DeepWings w = Due.ordered(0, 0, 0, 50, "p>0?u;");
        Due.is("no such", w.rule(1), -1);
        Due.is("no such", w.rule(-1), -1);
        Due.is("not heard yet", w.rule(0), -3);
        w.times(2);
        Due.is("a rule", w.rule(0), 0);
        w.fetch(0);
        Due.is("not up", w.rule(0), -3);
        w.glider(0, 0, 0, 50);
        Due.is("no order", w.rule(1), -3);
    }

    /** The RULE that a text has for a GLIDER of POWER 50 in CELL 3, 4 at TIME 2. */
    private static int ruleOf(String text) {
        DeepWings w = Due.ordered(0, 3, 4, 50, text);
        w.deaf(0, true);
        w.times(2);
        return w.rule(0);
    }

    private static void signsAndTurns() {
        Due.is("<", ruleOf("p<51?u;"), 0);
        Due.is("<", ruleOf("p<50?u;"), -4);
        Due.is(">", ruleOf("p>49?u;"), 0);
        Due.is(">", ruleOf("p>50?u;"), -4);
        Due.is("=", ruleOf("p=50?u;"), 0);
        Due.is("=", ruleOf("p=51?u;"), -4);
        Due.is("!", ruleOf("!p=50?u;"), -4);
        Due.is("!", ruleOf("!p=51?u;"), 0);
        Due.is("!!", ruleOf("!!p=50?u;"), 0);
        Due.is("!!!", ruleOf("!!!p=50?u;"), -4);
        Due.is("&", ruleOf("p=50&x=3&y=4?u;"), 0);
        Due.is("& first", ruleOf("p=1&x=3&y=4?u;"), -4);
        Due.is("& middle", ruleOf("p=50&x=4&y=4?u;"), -4);
        Due.is("& last", ruleOf("p=50&x=3&y=3?u;"), -4);
        Due.is("! binds its check alone", ruleOf("!p=1&x=3?u;"), 0);
        Due.is("! binds its check alone", ruleOf("!p=1&x=4?u;"), -4);
    }

    private static void holds(String what, DeepWings w, String check, boolean is) {
        Due.order(w, check + "?u;");
        w.letter(0, w.count(7) - 1);
        w.deaf(w.count(4), true);
        w.times(1);
        w.times(1);
        Due.is(what + " " + check, w.rule(0), is ? 0 : -4);
    }

    private static void fields() {
        DeepWings w = new DeepWings();
        w.sea(88, 22, 0, 3);
        w.glider(0, 8, 2, 123);
        holds("power", w, "p=123", true);
        holds("x", w, "x=8", true);
        holds("y", w, "y=2", true);
        holds("depth", w, "d=3", true);
        holds("leak", w, "l=0", true);
        w.leak(0, true);
        Due.is("leak", w.rule(0), -4);
        holds("leak", w, "l=1", true);
        holds("no reading", w, "s=0", true);
        w.salt(8, 2, 1, 77);
        w.dive(0, 1, 0, 0);
        holds("reading", w, "s=77", true);
        w.clean(0, 40);
        Due.is("as it showed", w.rule(0), 0);
        holds("foul", w, "f=0", true);
        w.dive(0, 1, 0, 0);
        Due.is("foul", w.rule(0), -4);
        hearing();
        Due.order(w = new DeepWings(), "t=3?u;");
        w.glider(0, 0, 0, 0);
        w.letter(0, 0);
        w.times(3);
        Due.is("time 3", w.rule(0), 0);
        w.times(9);
        Due.is("time 12", w.rule(0), -4);
        w.times(1);
        Due.is("time 13", w.rule(0), 0);
    }

    private static void hearing() {
        DeepWings w = Due.ordered(0, 0, 0, 0, "h=0?u;h=1?u;h=2?u;h=3?u;h=4?u;h=5?u;");
        w.times(2);
        Due.is("heard at 1, it is 2", w.rule(0), 1);
        w.deaf(2, true);
        w.deaf(3, true);
        w.times(2);
        Due.is("heard at 1, it is 4", w.rule(0), 3);
        w.times(1);
        Due.is("heard at 4, it is 5", w.rule(0), 1);
        Due.is("heard last", w.about(0, 8), 4);
        w = Due.ordered(0, 5, 5, 99, "h=0?s0;");
        w.deaf(2, true);
        Due.is("at TIME 1 it hears ahead of its rule, at 2 not", w.times(3), 1);
    }

    private static void firstRuleThatHolds() {
        DeepWings w = Due.ordered(0, 0, 0, 99, "p>98?g300;p<90?u;x>0?s1;p>0?s0;");
        w.times(1);
        Due.is("first", w.times(1), 1);
        Due.is("went", w.about(0, 1), 2);
        Due.is("third now", w.rule(0), 2);
        Due.is("it dives", w.times(1), 1);
        Due.is("power", w.about(0, 3), 99 - 4 - 6);
        Due.is("second now", w.rule(0), 1);
        Due.is("it stays up", w.times(3), 0);
        Due.is("power", w.about(0, 3), 89);
    }

    private static void actSink() {
        DeepWings w = Due.ordered(1, 5, 5, 99, "p>0?s3;");
        w.times(2);
        Due.is("as deep as it sinks", w.reading(0, 3), 1);
        Due.is("cost of that", w.about(0, 3), 96);
        Due.is("no heading", w.about(0, 1) * 8 + w.about(0, 2), 45);
        w = Due.ordered(2, 5, 5, 99, "p>0?s2;");
        w.times(2);
        Due.is("layer told", w.reading(0, 3), 2);
        Due.is("cost of that", w.about(0, 3), 92);
    }

    private static int goes(int kind, int x, int y, String act) {
        DeepWings w = Due.ordered(kind, x, y, 99, "p>0?" + act + ";");
        w.times(2);
        return 8 * w.about(0, 1) + w.about(0, 2);
    }

    private static void actGo() {
        Due.is("east and north", goes(3, 2, 2, "g330"), 27);
        Due.is("west and south", goes(3, 2, 2, "g110"), 9);
        Due.is("east first", goes(3, 2, 2, "g570"), 43);
        Due.is("east alone", goes(3, 2, 2, "g970"), 50);
        Due.is("north alone", goes(3, 2, 2, "g270"), 22);
        Due.is("west, then north with what is left", goes(3, 5, 2, "g370"), 28);
        Due.is("west, then south with what is left", goes(1, 5, 5, "g300"), 28);
        Due.is("south alone", goes(1, 2, 6, "g200"), 19);
        Due.is("west alone", goes(0, 5, 5, "g050"), 29);
        Due.is("there already", goes(0, 5, 5, "g553"), 45);
        Due.is("deep ones go 1", goes(2, 5, 5, "g773"), 53);
        DeepWings w = Due.ordered(0, 5, 5, 99, "p>0?g773;");
        w.times(2);
        Due.is("as deep as it sinks", w.reading(0, 3), 2);
        Due.is("cost of that", w.about(0, 3), 91);
        w = Due.ordered(2, 5, 5, 99, "p>0?g771;");
        w.times(2);
        Due.is("layer told", w.reading(0, 3), 1);
    }

    private static void actWithoutPower() {
        DeepWings exact = Due.ordered(0, 5, 5, 8, "p>0?s2;");
        Due.is("power just enough", exact.times(3), 1);
        Due.is("power", exact.about(0, 3), 0);
        DeepWings w = Due.ordered(0, 5, 5, 9, "p>0?s2;p>0?s0;");
        Due.is("one dive", w.times(3), 1);
        Due.is("then it stays up, the second rule isn't tried", w.about(0, 3), 1);
        Due.is("though the rule holds", w.rule(0), 0);
        w = Due.ordered(0, 5, 5, 7, "p>0?s2;p>0?s0;");
        Due.is("no power for the first that holds", w.times(5), 0);
        Due.is("power", w.about(0, 3), 7);
    }
}
