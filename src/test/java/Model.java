import java.util.ArrayList;
import java.util.Arrays;
import java.util.List;
import java.util.TreeMap;
import java.util.regex.Matcher;
import java.util.regex.Pattern;

/** A second writing of the document, slow and of another shape, for ModelTest to compare with. */
final class Model {
    private static final String CHECK = "!*[pxylfhtsd][<>=](?:0|[1-9][0-9]{0,2})";
    private static final String ACT = "(?:u|s[0-3]|g[0-9][0-7][0-3])";
    private static final String RULE = CHECK + "(?:&" + CHECK + ")*\\?" + ACT + ";";
    private static final Pattern ORDER = Pattern.compile("(?:" + RULE + "){1,6}");

    static final class Wing {
        int kind, x, y, power, state, foul, order = -4, heard = -4, dives, latest = -4;
        boolean leak;
        TreeMap<Integer, Integer> fixes = new TreeMap<>();

        Wing twin() {
            Wing t = new Wing();
            t.kind = kind; t.x = x; t.y = y; t.power = power; t.state = state; t.foul = foul;
            t.order = order; t.heard = heard; t.dives = dives; t.latest = latest; t.leak = leak;
            t.fixes = new TreeMap<>(fixes);
            return t;
        }

        int sinks() {
            return kind == 0 ? 2 : kind == 2 ? 3 : 1;
        }

        int goes() {
            return kind == 0 ? 2 : kind == 1 ? 3 : kind == 2 ? 1 : 4;
        }

        int cost(int d) {
            int plain = 4 + 2 * d;
            int dry = kind == 0 ? plain : kind == 1 ? plain / 2 : kind == 2 ? plain - 1 : plain / 2 + 1;
            return leak ? dry + 3 : dry;
        }

        boolean may(int layer, long east, long north) {
            return layer >= 0 && layer <= sinks() && Math.abs(east) + Math.abs(north) <= goes();
        }

        int code() {
            return 8 * x + y;
        }
    }

    static final class All {
        int[][] depth = new int[10][8];
        int[][] lane = new int[10][8];
        int[][] doubt = new int[10][8];
        /** By what of cell(): 3 .. 8, then x, y, layer. */
        int[][][][] deep = new int[9][10][8][4];
        List<Wing> wings = new ArrayList<>();
        List<String> orders = new ArrayList<>();
        /** glider, order, sent, heard */
        List<int[]> letters = new ArrayList<>();
        /** READINGS {0, glider, time, x, y, layer, foul, shown}, CLEANINGS {1, glider, too much, foul} */
        List<int[]> events = new ArrayList<>();
        boolean[] deaf = new boolean[401];
        int time, shipX, shipY;

        All twin() {
            All t = new All();
            for (int x = 0; x < 10; x++) {
                t.depth[x] = depth[x].clone();
                t.lane[x] = lane[x].clone();
                t.doubt[x] = doubt[x].clone();
                for (int what = 0; what < 9; what++) {
                    for (int y = 0; y < 8; y++) {
                        t.deep[what][x][y] = deep[what][x][y].clone();
                    }
                }
            }
            for (Wing w : wings) {
                t.wings.add(w.twin());
            }
            t.orders.addAll(orders);
            for (int[] l : letters) {
                t.letters.add(l.clone());
            }
            t.events.addAll(events);
            t.deaf = deaf.clone();
            t.time = time;
            t.shipX = shipX;
            t.shipY = shipY;
            return t;
        }
    }

    private All all = new All();
    private All picture;
    /** null, a Wing, or a byte[], short[], int[]. */
    private final Object[] shelf = new Object[8];

    Model() {
        for (int x = 0; x < 10; x++) {
            Arrays.fill(all.depth[x], 4);
            Arrays.fill(all.doubt[x], 50);
        }
    }

    private static boolean in(long v, long least, long most) {
        return v >= least && v <= most;
    }

    private static boolean at(int x, int y) {
        return in(x, 0, 9) && in(y, 0, 7);
    }

    private Wing wing(int n) {
        return in(n, 0, all.wings.size() - 1) ? all.wings.get(n) : null;
    }

    private boolean water(int x, int y) {
        return at(x, y) && all.depth[x][y] > 0;
    }

    int sea(int xs, int ys, int what, int v) {
        if (!in(xs, 0, 99) || !in(ys, 0, 77) || xs / 10 > xs % 10 || ys / 10 > ys % 10 || ys % 10 > 7) {
            return -1;
        }
        if (!in(what, 0, 2) || !in(v, 0, new int[] {4, 1, 99}[what])) {
            return -1;
        }
        for (Wing w : all.wings) {
            boolean inside = in(w.x, xs / 10, xs % 10) && in(w.y, ys / 10, ys % 10);
            if (what == 0 && v == 0 && w.state == 0 && inside) {
                return -3;
            }
        }
        int changed = 0;
        int[][] of = what == 0 ? all.depth : what == 1 ? all.lane : all.doubt;
        for (int x = xs / 10; x <= xs % 10; x++) {
            for (int y = ys / 10; y <= ys % 10; y++) {
                if (of[x][y] != v && (what != 2 || all.depth[x][y] != 0)) {
                    changed++;
                    of[x][y] = v;
                    if (what == 0 && v == 0) {
                        all.doubt[x][y] = 0;
                    }
                }
            }
        }
        return changed;
    }

    int stream(int x, int y, int layer, int east, int north, boolean map) {
        if (!at(x, y) || !in(layer, 0, 3) || !in(east, -2, 2) || !in(north, -2, 2)) {
            return -1;
        }
        all.deep[map ? 5 : 3][x][y][layer] = east;
        all.deep[map ? 6 : 4][x][y][layer] = north;
        return 0;
    }

    int salt(int x, int y, int layer, int v) {
        if (!at(x, y) || !in(layer, 0, 3) || !in(v, 0, 1001)) {
            return -1;
        }
        int what = v < 1000 ? 7 : 8;
        int to = v < 1000 ? v : 1001 - v;
        int was = all.deep[what][x][y][layer];
        all.deep[what][x][y][layer] = to;
        return was != to ? 1 : 0;
    }

    int cell(int x, int y, int layer, int what) {
        if (!at(x, y) || !in(what, 0, 8)) {
            return -1;
        }
        if (what < 3) {
            return new int[] {all.depth[x][y], all.lane[x][y], all.doubt[x][y]}[what];
        }
        return in(layer, 0, 3) ? all.deep[what][x][y][layer] : -1;
    }

    int glider(int kind, int x, int y, int power) {
        if (!in(kind, 0, 3) || !at(x, y) || !in(power, 0, 999)) {
            return -1;
        }
        if (all.wings.size() == 8) {
            return -2;
        }
        if (all.depth[x][y] == 0) {
            return -3;
        }
        Wing w = new Wing();
        w.kind = kind;
        w.x = x;
        w.y = y;
        w.power = power;
        all.wings.add(w);
        return all.wings.size() - 1;
    }

    int about(int glider, int what) {
        Wing w = wing(glider);
        if (w == null || !in(what, 0, 10)) {
            return -1;
        }
        return new int[] {w.kind, w.x, w.y, w.power, w.state, w.leak ? 1 : 0, w.foul, w.order, w.heard, w.dives, w.latest}[what];
    }

    int can(int glider, int what) {
        Wing w = wing(glider);
        if (w == null || !in(what, 0, 5)) {
            return -1;
        }
        return what == 0 ? w.sinks() : what == 1 ? w.goes() : what - 2 > w.sinks() ? -3 : w.cost(what - 2);
    }

    int leak(int glider, boolean is) {
        Wing w = wing(glider);
        if (w == null) {
            return -1;
        }
        int answer = w.leak != is ? 1 : 0;
        w.leak = is;
        return answer;
    }

    /** East ones, then north ones, each tried. */
    private int[] walk(int[] from, int east, int north) {
        int[] p = from.clone();
        for (int leftEast = east, leftNorth = north; leftEast != 0 || leftNorth != 0;) {
            int dx = Integer.signum(leftEast);
            int dy = leftEast != 0 ? 0 : Integer.signum(leftNorth);
            if (water(p[0] + dx, p[1] + dy)) {
                p[0] += dx;
                p[1] += dy;
            }
            leftEast -= dx;
            leftNorth -= dy;
        }
        return p;
    }

    /** x, y, LAYER to which it sank, 1 if a NET caught it. */
    private int[] sink(int x, int y, int d, int eastRow, boolean nets) {
        int[] p = {x, y};
        int sank = 0;
        for (int l = 0; l <= d; l++) {
            if (all.depth[p[0]][p[1]] <= l) {
                break;
            }
            sank = l;
            p = walk(p, all.deep[eastRow][p[0]][p[1]][l], all.deep[eastRow + 1][p[0]][p[1]][l]);
            if (nets && all.depth[p[0]][p[1]] > l && all.deep[8][p[0]][p[1]][l] == 1) {
                return new int[] {p[0], p[1], l, 1};
            }
        }
        return new int[] {p[0], p[1], sank, 0};
    }

    int dive(int glider, int layer, int east, int north) {
        Wing w = wing(glider);
        if (w == null || !w.may(layer, east, north)) {
            return -1;
        }
        if (w.state != 0 || w.power < w.cost(layer)) {
            return -3;
        }
        return down(glider, w, layer, east, north);
    }

    private int down(int number, Wing w, int layer, int east, int north) {
        int x0 = w.x;
        int y0 = w.y;
        w.power -= w.cost(layer);
        w.dives++;
        int[] s = sink(x0, y0, layer, 3, true);
        w.x = s[0];
        w.y = s[1];
        if (s[3] == 1) {
            w.state = 2;
            return -5;
        }
        int[] end = walk(new int[] {s[0], s[1]}, east, north);
        w.x = end[0];
        w.y = end[1];
        int deepest = all.depth[w.x][w.y] - 1;
        int at = s[2] <= deepest ? s[2] : deepest;
        int shown = all.deep[7][w.x][w.y][at] + w.foul * 3;
        w.latest = shown;
        if (readings().size() < 200) {
            all.events.add(new int[] {0, number, all.time, w.x, w.y, at, w.foul, shown});
        }
        for (int x = 0; x < 10; x++) {
            for (int y = 0; y < 8; y++) {
                int off = Math.abs(x - w.x) + Math.abs(y - w.y);
                all.doubt[x][y] = off == 0 ? 0 : off == 1 ? all.doubt[x][y] / 2 : all.doubt[x][y];
            }
        }
        w.foul++;
        if (all.lane[w.x][w.y] == 1) {
            w.power = w.power < 5 ? 0 : w.power - 5;
        }
        int[] alone = walk(new int[] {x0, y0}, east, north);
        learn(x0, y0, s[2], 5, w.x - alone[0]);
        learn(x0, y0, s[2], 6, w.y - alone[1]);
        return w.code();
    }

    private void learn(int x, int y, int sank, int mapRow, int drift) {
        int[] map = all.deep[mapRow][x][y];
        int told = 0;
        for (int l = 0; l <= sank && l < all.depth[x][y]; l++) {
            told += map[l];
        }
        for (int l = 0; l <= sank && l < all.depth[x][y]; l++) {
            int to = map[l] + Integer.compare(drift, told);
            map[l] = to > 2 ? 2 : to < -2 ? -2 : to;
        }
    }

    private static String text(Object held) {
        byte[] bytes = (byte[]) held;
        StringBuilder s = new StringBuilder();
        for (byte b : bytes) {
            s.append((char) (b & 255));
        }
        return s.toString();
    }

    private static int faultOf(String text) {
        if (ORDER.matcher(text).matches()) {
            return -4;
        }
        for (int k = 1; k <= text.length(); k++) {
            Matcher m = ORDER.matcher(text.substring(0, k));
            if (!m.matches() && !m.hitEnd()) {
                return k - 1;
            }
        }
        return text.length();
    }

    int fault(int d) {
        if (!in(d, 0, 7)) {
            return -1;
        }
        if (shelf[d] == null) {
            return -11;
        }
        return shelf[d] instanceof byte[] ? faultOf(text(shelf[d])) : -12;
    }

    int order(int d) {
        if (!in(d, 0, 7)) {
            return -1;
        }
        if (all.orders.size() == 10) {
            return -2;
        }
        int f = fault(d);
        if (f == -11 || f == -12) {
            return f;
        }
        if (f != -4) {
            return -100 - f;
        }
        all.orders.add(text(shelf[d]));
        return all.orders.size() - 1;
    }

    int letter(int glider, int order) {
        if (wing(glider) == null || !in(order, 0, all.orders.size() - 1)) {
            return -1;
        }
        if (all.letters.size() == 60) {
            return -2;
        }
        all.letters.add(new int[] {glider, order, all.time, 0});
        return all.letters.size();
    }

    int waiting(int glider) {
        if (wing(glider) == null) {
            return -1;
        }
        int n = 0;
        for (int[] l : all.letters) {
            n += l[0] == glider && l[3] == 0 ? 1 : 0;
        }
        return n;
    }

    int deaf(int time, boolean is) {
        if (!in(time, 0, 400)) {
            return -1;
        }
        int answer = all.deaf[time] != is ? 1 : 0;
        all.deaf[time] = is;
        return answer;
    }

    private int sense(Wing w, char field) {
        switch (field) {
            case 'p': return w.power;
            case 'x': return w.x;
            case 'y': return w.y;
            case 'l': return w.leak ? 1 : 0;
            case 'f': return w.foul;
            case 'h': return w.heard < 0 ? all.time : all.time - w.heard;
            case 't': return all.time % 10;
            case 's': return w.latest < 0 ? 0 : w.latest;
            default: return all.depth[w.x][w.y];
        }
    }

    private boolean check(Wing w, String check) {
        if (check.startsWith("!")) {
            return !check(w, check.substring(1));
        }
        int v = sense(w, check.charAt(0));
        int n = Integer.parseInt(check.substring(2));
        return check.charAt(1) == '<' ? v < n : check.charAt(1) == '>' ? v > n : v == n;
    }

    private int ruleNow(Wing w) {
        String[] rules = all.orders.get(w.order).split(";");
        for (int i = 0; i < rules.length; i++) {
            boolean holds = true;
            for (String c : rules[i].split("\\?")[0].split("&")) {
                holds &= check(w, c);
            }
            if (holds) {
                return i;
            }
        }
        return -4;
    }

    int rule(int glider) {
        Wing w = wing(glider);
        if (w == null) {
            return -1;
        }
        return w.state != 0 || w.order < 0 ? -3 : ruleNow(w);
    }

    int times(int n) {
        if (!in(n, 1, 40)) {
            return -1;
        }
        if (all.time + n > 400) {
            return -2;
        }
        int dives = 0;
        for (int i = 0; i < n; i++) {
            dives += oneTime();
        }
        return dives;
    }

    private int oneTime() {
        for (int g = 0; g < all.wings.size(); g++) {
            Wing w = all.wings.get(g);
            if (w.state == 0 && !all.deaf[all.time]) {
                for (int[] l : all.letters) {
                    if (l[0] == g && l[3] == 0 && l[2] < all.time) {
                        l[3] = 1;
                        w.order = l[1];
                    }
                }
                w.heard = all.time;
                w.fixes.put(all.time, w.code());
            }
        }
        int dives = 0;
        for (int g = 0; g < all.wings.size(); g++) {
            Wing w = all.wings.get(g);
            if (w.state == 0 && w.order >= 0 && ruleNow(w) >= 0) {
                dives += act(g, w, all.orders.get(w.order).split(";")[ruleNow(w)].split("\\?")[1]);
            }
        }
        for (int x = 0; x < 10; x++) {
            for (int y = 0; y < 8; y++) {
                if (all.depth[x][y] > 0) {
                    all.doubt[x][y] = Math.min(99, all.doubt[x][y] + 1);
                }
            }
        }
        all.time++;
        return dives;
    }

    private int act(int g, Wing w, String act) {
        if (act.equals("u")) {
            return 0;
        }
        int layer = Math.min(w.sinks(), act.charAt(act.length() - 1) - '0');
        if (w.cost(layer) > w.power) {
            return 0;
        }
        int east = 0;
        int north = 0;
        if (act.charAt(0) == 'g') {
            int steps = w.goes();
            int goalX = act.charAt(1) - '0';
            int goalY = act.charAt(2) - '0';
            while (steps > 0 && w.x + east != goalX) {
                east += goalX > w.x ? 1 : -1;
                steps--;
            }
            while (steps > 0 && w.y + north != goalY) {
                north += goalY > w.y ? 1 : -1;
                steps--;
            }
        }
        down(g, w, layer, east, north);
        return 1;
    }

    int known(int glider, int time) {
        Wing w = wing(glider);
        if (w == null || !in(time, 0, 400)) {
            return -1;
        }
        return w.fixes.floorEntry(time) == null ? -4 : w.fixes.floorEntry(time).getValue();
    }

    private List<int[]> events(int sort) {
        List<int[]> found = new ArrayList<>();
        for (int[] e : all.events) {
            if (e[0] == sort) {
                found.add(e);
            }
        }
        return found;
    }

    private List<int[]> readings() {
        return events(0);
    }

    int clean(int glider, int tooMuch) {
        Wing w = wing(glider);
        if (w == null || !in(tooMuch, -2000, 2000)) {
            return -1;
        }
        if (events(1).size() == 60) {
            return -2;
        }
        all.events.add(new int[] {1, glider, tooMuch, w.foul});
        w.foul = 0;
        return events(1).size();
    }

    int reading(int reading, int what) {
        if (!in(reading, 0, readings().size() - 1) || !in(what, 0, 4)) {
            return -1;
        }
        int[] r = readings().get(reading);
        return new int[] {r[1], r[2], 8 * r[3] + r[4], r[5], r[6]}[what];
    }

    long read(int reading, boolean right) {
        if (!in(reading, 0, readings().size() - 1)) {
            throw new IllegalArgumentException();
        }
        int[] r = readings().get(reading);
        if (!right) {
            return r[7];
        }
        boolean behind = false;
        for (int[] e : all.events) {
            if (behind && e[0] == 1 && e[1] == r[1]) {
                return r[7] - e[2] * (r[6] + 1) / e[3];
            }
            behind |= e == r;
        }
        return r[7] - 3 * r[6];
    }

    private static int goal(int[][][] options, int[] pick, int k) {
        return options[k][pick[k]][2];
    }

    /** The GAIN, then glider, heading of each; null: none. */
    private int[] thePlan(int layer) {
        List<Integer> team = new ArrayList<>();
        for (int g = 0; g < all.wings.size() && team.size() < 3; g++) {
            Wing w = all.wings.get(g);
            if (w.state == 0 && w.power >= w.cost(Math.min(layer, w.sinks()))) {
                team.add(g);
            }
        }
        int n = team.size();
        int[][][] options = new int[n][][];
        for (int k = 0; k < n; k++) {
            Wing w = all.wings.get(team.get(k));
            List<int[]> list = new ArrayList<>();
            for (int e = -4; e <= 4; e++) {
                for (int no = -4; no <= 4; no++) {
                    if (w.may(0, e, no)) {
                        list.add(new int[] {e, no, ends(team.get(k), Math.min(layer, w.sinks()), e, no)});
                    }
                }
            }
            options[k] = list.toArray(new int[0][]);
        }
        int[] best = null;
        int[] pick = new int[n];
        while (true) {
            boolean apart = true;
            for (int a = 0; a < n; a++) {
                for (int b = 0; b < a; b++) {
                    apart &= goal(options, pick, a) != goal(options, pick, b);
                }
            }
            int gain = apart ? gain(options, pick) : -1;
            if (apart && (best == null || gain > best[0])) {
                best = new int[1 + 2 * n];
                best[0] = gain;
                for (int k = 0; k < n; k++) {
                    best[1 + 2 * k] = team.get(k);
                    best[2 + 2 * k] = 20 * (options[k][pick[k]][0] + 10) + options[k][pick[k]][1] + 10;
                }
            }
            int k = n - 1;
            while (k >= 0 && ++pick[k] == options[k].length) {
                pick[k--] = 0;
            }
            if (k < 0) {
                return best;
            }
        }
    }

    private int gain(int[][][] options, int[] pick) {
        TreeMap<Integer, Integer> most = new TreeMap<>();
        for (int k = 0; k < pick.length; k++) {
            int x = goal(options, pick, k) / 8;
            int y = goal(options, pick, k) % 8;
            most.merge(8 * x + y, all.doubt[x][y], Math::max);
            int[][] sides = {{x + 1, y}, {x - 1, y}, {x, y + 1}, {x, y - 1}};
            for (int[] s : sides) {
                if (at(s[0], s[1])) {
                    most.merge(8 * s[0] + s[1], (all.doubt[s[0]][s[1]] + 1) / 2, Math::max);
                }
            }
        }
        int sum = 0;
        for (int v : most.values()) {
            sum += v;
        }
        return sum;
    }

    int plan(int layer) {
        if (!in(layer, 0, 3)) {
            return -1;
        }
        int[] p = thePlan(layer);
        return p == null ? -4 : p[0];
    }

    int planned(int layer, int glider) {
        if (!in(layer, 0, 3) || wing(glider) == null) {
            return -1;
        }
        int[] p = thePlan(layer);
        for (int i = 1; p != null && i < p.length; i += 2) {
            if (p[i] == glider) {
                return p[i + 1];
            }
        }
        return -4;
    }

    int ends(int glider, int layer, int east, int north) {
        Wing w = wing(glider);
        if (w == null || !w.may(layer, east, north)) {
            return -1;
        }
        if (w.state != 0) {
            return -3;
        }
        int[] s = sink(w.x, w.y, layer, 5, false);
        int[] p = walk(new int[] {s[0], s[1]}, east, north);
        return 8 * p[0] + p[1];
    }

    private int flow(int x, int y, int layer, int dx, int dy) {
        if (!at(x, y) || all.depth[x][y] <= layer) {
            return 0;
        }
        return Math.max(0, dx * all.deep[5][x][y][layer] + dy * all.deep[6][x][y][layer]);
    }

    int whole(int layer) {
        if (!in(layer, 0, 3)) {
            return -1;
        }
        int n = 0;
        for (int x = 0; x < 10; x++) {
            for (int y = 0; y < 8; y++) {
                int out = Math.abs(all.deep[5][x][y][layer]) + Math.abs(all.deep[6][x][y][layer]);
                int in = flow(x - 1, y, layer, 1, 0) + flow(x + 1, y, layer, -1, 0)
                    + flow(x, y - 1, layer, 0, 1) + flow(x, y + 1, layer, 0, -1);
                n += all.depth[x][y] > layer && out == in ? 1 : 0;
            }
        }
        return n;
    }

    int ship(int x, int y) {
        if (!at(x, y)) {
            return -1;
        }
        if (!water(x, y)) {
            return -3;
        }
        int was = 8 * all.shipX + all.shipY;
        all.shipX = x;
        all.shipY = y;
        return was;
    }

    int left(int glider) {
        Wing w = wing(glider);
        return w == null ? -1 : w.state != 0 ? -3 : w.power / w.cost(1);
    }

    private int off(Wing w) {
        return Math.abs(w.x - all.shipX) + Math.abs(w.y - all.shipY);
    }

    int next() {
        int best = -4;
        long bestRank = Long.MAX_VALUE;
        for (int g = 0; g < all.wings.size(); g++) {
            Wing w = all.wings.get(g);
            long rank = left(g) * 1000L + off(w) * 10L + g;
            if (w.state == 0 && rank < bestRank) {
                best = g;
                bestRank = rank;
            }
        }
        return best;
    }

    int fetch(int glider) {
        Wing w = wing(glider);
        if (w == null) {
            return -1;
        }
        if (w.state != 0 || off(w) > 3) {
            return -3;
        }
        w.state = 1;
        return off(w);
    }

    int image() {
        picture = all.twin();
        return all.time;
    }

    int restore() {
        if (picture == null) {
            return -3;
        }
        all = picture.twin();
        return all.time;
    }

    int count(int what) {
        int[] states = new int[3];
        int power = 0;
        int doubt = 0;
        for (Wing w : all.wings) {
            states[w.state]++;
            power += w.power;
        }
        for (int[] column : all.doubt) {
            doubt += Arrays.stream(column).sum();
        }
        int[] counts = {all.wings.size(), states[0], states[1], states[2], all.time, readings().size(),
            all.letters.size(), all.orders.size(), doubt, events(1).size(), power};
        return in(what, 0, 10) ? counts[what] : -1;
    }

    int keep(int d, int what, int k) {
        if (!in(d, 0, 7) || !in(what, 0, 1) || (what == 1 && wing(k) == null)) {
            return -1;
        }
        shelf[d] = what == 0 ? null : wing(k).twin();
        return 0;
    }

    int row(int d, int sort, int n) {
        if (!in(d, 0, 7) || !in(sort, 0, 2) || n > 80) {
            return -1;
        }
        if (n < 0) {
            return -14;
        }
        shelf[d] = sort == 0 ? new byte[n] : sort == 1 ? new short[n] : new int[n];
        return 0;
    }

    int put(int d, int i, int v) {
        if (!in(d, 0, 7)) {
            return -1;
        }
        if (shelf[d] == null) {
            return -11;
        }
        if (shelf[d] instanceof Wing) {
            return -12;
        }
        if (!in(i, 0, java.lang.reflect.Array.getLength(shelf[d]) - 1)) {
            return -13;
        }
        if (shelf[d] instanceof byte[]) {
            ((byte[]) shelf[d])[i] = (byte) v;
        } else if (shelf[d] instanceof short[]) {
            ((short[]) shelf[d])[i] = (short) v;
        } else {
            ((int[]) shelf[d])[i] = v;
        }
        return 0;
    }

    long element(int d, int i) {
        if (!in(d, 0, 7)) {
            throw new IllegalArgumentException();
        }
        if (shelf[d] == null || shelf[d] instanceof Wing || !in(i, 0, java.lang.reflect.Array.getLength(shelf[d]) - 1)) {
            throw new IllegalStateException();
        }
        return java.lang.reflect.Array.getLong(shelf[d], i);
    }

    int copy(int d, int i, int e, int j, int n) {
        if (!in(d, 0, 7) || !in(e, 0, 7)) {
            return -1;
        }
        if (shelf[d] == null || shelf[e] == null) {
            return -11;
        }
        if (shelf[d] instanceof Wing || shelf[d].getClass() != shelf[e].getClass()) {
            return -12;
        }
        try {
            System.arraycopy(shelf[d], i, shelf[e], j, n);
            return n;
        } catch (IndexOutOfBoundsException outside) {
            return -13;
        }
    }

    int sum(int d) {
        if (!in(d, 0, 7)) {
            return -1;
        }
        if (shelf[d] == null) {
            return -11;
        }
        if (!(shelf[d] instanceof Wing)) {
            return -12;
        }
        Wing w = ((Wing) shelf[d]).twin();
        w.leak = false;
        int base = 100 + 10 * w.sinks() + w.goes();
        return w.kind == 0 ? base : w.kind == 1 ? base + w.cost(0) : w.kind == 2 ? base + w.power : 2 * (base + w.cost(0));
    }

    int toss(int d) {
        int s = sum(d);
        if (s < 0) {
            return s;
        }
        Wing w = (Wing) shelf[d];
        return w.kind == 0 || w.state != 0 ? -15 : w.kind == 3 ? 100 + w.code() : w.code();
    }
}
