import java.math.BigInteger;
import java.util.ArrayDeque;
import java.util.ArrayList;
import java.util.Arrays;
import java.util.Deque;
import java.util.List;
import java.util.regex.Matcher;
import java.util.regex.Pattern;

/** The document once more, written from it in another way and with no thought for rooms or speed. */
final class Model {
    /** A refusal: which row of status it counts in (-1: none), and what it answers. */
    private static final class Refused extends RuntimeException {
        private static final long serialVersionUID = 1L;
        final int row;
        final int answer;

        Refused(int row, int answer) {
            super(null, null, false, false);
            this.row = row;
            this.answer = answer;
        }
    }

    private static class Plain {
        int kind, weight, volume, ballast;
        int weighs(int h, int b) { return weight; }
        int room(int h) { return volume; }
        boolean breaks(int bears, int h, int b) { return bears < weighs(h, b); }
    }

    private static class Ship extends Plain {
        @Override int weighs(int h, int b) { return super.weighs(h, b) + b; }
    }

    private static class Bottle extends Ship {
        @Override int room(int h) { return super.room(h) + 1; }
        @Override boolean breaks(int bears, int h, int b) { return bears < weighs(h, b) / 2; }
    }

    private static class Diver extends Bottle {
        @Override int weighs(int h, int b) { return super.weighs(h, b) + (h > 10 ? 20 : 2 * h); }
        @Override boolean breaks(int bears, int h, int b) { return true; }
    }

    private static class Drowned extends Plain {
        @Override int room(int h) { return super.room(h) + (h >= 20 ? 5 : h / 4); }
    }

    private static class Fish extends Plain {
        @Override boolean breaks(int bears, int h, int b) { return false; }
    }

    private static Plain make(int kind, int weight, int volume, int ballast) {
        Plain p = switch (kind) {
            case 0 -> new Plain();
            case 1 -> new Ship();
            case 2 -> new Bottle();
            case 3 -> new Diver();
            case 4 -> new Drowned();
            default -> new Fish();
        };
        p.kind = kind;
        p.weight = weight;
        p.volume = volume;
        p.ballast = ballast;
        return p;
    }

    private static final class State {
        int n;
        int[] density = {10, 13, 16, 20};
        int[][] thick;
        int[] bears = new int[3];
        int[][] tide = new int[4][6];
        int[] current = new int[4];
        int hour = 0;
        Deque<Integer> before = new ArrayDeque<>();
        List<Plain> things = new ArrayList<>();
        List<int[]> lifts = new ArrayList<>();
        List<Integer> towns = new ArrayList<>();
        boolean[] dams;
        List<int[]> drops = new ArrayList<>();

        State(int n) {
            this.n = n;
            thick = new int[4][n];
            dams = new boolean[n - 1];
            for (int[] row : thick) {
                Arrays.fill(row, 3);
            }
        }

        State copy() {
            State s = new State(n);
            s.density = density.clone();
            s.bears = bears.clone();
            s.current = current.clone();
            s.dams = dams.clone();
            s.hour = hour;
            for (int l = 0; l < 4; l++) {
                s.thick[l] = thick[l].clone();
                s.tide[l] = tide[l].clone();
            }
            s.before = new ArrayDeque<>(before);
            for (Plain p : things) {
                s.things.add(make(p.kind, p.weight, p.volume, p.ballast));
            }
            lifts.forEach(l -> s.lifts.add(l.clone()));
            s.towns.addAll(towns);
            drops.forEach(d -> s.drops.add(d.clone()));
            return s;
        }

        int damBits() {
            int bits = 0;
            for (int k = 0; k < dams.length; k++) {
                bits += dams[k] ? 1 << k : 0;
            }
            return bits;
        }

        int at(int l, int c, int h) {
            int t = thick[l][c] + tide[l][h % 6];
            return t < 0 ? 0 : t;
        }

        /** layer, down, broken, stopper, then the thick of the layers passed (0: not passed). */
        int[] fall(Plain p, int b, int c, int h, boolean[] torn) {
            List<Integer> there = new ArrayList<>();
            for (int l = 0; l < 4; l++) {
                if (at(l, c, h) > 0) {
                    there.add(l);
                }
            }
            int[] r = {4, 0, 0, -1, 0, 0, 0, 0};
            for (int i = 0; i < there.size(); i++) {
                int l = there.get(i);
                if (i > 0 && !torn[l - 1]) {
                    if (!p.breaks(bears[l - 1], h, b)) {
                        r[0] = there.get(i - 1);
                        r[3] = l - 1;
                        return r;
                    }
                    r[2] += 1 << (l - 1);
                }
                if (p.weighs(h, b) <= p.room(h) * density[l]) {
                    r[0] = l;
                    return r;
                }
                r[1] += at(l, c, h);
                r[4 + l] = at(l, c, h);
            }
            return r;
        }

        int[] fall(int thing, int c) {
            Plain p = things.get(thing);
            return fall(p, p.ballast, c, hour, new boolean[3]);
        }
    }

    private State s = new State(4);
    private final State[] images = new State[2];
    private String text = "";
    private BigInteger above = BigInteger.ZERO;
    private BigInteger below = BigInteger.ONE;
    private final int[] status = new int[3];

    private static void need(boolean holds, int row, int answer) {
        if (!holds) {
            throw new Refused(row, answer);
        }
    }

    private static void bad(boolean holds) {
        need(holds, 0, -2);
    }

    private static void bad10(boolean holds) {
        need(holds, 0, -10);
    }

    private static boolean in(int x, int a, int b) {
        return a <= x && x <= b;
    }

    private static boolean cell(State s, int c) {
        return in(c, 0, s.n - 1);
    }

    private boolean isThing(int t) {
        return in(t, 0, s.things.size() - 1);
    }

    private static boolean place(State s, int p) {
        for (int c = 0; c < s.n; c++) {
            for (int l = 0; l < 4; l++) {
                if (p == 10 * c + l) {
                    return true;
                }
            }
        }
        return false;
    }

    /** A call by name; booleans are 1 and 0. */
    long call(String name, int... a) {
        try {
            return answer(name, a);
        } catch (Refused r) {
            if (r.row >= 0) {
                status[r.row]++;
            }
            return r.answer;
        }
    }

    private long answer(String name, int[] a) {
        switch (name) {
            case "sea": case "water": case "thick": case "skin": case "thing": case "lift": case "town": {
                State[] box = {s};
                long was = item(box, name, a);
                s = box[0];
                return was;
            }
            case "dam": return dam(s, a[0], a[1] == 1);
            case "tide": {
                bad10(in(a[0], 0, 3) && in(a[1], 0, 5) && in(a[2], -2, 2));
                int was = s.tide[a[0]][a[1]];
                s.tide[a[0]][a[1]] = a[2];
                return was;
            }
            case "current": {
                bad10(in(a[0], 0, 3) && in(a[1], -1, 1));
                int was = s.current[a[0]];
                s.current[a[0]] = a[1];
                return was;
            }
            case "ballast": {
                bad(isThing(a[0]) && in(a[1], 0, 99));
                int was = s.things.get(a[0]).ballast;
                s.things.get(a[0]).ballast = a[1];
                return was;
            }
            case "drop":
                bad(in(a[0], 0, 3));
                need(s.drops.size() < 6, 2, -4);
                s.drops.add(new int[] {a[0], a[1]});
                return s.drops.size();
            case "clean": {
                bad(in(a[0], 0, 3));
                List<?> row = List.of(s.things, s.lifts, s.towns, s.drops).get(a[0]);
                int had = row.size();
                row.clear();
                return had;
            }
            case "type":
                bad(in(a[0], 0, 127));
                need(text.length() < 150, 2, -4);
                text += (char) a[0];
                return text.length();
            case "clear": {
                int had = text.length();
                text = "";
                return had;
            }
            case "read": return read();
            case "hours":
                bad(in(a[0], 1, 99));
                need(s.hour + a[0] <= 999, 1, -3);
                s.before.addLast(s.hour);
                if (s.before.size() > 10) {
                    s.before.removeFirst();
                }
                s.hour += a[0];
                return s.hour;
            case "undo":
                need(!s.before.isEmpty(), 1, -3);
                s.hour = s.before.removeLast();
                return 1;
            default: return asked(name, a);
        }
    }

    private static long item(State[] box, String name, int[] a) {
        State s = box[0];
        switch (name) {
            case "sea":
                bad(in(a[0], 1, 6));
                box[0] = new State(a[0]);
                return s == null ? 0 : s.n;
            case "water": {
                bad(in(a[0], 0, 3) && in(a[1], 1, 99));
                int[] then = s.density.clone();
                then[a[0]] = a[1];
                need(then[0] < then[1] && then[1] < then[2] && then[2] < then[3], 1, -3);
                int was = s.density[a[0]];
                s.density = then;
                return was;
            }
            case "thick": {
                bad(in(a[0], 0, 3) && cell(s, a[1]) && in(a[2], 0, 9));
                int was = s.thick[a[0]][a[1]];
                s.thick[a[0]][a[1]] = a[2];
                return was;
            }
            case "skin": {
                bad(in(a[0], 0, 2) && in(a[1], 0, 99));
                int was = s.bears[a[0]];
                s.bears[a[0]] = a[1];
                return was;
            }
            case "thing":
                bad(in(a[0], 0, 5) && in(a[1], 1, 99) && in(a[2], 1, 9));
                need(s.things.size() < 6, 2, -4);
                s.things.add(make(a[0], a[1], a[2], 0));
                return s.things.size() - 1;
            case "lift":
                bad(place(s, a[0]) && place(s, a[1]) && a[0] != a[1] && in(a[2], 1, 9));
                need(s.lifts.size() < 10, 2, -4);
                s.lifts.add(a.clone());
                return s.lifts.size() - 1;
            case "town":
                bad(place(s, a[0]));
                need(!s.towns.contains(a[0]), 1, -3);
                need(s.towns.size() < 6, 2, -4);
                s.towns.add(a[0]);
                return s.towns.size() - 1;
            default: return dam(s, a[0], true);
        }
    }

    private static long dam(State s, int k, boolean is) {
        bad(in(k, 0, s.n - 2));
        need(s.dams[k] != is, 1, -3);
        s.dams[k] = is;
        return 1;
    }

    private static int numbersOf(String word) {
        switch (word) {
            case "sea": case "town": case "dam": return 1;
            case "water": case "skin": return 2;
            case "thick": case "thing": case "lift": return 3;
            default: return -1;
        }
    }

    private long read() {
        // The tokens first, each with its place; a last one, empty, stands for the end.
        List<String> tokens = new ArrayList<>();
        List<Integer> places = new ArrayList<>();
        Matcher m = Pattern.compile("[a-z]+|[0-9]{1,2}|;|[^ ]", Pattern.DOTALL).matcher(text);
        while (m.find()) {
            tokens.add(m.group());
            places.add(m.start());
        }
        tokens.add("");
        places.add(text.length());
        List<String> words = new ArrayList<>();
        List<int[]> numbers = new ArrayList<>();
        int i = 0;
        while (i == 0 || !tokens.get(i).isEmpty()) {
            String word = tokens.get(i);
            boolean fits = numbersOf(word) >= 0 && word.equals("sea") == words.isEmpty();
            need(fits, -1, -10 - places.get(i));
            int[] row = new int[numbersOf(word)];
            i++;
            for (int k = 0; k < row.length; k++, i++) {
                boolean third = places.get(i) > 1 && text.substring(0, places.get(i)).matches("(?s).*[0-9]{2}");
                need(tokens.get(i).matches("[0-9]+") && !third, -1, -10 - places.get(i));
                row[k] = Integer.parseInt(tokens.get(i));
            }
            need(tokens.get(i).equals(";"), -1, -10 - places.get(i));
            i++;
            words.add(word);
            numbers.add(row);
        }
        State[] box = {null};
        for (int k = 0; k < words.size(); k++) {
            try {
                item(box, words.get(k), numbers.get(k));
            } catch (Refused r) {
                throw new Refused(-1, -1000 - k);
            }
        }
        s = box[0];
        return words.size();
    }

    private long asked(String name, int[] a) {
        switch (name) {
            case "of": {
                bad(isThing(a[0]) && in(a[1], 0, 2));
                Plain p = s.things.get(a[0]);
                return new int[] {p.kind, p.weighs(s.hour, p.ballast), p.room(s.hour)}[a[1]];
            }
            case "deep":
                bad(in(a[0], 0, 3) && cell(s, a[1]));
                return s.at(a[0], a[1], s.hour);
            case "rests":
                bad(isThing(a[0]) && cell(s, a[1]) && in(a[2], 0, 2));
                return s.fall(a[0], a[1])[a[2]];
            case "sink":
                bad10(isThing(a[0]) && s.things.get(a[0]) instanceof Ship && cell(s, a[1]) && in(a[2], 0, 4));
                return sink(a[0], a[1], a[2], s.hour);
            case "holds":
                bad10(isThing(a[0]) && s.things.get(a[0]) instanceof Ship && cell(s, a[1]));
                return s.fall(s.things.get(a[0]), 99, a[1], s.hour, new boolean[3])[3];
            case "bestHour": {
                bad10(isThing(a[0]) && s.things.get(a[0]) instanceof Ship && cell(s, a[1]) && in(a[2], 0, 4));
                int best = -1;
                for (int h = 5; h >= 0; h--) {
                    int b = sink(a[0], a[1], a[2], s.hour + h);
                    if (b >= 0 && (best < 0 || b <= sink(a[0], a[1], a[2], s.hour + best))) {
                        best = h;
                    }
                }
                return best;
            }
            case "soonest":
                bad(place(s, a[0]) && place(s, a[1]));
                return soonest(a[0], a[1]);
            case "net":
                need(in(a[0], 0, s.towns.size() - 1), 0, -1000);
                return net(s.towns.get(a[0]));
            case "spill":
                bad(cell(s, a[0]) && in(a[1], 0, 999) && in(a[2], 0, 40) && cell(s, a[3]));
                return spill(a[0], a[1], s.dams, a[2])[a[2]][a[3]];
            case "keepOut":
                bad(cell(s, a[0]) && in(a[1], 0, 999) && in(a[2], 0, 40) && in(a[3], 0, (1 << s.n) - 1));
                return keepOut(a[0], a[1], a[2], a[3]);
            case "shaken": {
                bad(in(a[0], 0, 99) && cell(s, a[1]) && in(a[2], 0, 1));
                int all = 0;
                for (int l = 0; l < 4; l++) {
                    all += s.at(l, a[1], s.hour);
                }
                int none = 0, more = 0;
                for (int m = a[0]; m > 0; m -= (int) Math.ceil(m / 4.0)) {
                    none++;
                    more += m > all ? 1 : 0;
                }
                return a[2] == 0 ? none : more;
            }
            default: return caught(name, a);
        }
    }

    private int sink(int thing, int c, int layer, int h) {
        for (int b = 0; b <= 99; b++) {
            if (s.fall(s.things.get(thing), b, c, h, new boolean[3])[0] == layer) {
                return b;
            }
        }
        return -1;
    }

    private int soonest(int from, int to) {
        int[][] d = new int[64][64];
        for (int[] row : d) {
            Arrays.fill(row, 99999);
        }
        for (int i = 0; i < 64; i++) {
            d[i][i] = 0;
        }
        for (int[] l : s.lifts) {
            d[l[0]][l[1]] = Math.min(d[l[0]][l[1]], l[2]);
            d[l[1]][l[0]] = Math.min(d[l[1]][l[0]], l[2]);
        }
        for (int c = 0; c + 1 < s.n; c++) {
            for (int l = 0; l < 4; l++) {
                if (s.at(l, c, s.hour) > 0 && s.at(l, c + 1, s.hour) > 0) {
                    int p = 10 * c + l;
                    d[p][p + 10] = Math.min(d[p][p + 10], 3);
                    d[p + 10][p] = Math.min(d[p + 10][p], 3);
                }
            }
        }
        for (int k = 0; k < 64; k++) {
            for (int i = 0; i < 64; i++) {
                for (int j = 0; j < 64; j++) {
                    d[i][j] = Math.min(d[i][j], d[i][k] + d[k][j]);
                }
            }
        }
        return d[from][to] >= 99999 ? -1 : d[from][to];
    }

    private int net(int place) {
        int net = 0;
        for (int l = place % 10 + 1; l < 4; l++) {
            int lower = place - place % 10 + l;
            if (s.towns.contains(lower)) {
                net += s.at(l, place / 10, s.hour);
                break;
            }
        }
        for (int l = 0; l < place % 10; l++) {
            if (s.towns.contains(place - place % 10 + l)) {
                net -= s.at(place % 10, place / 10, s.hour);
                break;
            }
        }
        return net;
    }

    private int[][] spill(int from, int much, boolean[] dams, int h) {
        int[][] has = new int[h + 1][s.n];
        has[0][from] = much;
        for (int t = 1; t <= h; t++) {
            for (int c = 0; c < s.n; c++) {
                has[t][c] += has[t - 1][c];
                for (int beside = c - 1; beside <= c + 1; beside += 2) {
                    if (in(beside, 0, s.n - 1) && !dams[Math.min(c, beside)]) {
                        has[t][c] += has[t - 1][beside] / 4 - has[t - 1][c] / 4;
                    }
                }
            }
        }
        return has;
    }

    private int keepOut(int from, int much, int h, int cells) {
        for (int many = 0; many <= 5; many++) {
            for (int bits = 0; bits < 1 << (s.n - 1); bits++) {
                if (Integer.bitCount(bits) != many || (bits & s.damBits()) != 0) {
                    continue;
                }
                boolean[] dams = s.dams.clone();
                for (int k = 0; k < dams.length; k++) {
                    dams[k] |= (bits >> k & 1) == 1;
                }
                boolean dry = true;
                for (int[] row : spill(from, much, dams, h)) {
                    for (int c = 0; c < s.n; c++) {
                        dry &= (cells >> c & 1) == 0 || row[c] == 0;
                    }
                }
                if (dry) {
                    return bits;
                }
            }
        }
        return -1;
    }

    private long caught(String name, int[] a) {
        switch (name) {
            case "lies": {
                bad10(in(a[0], 1, 9) && cell(s, a[1]) && in(a[2], 0, 4) && in(a[3], 0, 999) && in(a[4], 0, 2));
                List<Integer> fit = new ArrayList<>();
                for (int w = 1; w <= 99; w++) {
                    if (s.fall(make(4, w, a[0], 0), 0, a[1], a[3], new boolean[3])[0] == a[2]) {
                        fit.add(w);
                    }
                }
                int last = fit.size() - 1;
                return a[4] == 0 ? fit.size() : fit.isEmpty() ? -1 : fit.get(a[4] == 1 ? 0 : last);
            }
            case "wentIn": {
                bad(isThing(a[0]) && cell(s, a[1]));
                int bits = 0;
                for (int c = 0; c < s.n; c++) {
                    int[] r = s.fall(a[0], c);
                    int p = c;
                    for (int l = 0; l < 4; l++) {
                        // Drifting one way only within a layer, it stops at the edge however it is counted.
                        p = Math.min(s.n - 1, Math.max(0, p + r[4 + l] * s.current[l]));
                    }
                    bits += p == a[1] ? 1 << c : 0;
                }
                return bits;
            }
            case "nets": return nets(a[0], a[1], a[2]);
            case "tap": return tap(a[0]);
            case "known": return known(a[0], a[1]);
            case "storm": return storm(a[0], a[1], a[2], a[3]);
            default: return kept(name, a);
        }
    }

    private int nets(int c, int fish, int what) {
        bad10(cell(s, c) && in(fish, 0, (1 << s.things.size()) - 1) && in(what, 0, 1));
        for (int i = 0; i < s.things.size(); i++) {
            bad10((fish >> i & 1) == 0 || s.things.get(i) instanceof Fish);
        }
        int many = 0, first = -1;
        for (int net = 6060; net >= 0; net--) {
            int from = net / 100, to = net % 100;
            if (to > 60 || from > to) {
                continue;
            }
            boolean fits = true;
            for (int i = 0; i < s.things.size(); i++) {
                if (s.things.get(i) instanceof Fish) {
                    fits &= in(s.fall(i, c)[1], from, to) == ((fish >> i & 1) == 1);
                }
            }
            if (fits) {
                many++;
                first = net;
            }
        }
        return what == 0 ? many : first;
    }

    private int tap(int what) {
        bad10(in(what, 0, 1));
        int there = 0;
        for (int c = 0; c < s.n; c++) {
            there += s.at(0, c, s.hour);
        }
        int[][] has = new int[10][10];
        for (int i = 0; i < 10; i++) {
            for (int j = 0; j < 10; j++) {
                has[i][j] = i - (i + j > there ? 2 * (i + j - there) : 0);
            }
        }
        int many = 0, first = -1;
        for (int i = 9; i >= 0; i--) {
            for (int j = 9; j >= 0; j--) {
                boolean rests = true;
                for (int k = 0; k < 10; k++) {
                    rests &= has[k][j] <= has[i][j] && has[k][i] <= has[j][i];
                }
                if (rests) {
                    many++;
                    first = 10 * i + j;
                }
            }
        }
        return what == 0 ? many : first;
    }

    private int known(int volume, int what) {
        bad10(in(volume, 1, 9) && in(what, 0, 1));
        List<Integer> fit = new ArrayList<>();
        for (int w = 1; w <= 99; w++) {
            boolean fits = true;
            for (int[] d : s.drops) {
                fits &= (w <= volume * s.density[d[0]]) == (d[1] == 1);
            }
            if (fits) {
                fit.add(w);
            }
        }
        if (what == 0) {
            return fit.size();
        }
        int best = -1, fewest = 100;
        for (int l = 3; l >= 0; l--) {
            int limit = volume * s.density[l];
            int floats = (int) fit.stream().filter(w -> w <= limit).count();
            int worse = Math.max(floats, fit.size() - floats);
            if (!fit.isEmpty() && worse <= fewest) {
                fewest = worse;
                best = l;
            }
        }
        return best;
    }

    private int storm(int thing, int c, int h, int odds) {
        bad(isThing(thing) && cell(s, c) && in(h, 0, 5) && in(odds, 0, 10));
        // Only the skin that stops it now matters: once past it, it is deeper.
        int stopper = s.fall(thing, c)[3];
        BigInteger ten = BigInteger.TEN.pow(h);
        above = stopper < 0 ? BigInteger.ZERO : ten.subtract(BigInteger.valueOf(10 - odds).pow(h));
        BigInteger shared = above.gcd(ten);
        above = above.divide(shared);
        below = ten.divide(shared);
        return 1;
    }

    private long kept(String name, int[] a) {
        switch (name) {
            case "part":
                bad(in(a[0], 0, 1));
                return (a[0] == 0 ? above : below).longValueExact();
            case "image":
                bad(in(a[0], 0, 1));
                images[a[0]] = s.copy();
                return 1;
            case "from":
                bad(in(a[0], 0, 1));
                need(images[a[0]] != null, 1, -3);
                s = images[a[0]].copy();
                return 1;
            case "status":
                need(in(a[0], 0, 2), 0, -1);
                return status[a[0]];
            case "count":
                bad(in(a[0], 0, 8));
                return counts()[a[0]];
            case "digest": return digest();
            default: throw new IllegalStateException(name);
        }
    }

    private int[] counts() {
        return new int[] {s.n, s.hour, s.things.size(), s.lifts.size(), s.towns.size(), s.damBits(), s.drops.size(),
            s.before.size(), text.length()};
    }

    private long digest() {
        List<Long> v = new ArrayList<>();
        for (int c : counts()) {
            v.add((long) c);
        }
        for (int l = 0; l < 4; l++) {
            v.add((long) s.density[l]);
            v.add((long) s.current[l]);
            Arrays.stream(s.tide[l]).forEach(t -> v.add((long) t));
            Arrays.stream(s.thick[l]).forEach(t -> v.add((long) t));
        }
        Arrays.stream(s.bears).forEach(b -> v.add((long) b));
        for (Plain p : s.things) {
            v.addAll(List.of((long) p.kind, (long) p.weight, (long) p.volume, (long) p.ballast));
        }
        s.lifts.forEach(l -> v.addAll(List.of((long) l[0], (long) l[1], (long) l[2])));
        s.towns.forEach(t -> v.add((long) t));
        s.drops.forEach(d -> v.addAll(List.of((long) d[0], (long) d[1])));
        v.add(above.longValueExact());
        v.add(below.longValueExact());
        long h = 887;
        for (long x : v) {
            h = 31 * h + x;
        }
        return h;
    }
}
