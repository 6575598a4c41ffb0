/** The second part of the document's 'Terms', a sentence at a time: from BALLAST for a LAYER to STORM. */
public final class AskedTermsTest {
    private static final int PLAIN = 0, SHIP = 1, BOTTLE = 2, DIVER = 3, FISH = 5;
    private static final Check check = new Check();

    private static void due(String call, long got, long want) {
        check.due(call, got, want);
    }

    public static void main(String[] args) {
        leastBallast();
        holdsOrNone();
        bestHourOfTheNextSix();
        bestHourOfLikeOnes();
        lifts();
        beside();
        ceilings();
        dues();
        fourthsCut();
        aheadOfIt();
        spillHours();
        damsBetween();
        keepOutFewest();
        keepOutHours();
        damsMore();
        partsCutUp();
        oneColour();
        lieByHours();
        lieAtEdges();
        driftsToTheEdge();
        driftsByThick();
        netDepths();
        firstNet();
        tapPairs();
        knownEdges();
        nextToTry();
        stormOdds();
        stormDeeper();
        check.end();
    }

    private static FourWaters with(int kind, int weight, int volume) {
        FourWaters x = new FourWaters();
        x.thing(kind, weight, volume);
        return x;
    }

    /** "the least (0 .. 99; ... BALLAST told aside) by which it RESTS there; none". */
    private static void leastBallast() {
        int[] weights = {1, 2, 10, 50, 51, 99};
        int[] toLayerOne = {50, 49, 41, 1, 0, -1};
        int[] toGround = {-1, 99, 91, 51, 50, 2};
        for (int i = 0; i < weights.length; i++) {
            FourWaters x = with(SHIP, weights[i], 5);
            x.ballast(0, 7 * i);
            due("sink to 1 of " + weights[i], x.sink(0, 0, 1), toLayerOne[i]);
            due("sink to 4 of " + weights[i], x.sink(0, 0, 4), toGround[i]);
            due("sink to 0 of " + weights[i], x.sink(0, 0, 0), weights[i] <= 50 ? 0 : -1);
            due("the ballast stays", x.ballast(0, 0), 7 * i);
        }
        FourWaters x = with(BOTTLE, 2, 4);
        due("sink of a bottle by 99", x.sink(0, 0, 4), 99);
        x = with(DIVER, 1, 4);
        due("sink of a diver in hour 0", x.sink(0, 0, 4), -1);
        x.hours(1);
        due("sink of a diver in hour 1", x.sink(0, 0, 4), 98);
    }

    /** "HOLDS: the SKIN that stops it with BALLAST of 99; none". */
    private static void holdsOrNone() {
        FourWaters x = with(SHIP, 9, 9);
        for (int s = 0; s < 3; s++) {
            due("holds, no skin bears", x.holds(0, 0), -1);
            x.skin(s, 99);
            due("108 breaks 99", x.holds(0, 0), -1);
        }
        x.water(0, 12);
        due("holds, it floats on layer 0", x.holds(0, 0), -1);
        x = with(BOTTLE, 10, 1);
        for (int s = 2; s >= 0; s--) {
            x.skin(s, 53);
            due("half of 109 breaks 53", x.holds(0, 0), s == 2 ? -1 : s + 1);
            x.skin(s, 54);
            due("half of 109 is stopped by 54", x.holds(0, 0), s);
        }
        x.thick(1, 0, 0);
        due("holds, the skin right above layer 2", x.holds(0, 0), 1);
        x.ballast(0, 3);
        due("holds, whatever ballast it has", x.holds(0, 0), 1);
    }

    /** "BEST HOUR ...: the HOUR (of the next 6 from now)": this one is the first, and the one 6 from now is none. */
    private static void bestHourOfTheNextSix() {
        for (int hour = 0; hour < 6; hour++) {
            FourWaters x = with(SHIP, 1, 9);
            x.thick(0, 0, 1);
            // Only in this hour layer 0 is away, so that it rests on layer 1 at once.
            x.tide(0, hour, -1);
            for (int now = 0; now < 13; now++) {
                due("bestHour in hour " + now, x.bestHour(0, 0, 1), (hour - now + 18) % 6);
                x.hours(1);
            }
        }
        FourWaters x = with(DIVER, 1, 1);
        int[] best = {5, 5, 5, 5, 5, 5, 4, 3, 2, 1, 0, 0};
        for (int now = 0; now < best.length; now++) {
            due("bestHour of a diver in hour " + now, x.bestHour(0, 0, 1), best[now]);
            x.hours(1);
        }
    }

    /** "by which that is least, of like ones the first". */
    private static void bestHourOfLikeOnes() {
        FourWaters x = with(SHIP, 10, 2);
        due("all alike", x.bestHour(0, 0, 4), 0);
        x.thick(0, 0, 1);
        x.tide(0, 2, -1);
        x.tide(0, 4, -1);
        due("two alike", x.bestHour(0, 0, 1), 2);
        x.hours(3);
        due("the other one", x.bestHour(0, 0, 1), 1);
        x.hours(2);
        due("the first of the next round", x.bestHour(0, 0, 1), 3);
        x.thick(1, 0, 0);
        due("by none", x.bestHour(0, 0, 1), -1);
    }

    /** "LIFTS ...: from a PLACE to another one, both ways, in HOURS (1 .. 9)". */
    private static void lifts() {
        FourWaters x = new FourWaters();
        x.lift(30, 3, 9);
        due("soonest(30, 3)", x.soonest(30, 3), 9);
        due("soonest(3, 30)", x.soonest(3, 30), 9);
        x.lift(3, 30, 1);
        due("by the sooner lift", x.soonest(30, 3), 1);
        due("by the sooner lift", x.soonest(3, 30), 1);
        due("and beside", x.soonest(13, 10), 3 + 1 + 6);
        x.clean(1);
        due("no lifts", x.soonest(3, 30), -1);
        for (int l = 0; l < 3; l++) {
            x.lift(l, l + 1, 9);
        }
        due("lifts one behind another", x.soonest(0, 3), 3 * 9);
        due("or across", x.soonest(0, 11), 9 + 3);
    }

    /** "from a PLACE to one beside it in its LAYER (3 HOURS; both THICK now)". */
    private static void beside() {
        FourWaters x = new FourWaters();
        x.sea(6);
        for (int l = 0; l < 4; l++) {
            due("all the way", x.soonest(l, 50 + l), 15);
            due("and back", x.soonest(50 + l, l), 15);
        }
        x.thick(0, 3, 0);
        due("up to the gap", x.soonest(0, 20), 6);
        due("into the gap", x.soonest(20, 30), -1);
        due("out of the gap", x.soonest(30, 40), -1);
        due("over the gap", x.soonest(20, 40), -1);
        due("in the gap", x.soonest(30, 30), 0);
        x.tide(0, 1, 1);
        x.hours(1);
        due("the gap is closed by the tide", x.soonest(0, 50), 15);
        x.hours(1);
        due("and open again", x.soonest(0, 50), -1);
        x.sea(1);
        due("nothing is beside one cell", x.soonest(0, 1), -1);
    }

    /** "each pays the nearest TOWN above it in its CELL, if there is one", in whatever order they were told. */
    private static void ceilings() {
        int[][] orders = {{0, 1, 2, 3}, {3, 2, 1, 0}, {1, 0, 3, 2}, {2, 0, 1, 3}};
        int[] due = {2, 4 - 2, 8 - 4, -8};
        for (int[] order : orders) {
            FourWaters x = new FourWaters();
            x.thick(1, 0, 2);
            x.thick(2, 0, 4);
            x.thick(3, 0, 8);
            for (int l : order) {
                x.town(l);
            }
            for (int i = 0; i < 4; i++) {
                due("net of the town in layer " + order[i], x.net(i), due[order[i]]);
            }
        }
        FourWaters x = new FourWaters();
        x.town(3);
        due("none above it", x.net(0), 0);
        x.town(10);
        x.town(12);
        due("none in its cell", x.net(0), 0);
        x.town(0);
        due("far above it", x.net(0), -3);
        due("far below it", x.net(3), 3);
        due("in another cell", x.net(1), 3);
    }

    /** "as many pence an HOUR as its own LAYER is THICK there now". */
    private static void dues() {
        FourWaters x = new FourWaters();
        x.town(20);
        x.town(21);
        x.thick(1, 2, 9);
        x.thick(0, 2, 0);
        x.tide(1, 1, 2);
        x.tide(1, 2, -2);
        int[] due = {9, 11, 7, 9};
        for (int h = 0; h < due.length; h++) {
            due("net(0) in hour " + h, x.net(0), due[h]);
            due("net(1) in hour " + h, x.net(1), -due[h]);
            x.hours(1);
        }
        x.thick(1, 2, 0);
        due("net(0) of nothing", x.net(0), 0);
        due("net(1) of nothing", x.net(1), 0);
    }

    /** "each CELL gives a fourth of what it has (cut) to each CELL beside it". */
    private static void fourthsCut() {
        FourWaters x = new FourWaters();
        int[] much = {0, 1, 3, 4, 7, 8, 998, 999};
        int[] fourth = {0, 0, 0, 1, 1, 2, 249, 249};
        for (int i = 0; i < much.length; i++) {
            due("a first cell keeps of " + much[i], x.spill(0, much[i], 1, 0), much[i] - fourth[i]);
            due("a last cell keeps of " + much[i], x.spill(3, much[i], 1, 3), much[i] - fourth[i]);
            due("a middle cell keeps of " + much[i], x.spill(1, much[i], 1, 1), much[i] - 2 * fourth[i]);
            due("the one beside it has", x.spill(1, much[i], 1, 2), fourth[i]);
            due("the other one has", x.spill(1, much[i], 1, 0), fourth[i]);
            due("the one behind it has none", x.spill(1, much[i], 1, 3), 0);
        }
    }

    /** "(all by what was ahead of it)": by two hours from 64 in cell 1. */
    private static void aheadOfIt() {
        FourWaters x = new FourWaters();
        int[][] due = {{0, 64, 0, 0}, {16, 32, 16, 0}, {20, 24, 16, 4}};
        for (int h = 0; h < due.length; h++) {
            for (int c = 0; c < 4; c++) {
                due("spill(1, 64, " + h + ", " + c + ")", x.spill(1, 64, h, c), due[h][c]);
            }
        }
    }

    /** "behind h HOURS (0 .. 40)": nothing is lost on the way. */
    private static void spillHours() {
        FourWaters x = new FourWaters();
        x.sea(6);
        due("in hour 0, where it is", x.spill(5, 999, 0, 5), 999);
        due("in hour 0, elsewhere", x.spill(5, 999, 0, 4), 0);
        due("the farthest in hour 4", x.spill(5, 999, 4, 0), 0);
        for (int h : new int[] {1, 39, 40}) {
            int all = 0;
            for (int c = 0; c < 6; c++) {
                all += x.spill(5, 999, h, c);
            }
            due("all of it behind " + h + " hours", all, 999);
        }
        due("hour 39", x.spill(5, 999, 39, 0), 146);
        due("hour 40", x.spill(5, 999, 40, 0), 147);
    }

    /** "DAMS (bits: k between CELL k and the next one; none at first)". */
    private static void damsBetween() {
        for (int k = 0; k < 5; k++) {
            FourWaters x = new FourWaters();
            x.sea(6);
            due("none at first", x.count(5), 0);
            due("through no dam", x.spill(k, 8, 1, k + 1), 2);
            x.dam(k, true);
            due("bits", x.count(5), 1 << k);
            due("not through dam " + k, x.spill(k, 999, 40, k + 1), 0);
            due("nor back", x.spill(k + 1, 999, 40, k), 0);
            x.dam(k, false);
            due("through it again", x.spill(k + 1, 8, 1, k), 2);
        }
    }

    /** "the fewest DAMS more (of like ones the least bits)". */
    private static void keepOutFewest() {
        FourWaters x = new FourWaters();
        x.sea(6);
        // A dam at 3 throws so much back that it comes to cell 0, too; one at 4 does not. 16 is one dam, 9 are two.
        due("one dam rather than two of less bits", x.keepOut(3, 10, 40, 33), 16);
        due("the least of five alike", x.keepOut(0, 999, 40, 32), 1);
        due("the least of three alike", x.keepOut(5, 999, 40, 4), 4);
        due("two", x.keepOut(2, 999, 40, 33), 1 | 4);
        due("none is needed", x.keepOut(2, 3, 40, 59), 0);
        due("where it is", x.keepOut(2, 3, 40, 4), -1);
        due("where it is, and elsewhere", x.keepOut(2, 999, 40, 63), -1);
    }

    /** "in none of the HOURS 0 to h there is any of it": from 64 in cell 0 it comes to cell 1, 2, 3 in hour 1, 2, 3. */
    private static void keepOutHours() {
        FourWaters x = new FourWaters();
        for (int c = 1; c < 4; c++) {
            due("an hour ahead", x.keepOut(0, 64, c - 1, 1 << c), 0);
            due("in that hour", x.keepOut(0, 64, c, 1 << c), 1);
        }
        due("in hour 0", x.keepOut(0, 1, 0, 1), -1);
        due("of nothing", x.keepOut(0, 0, 40, 15), 0);
        // It goes from where it was, but was there.
        due("it was there", x.keepOut(1, 4, 40, 2), -1);
    }

    /** Dams that are there help, and are none of the answer; the sea itself gets none. */
    private static void damsMore() {
        FourWaters x = new FourWaters();
        x.sea(6);
        x.dam(3, true);
        due("by the one that is there", x.keepOut(2, 999, 40, 32), 0);
        due("one more", x.keepOut(2, 999, 40, 33), 1);
        due("one more, the other side", x.keepOut(4, 999, 40, 33), 16);
        due("bits", x.count(5), 8);
        for (int k = 0; k < 5; k++) {
            x.dam(k, true);
        }
        due("all dams", x.keepOut(2, 999, 40, 59), 0);
        due("all dams, where it is", x.keepOut(2, 999, 40, 4), -1);
    }

    /** "each HOUR a fourth of it parts again (cut up): behind how many HOURS none is". */
    private static void partsCutUp() {
        FourWaters x = new FourWaters();
        // 12, 9, 6, 4, 3, 2, 1, 0; 99 and 98 come to 74 and 73, then to 55 and 54 ...
        int[] much = {0, 1, 2, 3, 4, 5, 6, 8, 9, 12, 13, 98, 99};
        int[] hours = {0, 1, 2, 3, 4, 4, 5, 6, 6, 7, 7, 14, 14};
        for (int i = 0; i < much.length; i++) {
            due("shaken(" + much[i] + ", 0, 0)", x.shaken(much[i], 0, 0), hours[i]);
        }
    }

    /** "in how many HOURS, from 0 on, it is more than all LAYERS together are THICK in a CELL now". */
    private static void oneColour() {
        FourWaters x = new FourWaters();
        due("as much as they are thick", x.shaken(12, 0, 1), 0);
        due("one more", x.shaken(13, 0, 1), 1);
        // 17, 12
        due("as much behind an hour", x.shaken(17, 0, 1), 1);
        // 18, 13, 9
        due("one more behind an hour", x.shaken(18, 0, 1), 2);
        for (int l = 0; l < 4; l++) {
            x.thick(l, 1, 9);
            x.thick(l, 2, 0);
            x.tide(l, 0, 2);
            x.tide(l, 1, -2);
        }
        due("of 44", x.shaken(44, 1, 1), 0);
        due("of 44, one more", x.shaken(45, 1, 1), 1);
        x.hours(1);
        due("of 28", x.shaken(28, 1, 1), 0);
        due("of 28, one more", x.shaken(29, 1, 1), 1);
        due("of 0, nothing", x.shaken(0, 2, 1), 0);
        due("of 0", x.shaken(1, 2, 1), 1);
        due("of 0, as all parts", x.shaken(99, 2, 1), 14);
    }

    private static void dueLies(String told, FourWaters x, int[] a, int many, int least, int greatest) {
        due(told + ": how many", x.lies(a[0], a[1], a[2], a[3], 0), many);
        due(told + ": least", x.lies(a[0], a[1], a[2], a[3], 1), least);
        due(told + ": greatest", x.lies(a[0], a[1], a[2], a[3], 2), greatest);
    }

    /** "let go in a CELL in HOUR h (0 .. 999)": its room and the tides are that hour's. */
    private static void lieByHours() {
        FourWaters x = new FourWaters();
        int[] hours = {0, 3, 4, 19, 20, 999};
        int[] most = {10, 10, 20, 50, 60, 60};
        for (int i = 0; i < hours.length; i++) {
            dueLies("in hour " + hours[i], x, new int[] {1, 0, 0, hours[i]}, most[i], 1, most[i]);
        }
        x.thick(0, 0, 1);
        x.tide(0, 3, -1);
        dueLies("hour 999 is as 3", x, new int[] {1, 0, 0, 999}, 0, -1, -1);
        dueLies("hour 999 is as 3", x, new int[] {1, 0, 1, 999}, 78, 1, 78);
        dueLies("hour 998 is as 2", x, new int[] {1, 0, 0, 998}, 60, 1, 60);
        x.hours(3);
        dueLies("by the told hour, not by now", x, new int[] {1, 0, 0, 0}, 10, 1, 10);
    }

    /** "WEIGHTS (1 .. 99) that it may have: how many; the least, the greatest; none". */
    private static void lieAtEdges() {
        FourWaters x = new FourWaters();
        dueLies("99 alone", onlyLayer(3, 98), new int[] {1, 0, 4, 0}, 1, 99, 99);
        dueLies("99 floats", onlyLayer(3, 99), new int[] {1, 0, 4, 0}, 0, -1, -1);
        dueLies("all but 1", onlyLayer(0, 1), new int[] {1, 0, 4, 0}, 98, 2, 99);
        dueLies("all", x, new int[] {9, 0, 0, 999}, 99, 1, 99);
        dueLies("none", x, new int[] {9, 0, 1, 999}, 0, -1, -1);
        for (int l = 0; l < 4; l++) {
            x.thick(l, 3, 0);
        }
        dueLies("on the ground at once", x, new int[] {9, 3, 4, 0}, 99, 1, 99);
        // 11 to 30 are stopped by the skin, and 14 to 30 would have gone deeper.
        x.skin(0, 30);
        dueLies("stopped above", x, new int[] {1, 0, 0, 0}, 30, 1, 30);
        dueLies("on the ground", x, new int[] {1, 0, 4, 0}, 69, 31, 99);
    }

    private static FourWaters onlyLayer(int layer, int density) {
        FourWaters x = new FourWaters();
        for (int l = 0; l < 4; l++) {
            x.thick(l, 0, l == layer ? 3 : 0);
        }
        x.water(layer, density);
        return x;
    }

    private static void dueWentIn(String told, FourWaters x, int... bits) {
        for (int c = 0; c < bits.length; c++) {
            due(told + ", to cell " + c, x.wentIn(0, c), bits[c]);
        }
    }

    /** "(not off the sea)": at the edge it stays. */
    private static void driftsToTheEdge() {
        FourWaters x = new FourWaters();
        x.sea(6);
        x.thing(PLAIN, 21, 2);
        for (int c = 0; c < 6; c++) {
            x.thick(0, c, 2);
        }
        dueWentIn("no current", x, 1, 2, 4, 8, 16, 32);
        x.current(0, 1);
        dueWentIn("to the right", x, 0, 0, 1, 2, 4, 8 | 16 | 32);
        x.current(0, -1);
        dueWentIn("to the left", x, 1 | 2 | 4, 8, 16, 32, 0, 0);
        x.sea(1);
        x.thing(PLAIN, 21, 2);
        x.current(0, 1);
        dueWentIn("one cell", x, 1);
    }

    /** "for each LAYER that it passes by that CELL's THICK, in order": the one it is let go in; where it rests, none. */
    private static void driftsByThick() {
        FourWaters x = with(PLAIN, 27, 2);
        x.current(2, 1);
        x.current(3, 1);
        dueWentIn("in layers that it does not pass", x, 1, 2, 4, 8);
        x.current(0, 1);
        x.current(1, -1);
        // 3 right and 3 left: 0 comes to 3 and back to 0, and so do all that stop at 3.
        dueWentIn("there and back", x, 15, 0, 0, 0);
        x.current(0, -1);
        x.current(1, 1);
        dueWentIn("back and there", x, 0, 0, 0, 15);
        x.thick(0, 3, 0);
        x.thick(1, 3, 0);
        x.thick(1, 2, 1);
        // From 2: two left over the edge's 3, one right; from 3 nothing is passed.
        dueWentIn("by that cell's", x, 0, 4, 0, 3 | 8);
        x.tide(0, 0, -2);
        x.tide(1, 0, -2);
        // 0 and 1 go 1 left, then 1 right; 2 goes 1 left, and layer 1 is not there.
        dueWentIn("by the tide", x, 0, 1 | 2 | 4, 0, 8);
    }

    /** "NET from a depth to a depth (0 .. 60)": a fish in d is in (d + 1) times (61 - d) nets. */
    private static void netDepths() {
        FourWaters x = with(FISH, 11, 1);
        int[] thick = {0, 1, 9};
        int[] inside = {61, 2 * 60, 10 * 52};
        int[] first = {0, 1, 9};
        for (int i = 0; i < thick.length; i++) {
            x.thick(0, 0, thick[i]);
            due("nets, " + thick[i] + " deep", x.nets(0, 1, 0), inside[i]);
            due("nets, " + thick[i] + " deep, none told", x.nets(0, 0, 0), 1891 - inside[i]);
            due("the first, " + thick[i] + " deep", x.nets(0, 1, 1), first[i]);
            due("the first, none told", x.nets(0, 0, 1), thick[i] == 0 ? 101 : 0);
        }
        x.tide(0, 0, 2);
        due("11 deep", x.nets(0, 1, 0), 12 * 50);
        due("the first, 11 deep", x.nets(0, 1, 1), 11);
        x.clean(0);
        due("no fish there", x.nets(0, 0, 0), 61 * 62 / 2);
        due("no fish there, the first", x.nets(0, 0, 1), 0);
    }

    /** "NETS by which just told ones (bits) are: how many; the first (100 from and to)"; none. */
    private static void firstNet() {
        FourWaters x = with(FISH, 10, 1);
        x.thing(FISH, 11, 1);
        x.thing(PLAIN, 11, 1);
        x.thing(FISH, 11, 1);
        x.thick(0, 0, 9);
        due("the upper", x.nets(0, 1, 1), 0);
        due("the upper: from 0, to 0 .. 8", x.nets(0, 1, 0), 9);
        due("the lower two", x.nets(0, 10, 1), 109);
        due("the lower two: from 1 .. 9, to 9 .. 60", x.nets(0, 10, 0), 9 * 52);
        due("all", x.nets(0, 11, 1), 9);
        due("all: from 0, to 9 .. 60", x.nets(0, 11, 0), 52);
        due("one of two alike", x.nets(0, 2, 0), 0);
        due("one of two alike, the first", x.nets(0, 2, 1), -1);
        due("none of them", x.nets(0, 0, 1), 101);
        due("none of them: from 1 to 8, from 10 to 60", x.nets(0, 0, 0), 8 * 9 / 2 + 51 * 52 / 2);
    }

    /** "pairs that rest ...: how many, the first (10 the one and the other)", for all that LAYER 0 may be in all CELLS. */
    private static void tapPairs() {
        FourWaters x = new FourWaters();
        x.sea(6);
        for (int there = 0; there <= 54; there++) {
            for (int c = 0; c < 6; c++) {
                x.thick(0, c, Math.max(0, Math.min(9, there - 9 * c)));
            }
            // All pairs that tap just what is there, or 9 and 9 if there is more.
            int most = Math.min(18, there);
            due("tap(0) of " + there, x.tap(0), most <= 9 ? most + 1 : 19 - most);
            due("tap(1) of " + there, x.tap(1), most <= 9 ? most : 10 * (most - 9) + 9);
        }
        x = new FourWaters();
        x.sea(1);
        x.thick(0, 0, 9);
        x.tide(0, 0, 2);
        due("tap(1) of 11, by the tide", x.tap(1), 29);
        x.tide(0, 0, -2);
        due("tap(1) of 7, by the tide", x.tap(1), 7);
    }

    /** "WEIGHTS (1 .. 99) that fit all: how many". */
    private static void knownEdges() {
        FourWaters x = new FourWaters();
        x.water(0, 1);
        x.water(3, 99);
        x.water(2, 98);
        x.drop(0, true);
        due("1 alone", x.known(1, 0), 1);
        due("1 to 9", x.known(9, 0), 9);
        x.clean(3);
        x.drop(2, false);
        due("99 alone", x.known(1, 0), 1);
        x.drop(3, true);
        due("99 alone, on both sides", x.known(1, 0), 1);
        due("none so heavy", x.known(2, 0), 0);
        due("none so heavy: none to try", x.known(2, 1), -1);
        due("99 alone: the first to try", x.known(1, 1), 0);
        x.clean(3);
        x.drop(3, false);
        due("none floats not on 99", x.known(1, 0), 0);
        due("none to try", x.known(1, 1), -1);
        x.clean(3);
        due("no drops", x.known(1, 0), 99);
        for (int i = 0; i < 6; i++) {
            x.drop(1, i < 5);
            due("told again, at last otherwise", x.known(1, 0), i < 5 ? 13 : 0);
        }
    }

    /** Four densities above one another, told where it is always rising. */
    private static FourWaters waters(int... density) {
        FourWaters x = new FourWaters();
        for (int l = 3; l >= 0; l--) {
            x.water(l, 96 + l);
        }
        for (int l = 0; l < 4; l++) {
            x.water(l, density[l]);
        }
        return x;
    }

    /** "by which in the worse case fewest are left, of like ones the first". */
    private static void nextToTry() {
        // By 49 and by 50: 50 are left in the worse case.
        due("alike, the first", waters(49, 50, 51, 52).known(1, 1), 0);
        due("alike, the first of the middle", waters(2, 49, 50, 51).known(1, 1), 1);
        due("the last alone", waters(1, 2, 3, 4).known(1, 1), 3);
        due("the first alone", waters(96, 97, 98, 99).known(1, 1), 0);
        // 1 .. 47 and 48 .. 99 leave 52, 1 .. 52 and 53 .. 99 as many: weight 1 counts.
        due("by weight 1", waters(32, 47, 52, 99).known(1, 1), 1);
        // 1 .. 48 leave 51 in the worse case, 1 .. 49 leave 50: there is no weight 0.
        due("by no weight 0", waters(48, 49, 98, 99).known(1, 1), 1);
        FourWaters x = waters(10, 23, 78, 99);
        x.drop(2, false);
        // 79 .. 99: all are left by each layer, 99 among them.
        due("by weight 99", x.known(1, 1), 0);
    }

    private static void dueStorm(FourWaters x, int h, int c, long above, long below) {
        String call = "storm(0, 0, " + h + ", " + c + ")";
        due(call, x.storm(0, 0, h, c), 1);
        due(call + " above", x.part(0), above);
        due(call + " below", x.part(1), below);
    }

    /** "in each of h HOURS (0 .. 5) each SKIN is torn by c of 10 (0 .. 10), apart": in lowest terms. */
    private static void stormOdds() {
        FourWaters x = with(PLAIN, 99, 1);
        x.skin(1, 99);
        for (int h = 0; h <= 5; h++) {
            dueStorm(x, h, 0, 0, 1);
            dueStorm(x, h, 10, h == 0 ? 0 : 1, 1);
        }
        dueStorm(x, 0, 1, 0, 1);
        dueStorm(x, 1, 1, 1, 10);
        dueStorm(x, 1, 2, 1, 5);
        dueStorm(x, 1, 5, 1, 2);
        dueStorm(x, 1, 9, 9, 10);
        dueStorm(x, 2, 1, 19, 100);
        dueStorm(x, 2, 5, 3, 4);
        dueStorm(x, 5, 1, 40951, 100000);
        dueStorm(x, 5, 5, 31, 32);
        dueStorm(x, 5, 6, 3093, 3125);
        dueStorm(x, 5, 9, 99999, 100000);
    }

    /** "a deeper LAYER (or GROUND) than it would now", "(a torn one stops nothing any more)", "by the HOUR as it is now". */
    private static void stormDeeper() {
        FourWaters x = with(PLAIN, 99, 1);
        dueStorm(x, 5, 10, 0, 1);
        x.skin(0, 99);
        x.skin(1, 99);
        x.skin(2, 99);
        dueStorm(x, 1, 5, 1, 2);
        x.skin(0, 98);
        x.skin(1, 98);
        dueStorm(x, 1, 3, 3, 10);
        x.thick(3, 0, 0);
        dueStorm(x, 5, 10, 0, 1);
        x.thick(3, 0, 1);
        x.thick(2, 0, 0);
        x.thick(1, 0, 0);
        x.thick(0, 0, 0);
        dueStorm(x, 5, 10, 0, 1);
        x.tide(0, 1, 1);
        x.hours(1);
        dueStorm(x, 1, 7, 7, 10);
        x.tide(3, 1, -1);
        dueStorm(x, 1, 7, 0, 1);
        x = with(PLAIN, 10, 1);
        x.skin(0, 99);
        dueStorm(x, 5, 10, 0, 1);
        x = with(DIVER, 99, 1);
        x.skin(0, 99);
        dueStorm(x, 5, 10, 0, 1);
    }
}
