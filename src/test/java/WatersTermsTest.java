/** The first part of the document's 'Terms', a sentence at a time: cells, layers, skins, tides, things, and how they fall. */
public final class WatersTermsTest {
    private static final int PLAIN = 0, SHIP = 1, BOTTLE = 2, DIVER = 3, DROWNED = 4, FISH = 5;
    private static final int LAST_HOUR = 999;
    private static final Check check = new Check();

    private static void due(String call, long got, long want) {
        check.due(call, got, want);
    }

    public static void main(String[] args) {
        cellsInARow();
        densities();
        thickNesses();
        tidesComeRound();
        tidesInTheLastHours();
        tidesInAllCells();
        thingsAsTheyCome();
        ballastOfKinds();
        divers();
        drowned();
        roomOfKinds();
        plainBreaks();
        shipsBreak();
        bottlesBreak();
        diversBreakAny();
        fishBreakNone();
        floats();
        layersThatAreThere();
        fishByLayersThatAreThere();
        skinRightAbove();
        whatIsBelow();
        check.end();
    }

    private static FourWaters with(int kind, int weight, int volume) {
        FourWaters x = new FourWaters();
        x.thing(kind, weight, volume);
        return x;
    }

    private static void goTo(FourWaters x, int hour) {
        while (x.count(1) < hour) {
            x.hours(Math.min(99, hour - x.count(1)));
        }
    }

    private static void dueRests(String told, FourWaters x, int layer, int down, int skins) {
        due(told + ": layer", x.rests(0, 0, 0), layer);
        due(told + ": down", x.rests(0, 0, 1), down);
        due(told + ": skins", x.rests(0, 0, 2), skins);
    }

    /** "CELLS 0 to n less 1 (n 1 .. 6; 4 at first), in a row". */
    private static void cellsInARow() {
        FourWaters x = new FourWaters();
        int was = 4;
        for (int n = 1; n <= 6; n++) {
            due("sea(" + n + ")", x.sea(n), was);
            due("count(0)", x.count(0), n);
            due("deep, the last cell of " + n, x.deep(0, n - 1), 3);
            due("deep, a cell too many of " + n, x.deep(0, n), -2);
            due("soonest to the last of " + n, x.soonest(0, 10 * (n - 1)), 3 * (n - 1));
            due("spill to the last of " + n, x.spill(0, 4, 1, n - 1), n == 1 ? 4 : n == 2 ? 1 : 0);
            was = n;
        }
    }

    /** "DENSITY of each (1 .. 99 a measure; ... rising downwards)". */
    private static void densities() {
        FourWaters x = new FourWaters();
        due("water(3, 99)", x.water(3, 99), 20);
        due("water(2, 98)", x.water(2, 98), 16);
        due("water(1, 97)", x.water(1, 97), 13);
        due("water(0, 96)", x.water(0, 96), 10);
        due("water(0, 97), alike", x.water(0, 97), -3);
        due("water(0, 1)", x.water(0, 1), 96);
        due("water(1, 2)", x.water(1, 2), 97);
        due("water(2, 3)", x.water(2, 3), 98);
        due("water(3, 4)", x.water(3, 4), 99);
        due("water(3, 3), alike", x.water(3, 3), -3);
        int[] weights = {1, 2, 3, 4, 5, 99};
        int[] layers = {0, 1, 2, 3, 4, 4};
        for (int i = 0; i < weights.length; i++) {
            x.clean(0);
            x.thing(PLAIN, weights[i], 1);
            due(weights[i] + " rests", x.rests(0, 0, 0), layers[i]);
        }
    }

    /** "THICK in each CELL (0 .. 9; 3 at first)", of each LAYER and CELL by itself. */
    private static void thickNesses() {
        FourWaters x = new FourWaters();
        x.sea(6);
        for (int l = 0; l < 4; l++) {
            for (int c = 0; c < 6; c++) {
                due("thick(" + l + ", " + c + ")", x.thick(l, c, (6 * l + c) % 10), 3);
            }
        }
        for (int l = 0; l < 4; l++) {
            for (int c = 0; c < 6; c++) {
                due("deep(" + l + ", " + c + ")", x.deep(l, c), (6 * l + c) % 10);
            }
        }
    }

    /** How thick layer 2 is in cells told 0, 1, 2 and 9 thick, by the tides of the hours 0 to 5. */
    private static final int[] TIDES = {-2, -1, 0, 1, 2, -2};
    private static final int[][] BY_TIDES = {
        {0, 0, 0, 7}, {0, 0, 1, 8}, {0, 1, 2, 9}, {1, 2, 3, 10}, {2, 3, 4, 11}, {0, 0, 0, 7}};

    private static FourWaters tidal() {
        FourWaters x = new FourWaters();
        int[] thick = {0, 1, 2, 9};
        for (int c = 0; c < 4; c++) {
            x.thick(2, c, thick[c]);
        }
        for (int h = 0; h < 6; h++) {
            x.tide(2, h, TIDES[h]);
        }
        return x;
    }

    private static void dueDeep(FourWaters x, int[] want) {
        for (int c = 0; c < 4; c++) {
            due("deep(2, " + c + ") in hour " + x.count(1), x.deep(2, c), want[c]);
        }
    }

    /** "... for each of the HOURS 0 to 5, that come round ...: so much more is it THICK ... in that HOUR (0 at least)". */
    private static void tidesComeRound() {
        FourWaters x = tidal();
        for (int h = 0; h <= 13; h++) {
            dueDeep(x, BY_TIDES[h < 6 ? h : h < 12 ? h - 6 : h - 12]);
            x.hours(1);
        }
    }

    private static void tidesInTheLastHours() {
        FourWaters x = tidal();
        goTo(x, 995);
        int[] rounds = {5, 0, 1, 2, 3};
        for (int i = 0; i < rounds.length; i++) {
            due("the hour", x.count(1), 995 + i);
            dueDeep(x, BY_TIDES[rounds[i]]);
            x.hours(1);
        }
        due("the hour", x.count(1), LAST_HOUR);
    }

    /** "... THICK in all CELLS ...", and of no other LAYER; what is told is not changed by it. */
    private static void tidesInAllCells() {
        FourWaters x = new FourWaters();
        x.sea(6);
        x.tide(1, 0, 2);
        for (int c = 0; c < 6; c++) {
            due("deep(1, " + c + ")", x.deep(1, c), 5);
            due("deep(0, " + c + ")", x.deep(0, c), 3);
            due("deep(2, " + c + ")", x.deep(2, c), 3);
            due("what was told", x.thick(1, c, 0), 3);
        }
        x.tide(1, 0, -2);
        due("deep of 0", x.deep(1, 0), 0);
        x.tide(1, 0, 0);
        due("deep of 0, no tide", x.deep(1, 0), 0);
    }

    /** "THINGS 0 .. 5, as they come", "BALLAST (0 .. 99; 0 at first)". */
    private static void thingsAsTheyCome() {
        FourWaters x = new FourWaters();
        for (int i = 0; i < 6; i++) {
            due("thing " + i, x.thing(5 - i, 10 + i, 1 + i), i);
        }
        for (int i = 0; i < 6; i++) {
            due("kind of " + i, x.of(i, 0), 5 - i);
            due("weight of " + i, x.of(i, 1), 10 + i);
            due("ballast of " + i, x.ballast(i, 99), 0);
            due("ballast of " + i, x.ballast(i, 0), 99);
        }
        x.clean(0);
        due("a thing behind none", x.thing(SHIP, 99, 9), 0);
        due("its ballast", x.ballast(0, 0), 0);
    }

    /** "SHIP ...: and BALLAST"; PLAIN, DROWNED and FISH weigh the same by any. */
    private static void ballastOfKinds() {
        int[] most = {99, 198, 198, 198, 99, 99};
        for (int kind = PLAIN; kind <= FISH; kind++) {
            FourWaters x = with(kind, 99, 9);
            due("weighs", x.of(0, 1), 99);
            x.ballast(0, 99);
            due("weighs with 99", x.of(0, 1), most[kind]);
            x.ballast(0, 1);
            due("weighs with 1", x.of(0, 1), most[kind] == 99 ? 99 : 100);
        }
    }

    /** "DIVER ...: 2 more than BOTTLE for each HOUR (10 HOURS at most)". */
    private static void divers() {
        FourWaters x = with(DIVER, 10, 1);
        x.ballast(0, 5);
        int[] weighs = {15, 17, 19, 21, 23, 25, 27, 29, 31, 33, 35, 35, 35};
        for (int h = 0; h < weighs.length; h++) {
            due("a diver in hour " + h, x.of(0, 1), weighs[h]);
            x.hours(1);
        }
        goTo(x, LAST_HOUR);
        due("a diver in the last hour", x.of(0, 1), 35);
        x = with(DIVER, 99, 9);
        x.ballast(0, 99);
        goTo(x, 10);
        due("the heaviest diver", x.of(0, 1), 218);
    }

    /** "DROWNED ...: as PLAIN; 1 more for each 4 HOURS (5 at most)". */
    private static void drowned() {
        FourWaters x = with(DROWNED, 10, 1);
        int[] room = {1, 1, 1, 1, 2, 2, 2, 2, 3, 3, 3, 3, 4, 4, 4, 4, 5, 5, 5, 5, 6, 6, 6, 6, 6, 6};
        for (int h = 0; h < room.length; h++) {
            due("a drowned one's room in hour " + h, x.of(0, 2), room[h]);
            due("a drowned one weighs in hour " + h, x.of(0, 1), 10);
            x.hours(1);
        }
        goTo(x, LAST_HOUR);
        due("a drowned one's room in the last hour", x.of(0, 2), 6);
    }

    private static void roomOfKinds() {
        int[] least = {1, 1, 2, 2, 1, 1};
        int[] most = {9, 9, 10, 10, 14, 9};
        for (int kind = PLAIN; kind <= FISH; kind++) {
            due("the least room", with(kind, 1, 1).of(0, 2), least[kind]);
            FourWaters x = with(kind, 1, 9);
            goTo(x, 20);
            due("the most room", x.of(0, 2), most[kind]);
        }
    }

    /** On what a skin bears a thing is stopped, and on one less it breaks it. */
    private static void dueBreaks(FourWaters x, int bears) {
        x.skin(0, bears);
        due("stopped by " + bears, x.rests(0, 0, 2) & 1, 0);
        due("stopped by " + bears, x.rests(0, 0, 0), 0);
        x.skin(0, bears - 1);
        due("breaks " + (bears - 1), x.rests(0, 0, 2) & 1, 1);
    }

    private static FourWaters onLightWater(int kind, int weight, int ballast) {
        FourWaters x = with(kind, weight, 1);
        x.water(0, 1);
        x.ballast(0, ballast);
        return x;
    }

    /** "PLAIN: ... a SKIN that BEARS less than it WEIGHS"; DROWNED as PLAIN. */
    private static void plainBreaks() {
        for (int kind : new int[] {PLAIN, DROWNED}) {
            dueBreaks(onLightWater(kind, 2, 0), 2);
            dueBreaks(onLightWater(kind, 50, 0), 50);
            dueBreaks(onLightWater(kind, 99, 0), 99);
            dueBreaks(onLightWater(kind, 50, 49), 50);
        }
    }

    /** A SHIP breaks by its BALLAST, too; one that weighs 100 breaks every skin. */
    private static void shipsBreak() {
        dueBreaks(onLightWater(SHIP, 1, 1), 2);
        dueBreaks(onLightWater(SHIP, 1, 98), 99);
        FourWaters x = onLightWater(SHIP, 1, 99);
        x.skin(0, 99);
        due("100 breaks 99", x.rests(0, 0, 2) & 1, 1);
    }

    /** "BOTTLE ...: only one that BEARS less than half of what it WEIGHS (cut)". */
    private static void bottlesBreak() {
        dueBreaks(onLightWater(BOTTLE, 3, 0), 1);
        dueBreaks(onLightWater(BOTTLE, 4, 0), 2);
        dueBreaks(onLightWater(BOTTLE, 5, 0), 2);
        dueBreaks(onLightWater(BOTTLE, 99, 98), 98);
        dueBreaks(onLightWater(BOTTLE, 99, 99), 99);
    }

    /** "DIVER ...: any". */
    private static void diversBreakAny() {
        FourWaters x = onLightWater(DIVER, 3, 0);
        for (int bears : new int[] {0, 3, 98, 99}) {
            x.skin(0, bears);
            due("a diver breaks " + bears, x.rests(0, 0, 2), 1);
        }
    }

    /** "FISH ...: none", not even one that bears 0. */
    private static void fishBreakNone() {
        FourWaters x = with(FISH, 99, 1);
        dueRests("a fish", x, 0, 3, 0);
        x.ballast(0, 99);
        dueRests("a fish with ballast", x, 0, 3, 0);
    }

    /** "FLOATS on a LAYER, if it WEIGHS no more than ROOM times its DENSITY". */
    private static void floats() {
        for (int volume = 1; volume <= 4; volume++) {
            int[] density = {10, 13, 16, 20};
            for (int l = 0; l < 4; l++) {
                int most = volume * density[l];
                due("on the most", with(PLAIN, most, volume).rests(0, 0, 0), l);
                due("on one more", with(PLAIN, most + 1, volume).rests(0, 0, 0), l + 1);
            }
        }
        FourWaters x = with(DROWNED, 50, 1);
        goTo(x, 15);
        due("a drowned one in hour 15", x.rests(0, 0, 0), 1);
        goTo(x, 16);
        due("a drowned one in hour 16", x.rests(0, 0, 0), 0);
        x = with(DIVER, 19, 1);
        due("a diver in hour 0", x.rests(0, 0, 0), 0);
        x.hours(1);
        due("a diver in hour 1", x.rests(0, 0, 0), 1);
    }

    private static FourWaters layered(int kind, int layers) {
        FourWaters x = with(kind, 99, 1);
        for (int l = 0; l < 4; l++) {
            x.thick(l, 0, (layers >> l & 1) == 1 ? 1 << l : 0);
        }
        return x;
    }

    /** "... by the LAYERS that are THICK there (above 0) ... If it has passed all, it lies on the GROUND (4)". */
    private static void layersThatAreThere() {
        for (int layers = 0; layers < 16; layers++) {
            // All but the first of them have a skin right above, and they are 1, 2, 4 and 8 thick.
            int skins = (layers & (layers - 1)) >> 1;
            dueRests("layers " + layers, layered(PLAIN, layers), 4, layers, skins);
            dueRests("layers " + layers, layered(DIVER, layers), 4, layers, skins);
        }
    }

    /** The first one is passed without a skin; the skin right above the next one stops it, if there is one. */
    private static void fishByLayersThatAreThere() {
        int[] first = {4, 0, 1, 0, 2, 0, 1, 0, 3, 0, 1, 0, 2, 0, 1, 0};
        for (int layers = 0; layers < 16; layers++) {
            boolean isOne = layers == 0 || (layers & (layers - 1)) == 0;
            int down = layers == 0 ? 0 : 1 << first[layers];
            dueRests("a fish, layers " + layers, layered(FISH, layers), isOne ? 4 : first[layers], down, 0);
        }
    }

    /** "the SKIN right above the next one stops it": none of those above that one. */
    private static void skinRightAbove() {
        FourWaters x = layered(PLAIN, 9);
        x.skin(0, 99);
        x.skin(1, 99);
        dueRests("skins 0 and 1 bear 99", x, 4, 9, 4);
        x.skin(2, 99);
        dueRests("skin 2, too", x, 0, 1, 0);
        x = layered(PLAIN, 8);
        for (int s = 0; s < 3; s++) {
            x.skin(s, 99);
        }
        dueRests("none has been passed", x, 4, 8, 0);
        x = layered(PLAIN, 7);
        x.skin(2, 99);
        dueRests("no next one below skin 2", x, 4, 7, 3);
    }

    /** "(What is below changes nothing.)" */
    private static void whatIsBelow() {
        FourWaters x = with(PLAIN, 22, 2);
        dueRests("all as at first", x, 1, 3, 1);
        x.skin(1, 99);
        x.skin(2, 99);
        x.thick(1, 0, 9);
        x.thick(2, 0, 0);
        x.thick(3, 0, 0);
        x.water(2, 98);
        dueRests("other below", x, 1, 3, 1);
        x.skin(0, 99);
        x.thick(1, 0, 1);
        dueRests("stopped", x, 0, 3, 0);
    }
}
