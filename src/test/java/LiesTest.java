/** Promises 31 to 36: what lies, what is caught, what is known, and storms. */
public final class LiesTest {
    private static final int MAX = Integer.MAX_VALUE, MIN = Integer.MIN_VALUE;
    private static final Check check = new Check();

    private static void due(String call, long got, long want) {
        check.due(call, got, want);
    }

    public static void main(String[] args) {
        lies();
        liesRefused();
        wentIn();
        nets();
        netsForSix();
        netsRefused();
        tap();
        known();
        storm();
        stormRefused();
        check.end();
    }

    private static void dueLies(FourWaters x, int volume, int layer, int h, int least, int greatest) {
        String call = "lies(" + volume + ", 0, " + layer + ", " + h + ", ";
        due(call + "0)", x.lies(volume, 0, layer, h, 0), least == -1 ? 0 : greatest - least + 1);
        due(call + "1)", x.lies(volume, 0, layer, h, 1), least);
        due(call + "2)", x.lies(volume, 0, layer, h, 2), greatest);
    }

    private static void lies() {
        FourWaters x = new FourWaters();
        dueLies(x, 2, 0, 0, 1, 20);
        dueLies(x, 2, 1, 0, 21, 26);
        dueLies(x, 2, 2, 0, 27, 32);
        dueLies(x, 2, 3, 0, 33, 40);
        dueLies(x, 2, 4, 0, 41, 99);
        dueLies(x, 2, 0, 3, 1, 20);
        dueLies(x, 2, 0, 4, 1, 30);
        dueLies(x, 2, 0, 20, 1, 70);
        dueLies(x, 2, 0, 999, 1, 70);
        dueLies(x, 9, 4, 0, -1, -1);
        dueLies(x, 9, 0, 0, 1, 90);
        dueLies(x, 1, 4, 0, 21, 99);
        x.hours(50);
        dueLies(x, 2, 1, 0, 21, 26);
        x.tide(0, 2, -2);
        x.thick(0, 0, 2);
        dueLies(x, 2, 0, 2, -1, -1);
        dueLies(x, 2, 1, 2, 1, 26);
        x.skin(1, 30);
        due("lies, with a gap", x.lies(2, 0, 1, 0, 0), 10);
        due("lies, with a gap, the least", x.lies(2, 0, 1, 0, 1), 21);
        due("lies, with a gap, the greatest", x.lies(2, 0, 1, 0, 2), 30);
        dueLies(x, 2, 2, 0, 31, 32);
    }

    private static void liesRefused() {
        FourWaters x = new FourWaters();
        due("lies(0, 0, 0, 0, 0)", x.lies(0, 0, 0, 0, 0), -10);
        due("lies(10, 0, 0, 0, 0)", x.lies(10, 0, 0, 0, 0), -10);
        due("lies(1, 4, 0, 0, 0)", x.lies(1, 4, 0, 0, 0), -10);
        due("lies(1, 0, 5, 0, 0)", x.lies(1, 0, 5, 0, 0), -10);
        due("lies(1, 0, -1, 0, 0)", x.lies(1, 0, -1, 0, 0), -10);
        due("lies(1, 0, 0, 1000, 0)", x.lies(1, 0, 0, 1000, 0), -10);
        due("lies(1, 0, 0, -1, 0)", x.lies(1, 0, 0, -1, 0), -10);
        due("lies(1, 0, 0, 0, 3)", x.lies(1, 0, 0, 0, 3), -10);
        due("lies(1, 0, 0, 0, -1)", x.lies(1, 0, 0, 0, -1), -10);
        due("status(0)", x.status(0), 9);
    }

    private static void dueWentIn(FourWaters x, int thing, int... bits) {
        for (int cell = 0; cell < bits.length; cell++) {
            due("wentIn(" + thing + ", " + cell + ")", x.wentIn(thing, cell), bits[cell]);
        }
    }

    private static void wentIn() {
        FourWaters x = new FourWaters();
        due("wentIn, no thing", x.wentIn(0, 0), -2);
        x.thing(0, 20, 2);
        x.thing(0, 22, 2);
        x.thing(0, 30, 2);
        dueWentIn(x, 1, 1, 2, 4, 8);
        x.current(0, 1);
        dueWentIn(x, 0, 1, 2, 4, 8);
        dueWentIn(x, 1, 0, 0, 0, 15);
        x.thick(0, 0, 1);
        x.thick(0, 1, 0);
        dueWentIn(x, 1, 0, 3, 0, 12);
        x.thick(0, 1, 3);
        x.current(1, -1);
        x.thick(1, 0, 1);
        x.thick(1, 2, 2);
        x.thick(1, 3, 1);
        // By thing 2, over layer 0 and back over 1: 0 to 1 to 0; 1 to 3 to 0; 2 to 3 to 1; 3 stays, to 2.
        dueWentIn(x, 2, 3, 4, 8, 0);
        x.current(2, 1);
        dueWentIn(x, 2, 3, 4, 8, 0);
        x.skin(0, 99);
        dueWentIn(x, 2, 0, 1, 0, 14);
        due("wentIn(0, 4)", x.wentIn(0, 4), -2);
        due("wentIn(0, -1)", x.wentIn(0, -1), -2);
        due("wentIn(3, 0)", x.wentIn(3, 0), -2);
        due("wentIn(MIN, MAX)", x.wentIn(MIN, MAX), -2);
        due("status(0)", x.status(0), 5);
    }

    private static void nets() {
        FourWaters x = new FourWaters();
        due("nets, no thing, none told", x.nets(0, 0, 0), 1891);
        due("nets, no thing, the first", x.nets(0, 0, 1), 0);
        x.thing(5, 10, 2);
        x.thing(5, 22, 2);
        x.thing(0, 41, 2);
        due("nets(0, 3, 0)", x.nets(0, 3, 0), 58);
        due("nets(0, 3, 1)", x.nets(0, 3, 1), 3);
        due("nets(0, 1, 0)", x.nets(0, 1, 0), 3);
        due("nets(0, 1, 1)", x.nets(0, 1, 1), 0);
        due("nets(0, 2, 0)", x.nets(0, 2, 0), 174);
        due("nets(0, 2, 1)", x.nets(0, 2, 1), 103);
        due("nets(0, 0, 0)", x.nets(0, 0, 0), 1656);
        due("nets(0, 0, 1)", x.nets(0, 0, 1), 101);
        x.thing(5, 25, 2);
        due("nets, like ones", x.nets(0, 2, 0), 0);
        due("nets, like ones, the first", x.nets(0, 2, 1), -1);
        due("nets, like ones, both", x.nets(0, 10, 0), 174);
        x.thick(0, 1, 9);
        x.tide(0, 0, 2);
        due("nets, deeper", x.nets(1, 10, 1), 111);
        x.hours(1);
        due("nets, deeper, later", x.nets(1, 10, 1), 109);
    }

    private static void netsForSix() {
        FourWaters x = new FourWaters();
        for (int weight : new int[] {11, 15, 30, 10, 13, 16}) {
            x.thing(5, weight, 1);
        }
        // Only the one that weighs 10 floats on layer 0; the others pass it, and skin 0 stops them.
        due("nets(0, 55, 0)", x.nets(0, 55, 0), 3 * 58);
        x.thick(0, 0, 0);
        // Now the first is layer 1: 0 for 11, 10 and 13; 3 for the others.
        due("nets(0, 38, 0)", x.nets(0, 38, 0), 3 * 58);
        due("nets(0, 25, 0)", x.nets(0, 25, 0), 3);
        due("nets(0, 63, 1)", x.nets(0, 63, 1), 3);
        due("nets(0, 63, 0)", x.nets(0, 63, 0), 58);
        due("nets(0, 64, 0)", x.nets(0, 64, 0), -10);
    }

    private static void netsRefused() {
        FourWaters x = new FourWaters();
        x.thing(5, 10, 2);
        x.thing(0, 41, 2);
        due("nets, of PLAIN", x.nets(0, 2, 0), -10);
        due("nets, of PLAIN and FISH", x.nets(0, 3, 0), -10);
        due("nets, of none", x.nets(0, 4, 0), -10);
        due("nets(0, -1, 0)", x.nets(0, -1, 0), -10);
        due("nets(0, MIN, 0)", x.nets(0, MIN, 0), -10);
        due("nets(4, 1, 0)", x.nets(4, 1, 0), -10);
        due("nets(0, 1, 2)", x.nets(0, 1, 2), -10);
        due("nets(0, 1, -1)", x.nets(0, 1, -1), -10);
        due("status(0)", x.status(0), 8);
    }

    private static void tap() {
        FourWaters x = new FourWaters();
        due("tap(0) of 12", x.tap(0), 7);
        due("tap(1) of 12", x.tap(1), 39);
        x.tide(0, 0, 1);
        due("tap(0) of 16", x.tap(0), 3);
        due("tap(1) of 16", x.tap(1), 79);
        x.sea(1);
        due("tap(0) of 3", x.tap(0), 4);
        due("tap(1) of 3", x.tap(1), 3);
        x.thick(0, 0, 0);
        due("tap(0) of 0", x.tap(0), 1);
        due("tap(1) of 0", x.tap(1), 0);
        x.thick(0, 0, 9);
        due("tap(0) of 9", x.tap(0), 10);
        due("tap(1) of 9", x.tap(1), 9);
        x.sea(6);
        due("tap(0) of 18", x.tap(0), 1);
        due("tap(1) of 18", x.tap(1), 99);
        x.thick(0, 0, 9);
        due("tap(0) of 24", x.tap(0), 1);
        due("tap(2)", x.tap(2), -10);
        due("tap(-1)", x.tap(-1), -10);
        due("status(0)", x.status(0), 2);
    }

    private static void known() {
        FourWaters x = new FourWaters();
        due("known(2, 0)", x.known(2, 0), 99);
        due("known(2, 1)", x.known(2, 1), 3);
        due("known(5, 1), 50 or 49", x.known(5, 1), 0);
        due("known(4, 1), 52 or 47", x.known(4, 1), 1);
        due("known(1, 0)", x.known(1, 0), 99);
        due("known(9, 0)", x.known(9, 0), 99);
        due("known(9, 1), 90 or 9", x.known(9, 1), 0);
        x.drop(3, true);
        due("known(2, 0)", x.known(2, 0), 40);
        due("known(2, 1)", x.known(2, 1), 0);
        x.drop(0, false);
        due("known(2, 0)", x.known(2, 0), 20);
        due("known(2, 1), 12 or 8 by 2, 14 or 6 by 1", x.known(2, 1), 2);
        x.drop(1, true);
        due("known(2, 0)", x.known(2, 0), 6);
        due("known(2, 1), all alike", x.known(2, 1), 0);
        x.water(0, 11);
        due("known(2, 0), by the density as it is", x.known(2, 0), 4);
        x.drop(1, false);
        due("known(2, 0), none", x.known(2, 0), 0);
        due("known(2, 1), none", x.known(2, 1), -1);
        due("known(0, 0)", x.known(0, 0), -10);
        due("known(10, 0)", x.known(10, 0), -10);
        due("known(1, 2)", x.known(1, 2), -10);
        due("known(1, -1)", x.known(1, -1), -10);
        due("status(0)", x.status(0), 4);
    }

    private static void dueStorm(FourWaters x, int thing, int h, int c, long above, long below) {
        String call = "storm(" + thing + ", 0, " + h + ", " + c + ")";
        due(call, x.storm(thing, 0, h, c), 1);
        due(call + " above", x.part(0), above);
        due(call + " below", x.part(1), below);
    }

    private static void storm() {
        FourWaters x = new FourWaters();
        x.thing(0, 22, 2);
        x.thing(5, 41, 2);
        x.thing(3, 90, 1);
        x.skin(0, 99);
        dueStorm(x, 0, 1, 3, 3, 10);
        dueStorm(x, 0, 2, 5, 3, 4);
        dueStorm(x, 0, 5, 1, 40951, 100000);
        dueStorm(x, 0, 5, 10, 1, 1);
        dueStorm(x, 0, 0, 10, 0, 1);
        dueStorm(x, 0, 5, 0, 0, 1);
        dueStorm(x, 1, 3, 2, 61, 125);
        dueStorm(x, 2, 5, 9, 0, 1);
        x.thick(1, 0, 0);
        x.thick(2, 0, 0);
        dueStorm(x, 0, 1, 7, 0, 1);
        dueStorm(x, 1, 1, 7, 7, 10);
        x.tide(3, 0, -2);
        x.thick(3, 0, 2);
        x.hours(5);
        dueStorm(x, 1, 1, 7, 7, 10);
        x.hours(1);
        dueStorm(x, 1, 1, 7, 0, 1);
    }

    private static void stormRefused() {
        FourWaters x = new FourWaters();
        x.thing(0, 22, 2);
        x.skin(0, 99);
        x.storm(0, 0, 1, 3);
        due("storm(1, 0, 1, 1)", x.storm(1, 0, 1, 1), -2);
        due("storm(0, 4, 1, 1)", x.storm(0, 4, 1, 1), -2);
        due("storm(0, 0, 6, 1)", x.storm(0, 0, 6, 1), -2);
        due("storm(0, 0, -1, 1)", x.storm(0, 0, -1, 1), -2);
        due("storm(0, 0, 1, 11)", x.storm(0, 0, 1, 11), -2);
        due("storm(0, 0, 1, -1)", x.storm(0, 0, 1, -1), -2);
        due("storm(MAX, 0, 1, 1)", x.storm(MAX, 0, 1, 1), -2);
        due("part(0)", x.part(0), 3);
        due("part(1)", x.part(1), 10);
        due("status(0)", x.status(0), 7);
    }
}
