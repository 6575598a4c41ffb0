/** Promises 1 to 14: a new object, and what is told of a sea. */
public final class SeaTest {
    private static final int MAX = Integer.MAX_VALUE, MIN = Integer.MIN_VALUE;
    private static final Check check = new Check();

    private static void due(String call, long got, long want) {
        check.due(call, got, want);
    }

    public static void main(String[] args) {
        newObject();
        sea();
        seaLeaves();
        water();
        thick();
        skin();
        tide();
        current();
        thing();
        ballast();
        lift();
        town();
        dam();
        drop();
        clean();
        cleanFull();
        check.end();
    }

    private static void newObject() {
        FourWaters x = new FourWaters();
        due("count(0)", x.count(0), 4);
        for (int what = 1; what <= 8; what++) {
            due("count(" + what + ")", x.count(what), 0);
        }
        for (int what = 0; what <= 2; what++) {
            due("status(" + what + ")", x.status(what), 0);
        }
        int[] density = {10, 13, 16, 20};
        for (int l = 0; l < 4; l++) {
            due("water", x.water(l, density[l]), density[l]);
            due("current", x.current(l, 0), 0);
            for (int c = 0; c < 4; c++) {
                due("thick", x.thick(l, c, 3), 3);
            }
            for (int h = 0; h < 6; h++) {
                due("tide", x.tide(l, h, 0), 0);
            }
        }
        for (int s = 0; s < 3; s++) {
            due("skin", x.skin(s, 0), 0);
        }
        due("part(0)", x.part(0), 0);
        due("part(1)", x.part(1), 1);
        due("undo", x.undo(), -3);
        due("from(0)", x.from(0), -3);
        due("from(1)", x.from(1), -3);
        due("clear", x.clear(), 0);
    }

    private static void tellAll(FourWaters x) {
        x.water(0, 5);
        x.thick(2, 1, 7);
        x.skin(1, 44);
        x.tide(3, 5, -1);
        x.current(2, 1);
        x.thing(1, 22, 2);
        x.ballast(0, 3);
        x.lift(0, 1, 5);
        x.town(3);
        x.dam(0, true);
        x.drop(1, true);
        x.hours(9);
    }

    private static void sea() {
        FourWaters x = new FourWaters();
        due("sea(6)", x.sea(6), 4);
        due("sea(0)", x.sea(0), -2);
        due("sea(7)", x.sea(7), -2);
        due("sea(-1)", x.sea(-1), -2);
        due("sea(MAX)", x.sea(MAX), -2);
        due("sea(MIN)", x.sea(MIN), -2);
        due("count(0)", x.count(0), 6);
        tellAll(x);
        due("sea(1)", x.sea(1), 6);
        due("sea(4)", x.sea(4), 1);
        due("digest", x.digest(), new FourWaters().digest());
        due("undo", x.undo(), -3);
        due("thick in a cell that came again", x.thick(2, 1, 0), 3);
    }

    /** A sea told anew leaves the text, the fraction, status and the images. */
    private static void seaLeaves() {
        FourWaters x = new FourWaters();
        x.type(65);
        x.skin(0, 99);
        x.thing(0, 22, 2);
        x.storm(0, 0, 1, 3);
        x.image(0);
        x.sea(0);
        due("sea(2)", x.sea(2), 4);
        due("count(8)", x.count(8), 1);
        due("part(0)", x.part(0), 3);
        due("part(1)", x.part(1), 10);
        due("status(0)", x.status(0), 1);
        due("from(0)", x.from(0), 1);
        due("count(2)", x.count(2), 1);
    }

    private static void water() {
        FourWaters x = new FourWaters();
        due("water(1, 12)", x.water(1, 12), 13);
        due("water(1, 15)", x.water(1, 15), 12);
        due("water(1, 16)", x.water(1, 16), -3);
        due("water(1, 10)", x.water(1, 10), -3);
        due("water(1, 11)", x.water(1, 11), 15);
        due("water(0, 1)", x.water(0, 1), 10);
        due("water(0, 11)", x.water(0, 11), -3);
        due("water(3, 99)", x.water(3, 99), 20);
        due("water(3, 16)", x.water(3, 16), -3);
        due("water(3, 17)", x.water(3, 17), 99);
        due("water(0, 0)", x.water(0, 0), -2);
        due("water(3, 100)", x.water(3, 100), -2);
        due("water(4, 50)", x.water(4, 50), -2);
        due("water(-1, 50)", x.water(-1, 50), -2);
        due("water(0, MAX)", x.water(0, MAX), -2);
        due("status(0)", x.status(0), 5);
        due("status(1)", x.status(1), 4);
        due("status(2)", x.status(2), 0);
    }

    private static void thick() {
        FourWaters x = new FourWaters();
        due("thick(0, 0, 9)", x.thick(0, 0, 9), 3);
        due("thick(0, 0, 0)", x.thick(0, 0, 0), 9);
        due("thick(3, 3, 5)", x.thick(3, 3, 5), 3);
        due("deep(3, 3)", x.deep(3, 3), 5);
        due("deep(3, 2)", x.deep(3, 2), 3);
        due("deep(0, 0)", x.deep(0, 0), 0);
        due("thick(0, 4, 1)", x.thick(0, 4, 1), -2);
        due("thick(4, 0, 1)", x.thick(4, 0, 1), -2);
        due("thick(0, 0, 10)", x.thick(0, 0, 10), -2);
        due("thick(0, 0, -1)", x.thick(0, 0, -1), -2);
        due("thick(MIN, MIN, MIN)", x.thick(MIN, MIN, MIN), -2);
        due("deep(0, 0)", x.deep(0, 0), 0);
        due("status(0)", x.status(0), 5);
    }

    private static void skin() {
        FourWaters x = new FourWaters();
        due("skin(0, 99)", x.skin(0, 99), 0);
        due("skin(0, 1)", x.skin(0, 1), 99);
        due("skin(2, 7)", x.skin(2, 7), 0);
        due("skin(2, 0)", x.skin(2, 0), 7);
        due("skin(3, 1)", x.skin(3, 1), -2);
        due("skin(-1, 1)", x.skin(-1, 1), -2);
        due("skin(0, 100)", x.skin(0, 100), -2);
        due("skin(0, -1)", x.skin(0, -1), -2);
        due("skin(0, 0)", x.skin(0, 0), 1);
        due("status(0)", x.status(0), 4);
    }

    private static void tide() {
        FourWaters x = new FourWaters();
        due("tide(0, 0, -2)", x.tide(0, 0, -2), 0);
        due("tide(0, 0, 2)", x.tide(0, 0, 2), -2);
        due("status(0)", x.status(0), 0);
        due("deep(0, 3)", x.deep(0, 3), 5);
        due("deep(1, 3)", x.deep(1, 3), 3);
        due("tide(3, 5, 1)", x.tide(3, 5, 1), 0);
        due("tide(3, 6, 1)", x.tide(3, 6, 1), -10);
        due("tide(3, -1, 1)", x.tide(3, -1, 1), -10);
        due("tide(4, 0, 1)", x.tide(4, 0, 1), -10);
        due("tide(-1, 0, 1)", x.tide(-1, 0, 1), -10);
        due("tide(0, 0, 3)", x.tide(0, 0, 3), -10);
        due("tide(0, 0, -3)", x.tide(0, 0, -3), -10);
        due("tide(0, 0, 0)", x.tide(0, 0, 0), 2);
        due("status(0)", x.status(0), 6);
    }

    private static void current() {
        FourWaters x = new FourWaters();
        due("current(0, -1)", x.current(0, -1), 0);
        due("current(0, 1)", x.current(0, 1), -1);
        due("current(3, 1)", x.current(3, 1), 0);
        due("current(0, 2)", x.current(0, 2), -10);
        due("current(0, -2)", x.current(0, -2), -10);
        due("current(4, 0)", x.current(4, 0), -10);
        due("current(-1, 0)", x.current(-1, 0), -10);
        due("current(0, 0)", x.current(0, 0), 1);
        due("status(0)", x.status(0), 4);
    }

    private static void thing() {
        FourWaters x = new FourWaters();
        due("thing(0, 1, 1)", x.thing(0, 1, 1), 0);
        due("thing(5, 99, 9)", x.thing(5, 99, 9), 1);
        due("thing(6, 1, 1)", x.thing(6, 1, 1), -2);
        due("thing(-1, 1, 1)", x.thing(-1, 1, 1), -2);
        due("thing(0, 0, 1)", x.thing(0, 0, 1), -2);
        due("thing(0, 100, 1)", x.thing(0, 100, 1), -2);
        due("thing(0, 1, 0)", x.thing(0, 1, 0), -2);
        due("thing(0, 1, 10)", x.thing(0, 1, 10), -2);
        for (int i = 2; i < 6; i++) {
            due("thing " + i, x.thing(i, 5, 5), i);
        }
        due("thing, a seventh", x.thing(0, 1, 1), -4);
        due("thing, a bad seventh", x.thing(0, 1, 10), -2);
        due("status(0)", x.status(0), 7);
        due("status(2)", x.status(2), 1);
        due("count(2)", x.count(2), 6);
    }

    private static void ballast() {
        FourWaters x = new FourWaters();
        due("ballast(0, 1)", x.ballast(0, 1), -2);
        x.thing(0, 5, 1);
        x.thing(1, 5, 1);
        due("ballast(0, 99)", x.ballast(0, 99), 0);
        due("ballast(1, 7)", x.ballast(1, 7), 0);
        due("ballast(1, 0)", x.ballast(1, 0), 7);
        due("ballast(0, 100)", x.ballast(0, 100), -2);
        due("ballast(0, -1)", x.ballast(0, -1), -2);
        due("ballast(2, 1)", x.ballast(2, 1), -2);
        due("ballast(-1, 1)", x.ballast(-1, 1), -2);
        due("of(0, 1)", x.of(0, 1), 5);
        x.clean(0);
        x.thing(1, 5, 1);
        due("ballast of a new thing", x.ballast(0, 4), 0);
        due("of(0, 1)", x.of(0, 1), 9);
    }

    private static void lift() {
        FourWaters x = new FourWaters();
        due("lift(0, 33, 9)", x.lift(0, 33, 9), 0);
        due("lift(33, 0, 1)", x.lift(33, 0, 1), 1);
        due("lift(0, 0, 1)", x.lift(0, 0, 1), -2);
        due("lift(0, 4, 1)", x.lift(0, 4, 1), -2);
        due("lift(0, 40, 1)", x.lift(0, 40, 1), -2);
        due("lift(-1, 0, 1)", x.lift(-1, 0, 1), -2);
        due("lift(0, -10, 1)", x.lift(0, -10, 1), -2);
        due("lift(0, 1, 0)", x.lift(0, 1, 0), -2);
        due("lift(0, 1, 10)", x.lift(0, 1, 10), -2);
        due("lift(MAX, MIN, 1)", x.lift(MAX, MIN, 1), -2);
        for (int i = 2; i < 10; i++) {
            due("lift " + i, x.lift(1, 2, 3), i);
        }
        due("lift, an eleventh", x.lift(1, 2, 3), -4);
        due("lift, a bad eleventh", x.lift(1, 1, 3), -2);
        due("count(3)", x.count(3), 10);
    }

    private static void town() {
        FourWaters x = new FourWaters();
        x.sea(6);
        due("town(53)", x.town(53), 0);
        due("town(0)", x.town(0), 1);
        due("town(53)", x.town(53), -3);
        due("town(54)", x.town(54), -2);
        due("town(60)", x.town(60), -2);
        due("town(-1)", x.town(-1), -2);
        for (int i = 2; i < 6; i++) {
            due("town " + i, x.town(10 * i), i);
        }
        due("town, a seventh", x.town(1), -4);
        due("town, there is one, of six", x.town(0), -3);
        due("town, bad, of six", x.town(9), -2);
        due("count(4)", x.count(4), 6);
    }

    private static void dam() {
        FourWaters x = new FourWaters();
        due("dam(0, false)", x.dam(0, false), -3);
        due("dam(2, true)", x.dam(2, true), 1);
        due("dam(0, true)", x.dam(0, true), 1);
        due("count(5)", x.count(5), 5);
        due("dam(0, true)", x.dam(0, true), -3);
        due("dam(0, false)", x.dam(0, false), 1);
        due("count(5)", x.count(5), 4);
        due("dam(3, true)", x.dam(3, true), -2);
        due("dam(-1, true)", x.dam(-1, true), -2);
        due("dam(32, true)", x.dam(32, true), -2);
        x.sea(1);
        due("dam(0, true) of one cell", x.dam(0, true), -2);
        due("dam(0, false) of one cell", x.dam(0, false), -2);
    }

    private static void drop() {
        FourWaters x = new FourWaters();
        due("drop(4, true)", x.drop(4, true), -2);
        due("drop(-1, true)", x.drop(-1, true), -2);
        for (int i = 0; i < 6; i++) {
            due("drop " + i, x.drop(i % 4, i % 2 == 0), i + 1);
        }
        due("drop, a seventh", x.drop(0, true), -4);
        due("drop, a bad seventh", x.drop(9, true), -2);
        due("count(6)", x.count(6), 6);
    }

    private static void clean() {
        FourWaters x = new FourWaters();
        tellAll(x);
        x.thing(0, 1, 1);
        x.lift(0, 2, 1);
        x.lift(0, 3, 1);
        x.town(2);
        due("clean(4)", x.clean(4), -2);
        due("clean(-1)", x.clean(-1), -2);
        due("clean(0)", x.clean(0), 2);
        due("clean(0)", x.clean(0), 0);
        due("clean(1)", x.clean(1), 3);
        due("clean(2)", x.clean(2), 2);
        due("clean(3)", x.clean(3), 1);
        for (int what : new int[] {2, 3, 4, 6}) {
            due("count(" + what + ")", x.count(what), 0);
        }
        due("count(5)", x.count(5), 1);
        due("count(1)", x.count(1), 9);
        due("thing", x.thing(0, 1, 1), 0);
        due("town", x.town(3), 0);
    }

    /** From full to empty, each row by itself. */
    private static void cleanFull() {
        FourWaters x = Told.full(6);
        int[] had = {6, 10, 6, 6};
        int[] counts = {2, 3, 4, 6};
        for (int what = 0; what < 4; what++) {
            due("clean(" + what + ")", x.clean(what), had[what]);
            for (int i = 0; i < 4; i++) {
                due("count(" + counts[i] + ") behind it", x.count(counts[i]), i <= what ? 0 : had[i]);
            }
            due("clean(" + what + ") again", x.clean(what), 0);
        }
        due("dams", x.count(5), 31);
        due("bytes", x.count(8), 150);
        due("the hour", x.count(1), 999);
        due("clear", x.clear(), 150);
        due("clear again", x.clear(), 0);
    }
}
