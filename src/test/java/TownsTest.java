/** Promises 26 to 30: ways, dues, spills and shaken waters. */
public final class TownsTest {
    private static final int MAX = Integer.MAX_VALUE, MIN = Integer.MIN_VALUE;
    private static final Check check = new Check();

    private static void due(String call, long got, long want) {
        check.due(call, got, want);
    }

    public static void main(String[] args) {
        soonest();
        soonestByTide();
        soonestByTenLifts();
        net();
        netOfSix();
        spill();
        spillByDams();
        keepOut();
        shaken();
        check.end();
    }

    private static void soonest() {
        FourWaters x = new FourWaters();
        due("soonest(0, 0)", x.soonest(0, 0), 0);
        due("soonest(0, 30)", x.soonest(0, 30), 9);
        due("soonest(30, 0)", x.soonest(30, 0), 9);
        due("soonest(0, 1)", x.soonest(0, 1), -1);
        x.lift(0, 31, 2);
        due("soonest(0, 1)", x.soonest(0, 1), 11);
        due("soonest(1, 0)", x.soonest(1, 0), 11);
        x.lift(31, 30, 1);
        due("soonest(0, 30)", x.soonest(0, 30), 3);
        due("soonest(0, 20)", x.soonest(0, 20), 6);
        x.thick(1, 2, 0);
        due("soonest(0, 1), a gap", x.soonest(0, 1), -1);
        due("soonest(21, 21), not thick", x.soonest(21, 21), 0);
        due("soonest(21, 31), not thick here", x.soonest(21, 31), -1);
        due("soonest(11, 21), not thick there", x.soonest(11, 21), -1);
        x.lift(21, 11, 9);
        due("soonest(21, 1), by a lift from where it is not thick", x.soonest(21, 1), 12);
        x.lift(21, 11, 4);
        due("soonest(21, 1), by the sooner of two", x.soonest(21, 1), 7);
        due("soonest(0, 4)", x.soonest(0, 4), -2);
        due("soonest(40, 0)", x.soonest(40, 0), -2);
        due("soonest(-1, 0)", x.soonest(-1, 0), -2);
        due("soonest(MIN, MAX)", x.soonest(MIN, MAX), -2);
        due("status(0)", x.status(0), 4);
    }

    private static void soonestByTide() {
        FourWaters x = new FourWaters();
        x.thick(2, 1, 1);
        x.tide(2, 1, -1);
        due("soonest(2, 22)", x.soonest(2, 22), 6);
        x.hours(1);
        due("soonest(2, 22), tide out", x.soonest(2, 22), -1);
        x.hours(1);
        due("soonest(2, 22), tide in", x.soonest(2, 22), 6);
    }

    private static void soonestByTenLifts() {
        FourWaters x = new FourWaters();
        x.sea(6);
        for (int i = 0; i < 9; i++) {
            x.lift(0, 53, 9);
        }
        due("soonest(0, 53)", x.soonest(0, 53), 9);
        due("soonest(50, 3)", x.soonest(50, 3), 39);
        x.lift(53, 0, 8);
        due("soonest(0, 53), by the last", x.soonest(0, 53), 8);
        due("soonest(50, 52)", x.soonest(50, 52), -1);
    }

    private static void netOfSix() {
        FourWaters x = new FourWaters();
        x.sea(6);
        int[] places = {53, 50, 51, 52, 40, 3};
        int[] due = {-9, 1, 2, 6, 0, 0};
        for (int place : places) {
            x.town(place);
        }
        x.thick(1, 5, 1);
        x.thick(3, 5, 9);
        for (int i = 0; i < 6; i++) {
            due("net(" + i + ") of six", x.net(i), due[i]);
        }
        due("net(6) of six", x.net(6), -1000);
    }

    private static void net() {
        FourWaters x = new FourWaters();
        due("net(0)", x.net(0), -1000);
        x.town(3);
        x.town(0);
        x.town(1);
        x.town(13);
        x.thick(3, 0, 7);
        x.thick(1, 0, 2);
        due("net(0)", x.net(0), -7);
        due("net(1)", x.net(1), 2);
        due("net(2)", x.net(2), 5);
        due("net(3)", x.net(3), 0);
        x.tide(3, 0, 2);
        due("net(0), tide in", x.net(0), -9);
        x.tide(3, 0, -1);
        x.thick(3, 0, 3);
        due("net(0) of -2", x.net(0), -2);
        due("net(4)", x.net(4), -1000);
        due("net(-1)", x.net(-1), -1000);
        due("status(0)", x.status(0), 3);
    }

    private static void spill() {
        FourWaters x = new FourWaters();
        int[][] due = {{100, 0, 0, 0}, {75, 25, 0, 0}, {63, 31, 6, 0}, {55, 33, 11, 1}};
        for (int h = 0; h < due.length; h++) {
            for (int cell = 0; cell < 4; cell++) {
                due("spill(0, 100, " + h + ", " + cell + ")", x.spill(0, 100, h, cell), due[h][cell]);
            }
        }
        due("spill(1, 3, 40, 1)", x.spill(1, 3, 40, 1), 3);
        due("spill(1, 8, 1, 1)", x.spill(1, 8, 1, 1), 4);
        due("spill(1, 0, 40, 1)", x.spill(1, 0, 40, 1), 0);
        due("spill(4, 1, 1, 1)", x.spill(4, 1, 1, 1), -2);
        due("spill(0, 1000, 1, 1)", x.spill(0, 1000, 1, 1), -2);
        due("spill(0, -1, 1, 1)", x.spill(0, -1, 1, 1), -2);
        due("spill(0, 1, 41, 1)", x.spill(0, 1, 41, 1), -2);
        due("spill(0, 1, -1, 1)", x.spill(0, 1, -1, 1), -2);
        due("spill(0, 1, 1, 4)", x.spill(0, 1, 1, 4), -2);
        due("spill(-1, MAX, MAX, MIN)", x.spill(-1, MAX, MAX, MIN), -2);
        due("status(0)", x.status(0), 7);
        x.sea(1);
        due("spill of one cell", x.spill(0, 999, 40, 0), 999);
    }

    private static void spillByDams() {
        FourWaters x = new FourWaters();
        x.dam(0, true);
        x.dam(2, true);
        due("spill(1, 100, 1, 0)", x.spill(1, 100, 1, 0), 0);
        due("spill(1, 100, 1, 1)", x.spill(1, 100, 1, 1), 75);
        due("spill(1, 100, 1, 2)", x.spill(1, 100, 1, 2), 25);
        due("spill(1, 100, 40, 3)", x.spill(1, 100, 40, 3), 0);
        due("spill(0, 100, 40, 0)", x.spill(0, 100, 40, 0), 100);
    }

    private static void keepOut() {
        FourWaters x = new FourWaters();
        due("keepOut, none told", x.keepOut(0, 999, 40, 0), 0);
        due("keepOut, not yet there", x.keepOut(0, 100, 2, 8), 0);
        due("keepOut, there in the last hour", x.keepOut(0, 100, 3, 8), 1);
        due("keepOut, two sides", x.keepOut(1, 100, 40, 9), 3);
        due("keepOut, too little to spread", x.keepOut(1, 3, 40, 13), 0);
        due("keepOut, where it is", x.keepOut(1, 1, 0, 2), -1);
        due("keepOut of nothing", x.keepOut(1, 0, 40, 15), 0);
        x.dam(1, true);
        due("keepOut, a dam more", x.keepOut(1, 100, 40, 9), 1);
        due("keepOut, the dam does", x.keepOut(1, 100, 40, 12), 0);
        due("keepOut, the one from the other side", x.keepOut(3, 100, 40, 4), 4);
        due("count(5)", x.count(5), 2);
        due("keepOut(4, 1, 1, 1)", x.keepOut(4, 1, 1, 1), -2);
        due("keepOut(0, 1000, 1, 1)", x.keepOut(0, 1000, 1, 1), -2);
        due("keepOut(0, 1, 41, 1)", x.keepOut(0, 1, 41, 1), -2);
        due("keepOut(0, 1, 1, 16)", x.keepOut(0, 1, 1, 16), -2);
        due("keepOut(0, 1, 1, -1)", x.keepOut(0, 1, 1, -1), -2);
        due("status(0)", x.status(0), 5);
        x.sea(6);
        due("keepOut, six cells", x.keepOut(2, 999, 40, 33), 5);
        due("keepOut, six cells, all others", x.keepOut(2, 999, 40, 59), 6);
        x.sea(1);
        due("keepOut, one cell", x.keepOut(0, 1, 0, 1), -1);
        due("keepOut, one cell, none", x.keepOut(0, 1, 0, 0), 0);
    }

    private static void shaken() {
        FourWaters x = new FourWaters();
        int[] hours = {0, 1, 2, 3, 4, 5, 6};
        int[] much = {0, 1, 2, 3, 4, 6, 9};
        for (int i = 0; i < much.length; i++) {
            due("shaken(" + much[i] + ", 0, 0)", x.shaken(much[i], 0, 0), hours[i]);
        }
        // 99, 74, 55, 41, 30, 22, 16, 12
        due("shaken(99, 0, 1)", x.shaken(99, 0, 1), 7);
        due("shaken(99, 0, 0)", x.shaken(99, 0, 0), 14);
        due("shaken(12, 0, 1)", x.shaken(12, 0, 1), 0);
        due("shaken(13, 0, 1)", x.shaken(13, 0, 1), 1);
        x.tide(0, 0, -1);
        due("shaken(12, 0, 1), less", x.shaken(12, 0, 1), 1);
        for (int l = 0; l < 4; l++) {
            x.thick(l, 2, 0);
        }
        due("shaken(9, 2, 1), none is thick", x.shaken(9, 2, 1), 6);
        due("shaken(100, 0, 0)", x.shaken(100, 0, 0), -2);
        due("shaken(-1, 0, 0)", x.shaken(-1, 0, 0), -2);
        due("shaken(1, 4, 0)", x.shaken(1, 4, 0), -2);
        due("shaken(1, 0, 2)", x.shaken(1, 0, 2), -2);
        due("shaken(1, 0, -1)", x.shaken(1, 0, -1), -2);
        due("status(0)", x.status(0), 5);
    }
}
