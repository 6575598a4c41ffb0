/** Promises 18 to 25: hours, and where things come to rest. */
public final class HoursTest {
    private static final int MAX = Integer.MAX_VALUE, MIN = Integer.MIN_VALUE;
    private static final int PLAIN = 0, SHIP = 1, BOTTLE = 2, DIVER = 3, DROWNED = 4, FISH = 5;
    private static final Check check = new Check();

    private static void due(String call, long got, long want) {
        check.due(call, got, want);
    }

    public static void main(String[] args) {
        hours();
        undo();
        of();
        deep();
        restsByLayers();
        restsBySkins();
        restsWithoutLayers();
        restsRefused();
        sink();
        holds();
        bestHour();
        check.end();
    }

    private static void hours() {
        FourWaters x = new FourWaters();
        due("hours(0)", x.hours(0), -2);
        due("hours(100)", x.hours(100), -2);
        due("hours(MIN)", x.hours(MIN), -2);
        due("hours(MAX)", x.hours(MAX), -2);
        for (int i = 1; i <= 10; i++) {
            due("hours(99)", x.hours(99), 99 * i);
        }
        due("hours(10)", x.hours(10), -3);
        due("count(1)", x.count(1), 990);
        due("hours(9)", x.hours(9), 999);
        due("hours(1)", x.hours(1), -3);
        due("hours(0)", x.hours(0), -2);
        due("status(0)", x.status(0), 5);
        due("status(1)", x.status(1), 2);
    }

    private static void undo() {
        FourWaters x = new FourWaters();
        for (int i = 1; i <= 12; i++) {
            x.hours(i);
            due("count(7)", x.count(7), Math.min(i, 10));
        }
        due("count(1)", x.count(1), 78);
        for (int i = 12; i > 2; i--) {
            due("undo", x.undo(), 1);
            due("count(1)", x.count(1), i * (i - 1) / 2);
        }
        due("undo, none", x.undo(), -3);
        due("count(1)", x.count(1), 3);
        x.hours(1);
        x.skin(0, 5);
        x.hours(1000);
        due("undo", x.undo(), 1);
        due("the skin stays", x.skin(0, 0), 5);
        due("undo, none", x.undo(), -3);
        due("status(1)", x.status(1), 2);
    }

    private static void of() {
        FourWaters x = new FourWaters();
        for (int kind = 0; kind < 6; kind++) {
            x.thing(kind, 31, 2);
            x.ballast(kind, 10);
        }
        dueOf(x, new int[] {31, 41, 41, 41, 31, 31}, new int[] {2, 2, 3, 3, 2, 2});
        x.hours(3);
        dueOf(x, new int[] {31, 41, 41, 47, 31, 31}, new int[] {2, 2, 3, 3, 2, 2});
        x.hours(1);
        dueOf(x, new int[] {31, 41, 41, 49, 31, 31}, new int[] {2, 2, 3, 3, 3, 2});
        x.hours(6);
        dueOf(x, new int[] {31, 41, 41, 61, 31, 31}, new int[] {2, 2, 3, 3, 4, 2});
        x.hours(1);
        dueOf(x, new int[] {31, 41, 41, 61, 31, 31}, new int[] {2, 2, 3, 3, 4, 2});
        x.hours(9);
        dueOf(x, new int[] {31, 41, 41, 61, 31, 31}, new int[] {2, 2, 3, 3, 7, 2});
        x.hours(99);
        dueOf(x, new int[] {31, 41, 41, 61, 31, 31}, new int[] {2, 2, 3, 3, 7, 2});
        due("of(6, 0)", x.of(6, 0), -2);
        due("of(-1, 0)", x.of(-1, 0), -2);
        due("of(0, 3)", x.of(0, 3), -2);
        due("of(0, -1)", x.of(0, -1), -2);
        due("status(0)", x.status(0), 4);
    }

    private static void dueOf(FourWaters x, int[] weighs, int[] room) {
        for (int i = 0; i < 6; i++) {
            due("of(" + i + ", 0)", x.of(i, 0), i);
            due("of(" + i + ", 1) in hour " + x.count(1), x.of(i, 1), weighs[i]);
            due("of(" + i + ", 2) in hour " + x.count(1), x.of(i, 2), room[i]);
        }
    }

    private static void deep() {
        FourWaters x = new FourWaters();
        x.tide(1, 0, 2);
        x.tide(1, 1, -2);
        x.tide(1, 5, -1);
        x.thick(1, 2, 1);
        x.thick(1, 3, 9);
        int[][] due = {{5, 3, 11}, {1, 0, 7}, {3, 1, 9}, {3, 1, 9}, {3, 1, 9}, {2, 0, 8}, {5, 3, 11}, {1, 0, 7}};
        for (int h = 0; h < due.length; h++) {
            due("deep(1, 0) in hour " + h, x.deep(1, 0), due[h][0]);
            due("deep(1, 2) in hour " + h, x.deep(1, 2), due[h][1]);
            due("deep(1, 3) in hour " + h, x.deep(1, 3), due[h][2]);
            due("deep(0, 0) in hour " + h, x.deep(0, 0), 3);
            x.hours(1);
        }
        due("deep(4, 0)", x.deep(4, 0), -2);
        due("deep(-1, 0)", x.deep(-1, 0), -2);
        due("deep(0, 4)", x.deep(0, 4), -2);
        due("deep(0, MIN)", x.deep(0, MIN), -2);
        due("status(0)", x.status(0), 4);
    }

    private static void dueRests(FourWaters x, int thing, int cell, int layer, int down, int skins) {
        String call = "rests(" + thing + ", " + cell + ", ";
        due(call + "0)", x.rests(thing, cell, 0), layer);
        due(call + "1)", x.rests(thing, cell, 1), down);
        due(call + "2)", x.rests(thing, cell, 2), skins);
    }

    private static void restsByLayers() {
        int[] weights = {20, 21, 26, 27, 32, 33, 40, 41};
        int[][] due = {{0, 0, 0}, {1, 3, 1}, {1, 3, 1}, {2, 6, 3}, {2, 6, 3}, {3, 9, 7}, {3, 9, 7}, {4, 12, 7}};
        for (int i = 0; i < weights.length; i++) {
            FourWaters x = new FourWaters();
            x.thing(PLAIN, weights[i], 2);
            dueRests(x, 0, 3, due[i][0], due[i][1], due[i][2]);
        }
    }

    private static void restsBySkins() {
        FourWaters x = new FourWaters();
        x.thing(PLAIN, 90, 1);
        x.thing(BOTTLE, 91, 1);
        x.thing(DIVER, 91, 1);
        x.thing(FISH, 90, 1);
        x.thing(DROWNED, 90, 1);
        x.thing(SHIP, 80, 1);
        x.ballast(5, 10);
        x.skin(1, 44);
        dueRests(x, 1, 0, 4, 12, 7);
        x.skin(1, 45);
        dueRests(x, 1, 0, 1, 6, 1);
        x.skin(1, 89);
        dueRests(x, 0, 0, 4, 12, 7);
        dueRests(x, 4, 0, 4, 12, 7);
        dueRests(x, 5, 0, 4, 12, 7);
        x.skin(1, 90);
        dueRests(x, 0, 0, 1, 6, 1);
        dueRests(x, 4, 0, 1, 6, 1);
        dueRests(x, 5, 0, 1, 6, 1);
        x.skin(1, 99);
        dueRests(x, 2, 0, 4, 12, 7);
        dueRests(x, 3, 0, 0, 3, 0);
    }

    private static void restsWithoutLayers() {
        FourWaters x = new FourWaters();
        x.thing(PLAIN, 30, 1);
        x.thick(0, 0, 0);
        dueRests(x, 0, 0, 4, 9, 6);
        x.thick(2, 0, 0);
        x.skin(0, 99);
        x.skin(1, 99);
        dueRests(x, 0, 0, 4, 6, 4);
        x.skin(2, 99);
        dueRests(x, 0, 0, 1, 3, 0);
        x.thick(1, 0, 0);
        dueRests(x, 0, 0, 4, 3, 0);
        x.thick(3, 0, 0);
        dueRests(x, 0, 0, 4, 0, 0);
        x.tide(1, 0, 1);
        dueRests(x, 0, 0, 4, 1, 0);
        dueRests(x, 0, 1, 0, 3, 0);
    }

    private static void restsRefused() {
        FourWaters x = new FourWaters();
        due("rests, no thing", x.rests(0, 0, 0), -2);
        x.thing(0, 1, 1);
        due("rests(0, 4, 0)", x.rests(0, 4, 0), -2);
        due("rests(0, -1, 0)", x.rests(0, -1, 0), -2);
        due("rests(0, 0, 3)", x.rests(0, 0, 3), -2);
        due("rests(0, 0, -1)", x.rests(0, 0, -1), -2);
        due("rests(MAX, 0, 0)", x.rests(MAX, 0, 0), -2);
        due("status(0)", x.status(0), 6);
    }

    private static void sink() {
        FourWaters x = new FourWaters();
        x.thing(SHIP, 22, 2);
        x.thing(BOTTLE, 1, 9);
        x.thing(DIVER, 10, 1);
        x.thing(PLAIN, 10, 1);
        x.ballast(0, 50);
        int[] due = {-1, 0, 5, 11, 19};
        for (int layer = 0; layer <= 4; layer++) {
            due("sink(0, 0, " + layer + ")", x.sink(0, 0, layer), due[layer]);
        }
        due("sink(1, 0, 0)", x.sink(1, 0, 0), 0);
        due("sink(1, 0, 1)", x.sink(1, 0, 1), -1);
        due("sink(2, 0, 1)", x.sink(2, 0, 1), 11);
        x.hours(2);
        due("sink(2, 0, 1) 2 hours on", x.sink(2, 0, 1), 7);
        x.skin(0, 40);
        due("sink(0, 0, 0), stopped", x.sink(0, 0, 0), 0);
        due("sink(0, 0, 4), past the skin", x.sink(0, 0, 4), 19);
        due("sink(0, 0, 3), past it too late", x.sink(0, 0, 3), -1);
        due("sink of PLAIN", x.sink(3, 0, 0), -10);
        due("sink of none", x.sink(4, 0, 0), -10);
        due("sink(0, 4, 0)", x.sink(0, 4, 0), -10);
        due("sink(0, 0, 5)", x.sink(0, 0, 5), -10);
        due("sink(0, 0, -1)", x.sink(0, 0, -1), -10);
        due("status(0)", x.status(0), 5);
        due("the ballast stays", x.ballast(0, 0), 50);
        sinkByAll();
    }

    private static void sinkByAll() {
        FourWaters x = new FourWaters();
        x.thing(SHIP, 2, 5);
        x.thing(SHIP, 1, 5);
        due("sink(0, 0, 4), by 99", x.sink(0, 0, 4), 99);
        due("bestHour(0, 0, 4), by 99", x.bestHour(0, 0, 4), 0);
        due("sink(1, 0, 4), by none", x.sink(1, 0, 4), -1);
        due("bestHour(1, 0, 4), by none", x.bestHour(1, 0, 4), -1);
    }

    private static void holds() {
        FourWaters x = new FourWaters();
        x.thing(SHIP, 1, 1);
        x.thing(BOTTLE, 99, 1);
        x.thing(DIVER, 1, 1);
        x.thing(DROWNED, 1, 1);
        x.thing(FISH, 1, 1);
        due("holds(0, 0)", x.holds(0, 0), -1);
        x.skin(2, 99);
        due("holds(0, 0), 100 on 99", x.holds(0, 0), -1);
        due("holds(1, 0), half of 198 on 99", x.holds(1, 0), 2);
        x.skin(2, 98);
        due("holds(1, 0), half of 198 on 98", x.holds(1, 0), -1);
        x.skin(0, 99);
        due("holds(1, 0)", x.holds(1, 0), 0);
        due("holds(2, 0)", x.holds(2, 0), -1);
        due("holds(3, 0)", x.holds(3, 0), -10);
        due("holds(4, 0)", x.holds(4, 0), -10);
        due("holds(5, 0)", x.holds(5, 0), -10);
        due("holds(0, 4)", x.holds(0, 4), -10);
        due("status(0)", x.status(0), 4);
    }

    private static void bestHour() {
        FourWaters x = new FourWaters();
        x.thing(SHIP, 10, 2);
        x.thing(DIVER, 10, 1);
        x.thing(FISH, 10, 2);
        due("bestHour, all alike", x.bestHour(0, 0, 1), 0);
        x.thick(0, 0, 2);
        x.tide(0, 2, -2);
        due("bestHour(0, 0, 1)", x.bestHour(0, 0, 1), 2);
        due("bestHour(1, 1, 1)", x.bestHour(1, 1, 1), 5);
        due("bestHour(0, 0, 0)", x.bestHour(0, 0, 0), 0);
        x.hours(1);
        due("bestHour(0, 0, 1) in hour 1", x.bestHour(0, 0, 1), 1);
        x.hours(2);
        due("bestHour(0, 0, 1) in hour 3", x.bestHour(0, 0, 1), 5);
        x.thick(1, 0, 0);
        due("bestHour, none", x.bestHour(0, 0, 1), -1);
        due("bestHour of FISH", x.bestHour(2, 0, 1), -10);
        due("bestHour(3, 0, 1)", x.bestHour(3, 0, 1), -10);
        due("bestHour(0, 4, 1)", x.bestHour(0, 4, 1), -10);
        due("bestHour(0, 0, 5)", x.bestHour(0, 0, 5), -10);
        due("bestHour(0, 0, -1)", x.bestHour(0, 0, -1), -10);
        due("status(0)", x.status(0), 5);
        for (int i = 0; i < 10; i++) {
            x.hours(99);
        }
        x.hours(6);
        due("hour", x.count(1), 999);
        due("bestHour(1, 1, 2) in the last hour", x.bestHour(1, 1, 2), 0);
        due("bestHour(1, 1, 1), too heavy by then", x.bestHour(1, 1, 1), -1);
    }
}
