/** Promises 37 to 42: the fraction, images, status, counts and the digest. */
public final class KeptTest {
    private static final int MAX = Integer.MAX_VALUE, MIN = Integer.MIN_VALUE;
    private static final Check check = new Check();
    private static long h;

    private static void due(String call, long got, long want) {
        check.due(call, got, want);
    }

    public static void main(String[] args) {
        part();
        images();
        imagesLeave();
        imagesKeepWhatMayBeUndone();
        status();
        count();
        countOfFull();
        digestAtFirst();
        digestOfAll();
        digestOfFull();
        check.end();
    }

    private static void part() {
        FourWaters x = new FourWaters();
        due("part(0)", x.part(0), 0);
        due("part(1)", x.part(1), 1);
        due("part(2)", x.part(2), -2);
        due("part(-1)", x.part(-1), -2);
        due("part(MAX)", x.part(MAX), -2);
        due("status(0)", x.status(0), 3);
    }

    private static FourWaters told() {
        FourWaters x = new FourWaters();
        x.sea(3);
        x.water(0, 5);
        x.thick(2, 1, 7);
        x.skin(1, 44);
        x.tide(3, 5, -1);
        x.current(2, 1);
        x.thing(1, 22, 2);
        x.ballast(0, 3);
        x.lift(21, 1, 5);
        x.town(3);
        x.town(10);
        x.dam(1, true);
        x.drop(1, true);
        x.drop(2, false);
        x.hours(9);
        x.hours(2);
        return x;
    }

    private static void changeAll(FourWaters x) {
        x.water(0, 6);
        x.thick(2, 1, 8);
        x.skin(1, 45);
        x.tide(3, 5, -2);
        x.current(2, -1);
        x.ballast(0, 4);
        x.clean(1);
        x.clean(2);
        x.clean(3);
        x.lift(2, 3, 4);
        x.town(1);
        x.drop(3, false);
        x.dam(1, false);
        x.thing(0, 1, 1);
        x.hours(4);
    }

    private static void images() {
        FourWaters x = told();
        long first = x.digest();
        due("from(0), none", x.from(0), -3);
        due("image(0)", x.image(0), 1);
        due("from(1), none", x.from(1), -3);
        changeAll(x);
        long second = x.digest();
        due("image(1)", x.image(1), 1);
        x.sea(6);
        due("from(0)", x.from(0), 1);
        due("digest of image 0", x.digest(), first);
        changeAll(x);
        due("digest, changed alike", x.digest(), second);
        due("from(0) again", x.from(0), 1);
        due("digest of image 0 again", x.digest(), first);
        due("from(1)", x.from(1), 1);
        due("digest of image 1", x.digest(), second);
        due("image(0), over the other", x.image(0), 1);
        x.sea(1);
        due("from(0)", x.from(0), 1);
        due("digest of image 0, now as 1", x.digest(), second);
        for (int i : new int[] {2, -1, MAX, MIN}) {
            due("image(" + i + ")", x.image(i), -2);
            due("from(" + i + ")", x.from(i), -2);
        }
        due("status(0)", x.status(0), 8);
        due("status(1)", x.status(1), 2);
    }

    /** The text, the fraction and status are not in an image. */
    private static void imagesLeave() {
        FourWaters x = new FourWaters();
        x.skin(0, 99);
        x.thing(0, 22, 2);
        x.image(0);
        x.type(65);
        x.storm(0, 0, 1, 3);
        x.sea(0);
        x.image(1);
        due("from(0)", x.from(0), 1);
        due("count(8)", x.count(8), 1);
        due("part(0)", x.part(0), 3);
        due("status(0)", x.status(0), 1);
        due("from(1)", x.from(1), 1);
    }

    private static void imagesKeepWhatMayBeUndone() {
        FourWaters x = new FourWaters();
        x.hours(3);
        x.hours(4);
        x.image(0);
        x.undo();
        x.undo();
        due("undo, none", x.undo(), -3);
        x.hours(50);
        due("from(0)", x.from(0), 1);
        due("hour", x.count(1), 7);
        due("count(7)", x.count(7), 2);
        due("undo", x.undo(), 1);
        due("hour", x.count(1), 3);
        due("undo", x.undo(), 1);
        due("hour", x.count(1), 0);
        due("undo, none", x.undo(), -3);
    }

    private static void status() {
        FourWaters x = new FourWaters();
        due("status(3)", x.status(3), -1);
        due("status(-1)", x.status(-1), -1);
        due("status(0)", x.status(0), 2);
        x.undo();
        x.water(0, 13);
        x.from(1);
        due("status(1)", x.status(1), 3);
        for (int i = 0; i < 8; i++) {
            x.thing(0, 1, 1);
        }
        due("status(2)", x.status(2), 2);
        x.tide(9, 9, 9);
        x.current(9, 9);
        x.sink(0, 0, 0);
        x.holds(0, 0);
        x.bestHour(0, 0, 0);
        x.net(0);
        x.lies(0, 0, 0, 0, 0);
        x.nets(0, 1, 0);
        x.tap(9);
        x.known(0, 0);
        due("status(0)", x.status(0), 12);
        x.read();
        Check.read(x, "sea 3;dam 7;");
        x.soonest(0, 1);
        due("status(0), no refusals", x.status(0), 12);
        due("status(1), no refusals", x.status(1), 3);
        due("status(2), no refusals", x.status(2), 2);
        x.image(0);
        x.from(0);
        x.sea(2);
        due("status(0), left by all", x.status(0), 12);
    }

    private static void count() {
        FourWaters x = told();
        x.type(1);
        int[] due = {3, 11, 1, 1, 2, 2, 2, 2, 1};
        for (int what = 0; what < due.length; what++) {
            due("count(" + what + ")", x.count(what), due[what]);
        }
        due("count(9)", x.count(9), -2);
        due("count(-1)", x.count(-1), -2);
        due("status(0)", x.status(0), 2);
    }

    private static void countOfFull() {
        FourWaters x = Told.full(6);
        int[] due = {6, 999, 6, 10, 6, 31, 6, 10, 150};
        for (int what = 0; what < due.length; what++) {
            due("count(" + what + ") of a full one", x.count(what), due[what]);
        }
    }

    private static void add(long... values) {
        for (long v : values) {
            h = 31 * h + v;
        }
    }

    private static void digestAtFirst() {
        h = 887;
        add(4, 0, 0, 0, 0, 0, 0, 0, 0);
        for (int density : new int[] {10, 13, 16, 20}) {
            add(density, 0);
            add(0, 0, 0, 0, 0, 0);
            add(3, 3, 3, 3);
        }
        add(0, 0, 0);
        add(0, 1);
        due("digest at first", new FourWaters().digest(), h);
    }

    private static void digestOfAll() {
        FourWaters x = told();
        x.type(59);
        x.skin(0, 99);
        x.storm(0, 0, 1, 3);
        h = 887;
        add(3, 11, 1, 1, 2, 2, 2, 2, 1);
        add(5, 0, 0, 0, 0, 0, 0, 0, 3, 3, 3);
        add(13, 0, 0, 0, 0, 0, 0, 0, 3, 3, 3);
        add(16, 1, 0, 0, 0, 0, 0, 0, 3, 7, 3);
        add(20, 0, 0, 0, 0, 0, 0, -1, 3, 3, 3);
        add(99, 44, 0);
        add(1, 22, 2, 3);
        add(21, 1, 5);
        add(3, 10);
        add(1, 1, 2, 0);
        add(3, 10);
        due("digest of all", x.digest(), h);
        due("digest again", x.digest(), h);
    }

    /** Every row to its last one; Told has what was told. */
    private static void digestOfFull() {
        h = 887;
        add(6, 999, 6, 10, 6, 31, 6, 10, 150);
        add(9, 1, 0, 1, 0, 0, 0, 0, 3, 3, 3, 3, 3, 2);
        add(13, 0, 0, 0, 0, 0, 0, 0, 5, 3, 3, 3, 3, 3);
        add(16, -1, 0, 0, 0, 0, 0, 0, 3, 3, 3, 3, 3, 3);
        add(21, 0, 0, 0, 0, 0, 0, -1, 8, 3, 3, 3, 3, 3);
        add(15, 0, 30);
        add(1, 30, 2, 5);
        add(0, 20, 2, 0);
        add(2, 40, 1, 0);
        add(5, 25, 1, 0);
        add(3, 10, 3, 7);
        add(4, 60, 2, 0);
        add(0, 3, 4, 2, 51, 2);
        add(0, 3, 9, 0, 1, 9, 0, 2, 9, 0, 3, 9, 0, 1, 9, 0, 2, 9, 0, 3, 9, 0, 1, 9);
        add(0, 1, 2, 10, 11, 12);
        add(1, 1, 0, 0, 3, 1, 3, 1, 3, 1, 3, 1);
        add(51, 100);
        due("digest of a full one", Told.full(6).digest(), h);
    }
}
