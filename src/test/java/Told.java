/** Objects in states that the tests share: each is made anew by the same calls, so that two of them are alike. */
final class Told {
    static final int SHIP = 0, PLAIN = 1, BOTTLE = 2, FISH = 3, DIVER = 4;

    private Told() {
    }

    /** A sea of n cells with something of all that may be told, and room for more of each. */
    static FourWaters some(int n) {
        FourWaters x = new FourWaters();
        refuseOneOfEach(x);
        x.sea(n);
        x.hours(2);
        x.hours(5);
        x.image(0);
        x.water(0, 9);
        x.water(3, 21);
        x.thick(0, n - 1, 2);
        x.thick(3, 0, 8);
        x.skin(0, 15);
        x.skin(2, 30);
        x.tide(0, 1, 1);
        x.tide(3, 5, -1);
        x.current(0, 1);
        x.current(2, -1);
        tellThings(x);
        x.lift(0, 3, 4);
        x.lift(2, 10 * (n - 1) + 1, 2);
        x.town(2);
        x.town(0);
        x.town(10 * (n - 1) + 3);
        x.dam(n - 2, true);
        x.drop(1, true);
        x.drop(0, false);
        x.hours(4);
        x.storm(FISH, 0, 2, 3);
        x.image(1);
        x.hours(3);
        x.thick(1, 0, 5);
        Check.type(x, "sea 2;dam 0;");
        return x;
    }

    /** So that no row of STATUS is 0. */
    private static void refuseOneOfEach(FourWaters x) {
        x.sea(0);
        x.undo();
        for (int i = 0; i < 7; i++) {
            x.drop(0, true);
        }
    }

    private static void tellThings(FourWaters x) {
        x.thing(1, 30, 2);
        x.thing(0, 20, 2);
        x.thing(2, 40, 1);
        x.thing(5, 25, 1);
        x.thing(3, 10, 3);
        x.ballast(SHIP, 5);
        x.ballast(DIVER, 7);
    }

    /** A sea of n cells (2 at least) in which nothing may be added any more. */
    static FourWaters full(int n) {
        FourWaters x = some(n);
        x.thing(4, 60, 2);
        for (int i = x.count(3); i < 10; i++) {
            x.lift(0, 1 + i % 3, 9);
        }
        x.clean(2);
        for (int i = 0; i < 6; i++) {
            x.town(10 * (i / 3) + i % 3);
        }
        for (int k = 0; k < n - 1; k++) {
            x.dam(k, true);
        }
        for (int i = x.count(6); i < 6; i++) {
            x.drop(3, true);
        }
        for (int i = x.count(8); i < 150; i++) {
            x.type(32);
        }
        while (x.count(1) <= 900) {
            x.hours(99);
        }
        x.hours(999 - x.count(1));
        return x;
    }
}
