import java.util.Set;
import java.util.function.Supplier;

/**
 * Every argument of every call: the least and the greatest number that is as told, and those beside them that are not.
 * A number that is not as told is refused, counted once as BAD, and nothing else changes; nothing changes by asking.
 */
public final class BoundsTest {
    private static final int MAX = Integer.MAX_VALUE, MIN = Integer.MIN_VALUE;
    private static final int BAD = -2, BAD_TEN = -10, BAD_NET = -1000, BAD_STATUS = -1;
    private static final Set<String> ASKS = Set.of("of", "deep", "rests", "sink", "holds", "bestHour", "soonest", "net", "spill",
            "keepOut", "shaken", "lies", "wentIn", "nets", "tap", "known", "part", "status", "count", "digest");
    private static final Check check = new Check();

    public static void main(String[] args) {
        for (int n : new int[] {1, 2, 4, 6}) {
            Supplier<FourWaters> told = () -> Told.some(n);
            toldOfSea(told, n);
            asked(told, n);
            kept(told);
            places(told, n);
        }
        fish();
        nothingThere();
        check.end();
    }

    private static void toldOfSea(Supplier<FourWaters> told, int n) {
        bounds(told, "sea", BAD, 1, 6);
        bounds(told, "water", BAD, 0, 3, 1, 99);
        bounds(told, "thick", BAD, 0, 3, 0, n - 1, 0, 9);
        bounds(told, "skin", BAD, 0, 2, 0, 99);
        bounds(told, "tide", BAD_TEN, 0, 3, 0, 5, -2, 2);
        bounds(told, "current", BAD_TEN, 0, 3, -1, 1);
        bounds(told, "thing", BAD, 0, 5, 1, 99, 1, 9);
        bounds(told, "ballast", BAD, 0, 4, 0, 99);
        bound(told, "lift", BAD, 2, 1, 9, 0, 1, 1);
        bound(told, "dam", BAD, 0, 0, n - 2, 0, 0);
        bound(told, "dam", BAD, 0, 0, n - 2, 0, 1);
        bound(told, "drop", BAD, 0, 0, 3, 0, 0);
        bound(told, "drop", BAD, 0, 0, 3, 0, 1);
        bounds(told, "clean", BAD, 0, 3);
        bounds(told, "type", BAD, 0, 127);
        bounds(told, "hours", BAD, 1, 99);
    }

    private static void asked(Supplier<FourWaters> told, int n) {
        bounds(told, "of", BAD, 0, 4, 0, 2);
        bounds(told, "deep", BAD, 0, 3, 0, n - 1);
        bounds(told, "rests", BAD, 0, 4, 0, n - 1, 0, 2);
        bounds(told, "sink", BAD_TEN, 0, 4, 0, n - 1, 0, 4);
        bounds(told, "holds", BAD_TEN, 0, 4, 0, n - 1);
        bounds(told, "bestHour", BAD_TEN, 0, 4, 0, n - 1, 0, 4);
        for (int thing : new int[] {Told.PLAIN, Told.FISH}) {
            check.refused(told, BAD_TEN, Check.BAD_ROW, "sink", thing, 0, 0);
            check.refused(told, BAD_TEN, Check.BAD_ROW, "holds", thing, 0);
            check.refused(told, BAD_TEN, Check.BAD_ROW, "bestHour", thing, 0, 0);
        }
        bounds(told, "net", BAD_NET, 0, told.get().count(4) - 1);
        bounds(told, "spill", BAD, 0, n - 1, 0, 999, 0, 40, 0, n - 1);
        bounds(told, "keepOut", BAD, 0, n - 1, 0, 999, 0, 40, 0, (1 << n) - 1);
        bounds(told, "shaken", BAD, 0, 99, 0, n - 1, 0, 1);
        bounds(told, "lies", BAD_TEN, 1, 9, 0, n - 1, 0, 4, 0, 999, 0, 2);
        bounds(told, "wentIn", BAD, 0, 4, 0, n - 1);
        bound(told, "nets", BAD_TEN, 0, 0, n - 1, 0, 0, 0);
        bound(told, "nets", BAD_TEN, 2, 0, 1, 0, 0, 0);
        bounds(told, "tap", BAD_TEN, 0, 1);
        bounds(told, "known", BAD_TEN, 1, 9, 0, 1);
        bounds(told, "storm", BAD, 0, 4, 0, n - 1, 0, 5, 0, 10);
    }

    private static void kept(Supplier<FourWaters> told) {
        bounds(told, "part", BAD, 0, 1);
        bounds(told, "image", BAD, 0, 1);
        bounds(told, "from", BAD, 0, 1);
        bounds(told, "status", BAD_STATUS, 0, 2);
        bounds(told, "count", BAD, 0, 8);
        asTold(told, "digest");
    }

    /** The least and the most of each argument in its turn, the others at their least; then all too great at once. */
    private static void bounds(Supplier<FourWaters> told, String name, int refused, int... leastAndMost) {
        int[] base = new int[leastAndMost.length / 2];
        int[] tooGreat = new int[base.length];
        for (int i = 0; i < base.length; i++) {
            base[i] = leastAndMost[2 * i];
            tooGreat[i] = leastAndMost[2 * i + 1] + 1;
        }
        for (int i = 0; i < base.length; i++) {
            bound(told, name, refused, i, leastAndMost[2 * i], leastAndMost[2 * i + 1], base);
        }
        check.refused(told, refused, Check.BAD_ROW, name, tooGreat);
    }

    /** If most is below least, no number is as told. */
    private static void bound(Supplier<FourWaters> told, String name, int refused, int at, int least, int most, int... base) {
        if (least <= most) {
            asTold(told, name, with(base, at, least));
            asTold(told, name, with(base, at, most));
        }
        // The last two would be as told if a number were cut to fewer bits.
        for (int x : new int[] {least - 1, most + 1, MIN, MAX, least + (1 << 10), least + (1 << 16)}) {
            check.refused(told, refused, Check.BAD_ROW, name, with(base, at, x));
        }
    }

    private static void asTold(Supplier<FourWaters> told, String name, int... a) {
        check.asTold(told, name, a);
        if (ASKS.contains(name)) {
            check.changesNothing(told, name, a);
        }
    }

    private static int[] with(int[] base, int at, int x) {
        int[] a = base.clone();
        a[at] = x;
        return a;
    }

    /** PLACES: 10 times the CELL and the LAYER, and no other number. */
    private static void places(Supplier<FourWaters> told, int n) {
        for (int p = -14; p <= 10 * n + 14; p++) {
            boolean isPlace = false;
            for (int cell = 0; cell < n; cell++) {
                isPlace |= p >= 10 * cell && p <= 10 * cell + 3;
            }
            int other = p == 1 ? 2 : 1;
            place(told, isPlace, "town", p);
            place(told, isPlace, "lift", p, other, 1);
            place(told, isPlace, "lift", other, p, 1);
            place(told, isPlace, "soonest", p, 0);
            place(told, isPlace, "soonest", 0, p);
        }
        for (int p : new int[] {MIN, MAX, 1 << 10, 1 << 16, MIN + 8}) {
            place(told, false, "town", p);
            place(told, false, "lift", p, 1, 1);
            place(told, false, "lift", 1, p, 1);
            place(told, false, "soonest", p, p);
        }
        for (int p = 0; p < 4; p++) {
            check.refused(told, BAD, Check.BAD_ROW, "lift", p, p, 1);
        }
    }

    private static void place(Supplier<FourWaters> told, boolean isPlace, String name, int... a) {
        if (isPlace) {
            asTold(told, name, a);
        } else {
            check.refused(told, BAD, Check.BAD_ROW, name, a);
        }
    }

    private static FourWaters sixFish() {
        FourWaters x = new FourWaters();
        for (int i = 0; i < 6; i++) {
            x.thing(5, 10 + i, 1);
        }
        return x;
    }

    /** Told ones (bits): FISH that are there. */
    private static void fish() {
        bound(BoundsTest::sixFish, "nets", BAD_TEN, 1, 0, 63, 0, 0, 0);
        for (int bits = 0; bits < 32; bits++) {
            if (bits == 0 || bits == 1 << Told.FISH) {
                asTold(() -> Told.some(4), "nets", 0, bits, 0);
            } else {
                check.refused(() -> Told.some(4), BAD_TEN, Check.BAD_ROW, "nets", 0, bits, 0);
            }
        }
    }

    /** Where nothing is told, no number of a thing or a town is as told, and no bits but 0. */
    private static void nothingThere() {
        Supplier<FourWaters> told = FourWaters::new;
        bound(told, "ballast", BAD, 0, 0, -1, 0, 0);
        bound(told, "of", BAD, 0, 0, -1, 0, 0);
        bound(told, "rests", BAD, 0, 0, -1, 0, 0, 0);
        bound(told, "sink", BAD_TEN, 0, 0, -1, 0, 0, 0);
        bound(told, "holds", BAD_TEN, 0, 0, -1, 0, 0);
        bound(told, "bestHour", BAD_TEN, 0, 0, -1, 0, 0, 0);
        bound(told, "net", BAD_NET, 0, 0, -1, 0);
        bound(told, "wentIn", BAD, 0, 0, -1, 0, 0);
        bound(told, "nets", BAD_TEN, 1, 0, 0, 0, 0, 0);
        bound(told, "storm", BAD, 0, 0, -1, 0, 0, 0, 0);
    }
}
