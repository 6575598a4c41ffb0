import java.util.function.Supplier;

/** What is refused as NO and as FULL, in which order, and what is told by a number of its own; nothing else changes. */
public final class RefusedTest {
    private static final int BAD = -2, NO = -3, FULL = -4;
    private static final Check check = new Check();

    public static void main(String[] args) {
        notRising();
        towns();
        dams();
        hours();
        undo();
        from();
        full();
        badAheadOfNoAndFull();
        noAheadOfFull();
        readIsNoRefusal();
        itemsAreNone();
        answersThatLookRefused();
        check.end();
    }

    private static void bad(Supplier<FourWaters> told, String name, int... a) {
        check.refused(told, BAD, Check.BAD_ROW, name, a);
    }

    private static void no(Supplier<FourWaters> told, String name, int... a) {
        check.refused(told, NO, Check.NO_ROW, name, a);
    }

    private static void full(Supplier<FourWaters> told, String name, int... a) {
        check.refused(told, FULL, Check.FULL_ROW, name, a);
    }

    /** The call is not refused, and answers so. */
    private static void taken(Supplier<FourWaters> told, long answer, String name, int... a) {
        FourWaters x = told.get();
        FourWaters like = told.get();
        check.due(Calls.told(name, a), Calls.call(x, name, a), answer);
        for (int what = 0; what < 3; what++) {
            check.due("status(" + what + ") behind " + Calls.told(name, a), x.status(what), like.status(what));
        }
    }

    /** water: "NO: not rising then (alike, too)", by the LAYER above and by the one below. */
    private static void notRising() {
        Supplier<FourWaters> first = FourWaters::new;
        int[] density = {10, 13, 16, 20};
        for (int l = 0; l < 4; l++) {
            if (l > 0) {
                no(first, "water", l, density[l - 1]);
                no(first, "water", l, density[l - 1] - 1);
                no(first, "water", l, 1);
                taken(first, density[l], "water", l, density[l - 1] + 1);
            }
            if (l < 3) {
                no(first, "water", l, density[l + 1]);
                no(first, "water", l, density[l + 1] + 1);
                no(first, "water", l, 99);
                taken(first, density[l], "water", l, density[l + 1] - 1);
            }
            taken(first, density[l], "water", l, density[l]);
        }
        taken(first, 10, "water", 0, 1);
        taken(first, 20, "water", 3, 99);
        no(() -> Told.some(4), "water", 3, 16);
    }

    private static void towns() {
        for (int place : new int[] {2, 0, 33}) {
            no(() -> Told.some(4), "town", place);
        }
        taken(() -> Told.some(4), 3, "town", 1);
    }

    private static void dams() {
        no(FourWaters::new, "dam", 0, 0);
        no(FourWaters::new, "dam", 2, 0);
        taken(FourWaters::new, 1, "dam", 2, 1);
        no(() -> Told.some(4), "dam", 2, 1);
        taken(() -> Told.some(4), 1, "dam", 2, 0);
        no(() -> Told.full(6), "dam", 4, 1);
    }

    private static FourWaters inHour(int hour) {
        FourWaters x = new FourWaters();
        while (x.count(1) < hour) {
            x.hours(Math.min(99, hour - x.count(1)));
        }
        return x;
    }

    private static void hours() {
        taken(() -> inHour(900), 999, "hours", 99);
        no(() -> inHour(901), "hours", 99);
        taken(() -> inHour(998), 999, "hours", 1);
        no(() -> inHour(998), "hours", 2);
        no(() -> inHour(999), "hours", 1);
        no(() -> Told.full(4), "hours", 1);
    }

    private static FourWaters undone(int hours, int undos) {
        FourWaters x = new FourWaters();
        for (int i = 0; i < hours; i++) {
            x.hours(1 + i);
        }
        for (int i = 0; i < undos; i++) {
            x.undo();
        }
        return x;
    }

    private static FourWaters toldAnew(boolean byText) {
        FourWaters x = Told.some(4);
        if (byText) {
            Check.read(x, "sea 2;");
        } else {
            x.sea(2);
        }
        return x;
    }

    private static void undo() {
        no(FourWaters::new, "undo");
        taken(() -> undone(1, 0), 1, "undo");
        no(() -> undone(1, 1), "undo");
        taken(() -> undone(10, 9), 1, "undo");
        no(() -> undone(10, 10), "undo");
        taken(() -> undone(11, 9), 1, "undo");
        no(() -> undone(11, 10), "undo");
        no(() -> toldAnew(false), "undo");
        no(() -> toldAnew(true), "undo");
    }

    private static FourWaters kept(int i) {
        FourWaters x = new FourWaters();
        x.hours(5);
        x.image(i);
        return x;
    }

    private static void from() {
        no(FourWaters::new, "from", 0);
        no(FourWaters::new, "from", 1);
        no(() -> kept(0), "from", 1);
        no(() -> kept(1), "from", 0);
        taken(() -> kept(0), 1, "from", 0);
        taken(() -> kept(1), 1, "from", 1);
    }

    private static FourWaters cleaned(int what) {
        FourWaters x = Told.full(4);
        x.clean(what);
        return x;
    }

    private static FourWaters cleared() {
        FourWaters x = Told.full(4);
        x.clear();
        return x;
    }

    private static void full() {
        Supplier<FourWaters> told = () -> Told.full(4);
        full(told, "thing", 0, 1, 1);
        full(told, "thing", 5, 99, 9);
        full(told, "lift", 0, 1, 1);
        full(told, "lift", 33, 0, 9);
        full(told, "town", 3);
        full(told, "town", 33);
        full(told, "drop", 0, 1);
        full(told, "drop", 3, 0);
        full(told, "type", 0);
        full(told, "type", 127);
        taken(() -> cleaned(0), 0, "thing", 0, 1, 1);
        taken(() -> cleaned(1), 0, "lift", 0, 1, 1);
        taken(() -> cleaned(2), 0, "town", 0);
        taken(() -> cleaned(3), 1, "drop", 0, 1);
        taken(RefusedTest::cleared, 1, "type", 0);
        lastOfEach();
    }

    /** The last one that there is room for, and the first for which there is none. */
    private static void lastOfEach() {
        FourWaters x = new FourWaters();
        for (int i = 0; i < 12; i++) {
            check.due("thing " + i, x.thing(0, 1, 1), i < 6 ? i : FULL);
            check.due("lift " + i, x.lift(0, 1, 1), i < 10 ? i : FULL);
            check.due("town " + i, x.town(10 * (i / 4) + i % 4), i < 6 ? i : FULL);
            check.due("drop " + i, x.drop(0, true), i < 6 ? i + 1 : FULL);
        }
        check.due("status(0)", x.status(0), 0);
        check.due("status(1)", x.status(1), 0);
        check.due("status(2)", x.status(2), 6 + 2 + 6 + 6);
        for (int i = 1; i <= 152; i++) {
            check.due("byte " + i, x.type(i % 128), i <= 150 ? i : FULL);
        }
        check.due("status(2)", x.status(2), 22);
    }

    /** "Refused, ... the first of: BAD, NO, FULL". */
    private static void badAheadOfNoAndFull() {
        Supplier<FourWaters> told = () -> Told.full(4);
        bad(told, "thing", 0, 1, 10);
        bad(told, "lift", 1, 1, 1);
        bad(told, "lift", 0, 1, 10);
        bad(told, "town", 40);
        bad(told, "drop", 4, 1);
        bad(told, "type", 128);
        bad(told, "hours", 100);
        bad(told, "dam", 3, 1);
        bad(told, "dam", 3, 0);
        bad(FourWaters::new, "water", 0, 100);
        bad(FourWaters::new, "water", 3, 0);
        bad(FourWaters::new, "from", 2);
        bad(() -> inHour(999), "hours", 0);
    }

    private static void noAheadOfFull() {
        no(() -> Told.full(4), "town", 0);
        no(() -> Told.full(4), "town", 12);
    }

    /** read: a FAULT and a refused ITEM are told by numbers of their own, and are none of STATUS. */
    private static void readIsNoRefusal() {
        for (String text : new String[] {"", "se", "sea", "sea 3;dam", "sea 0;", "sea 3;dam 2;", "sea 3;dam 0;dam 0;"}) {
            FourWaters x = Told.some(4);
            FourWaters like = Told.some(4);
            Check.type(x, text);
            Check.type(like, text);
            check.due("read of " + text + " is below 0", x.read() < 0 ? 1 : 0, 1);
            check.due("nothing changes by " + text, Seen.of(x).equals(Seen.of(like)) ? 1 : 0, 1);
        }
    }

    /** "ITEMS are none": one that is refused as BAD, NO or FULL counts in no row. */
    private static void itemsAreNone() {
        String[] texts = {"sea 7;", "sea 2;water 1 10;", "sea 2;town 0;town 1;town 2;town 3;town 10;town 11;town 12;"};
        long[] due = {-1000, -1001, -1007};
        for (int i = 0; i < texts.length; i++) {
            FourWaters x = new FourWaters();
            check.due(texts[i], Check.read(x, texts[i]), due[i]);
            for (int what = 0; what < 3; what++) {
                check.due("status(" + what + ") behind " + texts[i], x.status(what), 0);
            }
        }
    }

    /** Answers that are -1 to -4 but no refusals are not counted. */
    private static void answersThatLookRefused() {
        FourWaters x = new FourWaters();
        x.thing(1, 1, 9);
        x.tide(0, 0, -2);
        x.current(0, -1);
        check.due("tide was", x.tide(0, 0, -2), -2);
        check.due("current was", x.current(0, -1), -1);
        check.due("sink", x.sink(0, 0, 4), -1);
        check.due("holds", x.holds(0, 0), -1);
        check.due("bestHour", x.bestHour(0, 0, 4), -1);
        check.due("soonest", x.soonest(0, 1), -1);
        check.due("keepOut", x.keepOut(0, 1, 0, 1), -1);
        check.due("lies, the least", x.lies(9, 0, 4, 999, 1), -1);
        check.due("lies, the greatest", x.lies(9, 0, 4, 999, 2), -1);
        x.town(0);
        x.town(3);
        for (int due = -4; due <= -1; due++) {
            x.thick(3, 0, -due);
            check.due("net", x.net(1), due);
        }
        for (int what = 0; what < 3; what++) {
            check.due("status(" + what + ")", x.status(what), 0);
        }
    }
}
