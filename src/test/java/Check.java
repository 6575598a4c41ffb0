import java.util.List;
import java.util.function.Supplier;

/** What the tests share: a due answer, a refused call, a typed text, and the end of a test. */
final class Check {
    static final int BAD_ROW = 0, NO_ROW = 1, FULL_ROW = 2;
    private int wrong = 0;
    private int made = 0;

    void due(String call, long got, long want) {
        made++;
        if (got != want) {
            wrong++;
            System.out.println(call + " answered " + got + ", due is " + want);
        }
    }

    /** A refused call: its answer, one more in its row of STATUS, and nothing else is other than in an object like it. */
    void refused(Supplier<FourWaters> told, long answer, int row, String name, int... a) {
        FourWaters x = told.get();
        due(Calls.told(name, a), Calls.call(x, name, a), answer);
        List<Long> behind = Seen.of(x);
        List<Long> without = Seen.of(told.get());
        without.set(row, without.get(row) + 1);
        due(Calls.told(name, a) + ", one more in STATUS and nothing else (1 if so),", behind.equals(without) ? 1 : 0, 1);
    }

    /** A call that only asks: whatever it answers, all is as in an object like it. */
    void changesNothing(Supplier<FourWaters> told, String name, int... a) {
        FourWaters x = told.get();
        Calls.call(x, name, a);
        due(Calls.told(name, a) + " changed nothing (1 if so), and", Seen.of(x).equals(Seen.of(told.get())) ? 1 : 0, 1);
    }

    /** A call whose numbers are all as told: it may be NO or FULL, but never BAD. */
    void asTold(Supplier<FourWaters> told, String name, int... a) {
        FourWaters x = told.get();
        int before = x.status(BAD_ROW);
        Calls.call(x, name, a);
        due(Calls.told(name, a) + " is as told; status(0) behind it", x.status(BAD_ROW), before);
    }

    /** Clears the text and types another one. */
    static void type(FourWaters x, String text) {
        x.clear();
        for (int i = 0; i < text.length(); i++) {
            x.type(text.charAt(i));
        }
    }

    static int read(FourWaters x, String text) {
        type(x, text);
        return x.read();
    }

    void end() {
        System.out.println(made + " answers looked at, " + wrong + " not as due");
        if (wrong != 0 || made == 0) {
            System.exit(1);
        }
    }
}
