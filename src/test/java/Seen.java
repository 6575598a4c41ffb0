import java.util.ArrayList;
import java.util.List;

/** All that can be seen of an object: the hours that may be undone, the images and the text's bytes, too. */
final class Seen {
    private Seen() {
    }

    /** The three rows of STATUS come first; the object is used up by being looked at. */
    static List<Long> of(FourWaters x) {
        List<Long> all = new ArrayList<>();
        for (int what = 0; what < 3; what++) {
            all.add((long) x.status(what));
        }
        sea(x, all);
        for (int i = 0; i < 2; i++) {
            all.add((long) x.from(i));
            sea(x, all);
        }
        all.add((long) x.read());
        sea(x, all);
        return all;
    }

    private static void sea(FourWaters x, List<Long> all) {
        all.add(x.digest());
        for (int i = 0; i <= 10; i++) {
            all.add((long) x.undo());
            all.add((long) x.count(1));
        }
    }
}
