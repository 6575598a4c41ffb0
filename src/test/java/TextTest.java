/** Promises 15 to 17: the text, and a sea read from it. */
public final class TextTest {
    private static final Check check = new Check();

    private static void due(String call, long got, long want) {
        check.due(call, got, want);
    }

    public static void main(String[] args) {
        type();
        clear();
        readsItems();
        faults();
        endsTooEarly();
        figures();
        refusedItems();
        nothingChanges();
        toldAnew();
        check.end();
    }

    private static void type() {
        FourWaters x = new FourWaters();
        due("type(-1)", x.type(-1), -2);
        due("type(128)", x.type(128), -2);
        due("type(0)", x.type(0), 1);
        due("type(127)", x.type(127), 2);
        for (int i = 3; i <= 150; i++) {
            due("type " + i, x.type(32), i);
        }
        due("type, one more", x.type(32), -4);
        due("type, a bad one more", x.type(200), -2);
        due("count(8)", x.count(8), 150);
        due("status(0)", x.status(0), 3);
        due("status(2)", x.status(2), 1);
    }

    private static void clear() {
        FourWaters x = new FourWaters();
        due("clear", x.clear(), 0);
        x.type(97);
        x.type(98);
        due("clear", x.clear(), 2);
        due("clear", x.clear(), 0);
        due("count(8)", x.count(8), 0);
        due("type", x.type(1), 1);
    }

    private static int read(String text) {
        return Check.read(new FourWaters(), text);
    }

    private static void readsItems() {
        due("one item", read("sea 3;"), 1);
        due("no blanks", read("sea3;dam0;town13;"), 3);
        due("blanks all over", read("  sea   03  ;  dam  0 ; "), 2);
        FourWaters x = new FourWaters();
        due("each item", Check.read(x, "sea 5;water 0 9;thick 3 4 0;skin 2 30;thing 5 40 3;lift 0 43 4;town 12;dam 3;"), 8);
        due("count(0)", x.count(0), 5);
        due("count(8)", x.count(8), 77);
        due("water(0, 1)", x.water(0, 1), 9);
        due("thick(3, 4, 3)", x.thick(3, 4, 3), 0);
        due("skin(2, 0)", x.skin(2, 0), 30);
        due("of(0, 0)", x.of(0, 0), 5);
        due("of(0, 1)", x.of(0, 1), 40);
        due("of(0, 2)", x.of(0, 2), 3);
        due("soonest(0, 43)", x.soonest(0, 43), 4);
        due("town(12)", x.town(12), -3);
        due("count(5)", x.count(5), 8);
    }

    private static void faults() {
        due("another word first", read("dam 0;"), -10);
        due("a number first", read(" 3;"), -11);
        due("; first", read(";"), -10);
        due("a word that is none", read("sea 3;damm 0;"), -16);
        due("a word's beginning", read("sea 3;da 0;"), -16);
        due("a word cut off by the end", read("se"), -10);
        due("sea again", read("sea 3; sea 3;"), -17);
        due("sea again, at last", read("sea 3;dam 0;sea 3;"), -22);
        due("a number too few", read("sea;"), -13);
        due("a number too many", read("sea 3 3;"), -16);
        due("a word for a number", read("sea sea;"), -14);
        due("; again", read("sea 3;;"), -16);
        due("a great letter", read("Sea 3;"), -10);
        due("a great letter within", read("sea 3;dAm 0;"), -16);
        due("a byte that begins none", read("sea 3; -"), -17);
        due("a byte that is no blank", read("sea\t3;"), -13);
        due("a byte beside a number", read("sea 3.;"), -15);
        due("a byte behind the last", read("sea 3;" + (char) 0), -16);
        due("no ; between", read("sea 3 dam 0;"), -16);
    }

    private static void endsTooEarly() {
        due("empty", read(""), -10);
        due("blanks", read("   "), -13);
        due("sea", read("sea"), -13);
        due("sea and blanks", read("sea  "), -15);
        due("sea 3", read("sea 3"), -15);
        due("an item more", read("sea 3;thick 0 1"), -25);
        due("a word more", read("sea 3;thick"), -21);
        due("a whole text", read("sea 3;"), 1);
        behindTheEnd();
        fullText();
    }

    /** What an earlier, longer text left behind the end of this one is not read. */
    private static void behindTheEnd() {
        FourWaters x = new FourWaters();
        Check.read(x, "sea 3;dam 0;dam 1;");
        due("; behind the end", Check.read(x, "sea 3"), -15);
        due("a figure behind the end", Check.read(x, "sea "), -14);
        due("letters behind the end", Check.read(x, "sea 3;da"), -16);
        due("an item behind the end", Check.read(x, "sea 3;"), 1);
    }

    private static void fullText() {
        String blanks = " ".repeat(150);
        due("150 blanks", read(blanks), -160);
        due("150 bytes, an item at last", read("sea 2;" + blanks.substring(0, 138) + "dam 0;"), 2);
        due("150 bytes, blanks at last", read("sea 2;" + blanks.substring(0, 144)), 1);
        due("150 bytes, letters at last", read("sea 2;" + blanks.substring(0, 141) + "dam"), -160);
        due("150 bytes, one figure at last", read("sea 2;" + blanks.substring(0, 139) + "dam 0"), -160);
        due("150 bytes, two figures at last", read("sea 2;" + blanks.substring(0, 138) + "dam 00"), -160);
        due("14 items", read("sea6;" + "thick0 0 1;".repeat(13)), 14);
    }

    /** A third figure begins a number that can not stand there. */
    private static void figures() {
        due("two figures", read("sea 06;"), 1);
        due("three figures", read("sea 006;"), -16);
        due("three figures, the end", read("sea 123"), -16);
        due("three figures, a number may follow", read("sea 3;thick 000 1;"), -24);
        due("four figures", read("sea 3;town 0012;"), -23);
    }

    private static void refusedItems() {
        due("sea 0", read("sea 0;"), -1000);
        due("sea 7", read("sea 7;"), -1000);
        due("sea 99, and more", read("sea 99;dam 0;"), -1000);
        due("water, not rising", read("sea 3;water 0 13;"), -1001);
        due("water, bad", read("sea 3;water 4 13;"), -1001);
        due("thick, bad cell", read("sea 3;thick 0 2 1;thick 0 3 1;"), -1002);
        due("skin, bad", read("sea 3;skin 3 1;"), -1001);
        due("thing, bad", read("sea 3;thing 6 1 1;"), -1001);
        due("things, seven", read("sea 3;thing 0 1 1;thing 0 1 1;thing 0 1 1;thing 0 1 1;thing 0 1 1;thing 0 1 1;thing 0 1 1;"), -1007);
        due("things, six", read("sea 3;thing 0 1 1;thing 0 1 1;thing 0 1 1;thing 0 1 1;thing 0 1 1;thing 0 1 1;"), 7);
        due("lift, alike", read("sea 3;lift 1 1 1;"), -1001);
        due("lifts, eleven", read("sea 1;lift 0 1 1;lift 0 1 1;lift 0 1 1;lift 0 1 1;lift 0 1 1;lift 0 1 1;"
                + "lift 0 1 1;lift 0 1 1;lift 0 1 1;lift 0 1 1;lift 0 1 1;"), -1011);
        due("town, there is one", read("sea 3;town 20;town 20;"), -1002);
        due("town, bad", read("sea 3;town 30;"), -1001);
        due("towns, seven", read("sea 3;town0;town1;town2;town3;town10;town11;town12;"), -1007);
        due("dam, it is so", read("sea 3;dam 1;dam 1;"), -1002);
        due("dam, bad", read("sea 3;dam 2;"), -1001);
        due("two are refused", read("sea 3;dam 0;dam 2;town 99;"), -1002);
        due("a fault behind a refused one", read("sea 0;dam"), -19);
    }

    private static FourWaters told() {
        FourWaters x = new FourWaters();
        x.skin(0, 99);
        x.thing(0, 22, 2);
        x.storm(0, 0, 1, 3);
        x.tide(0, 0, 1);
        x.drop(1, true);
        x.hours(3);
        x.hours(4);
        return x;
    }

    private static void nothingChanges() {
        for (String text : new String[] {"", "sea 3;dam 0;!", "sea 3;dam 0;dam 0;", "sea 9;", "sea 2;thing 0 1 1;town 77;"}) {
            FourWaters x = told();
            Check.type(x, text);
            long before = x.digest();
            due("a refused text", x.read() < 0 ? 1 : 0, 1);
            due("digest behind it", x.digest(), before);
            for (int what = 0; what < 3; what++) {
                due("status behind it", x.status(what), 0);
            }
            due("undo behind it", x.undo(), 1);
        }
    }

    private static void toldAnew() {
        FourWaters x = told();
        x.image(1);
        due("read", Check.read(x, "sea 2;town 1;"), 2);
        due("count(0)", x.count(0), 2);
        due("hour", x.count(1), 0);
        due("things", x.count(2), 0);
        due("towns", x.count(4), 1);
        due("drops", x.count(6), 0);
        due("undone", x.count(7), 0);
        due("undo", x.undo(), -3);
        due("skin", x.skin(0, 0), 0);
        due("tide", x.tide(0, 0, 0), 0);
        due("the fraction stays", x.part(0), 3);
        due("the fraction stays", x.part(1), 10);
        due("the text stays", x.count(8), 13);
        due("read again", x.read(), 2);
        due("the image stays", x.from(1), 1);
        due("hour of the image", x.count(1), 7);
    }
}
