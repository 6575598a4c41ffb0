/** The third part of the document's 'Terms', a sentence at a time: hours undone, THE TEXT, IMAGES and THE FRACTION. */
public final class TextTermsTest {
    private static final int BLANK = ' ';
    private static final Check check = new Check();

    private static void due(String call, long got, long want) {
        check.due(call, got, want);
    }

    public static void main(String[] args) {
        undoTen();
        undoTheHourAlone();
        items();
        numbersOfItems();
        eachByteForAnItem();
        eachByteInAWord();
        eachByteBehindAWord();
        eachByteForANumber();
        eachByteBehindOneFigure();
        eachByteBehindTwoFigures();
        wordsThatAreNone();
        seaFirstAndOnce();
        thirdFigures();
        endsTooEarly();
        fullTexts();
        edgesOfItems();
        firstRefusedItem();
        faultAheadOfRefusedItem();
        readAgain();
        toldByTheseAlone();
        imagesOfUndoneHours();
        imagesOfEachOther();
        fractionLowest();
        check.end();
    }

    private static int read(String text) {
        return Check.read(new FourWaters(), text);
    }

    private static int fault(int place) {
        return -10 - place;
    }

    private static int refused(int item) {
        return -1000 - item;
    }

    /** "UNDO: the HOUR as ahead of the last going on (10 at most)". */
    private static void undoTen() {
        for (int many = 0; many <= 12; many++) {
            FourWaters x = new FourWaters();
            for (int i = 1; i <= many; i++) {
                x.hours(i);
            }
            int most = Math.min(10, many);
            due("may be undone of " + many, x.count(7), most);
            for (int i = 0; i < most; i++) {
                due("undo", x.undo(), 1);
                int k = many - 1 - i;
                due("the hour ahead of the last of " + (k + 1), x.count(1), k * (k + 1) / 2);
                due("may be undone", x.count(7), most - 1 - i);
            }
            due("none may be", x.undo(), -3);
        }
        undoAndGoOn();
    }

    /** What has been undone leaves its place; a refused going on takes none. */
    private static void undoAndGoOn() {
        FourWaters x = new FourWaters();
        x.hours(99);
        x.hours(1);
        x.undo();
        due("hours", x.hours(5), 104);
        due("may be undone", x.count(7), 2);
        x.hours(0);
        x.hours(100);
        due("may be undone", x.count(7), 2);
        x.undo();
        due("the hour", x.count(1), 99);
        x.undo();
        due("the hour", x.count(1), 0);
        for (int i = 0; i < 10; i++) {
            x.hours(99);
        }
        due("above 999", x.hours(99), -3);
        due("may be undone", x.count(7), 10);
        x.undo();
        due("the hour", x.count(1), 891);
    }

    private static void undoTheHourAlone() {
        FourWaters x = new FourWaters();
        x.hours(7);
        x.thick(0, 0, 9);
        x.thing(0, 1, 1);
        x.drop(0, true);
        x.tide(0, 0, 1);
        due("undo", x.undo(), 1);
        due("deep in hour 0", x.deep(0, 0), 10);
        due("things", x.count(2), 1);
        due("drops", x.count(6), 1);
    }

    private static final String[] ITEMS = {"water 0 9", "thick 0 0 9", "skin 2 99", "thing 5 99 9", "lift 0 13 9", "town 13", "dam 0"};

    /** "ITEMS, each ended by ;": each of them alone behind sea, in any order, and more than once. */
    private static void items() {
        for (String item : ITEMS) {
            due(item, read("sea 2;" + item + ";"), 2);
            due(item + ", no ;", read("sea 2;" + item), fault(6 + item.length()));
            due(item + ", two ;", read("sea 2;" + item + ";;"), fault(6 + item.length() + 1));
        }
        for (int i = 0; i < ITEMS.length; i++) {
            StringBuilder text = new StringBuilder("sea 2;");
            for (int k = 0; k < ITEMS.length; k++) {
                text.append(ITEMS[(i + k) % ITEMS.length]).append(';');
            }
            due("all of them", read(text.toString()), 8);
        }
        FourWaters x = new FourWaters();
        due("the last of like ones is as told", Check.read(x, "sea 2;skin 0 5;skin 0 6;thick 1 1 4;thick 1 1 0;"), 5);
        due("skin", x.skin(0, 0), 6);
        due("thick", x.thick(1, 1, 3), 0);
    }

    /** A number too few: the ; can not stand there; one too many: that number can not. */
    private static void numbersOfItems() {
        due("sea", read("sea ;"), fault(4));
        due("sea 2 2", read("sea 2 2;"), fault(6));
        for (String item : ITEMS) {
            String text = "sea 2;" + item;
            int last = text.lastIndexOf(' ');
            due(item + " less a number", read(text.substring(0, last) + ";"), fault(last));
            due(item + " and a number", read(text + " 0;"), fault(text.length() + 1));
            due(item + " and a word", read(text + " dam 0;"), fault(text.length() + 1));
            String word = text.substring(0, text.indexOf(' ', 6));
            due(item + ", the word alone", read(word + ";"), fault(word.length()));
            due(item + ", a word for a number", read(word + " dam;"), fault(word.length() + 1));
        }
    }

    private static boolean isLetter(int b) {
        return b >= 'a' && b <= 'z';
    }

    private static boolean isFigure(int b) {
        return b >= '0' && b <= '9';
    }

    private static String told(String text) {
        StringBuilder s = new StringBuilder("read of ");
        for (char c : text.toCharArray()) {
            s.append(c < 32 || c > 126 ? "#" + (int) c : String.valueOf(c));
        }
        return s.toString();
    }

    private static void dueRead(String text, int want) {
        due(told(text), read(text), want);
    }

    /** "a byte that begins none, too": where an item begins, only letters may; one letter is no word. */
    private static void eachByteForAnItem() {
        for (int b = 0; b < 128; b++) {
            dueRead("sea 3;" + (char) b, b == BLANK ? 1 : fault(6));
            dueRead((char) b + "sea 3;", b == BLANK ? 1 : fault(0));
            dueRead("sea 3;" + (char) b + "dam 0;", b == BLANK ? 2 : fault(6));
        }
    }

    private static void eachByteInAWord() {
        for (int b = 0; b < 128; b++) {
            dueRead("se" + (char) b + " 3;", b == 'a' ? 1 : fault(0));
            dueRead((char) b + "ea 3;", b == 's' ? 1 : b == BLANK ? fault(1) : fault(0));
            dueRead("sea 3;da" + (char) b + " 0;", b == 'm' ? 2 : fault(6));
        }
    }

    private static void eachByteBehindAWord() {
        for (int b = 0; b < 128; b++) {
            // 03 to 93 are one number, and only 3 cells may be.
            int want = b == BLANK || b == '0' ? 1 : isFigure(b) ? refused(0) : isLetter(b) ? fault(0) : fault(3);
            dueRead("sea" + (char) b + "3;", want);
        }
    }

    private static void eachByteForANumber() {
        for (int b = 0; b < 128; b++) {
            boolean isSea = b >= '1' && b <= '6';
            dueRead("sea " + (char) b + ";", isSea ? 1 : isFigure(b) ? refused(0) : b == BLANK ? fault(5) : fault(4));
        }
    }

    private static void eachByteBehindOneFigure() {
        for (int b = 0; b < 128; b++) {
            dueRead("sea 3" + (char) b + ";", b == BLANK ? 1 : b == ';' ? fault(6) : isFigure(b) ? refused(0) : fault(5));
            dueRead("sea 3" + (char) b, b == BLANK ? fault(6) : b == ';' ? 1 : isFigure(b) ? fault(6) : fault(5));
        }
    }

    private static void eachByteBehindTwoFigures() {
        for (int b = 0; b < 128; b++) {
            dueRead("sea 03" + (char) b + ";", b == BLANK ? 1 : b == ';' ? fault(7) : fault(6));
        }
    }

    /** "a word that is none": one letter less, more or other, ahead and behind. */
    private static void wordsThatAreNone() {
        String[] words = {"water", "thick", "skin", "thing", "lift", "town", "dam"};
        for (String word : words) {
            String numbers = " 0 0 0;";
            int end = word.length() - 1;
            for (String none : new String[] {word.substring(1), word.substring(0, end), word + "s", "a" + word,
                "z" + word.substring(1), word.substring(0, end) + "z", word + word}) {
                dueRead("sea 3;" + none + numbers, fault(6));
                dueRead("sea 3; " + none, fault(7));
            }
        }
        dueRead("seas 3;", fault(0));
        dueRead("tea 3;", fault(0));
        dueRead("aea 3;", fault(0));
        dueRead("seasea 3;", fault(0));
        dueRead("sea 3;tide 0 0 1;", fault(6));
        dueRead("sea 3;current 0 1;", fault(6));
        dueRead("sea 3;drop 0;", fault(6));
    }

    /** "sea n (once, first of all)": "sea again, anything ahead of it". */
    private static void seaFirstAndOnce() {
        for (String item : ITEMS) {
            dueRead(item + ";sea 2;", fault(0));
            dueRead(" " + item + ";", fault(1));
            dueRead("sea 2;" + item + ";sea 2;", fault(7 + item.length()));
            dueRead("sea 2;sea 2;" + item + ";", fault(6));
        }
        dueRead(";sea 2;", fault(0));
        dueRead("2 sea 2;", fault(0));
        dueRead("sea sea 2;", fault(4));
        dueRead("sea 2 sea 2;", fault(6));
    }

    /** "figures (1 or 2 are one number)", "a third figure's number": its place is the third figure's. */
    private static void thirdFigures() {
        dueRead("sea 6;", 1);
        dueRead("sea 06;", 1);
        dueRead("sea 006;", fault(6));
        dueRead("sea 00006;", fault(6));
        dueRead("sea 100;", fault(6));
        dueRead("sea006;", fault(5));
        dueRead("sea 3;thick 01 02 09;", 2);
        dueRead("sea 3;thick 001 2 9;", fault(14));
        dueRead("sea 3;thick 1 002 9;", fault(16));
        dueRead("sea 3;thick 1 2 009;", fault(18));
        dueRead("sea 3;thing 0 100 1;", fault(16));
        dueRead("sea 3;town 012;", fault(13));
    }

    /** "the TEXT's length, if it ends too early (an empty one, too)": every beginning of a text. */
    private static void endsTooEarly() {
        String text = "sea 3;thick 0 2 9;dam 1;";
        int[] due = {fault(0), fault(0), fault(0), fault(3), fault(4), fault(5), 1,
            fault(6), fault(6), fault(6), fault(6), fault(11), fault(12), fault(13), fault(14), fault(15), fault(16), fault(17), 2,
            fault(18), fault(18), fault(21), fault(22), fault(23), 3};
        FourWaters like = new FourWaters();
        Check.type(like, text);
        due("its length", like.count(8), due.length - 1);
        for (int length = 0; length < due.length; length++) {
            dueRead(text.substring(0, length), due[length]);
        }
        dueRead(" ", fault(1));
        dueRead("sea 3; ", 1);
        dueRead("sea 3;dam ", fault(10));
        dueRead("sea 3;dam 1 ", fault(12));
    }

    /** "a TEXT (150 bytes at most)": one of 150 is read to its end. */
    private static void fullTexts() {
        String many = "sea 6;" + "skin 0 01;".repeat(14);
        dueRead(many + "dam;", fault(149));
        dueRead(many + "dam ", fault(150));
        dueRead(many + "dam", fault(149));
        dueRead(many + "    ", 15);
        dueRead("sea 6;" + "skin 0 1;".repeat(16), 17);
        dueRead("sea 6;" + "skin 0 1;".repeat(15) + "skin 3 1;", refused(16));
        dueRead("sea6;" + "dam0;".repeat(29), refused(2));
        FourWaters x = new FourWaters();
        Check.type(x, "sea 6;" + "skin 0 1;".repeat(16));
        due("a byte too many", x.type(';'), -4);
        due("is not there", x.read(), 17);
    }

    /** An item is refused as its call is: the last number that is as told, and the first that is not. */
    private static void edgesOfItems() {
        String[] taken = {"water 0 1", "water 3 99", "water 1 11", "water 1 15", "thick 3 5 9", "thick 0 0 0", "skin 2 99", "skin 0 0",
            "thing 5 99 9", "thing 0 1 1", "lift 0 53 9", "lift 53 0 1", "town 53", "town 0", "dam 4", "dam 0"};
        for (String item : taken) {
            dueRead("sea 6;" + item + ";", 2);
        }
        String[] not = {"water 0 0", "water 4 99", "water 1 10", "water 1 16", "thick 4 0 0", "thick 0 6 0", "thick 0 0 10",
            "skin 3 0", "thing 6 1 1", "thing 0 0 1", "thing 0 1 0", "thing 0 1 10", "lift 0 54 1", "lift 60 0 1", "lift 0 1 0",
            "lift 0 1 10", "lift 9 9 1", "lift 3 3 1", "town 54", "town 4", "town 60", "town 99", "dam 5", "dam 99"};
        for (String item : not) {
            dueRead("sea 6;" + item + ";", refused(1));
        }
        for (int n = 0; n <= 99; n++) {
            dueRead("sea " + n + ";", n >= 1 && n <= 6 ? 1 : refused(0));
        }
        dueRead("sea 1;dam 0;", refused(1));
        dueRead("sea 1;thick 0 1 1;", refused(1));
        dueRead("sea 1;town 10;", refused(1));
    }

    /** "the first ITEM (0 on) that is refused": NO and FULL, too. */
    private static void firstRefusedItem() {
        dueRead("sea 2;dam 0;dam 0;dam 0;", refused(2));
        dueRead("sea 2;town 0;town 1;town 0;", refused(3));
        dueRead("sea 2;water 2 14;water 1 14;", refused(2));
        dueRead("sea 2;" + "thing 0 1 1;".repeat(6), 7);
        dueRead("sea 2;" + "thing 0 1 1;".repeat(7), refused(7));
        dueRead("sea 2;" + "lift 0 1 1;".repeat(10), 11);
        dueRead("sea 2;" + "lift 0 1 1;".repeat(11), refused(11));
        dueRead("sea 2;town 0;town 1;town 2;town 3;town 10;town 11;", 7);
        dueRead("sea 2;town 0;town 1;town 2;town 3;town 10;town 11;town 0;", refused(7));
        dueRead("sea 2;town 0;town 1;town 2;town 3;town 10;town 11;town 12;", refused(7));
    }

    /** "A SEA without a FAULT is told": one behind a refused item is told first. */
    private static void faultAheadOfRefusedItem() {
        dueRead("sea 9;x", fault(6));
        dueRead("sea 9;dam", fault(9));
        dueRead("sea 2;dam 9;dam 9", fault(17));
        dueRead("sea 2;dam 9;sea 2;", fault(12));
    }

    /** Each reading begins anew: a fault or a refused item of an earlier one has no part in it. */
    private static void readAgain() {
        FourWaters x = new FourWaters();
        due("refused", Check.read(x, "sea 2;dam 0;dam 1;"), refused(2));
        due("refused again", x.read(), refused(2));
        due("a good one", Check.read(x, "sea 3;dam 1;"), 2);
        due("dams", x.count(5), 2);
        due("the same again", x.read(), 2);
        due("dams", x.count(5), 2);
        due("a fault", Check.read(x, "sea 5;dam 1"), fault(11));
        due("cells", x.count(0), 3);
        x.type(';');
        due("its end typed", x.read(), 2);
        due("cells", x.count(0), 5);
        due("bytes", x.count(8), 12);
        due("clear", x.clear(), 12);
        due("empty", x.read(), fault(0));
        due("cells", x.count(0), 5);
    }

    /** "told anew by these alone": all else is as at first; "nothing may be undone behind it". */
    private static void toldByTheseAlone() {
        FourWaters first = new FourWaters();
        Check.type(first, "sea 4;");
        FourWaters x = Told.some(6);
        due("read", Check.read(x, "sea 4;"), 1);
        due("the fraction stays", x.part(0), 51);
        due("the fraction stays", x.part(1), 100);
        // The fraction comes last in a digest, and is 0 by 1 at first.
        due("digest", x.digest(), first.digest() - 1 + 31 * 51 + 100);
        due("undo", x.undo(), -3);
        due("read with a thing", Check.read(x, "sea 4;thing 1 9 9;"), 2);
        due("its ballast", x.ballast(0, 1), 0);
        due("from(0)", x.from(0), 1);
        due("hour of image 0", x.count(1), 7);
    }

    private static void dueUndone(FourWaters x, int... hours) {
        due("may be undone", x.count(7), hours.length);
        for (int hour : hours) {
            due("undo", x.undo(), 1);
            due("the hour", x.count(1), hour);
        }
        due("none may be", x.undo(), -3);
    }

    /** "what may be undone they keep; it goes on from one". */
    private static void imagesOfUndoneHours() {
        FourWaters x = new FourWaters();
        x.hours(3);
        x.hours(4);
        x.image(0);
        x.sea(2);
        x.hours(9);
        x.hours(8);
        x.hours(7);
        x.image(1);
        x.sea(1);
        for (int i = 0; i < 11; i++) {
            x.hours(50);
        }
        x.from(0);
        dueUndone(x, 3, 0);
        x.from(1);
        dueUndone(x, 17, 9, 0);
        x.from(0);
        x.hours(1);
        dueUndone(x, 7, 3, 0);
        x.from(0);
        dueUndone(x, 3, 0);
        x = new FourWaters();
        for (int i = 1; i <= 11; i++) {
            x.hours(i);
        }
        x.image(0);
        x.sea(3);
        x.from(0);
        x.hours(1);
        dueUndone(x, 66, 55, 45, 36, 28, 21, 15, 10, 6, 3);
    }

    /** "IMAGES 0, 1 keep all but them": going on from one leaves both, and THE TEXT. */
    private static void imagesOfEachOther() {
        FourWaters x = new FourWaters();
        x.sea(2);
        x.image(0);
        x.sea(3);
        x.image(1);
        Check.type(x, "sea 5;");
        for (int round = 0; round < 2; round++) {
            due("from(0)", x.from(0), 1);
            due("cells", x.count(0), 2);
            due("from(1)", x.from(1), 1);
            due("cells", x.count(0), 3);
        }
        due("the text", x.read(), 1);
        due("cells", x.count(0), 5);
        due("image(1)", x.image(1), 1);
        due("from(0)", x.from(0), 1);
        due("from(1)", x.from(1), 1);
        due("cells", x.count(0), 5);
    }

    /** "THE FRACTION is 0 by 1 at first; lowest terms, below above 0". */
    private static void fractionLowest() {
        FourWaters x = new FourWaters();
        x.thing(0, 99, 1);
        x.skin(0, 99);
        for (int h = 0; h <= 5; h++) {
            for (int c = 0; c <= 10; c++) {
                x.storm(0, 0, h, c);
                long above = x.part(0);
                long below = x.part(1);
                due("in lowest terms", shared(above, below), 1);
                due("below above 0", below > 0 ? 1 : 0, 1);
                due("no more than 1", above >= 0 && above <= below ? 1 : 0, 1);
            }
        }
    }

    private static long shared(long a, long b) {
        return b == 0 ? a : shared(b, a % b);
    }
}
