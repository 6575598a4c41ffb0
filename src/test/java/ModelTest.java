import java.lang.reflect.Method;
import java.util.ArrayList;
import java.util.List;
import java.util.Random;

/** Drawn runs of 512 calls, each answer beside the model's; the draws are the same each time. */
public final class ModelTest {
    private static final int RUNS = 400, CALLS = 512;
    private static final String[] WORDS = {"water", "thick", "skin", "thing", "lift", "town", "dam", "sea", "tow"};
    private static final List<Method> METHODS = Calls.all();
    private static Random draw;
    private static final List<String> queue = new ArrayList<>();

    public static void main(String[] args) {
        int wrong = 0;
        int[] good = new int[METHODS.size()];
        for (int run = 0; run < RUNS && wrong == 0; run++) {
            wrong += run(run, good);
        }
        for (int i = 0; i < good.length; i++) {
            if (good[i] == 0 && wrong == 0) {
                wrong++;
                System.out.println(METHODS.get(i).getName() + " was never answered but by a refusal");
            }
        }
        System.out.println(wrong == 0 ? RUNS + " runs are as the model's" : "not as the model");
        if (wrong != 0) {
            System.exit(1);
        }
    }

    private static int run(int run, int[] good) {
        draw = new Random(run);
        queue.clear();
        FourWaters x = new FourWaters();
        Model model = new Model();
        List<String> told = new ArrayList<>();
        for (int i = 0; i < CALLS; i++) {
            int which = drawMethod();
            Method m = METHODS.get(which);
            int[] a = drawArguments(m, model);
            if (m.getName().equals("type") && !queue.isEmpty()) {
                a[0] = queue.remove(0).charAt(0);
            }
            long refused = refusals(model);
            long got = Calls.call(x, m, a);
            long due = model.call(m.getName(), a);
            told.add(Calls.told(m.getName(), a) + " = " + got);
            boolean isSame = got == due && x.digest() == model.call("digest");
            for (int what = 0; what < 3; what++) {
                isSame &= x.status(what) == model.call("status", what);
            }
            if (!isSame) {
                told.forEach(System.out::println);
                System.out.println("run " + run + ": due is " + due);
                return 1;
            }
            good[which] += refusals(model) == refused && got > -10 ? 1 : 0;
        }
        return 0;
    }

    private static long refusals(Model model) {
        return model.call("status", 0) + model.call("status", 1) + model.call("status", 2);
    }

    /** While a text is being typed, mostly that; then it is read. */
    private static int drawMethod() {
        String name = null;
        if (!queue.isEmpty() && draw.nextInt(20) != 0) {
            name = queue.get(0).equals("read") || queue.get(0).equals("clear") ? queue.remove(0) : "type";
        } else if (queue.isEmpty() && draw.nextInt(100) == 0) {
            queueText();
        }
        if (name == null) {
            queue.removeIf(q -> q.length() > 1 && draw.nextInt(50) == 0);
            int which = draw.nextInt(METHODS.size());
            boolean isRare = METHODS.get(which).getName().equals("sea") || METHODS.get(which).getName().equals("clean");
            return isRare && draw.nextInt(8) != 0 ? drawMethod() : which;
        }
        for (int i = 0; i < METHODS.size(); i++) {
            if (METHODS.get(i).getName().equals(name)) {
                return i;
            }
        }
        throw new IllegalStateException(name);
    }

    private static void queueText() {
        StringBuilder s = new StringBuilder("sea " + (draw.nextInt(12) == 0 ? 7 : 1 + draw.nextInt(6)) + ";");
        int items = draw.nextInt(9);
        for (int i = 0; i < items; i++) {
            int w = draw.nextInt(draw.nextInt(6) == 0 ? WORDS.length : 7);
            s.append(WORDS[w]);
            int numbers = w == 1 || w == 3 || w == 4 ? 3 : w == 0 || w == 2 ? 2 : 1;
            for (int k = 0; k < numbers; k++) {
                s.append(' ').append(number(w, k));
            }
            s.append(draw.nextInt(5) == 0 ? " ; " : ";");
        }
        if (draw.nextInt(3) == 0) {
            int at = draw.nextInt(s.length());
            s.setCharAt(at, "0 9;a-sAz".charAt(draw.nextInt(9)));
        }
        if (draw.nextInt(4) == 0) {
            s.setLength(draw.nextInt(s.length() + 1));
        }
        queue.add("clear");
        for (int i = 0; i < s.length(); i++) {
            queue.add(s.substring(i, i + 1));
        }
        queue.add("read");
    }

    private static int number(int word, int k) {
        boolean isPlace = word == 4 && k < 2 || word == 5;
        if (isPlace) {
            return 10 * draw.nextInt(4) + draw.nextInt(4);
        }
        boolean isGreat = word == 0 && k == 1 || word == 2 && k == 1 || word == 3 && k == 1;
        return isGreat ? draw.nextInt(60) : draw.nextInt(4);
    }

    private static int[] drawArguments(Method m, Model model) {
        int[] a = new int[m.getParameterCount()];
        int[] most = mostOf(m.getName(), (int) model.call("count", 0), (int) model.call("count", 2));
        for (int i = 0; i < a.length; i++) {
            int odd = m.getParameterTypes()[i] == boolean.class ? 99 : draw.nextInt(60);
            if (odd == 0) {
                a[i] = draw.nextInt();
            } else if (odd == 1) {
                a[i] = new int[] {Integer.MAX_VALUE, Integer.MIN_VALUE, -1, -2, -3, 100}[draw.nextInt(6)];
            } else if (odd == 2) {
                a[i] = most[2 * i + 1] + 1;
            } else if (odd == 3) {
                a[i] = most[2 * i] - 1;
            } else {
                a[i] = most[2 * i] + draw.nextInt(Math.max(1, most[2 * i + 1] - most[2 * i] + 1));
            }
        }
        boolean isPlace = m.getName().equals("lift") || m.getName().equals("soonest") || m.getName().equals("town");
        if (isPlace && draw.nextInt(10) != 0) {
            for (int i = 0; i < Math.min(2, a.length); i++) {
                a[i] = 10 * draw.nextInt((int) model.call("count", 0)) + draw.nextInt(4);
            }
        }
        return a;
    }

    /** For each argument the least and the most. */
    private static int[] mostOf(String name, int cells, int things) {
        int c = cells - 1;
        int t = Math.max(0, things - 1);
        switch (name) {
            case "sea": return new int[] {1, 6};
            case "water": return new int[] {0, 3, 1, 40};
            case "thick": return new int[] {0, 3, 0, c, 0, draw.nextBoolean() ? 9 : 2};
            case "skin": return new int[] {0, 2, 0, 99};
            case "tide": return new int[] {0, 3, 0, 5, -2, 2};
            case "current": return new int[] {0, 3, -1, 1};
            case "thing": return new int[] {0, 5, 1, draw.nextBoolean() ? 99 : 40, 1, draw.nextBoolean() ? 9 : 3};
            case "ballast": return new int[] {0, t, 0, 99};
            case "lift": return new int[] {0, 53, 0, 53, 1, 9};
            case "town": return new int[] {0, 53};
            case "dam": return new int[] {0, c - 1, 0, 1};
            case "drop": return new int[] {0, 3, 0, 1};
            case "clean": return new int[] {0, 3};
            case "type": return new int[] {0, 127};
            case "hours": return new int[] {1, draw.nextInt(9) == 0 ? 99 : 6};
            case "of": return new int[] {0, t, 0, 2};
            case "deep": return new int[] {0, 3, 0, c};
            case "rests": return new int[] {0, t, 0, c, 0, 2};
            case "sink": case "bestHour": return new int[] {0, t, 0, c, 0, 4};
            case "holds": case "wentIn": return new int[] {0, t, 0, c};
            case "soonest": return new int[] {0, 53, 0, 53};
            case "net": return new int[] {0, 3};
            case "spill": return new int[] {0, c, 0, 999, 0, 40, 0, c};
            case "keepOut": return new int[] {0, c, 0, draw.nextBoolean() ? 999 : 99, 0, draw.nextBoolean() ? 40 : 5, 0, (1 << cells) - 1};
            case "shaken": return new int[] {0, 99, 0, c, 0, 1};
            case "lies": return new int[] {1, 9, 0, c, 0, 4, 0, draw.nextBoolean() ? 999 : 24, 0, 2};
            case "nets": return new int[] {0, c, 0, draw.nextBoolean() ? 0 : (1 << things) - 1, 0, 1};
            case "known": return new int[] {1, 9, 0, 1};
            case "storm": return new int[] {0, t, 0, c, 0, 5, 0, 10};
            case "tap": case "part": case "image": case "from": return new int[] {0, 1};
            case "status": return new int[] {0, 2};
            case "count": return new int[] {0, 8};
            default: return new int[] {0, 9};
        }
    }
}
