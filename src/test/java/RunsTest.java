import java.lang.reflect.InvocationTargetException;
import java.lang.reflect.Method;
import java.util.Arrays;
import java.util.HashMap;
import java.util.Map;
import java.util.Random;
import java.util.TreeMap;

/** Long runs of calls (drawn from fixed seeds, so always the same ones) against the model of the document. */
public final class RunsTest {
    private static final int LIMIT = 512;
    private static final int[] STRANGE =
            {-1, Integer.MIN_VALUE, Integer.MAX_VALUE, 5, 6, 7, 9, 10, 16, 17, 32, 60, 64, 1024, 7776, 100000};

    private final Map<String, Method> ofProgram = new HashMap<>();
    private final Map<String, Method> ofModel = new HashMap<>();
    private final String[] names;
    private final Map<String, Integer> answers = new TreeMap<>();
    private Random random;
    private Object program;
    private Object model;
    private StringBuilder story;
    private int calls;
    private boolean isBad;

    private RunsTest() {
        for (Method m : Wavesale.class.getDeclaredMethods()) {
            if (java.lang.reflect.Modifier.isPublic(m.getModifiers())) {
                ofProgram.put(m.getName(), m);
            }
        }
        for (Method m : Model.class.getDeclaredMethods()) {
            if (java.lang.reflect.Modifier.isPublic(m.getModifiers())) {
                ofModel.put(m.getName(), m);
            }
        }
        names = ofModel.keySet().toArray(new String[0]);
        Arrays.sort(names);
    }

    public static void main(String[] args) {
        int first = args.length > 0 ? Integer.parseInt(args[0]) : 1;
        int many = args.length > 1 ? Integer.parseInt(args[1]) : 1500;
        RunsTest test = new RunsTest();
        for (int seed = first; seed < first + many; seed++) {
            test.run(seed);
            if (test.isBad) {
                System.out.println("seed " + seed + ":\n" + test.story);
                System.exit(1);
            }
        }
        if (args.length > 0) {
            System.out.println("RunsTest: " + test.answers);
        }
        System.out.println("RunsTest: " + many + " runs are right");
    }

    private void run(int seed) {
        random = new Random(seed);
        program = new Wavesale();
        model = new Model();
        story = new StringBuilder();
        calls = 0;
        isBad = false;
        prepare();
        call("digest");
        call("open");
        clock(random.nextInt(30) == 0);
        packages();
        call("settle", random.nextInt(10) == 0 ? 3 : random.nextInt(3));
        afterwards();
        count("stage " + ask("sale", 0));
    }

    private void prepare() {
        int regions = 1 + random.nextInt(5);
        int bidders = 1 + random.nextInt(6);
        int most = 5 + random.nextInt(3) * random.nextInt(200);
        for (int k = 0; k < regions; k++) {
            call("region", 1 + random.nextInt(5), 1 + random.nextInt(9), 1 + random.nextInt(most));
        }
        for (int k = random.nextInt(2 * regions); k > 0; k--) {
            call("border", random.nextInt(regions), random.nextInt(regions));
        }
        int groups = 1 + random.nextInt(4);
        for (int k = 0; k < bidders; k++) {
            int budget = random.nextInt(8) == 0 ? random.nextInt(100000) : random.nextInt(20 * most);
            call("bidder", budget, 1 + random.nextInt(200), random.nextInt(31), random.nextInt(groups));
        }
        if (random.nextInt(3) != 0) {
            call("rules", 1 + random.nextInt(5), random.nextInt(2));
        }
        if (random.nextInt(2) == 0) {
            call("step", 1 + random.nextInt(20));
        }
        for (int k = random.nextInt(11) * random.nextInt(2); k > 0; k--) {
            call("station", random.nextInt(regions), 1 + random.nextInt(random.nextBoolean() ? 5 : 9999));
        }
        strange(random.nextInt(6));
    }

    private void clock(boolean isLong) {
        int regions = ask("sale", 2);
        int bidders = ask("sale", 3);
        int wishing = isLong ? 2 : 1 + random.nextInt(8);
        for (int round = 0; ask("sale", 0) == 1 && calls < LIMIT / 2; round++) {
            for (int k = random.nextInt(wishing + bidders); k > 0; k--) {
                int bidder = random.nextInt(bidders);
                int region = random.nextInt(regions);
                int most = call("most", bidder, region);
                boolean isLess = !isLong && random.nextInt(12) < round;
                int many = isLess ? random.nextInt(2) : most - random.nextInt(2) + random.nextInt(7) / 6;
                call("wish", bidder, region, Math.max(0, many));
                if (random.nextInt(4) == 0) {
                    call("contradicts", bidder);
                }
            }
            if (random.nextInt(3) == 0) {
                call("waive", random.nextInt(bidders));
            }
            if (random.nextInt(6) == 0) {
                call("step", 1 + random.nextInt(20));
            }
            strange(random.nextInt(3));
            call("close", isLong ? 9 : 1 + random.nextInt(2));
            if (random.nextInt(3) == 0) {
                call("anew", 1 + random.nextInt(ask("sale", 15)), random.nextInt(bidders),
                        random.nextInt(regions), random.nextInt(6));
            }
            if (random.nextInt(4) == 0) {
                call("digest");
            }
        }
    }

    private void packages() {
        if (ask("sale", 0) != 2) {
            return;
        }
        int regions = ask("sale", 2);
        int bidders = ask("sale", 3);
        // Now and then so many that the search has much to choose from.
        boolean isFull = random.nextInt(40) == 0;
        for (int k = isFull ? 12 * bidders : random.nextInt(4 * bidders); k > 0; k--) {
            int bidder = random.nextInt(bidders);
            int code = 0;
            int least = 0;
            for (int region = regions - 1; region >= 0; region--) {
                int most = Math.min(ask("ofRegion", region, 0), isFull ? ask("sale", 5) : 5);
                int many = random.nextInt(3) == 0 ? random.nextInt(most + 1) : 0;
                code = code * 6 + many;
                least += many * ask("ofRegion", region, 2);
            }
            int amount = least + random.nextInt(5) * random.nextInt(1 + least) / 4 + random.nextInt(3) - 1;
            call("offer", bidder, code, random.nextInt(12) == 0 ? ask("ofBidder", bidder, 0) + 1 : amount);
            strange(isFull ? 0 : random.nextInt(2));
            if (random.nextInt(5) == 0) {
                payments();
            }
        }
        payments();
        call("digest");
    }

    private void payments() {
        int bidders = ask("sale", 3);
        for (int bidder = 0; bidder < bidders; bidder++) {
            call("wins", bidder);
            call("pays", bidder, random.nextInt(2));
            for (int way = 0; way < 3; way++) {
                call("wouldPay", bidder, way);
            }
        }
        for (int k = 0; k < 4; k++) {
            int set = random.nextInt(1 << bidders);
            call("worth", set);
            call("objects", set, random.nextInt(3));
        }
    }

    private void afterwards() {
        for (int k = 0; k < 5 && calls < LIMIT - 60; k++) {
            for (int region = 0; region < ask("sale", 2); region++) {
                call("chart", region);
            }
            call("digest");
            strange(random.nextInt(6));
            call("fail", random.nextInt(ask("sale", 3)));
        }
        strange(20);
        call("digest");
    }

    /** Any calls at all, and now and then with arguments from far off. */
    private void strange(int many) {
        for (int k = 0; k < many; k++) {
            String name = names[random.nextInt(names.length)];
            boolean isMove = name.equals("open") || name.equals("settle") || name.equals("fail");
            if (!isMove || random.nextInt(20) == 0) {
                int[] args = new int[ofModel.get(name).getParameterCount()];
                for (int n = 0; n < args.length; n++) {
                    int near = random.nextInt(10);
                    args[n] = near > 0 ? random.nextInt(near) : STRANGE[random.nextInt(STRANGE.length)];
                }
                call(name, args);
            }
        }
    }

    private int call(String name, int... args) {
        if (isBad || calls >= LIMIT) {
            return 0;
        }
        calls++;
        Object got = answer(ofProgram.get(name), program, args);
        Object due = answer(ofModel.get(name), model, args);
        story.append(name).append(Arrays.toString(args)).append(" -> ").append(got).append('\n');
        count(name + (due instanceof Class ? " throws" : " answers"));
        if (!due.equals(got)) {
            story.append("due is ").append(due).append('\n');
            isBad = true;
        }
        return got instanceof Integer ? (Integer) got : 0;
    }

    /** What the run needs for its way, asked of the model alone: it is no call of the run. */
    private int ask(String name, int... args) {
        Object due = answer(ofModel.get(name), model, args);
        return due instanceof Integer ? (Integer) due : 0;
    }

    private void count(String what) {
        answers.merge(what, 1, Integer::sum);
    }

    private static Object answer(Method method, Object target, int[] args) {
        Object[] given = new Object[args.length];
        for (int k = 0; k < args.length; k++) {
            boolean isFlag = method.getParameterTypes()[k] == boolean.class;
            given[k] = isFlag ? (Object) ((args[k] & 1) == 1) : (Object) args[k];
        }
        try {
            return method.invoke(target, given);
        } catch (InvocationTargetException e) {
            return e.getCause().getClass();
        } catch (IllegalAccessException e) {
            return e;
        }
    }
}
