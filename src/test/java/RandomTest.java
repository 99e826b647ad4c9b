import java.util.ArrayList;
import java.util.List;
import java.util.Random;

/** Runs of random calls, with seeds that are written out, compared with the Model call by call. */
public final class RandomTest {
    private static final int RUNS = 2000;
    private static final int CALLS = 512;
    private static final int[] HOSTILE = {-1, Integer.MIN_VALUE, Integer.MAX_VALUE, -2, 100, 1 << 16, 31};
    private static final String[] ASKED = {"pitches", "nextGeneration", "queued", "queuedAt", "forecast", "status",
        "filledOn", "onTime", "day", "state", "brewIn", "cleanDay", "brews", "recipeOf", "generation", "stage",
        "vesselOf", "daysToGo", "stock", "stockByDeliveries", "deliveries", "deliveredBrew", "deliveredOrder",
        "deliveredUnits"};
    private static final String[] DONE = {"addRecipe", "addVessel", "setCrews", "addPacks", "brew", "enqueue",
        "withdraw", "bestForecast", "bestForecastByTrying", "improve", "order", "blend", "cancel", "pass"};

    /** The calls that keep a brewery at work, so that the limits of brews, orders and parts are reached. */
    private static final String[] WORK = {"enqueue", "enqueue", "addPacks", "brew", "order", "blend", "pass", "pass",
        "setCrews", "improve"};

    private static final Checks CHECKS = new Checks("RandomTest");

    private final Random random;
    private final Hopyard program = new Hopyard();
    private final Model model = new Model();
    private final List<String> log = new ArrayList<>();
    private final boolean wild;
    private final boolean busy;

    private RandomTest(int seed) {
        random = new Random(seed);
        wild = seed % 4 == 0;
        busy = seed % 4 == 1;
    }

    public static void main(String[] args) {
        for (int seed = 0; seed < RUNS && CHECKS.wrongs() == 0; seed++) {
            new RandomTest(seed).run(seed);
        }
        CHECKS.finish();
    }

    private void run(int seed) {
        if (!wild) {
            setUp();
        }
        while (log.size() < CALLS && CHECKS.wrongs() == 0) {
            int pick = random.nextInt(100);
            String[] from = pick < 55 ? busy && pick < 50 ? WORK : DONE : ASKED;
            make(from[random.nextInt(from.length)], wild ? 8 : busy ? 100 : 30);
            if (random.nextInt(40) == 0) {
                compareAll();
            }
        }
        compareAll();
        if (CHECKS.wrongs() != 0) {
            System.out.println("seed " + seed + ": " + String.join("; ", log));
        }
    }

    private void setUp() {
        for (int i = 1 + random.nextInt(5); i > 0; i--) {
            compare("addRecipe", random.nextInt(4), 1 + random.nextInt(isShort() ? 4 : 14),
                    random.nextInt(isShort() ? 2 : 15));
        }
        for (int i = 2 + random.nextInt(7); i > 0; i--) {
            compare("addVessel", random.nextBoolean() ? 'f' : 't', 0, 0);
        }
        for (int strain = 0; strain < 4; strain++) {
            compare("addPacks", strain, 1 + random.nextInt(random.nextBoolean() ? 9 : 2), 0);
        }
    }

    private boolean isShort() {
        return busy || random.nextBoolean();
    }

    /** Makes a call; one in so many has a hostile argument. */
    private void make(String call, int hostileOnceIn) {
        int[] a = ordinary(call);
        if (random.nextInt(hostileOnceIn) == 0) {
            a[random.nextInt(3)] = HOSTILE[random.nextInt(HOSTILE.length)];
        }
        String before = random.nextInt(10) == 0 ? everything() : null;
        Object answer = compare(call, a[0], a[1], a[2]);
        if (before != null && answer instanceof Class) {
            CHECKS.equal(call + ", having thrown, left all as it was", everything(), before);
        }
    }

    private int upTo(int most) {
        return random.nextInt(most + 1);
    }

    private int knownRecipe() {
        return busy ? upTo(Math.max(0, model.recipes.size() - 1)) : upTo(5);
    }

    private int[] ordinary(String call) {
        switch (call) {
            case "addRecipe": return new int[] {upTo(4), upTo(15), upTo(15)};
            case "addVessel": return new int[] {"ftx".charAt(upTo(2)), 0, 0};
            case "setCrews": return new int[] {busy ? 1 + upTo(2) : upTo(4), 0, 0};
            case "addPacks": return new int[] {upTo(4), upTo(10), 0};
            case "brew": return new int[] {knownRecipe(), upTo(8), 0};
            case "enqueue": return new int[] {knownRecipe(), 0, 0};
            case "order": return new int[] {knownRecipe(), upTo(random.nextBoolean() ? 41 : 15),
                model.day + upTo(random.nextBoolean() ? 5 : 100)};
            case "blend": return new int[] {upTo(model.orders.size()), knownRecipe(), upTo(15)};
            case "cancel": return new int[] {random.nextInt(5) == 0 ? upTo(20) : 20, 0, 0};
            case "withdraw": return new int[] {random.nextInt(3) == 0 ? upTo(6) : 6, 0, 0};
            case "queuedAt": return new int[] {upTo(6), 0, 0};
            case "pass": return new int[] {random.nextInt(8) == 0 ? upTo(31) : 1 + upTo(3), 0, 0};
            case "status": case "filledOn": return new int[] {upTo(model.orders.size()), 0, 0};
            case "state": case "brewIn": case "cleanDay": return new int[] {upTo(8), 0, 0};
            case "recipeOf": case "generation": case "stage": case "vesselOf": case "daysToGo":
                return new int[] {upTo(model.brews.size()), 0, 0};
            case "deliveredBrew": case "deliveredOrder": case "deliveredUnits":
                return new int[] {upTo(model.deliveries.size()), 0, 0};
            default: return new int[] {upTo(5), 0, 0};
        }
    }

    private Object compare(String call, int a, int b, int c) {
        log.add(call + "(" + a + ", " + b + ", " + c + ")");
        Object got = Checks.answerOf(() -> ofProgram(call, a, b, c));
        CHECKS.equal(call + "(" + a + ", " + b + ", " + c + ")", got, Checks.answerOf(() -> ofModel(call, a, b, c)));
        return got;
    }

    private void compareAll() {
        for (String call : ASKED) {
            for (int i = -1; i <= reach(call); i++) {
                int a = i;
                CHECKS.equal(call + "(" + a + ")", Checks.answerOf(() -> ofProgram(call, a, 0, 0)),
                        Checks.answerOf(() -> ofModel(call, a, 0, 0)));
            }
        }
    }

    private String everything() {
        StringBuilder all = new StringBuilder();
        for (String call : ASKED) {
            for (int i = -1; i <= reach(call); i++) {
                int a = i;
                all.append(Checks.answerOf(() -> ofProgram(call, a, 0, 0))).append(' ');
            }
        }
        return all.toString();
    }

    private int reach(String call) {
        switch (call) {
            case "queued": case "forecast": case "onTime": case "day": case "brews": case "deliveries": return -1;
            case "recipeOf": case "generation": case "stage": case "vesselOf": case "daysToGo": return model.brews.size();
            case "deliveredBrew": case "deliveredOrder": case "deliveredUnits": return model.deliveries.size();
            case "status": case "filledOn": return model.orders.size();
            default: return 8;
        }
    }

    private Object ofProgram(String call, int a, int b, int c) {
        Hopyard x = program;
        switch (call) {
            case "addRecipe": return x.addRecipe(a, b, c);
            case "addVessel": return x.addVessel((char) a);
            case "setCrews": return x.setCrews(a);
            case "addPacks": return x.addPacks(a, b);
            case "pitches": return x.pitches(a);
            case "nextGeneration": return x.nextGeneration(a);
            case "brew": return x.brew(a, b);
            case "enqueue": return x.enqueue(a);
            case "withdraw": return x.withdraw(a);
            case "queued": return x.queued();
            case "queuedAt": return x.queuedAt(a);
            case "forecast": return x.forecast();
            case "bestForecast": return x.bestForecast();
            case "bestForecastByTrying": return x.bestForecastByTrying();
            case "improve": return x.improve();
            case "order": return x.order(a, b, c);
            case "blend": return x.blend(a, b, c);
            case "cancel": return x.cancel(a);
            case "status": return x.status(a);
            case "filledOn": return x.filledOn(a);
            case "onTime": return x.onTime();
            case "pass": return x.pass(a);
            case "day": return x.day();
            default: return askProgram(call, a);
        }
    }

    private Object askProgram(String call, int a) {
        Hopyard x = program;
        switch (call) {
            case "state": return x.state(a);
            case "brewIn": return x.brewIn(a);
            case "cleanDay": return x.cleanDay(a);
            case "brews": return x.brews();
            case "recipeOf": return x.recipeOf(a);
            case "generation": return x.generation(a);
            case "stage": return x.stage(a);
            case "vesselOf": return x.vesselOf(a);
            case "daysToGo": return x.daysToGo(a);
            case "stock": return x.stock(a);
            case "stockByDeliveries": return x.stockByDeliveries(a);
            case "deliveries": return x.deliveries();
            case "deliveredBrew": return x.deliveredBrew(a);
            case "deliveredOrder": return x.deliveredOrder(a);
            case "deliveredUnits": return x.deliveredUnits(a);
            default: throw new IllegalStateException(call);
        }
    }

    private Object ofModel(String call, int a, int b, int c) {
        Model x = model;
        switch (call) {
            case "addRecipe": return x.addRecipe(a, b, c);
            case "addVessel": return x.addVessel((char) a);
            case "setCrews": return x.setCrews(a);
            case "addPacks": return x.addPacks(a, b);
            case "pitches": return x.pitches(a);
            case "nextGeneration": return x.nextGeneration(a);
            case "brew": return x.brew(a, b);
            case "enqueue": return x.enqueue(a);
            case "withdraw": return x.withdraw(a);
            case "queued": return x.queue.size();
            case "queuedAt": return x.queuedAt(a);
            case "forecast": return x.forecast();
            case "bestForecast": case "bestForecastByTrying": return x.bestForecast();
            case "improve": return x.improve();
            case "order": return x.order(a, b, c);
            case "blend": return x.blend(a, b, c);
            case "cancel": return x.cancel(a);
            case "status": return x.status(a);
            case "filledOn": return x.filledOn(a);
            case "onTime": return x.onTime();
            case "pass": return x.pass(a);
            case "day": return x.day;
            default: return askModel(call, a);
        }
    }

    private Object askModel(String call, int a) {
        Model x = model;
        switch (call) {
            case "state": return x.state(a);
            case "brewIn": return x.brewIn(a);
            case "cleanDay": return x.cleanDay(a);
            case "brews": return x.brews.size();
            case "recipeOf": return x.recipeOf(a);
            case "generation": return x.generation(a);
            case "stage": return x.stage(a);
            case "vesselOf": return x.vesselOf(a);
            case "daysToGo": return x.daysToGo(a);
            case "stock": case "stockByDeliveries": return x.stock(a);
            case "deliveries": return x.deliveries.size();
            case "deliveredBrew": return x.delivered(a, 0);
            case "deliveredOrder": return x.delivered(a, 1);
            case "deliveredUnits": return x.delivered(a, 2);
            default: throw new IllegalStateException(call);
        }
    }
}
