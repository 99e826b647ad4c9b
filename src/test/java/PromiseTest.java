import java.util.Arrays;
import java.util.NoSuchElementException;

/** Promise by promise: ordinary inputs, the edges that the document names, and wrong inputs. */
public final class PromiseTest {
    private static final Class<?> ARGUMENT = IllegalArgumentException.class;
    private static final Class<?> STATE = IllegalStateException.class;
    private static final Class<?> INDEX = IndexOutOfBoundsException.class;
    private static final Class<?> NONE = NoSuchElementException.class;
    private static final Class<?> UNSUPPORTED = UnsupportedOperationException.class;
    private static final int[] FAR = {-1, Integer.MIN_VALUE, Integer.MAX_VALUE};

    private static final Checks CHECKS = new Checks("PromiseTest");

    public static void main(String[] args) {
        newObject();
        addRecipe();
        addVessel();
        setCrews();
        addPacks();
        pitches();
        nextGeneration();
        yeastIsTakenInItsOrder();
        yeastIsUsedForFourGenerations();
        brew();
        brewTakesADayMoreBehindAnotherStrain();
        brewsAreThirty();
        enqueue();
        withdraw();
        queuedAndQueuedAt();
        queueIsStartedInItsOrder();
        forecast();
        forecastOfEachState();
        bestOrder();
        bestOrderIsThatOfAllOrders();
        improve();
        order();
        blend();
        cancel();
        statusAndFilledOn();
        onTime();
        pass();
        ordersAreFilledByDueDay();
        brewsMoveInTheirOrder();
        stateBrewInCleanDay();
        crewsCleanInTheOrderOfDirt();
        brewsAsked();
        stageVesselOfDaysToGo();
        stocks();
        deliveries();
        CHECKS.finish();
    }

    private static void is(String what, Object got, Object want) {
        CHECKS.equal(what, got, want);
    }

    private static void call(String what, Checks.Call call, Object want) {
        CHECKS.answer(what, call, want);
    }

    /** Vessels by their kinds; nine packs of each strain. */
    private static Hopyard with(String kinds) {
        Hopyard x = new Hopyard();
        for (char kind : kinds.toCharArray()) {
            x.addVessel(kind);
        }
        for (int strain = 0; strain < 4; strain++) {
            x.addPacks(strain, 9);
        }
        return x;
    }

    /** Recipe 0, with one day for fermenting and none for maturing, has 20 units ready for each tank. */
    private static Hopyard withReadyBrews(int number) {
        Hopyard x = with("f" + "t".repeat(number));
        x.addRecipe(0, 1, 0);
        for (int i = 0; i < number; i++) {
            x.brew(0, 0);
            x.pass(3);
        }
        return x;
    }

    private static String queueOf(Hopyard x) {
        StringBuilder all = new StringBuilder();
        for (int i = 0; i < x.queued(); i++) {
            all.append(x.queuedAt(i));
        }
        return all.toString();
    }

    private static void enqueueAll(Hopyard x, int... recipes) {
        for (int recipe : recipes) {
            x.enqueue(recipe);
        }
    }

    // Promise 1.
    private static void newObject() {
        Hopyard x = new Hopyard();
        is("day", x.day(), 0);
        is("brews", x.brews(), 0);
        is("queued", x.queued(), 0);
        is("deliveries", x.deliveries(), 0);
        call("stock of no recipe", () -> x.stock(0), INDEX);
        call("state of no vessel", () -> x.state(0), INDEX);
        call("status of no order", () -> x.status(0), INDEX);
        for (int strain = 0; strain < 4; strain++) {
            int s = strain;
            is("pitches " + s, x.pitches(s), 0);
            call("no yeast of strain " + s, () -> x.nextGeneration(s), NONE);
        }
        is("one crew", x.setCrews(1), 1);
        is("days pass in an empty brewery", x.pass(30), 0);
        is("day 30", x.day(), 30);
        Hopyard y = new Hopyard();
        x.addRecipe(0, 1, 0);
        call("objects have nothing in common", () -> y.stock(0), INDEX);
    }

    // Promise 2.
    private static void addRecipe() {
        Hopyard x = new Hopyard();
        for (int bad : new int[] {-1, 4, Integer.MIN_VALUE, Integer.MAX_VALUE}) {
            call("strain " + bad, () -> x.addRecipe(bad, 1, 0), ARGUMENT);
        }
        for (int bad : new int[] {-1, 0, 15, Integer.MIN_VALUE, Integer.MAX_VALUE}) {
            call("ferment " + bad, () -> x.addRecipe(0, bad, 0), ARGUMENT);
        }
        for (int bad : new int[] {-1, 15, Integer.MIN_VALUE, Integer.MAX_VALUE}) {
            call("mature " + bad, () -> x.addRecipe(0, 1, bad), ARGUMENT);
        }
        call("the least", () -> x.addRecipe(0, 1, 0), 0);
        call("the most", () -> x.addRecipe(3, 14, 14), 1);
        call("a same one", () -> x.addRecipe(3, 14, 14), 2);
        x.addRecipe(1, 5, 5);
        call("the fifth", () -> x.addRecipe(2, 5, 5), 4);
        call("the sixth", () -> x.addRecipe(2, 5, 5), STATE);
        call("the sixth, and a wrong strain", () -> x.addRecipe(4, 5, 5), ARGUMENT);
        call("the sixth, and wrong days", () -> x.addRecipe(0, 5, 15), ARGUMENT);
        call("the sixth is not there", () -> x.stock(5), INDEX);
    }

    // Promise 3.
    private static void addVessel() {
        Hopyard x = new Hopyard();
        for (char bad : new char[] {'F', 'T', 'x', 0, 0xffff, 'e', 'g', 's', 'u'}) {
            call("kind " + (int) bad, () -> x.addVessel(bad), ARGUMENT);
        }
        for (int i = 0; i < 8; i++) {
            int number = i;
            call("vessel " + i, () -> x.addVessel(number % 3 == 0 ? 't' : 'f'), number);
            is("clean at first", x.state(i), 'c');
        }
        call("the ninth", () -> x.addVessel('f'), STATE);
        call("the ninth, and no such kind", () -> x.addVessel('x'), ARGUMENT);
        call("the ninth is not there", () -> x.state(8), INDEX);
    }

    // Promise 4.
    private static void setCrews() {
        Hopyard x = with("ffff");
        for (int bad : new int[] {-1, 4, Integer.MIN_VALUE, Integer.MAX_VALUE}) {
            call("crews " + bad, () -> x.setCrews(bad), ARGUMENT);
        }
        is("one at first, still", x.setCrews(3), 1);
        is("three before", x.setCrews(0), 3);
        is("none before", x.setCrews(2), 0);

        Hopyard y = with("ffttt");
        y.addRecipe(0, 1, 0);
        y.setCrews(2);
        y.brew(0, 0);
        y.brew(0, 1);
        y.pass(1);
        is("both are cleaned", "" + y.state(0) + y.state(1), "gg");
        y.setCrews(0);
        y.pass(1);
        is("cleaning goes on without a crew", "" + y.state(0) + y.state(1), "gg");
        y.pass(1);
        is("clean without a crew", "" + y.state(0) + y.state(1), "cc");
        y.brew(0, 0);
        y.pass(5);
        is("no cleaning begins without a crew", y.state(0), 'd');
        y.setCrews(1);
        is("cleaning begins when a day passes alone", y.state(0), 'd');
        y.pass(1);
        is("cleaning has begun", y.state(0), 'g');
    }

    // Promise 5.
    private static void addPacks() {
        Hopyard x = new Hopyard();
        for (int bad : new int[] {-1, 4, Integer.MIN_VALUE, Integer.MAX_VALUE}) {
            call("strain " + bad, () -> x.addPacks(bad, 1), ARGUMENT);
        }
        for (int bad : new int[] {-1, 0, 10, Integer.MIN_VALUE, Integer.MAX_VALUE}) {
            call("packs " + bad, () -> x.addPacks(0, bad), ARGUMENT);
        }
        call("one", () -> x.addPacks(0, 1), 1);
        call("nine more", () -> x.addPacks(0, 9), 10);
        call("another strain", () -> x.addPacks(3, 2), 2);
        x.addRecipe(0, 1, 0);
        x.addVessel('f');
        x.brew(0, 0);
        call("a brew has taken one", () -> x.addPacks(0, 1), 10);
    }

    // Promise 6.
    private static void pitches() {
        Hopyard x = with("ft");
        for (int bad : new int[] {-1, 4, Integer.MIN_VALUE, Integer.MAX_VALUE}) {
            call("strain " + bad, () -> x.pitches(bad), ARGUMENT);
        }
        x.addRecipe(2, 3, 1);
        x.brew(0, 0);
        x.pass(2);
        is("none before it has fermented", x.pitches(2), 0);
        x.pass(1);
        is("two of its strain", x.pitches(2), 2);
        is("none of another strain", x.pitches(1), 0);
        x.pass(10);
        is("usable on the tenth day after", x.pitches(2), 2);
        x.pass(1);
        is("not on the eleventh", x.pitches(2), 0);

        Hopyard y = with("f");
        y.addRecipe(0, 1, 0);
        y.brew(0, 0);
        y.pass(5);
        is("two from a brew that waits, not two a day", y.pitches(0), 2);
    }

    // Promise 7.
    private static void nextGeneration() {
        Hopyard x = new Hopyard();
        for (int bad : new int[] {-1, 4, Integer.MIN_VALUE, Integer.MAX_VALUE}) {
            call("strain " + bad, () -> x.nextGeneration(bad), ARGUMENT);
        }
        call("no yeast", () -> x.nextGeneration(1), NONE);
        x.addPacks(1, 1);
        call("a pack", () -> x.nextGeneration(1), 0);
        call("no yeast of another strain", () -> x.nextGeneration(0), NONE);
        x.addRecipe(1, 1, 0);
        x.addVessel('f');
        x.brew(0, 0);
        call("the pack is taken", () -> x.nextGeneration(1), NONE);
        x.pass(1);
        call("a pitch", () -> x.nextGeneration(1), 1);
        x.addPacks(1, 1);
        call("a pitch before a pack", () -> x.nextGeneration(1), 1);
        x.pass(10);
        call("a pitch on its tenth day", () -> x.nextGeneration(1), 1);
        x.pass(1);
        call("a pack when the pitch is too old", () -> x.nextGeneration(1), 0);
    }

    private static void yeastIsTakenInItsOrder() {
        Hopyard x = with("fffttt");
        x.addRecipe(0, 2, 0);
        x.addRecipe(0, 4, 0);
        x.setCrews(3);
        x.brew(0, 0);
        x.pass(2);
        x.brew(1, 1);
        x.pass(1);
        x.addRecipe(1, 1, 0);
        x.brew(2, 2);
        is("a pitch of generation 1 is taken", x.generation(1), 1);
        x.pass(3);
        is("one of generation 1, two of generation 2", x.pitches(0), 3);
        is("the one that was harvested first", x.nextGeneration(0), 1);
        x.brew(0, 0);
        is("taken", x.generation(3), 1);
        is("then one of generation 2", x.nextGeneration(0), 2);
        is("two of them", x.pitches(0), 2);

        Hopyard y = with("fftt");
        y.addRecipe(0, 3, 0);
        y.addRecipe(0, 1, 0);
        y.brew(1, 0);
        y.pass(1);
        y.brew(0, 1);
        y.pass(2);
        y.brew(1, 0);
        is("generations 1 and 1", "" + y.generation(1) + y.generation(2), "11");
        y.pass(1);
        is("the same generation from both, in the order of the brews", y.pitches(0), 4);
        is("generation 2", y.nextGeneration(0), 2);
    }

    /** Waits before each brew until the pitches of lower generations are too old. */
    private static void yeastIsUsedForFourGenerations() {
        Hopyard x = with("fttttt");
        x.addRecipe(0, 1, 0);
        int[] waits = {0, 2, 8, 2, 8};
        int[] pitchesBefore = {0, 2, 2, 2, 2};
        for (int i = 0; i < 5; i++) {
            if (waits[i] > 0) {
                x.pass(waits[i]);
            }
            is("pitches before brew " + i, x.pitches(0), pitchesBefore[i]);
            is("yeast for brew " + i, x.nextGeneration(0), i);
            x.brew(0, 0);
            is("generation of brew " + i, x.generation(i), i);
            x.pass(1);
            is("brew " + i + " has fermented", x.stage(i), 'r');
        }
        is("brew 4 gives none, one of its own generation is left", x.pitches(0), 1);
        x.pass(2);
        is("none", x.pitches(0), 0);
        is("a pack again", x.nextGeneration(0), 0);
    }

    // Promise 8.
    private static void brew() {
        Hopyard x = new Hopyard();
        call("no recipe, no vessel", () -> x.brew(0, 0), INDEX);
        x.addRecipe(0, 3, 2);
        call("no vessel", () -> x.brew(0, 0), INDEX);
        x.addVessel('f');
        x.addVessel('t');
        for (int bad : FAR) {
            call("recipe " + bad, () -> x.brew(bad, 0), INDEX);
            call("vessel " + bad, () -> x.brew(0, bad), INDEX);
        }
        call("recipe 1", () -> x.brew(1, 0), INDEX);
        call("vessel 2", () -> x.brew(0, 2), INDEX);
        call("no recipe, and a tank", () -> x.brew(1, 1), INDEX);
        call("a tank, and no yeast", () -> x.brew(0, 1), UNSUPPORTED);
        call("no yeast", () -> x.brew(0, 0), NONE);
        is("nothing is started", x.state(0), 'c');
        x.addPacks(0, 1);
        call("started", () -> x.brew(0, 0), 0);
        is("in use", x.state(0), 'u');
        is("its days", x.daysToGo(0), 3);
        is("ferments", x.stage(0), 'f');
        call("in use, and no yeast", () -> x.brew(0, 0), STATE);
        x.pass(3);
        is("being cleaned", x.state(0), 'g');
        call("being cleaned", () -> x.brew(0, 0), STATE);
        call("a tank in use", () -> x.brew(0, 1), UNSUPPORTED);
        x.pass(2);
        call("clean again", () -> x.brew(0, 0), 1);
        is("from a pitch", x.generation(1), 1);
        x.setCrews(0);
        x.addVessel('t');
        x.pass(3);
        is("dirty", x.state(0), 'd');
        call("dirty", () -> x.brew(0, 0), STATE);
    }

    private static void brewTakesADayMoreBehindAnotherStrain() {
        Hopyard x = with("ffttttt");
        x.setCrews(2);
        x.addRecipe(0, 2, 1);
        x.addRecipe(1, 2, 1);
        x.addRecipe(1, 3, 1);
        x.brew(0, 0);
        is("the first in its fermenter", x.daysToGo(0), 2);
        x.pass(4);
        x.brew(1, 0);
        is("behind another strain", x.daysToGo(1), 3);
        x.brew(0, 1);
        is("the other fermenter had none", x.daysToGo(2), 2);
        x.pass(5);
        x.brew(2, 0);
        is("another recipe of the same strain", x.daysToGo(3), 3);
        x.pass(5);
        x.brew(0, 0);
        is("the last one counts, not the first", x.daysToGo(4), 3);
    }

    private static void brewsAreThirty() {
        Hopyard x = with("fffftttt");
        x.addRecipe(0, 1, 0);
        x.setCrews(3);
        for (int i = 0; i < 22; i++) {
            x.addPacks(0, 9);
            int vessel = waitForCleanFermenter(x);
            int number = i;
            call("brew " + i, () -> x.brew(0, vessel), number);
        }
        enqueueAll(x, 0, 0, 0, 0, 0, 0);
        for (int days = 0; days < 60 && x.queued() > 0; days++) {
            passAndDrain(x);
        }
        is("28 brews", x.brews(), 28);
        int vessel = waitForCleanFermenter(x);
        enqueueAll(x, 0, 0);
        call("28 brews and 2 in the queue, no more there", () -> x.enqueue(0), STATE);
        call("28 and 2, no more by hand", () -> x.brew(0, vessel), STATE);
        x.withdraw(1);
        call("28 and 1, by hand", () -> x.brew(0, vessel), 28);
        call("29 and 1, no more in the queue", () -> x.enqueue(0), STATE);
        for (int days = 0; days < 20 && x.queued() > 0; days++) {
            passAndDrain(x);
        }
        is("30 brews", x.brews(), 30);
        call("30 brews, no more in the queue", () -> x.enqueue(0), STATE);
        call("30 brews, but no such recipe", () -> x.enqueue(1), INDEX);
        call("the last brew", () -> x.recipeOf(29), 0);
        call("no brew behind it", () -> x.recipeOf(30), INDEX);
        int last = waitForCleanFermenter(x);
        call("30 brews, no more by hand", () -> x.brew(0, last), STATE);
    }

    private static int waitForCleanFermenter(Hopyard x) {
        for (int days = 0; days < 20; days++) {
            for (int v = 0; v < 4; v++) {
                if (x.state(v) == 'c') {
                    return v;
                }
            }
            passAndDrain(x);
        }
        return -1;
    }

    /** Two brews an order, as twenty orders must do for thirty brews. */
    private static void passAndDrain(Hopyard x) {
        if (x.stock(0) >= 40) {
            x.order(0, 40, x.day());
        }
        x.pass(1);
    }

    // Promise 9.
    private static void enqueue() {
        Hopyard x = new Hopyard();
        call("no recipe", () -> x.enqueue(0), INDEX);
        x.addRecipe(0, 1, 0);
        x.addRecipe(1, 1, 0);
        for (int bad : FAR) {
            call("recipe " + bad, () -> x.enqueue(bad), INDEX);
        }
        call("recipe 2", () -> x.enqueue(2), INDEX);
        for (int i = 0; i < 6; i++) {
            int number = i;
            call("enqueue " + i, () -> x.enqueue(number % 2), number + 1);
        }
        call("the seventh", () -> x.enqueue(0), STATE);
        call("the seventh, and no such recipe", () -> x.enqueue(2), INDEX);
        is("at the end", queueOf(x), "010101");
    }

    // Promise 10.
    private static void withdraw() {
        Hopyard x = new Hopyard();
        call("an empty queue", () -> x.withdraw(0), NONE);
        for (int i = 0; i < 5; i++) {
            x.addRecipe(i % 4, 1, 0);
        }
        enqueueAll(x, 4, 3, 2, 1, 0, 4);
        for (int bad : FAR) {
            call("index " + bad, () -> x.withdraw(bad), NONE);
        }
        call("index 6", () -> x.withdraw(6), NONE);
        call("from the middle", () -> x.withdraw(2), 2);
        is("the others move up", queueOf(x), "43104");
        call("from the end", () -> x.withdraw(4), 4);
        call("from the front", () -> x.withdraw(0), 4);
        is("three are left", queueOf(x), "310");
        call("index 3", () -> x.withdraw(3), NONE);
    }

    // Promises 11 and 12.
    private static void queuedAndQueuedAt() {
        Hopyard x = new Hopyard();
        call("an empty queue", () -> x.queuedAt(0), NONE);
        x.addRecipe(0, 1, 0);
        x.addRecipe(0, 2, 0);
        enqueueAll(x, 1, 0);
        is("two", x.queued(), 2);
        call("the first", () -> x.queuedAt(0), 1);
        call("the second", () -> x.queuedAt(1), 0);
        call("no third", () -> x.queuedAt(2), NONE);
        for (int bad : FAR) {
            call("index " + bad, () -> x.queuedAt(bad), NONE);
        }
    }

    private static void queueIsStartedInItsOrder() {
        Hopyard x = new Hopyard();
        x.addRecipe(0, 5, 0);
        x.addRecipe(1, 5, 0);
        for (char kind : "tfff".toCharArray()) {
            x.addVessel(kind);
        }
        enqueueAll(x, 1, 0, 0, 0);
        x.pass(1);
        is("none without yeast", queueOf(x), "1000");
        x.addPacks(0, 2);
        is("none before a day has passed", x.brews(), 0);
        x.pass(1);
        is("those with yeast, others stay", queueOf(x), "10");
        is("in the clean fermenter with the lowest number", "" + x.brewIn(1) + x.brewIn(2), "01");
        is("with all their days", x.daysToGo(0), 5);
        x.addPacks(0, 9);
        x.addPacks(1, 9);
        x.pass(1);
        is("the first in the order", queueOf(x), "0");
        is("started", x.recipeOf(2), 1);
        is("in the last fermenter", x.vesselOf(2), 3);
    }

    // Promise 13.
    private static void forecast() {
        Hopyard x = new Hopyard();
        call("an empty queue, and no fermenter", x::forecast, NONE);
        x.addRecipe(0, 3, 14);
        x.addRecipe(1, 2, 0);
        x.addVessel('t');
        x.enqueue(0);
        call("no fermenter but a tank", x::forecast, NONE);
        x.addVessel('f');
        is("yeast is left out", x.forecast(), 3);
        x.enqueue(0);
        is("again free after two days", x.forecast(), 8);
        x.enqueue(1);
        is("a day more behind another strain", x.forecast(), 13);
        x.addVessel('f');
        is("in the fermenter that is free first", x.forecast(), 8);
        x.withdraw(0);
        x.withdraw(0);
        x.enqueue(0);
        is("the latest one, not the last", x.forecast(), 3);
        x.withdraw(0);
        x.withdraw(0);
        call("an empty queue", x::forecast, NONE);

        Hopyard y = with("fftt");
        y.addRecipe(0, 3, 0);
        y.addRecipe(1, 3, 0);
        y.brew(0, 0);
        y.brew(1, 1);
        y.pass(9);
        is("both clean", "" + y.state(0) + y.state(1), "cc");
        y.enqueue(1);
        is("of several the lowest number, behind another strain", y.forecast(), 9 + 4);
        y.withdraw(0);
        y.enqueue(0);
        is("of several the lowest number, behind its own strain", y.forecast(), 9 + 3);
        y.enqueue(0);
        is("then the next one", y.forecast(), 9 + 4);
    }

    private static void forecastOfEachState() {
        Hopyard x = with("ft");
        x.addRecipe(0, 4, 9);
        x.addRecipe(1, 4, 9);
        x.brew(0, 0);
        x.pass(1);
        x.enqueue(0);
        is("in use: two days after it has fermented", x.forecast(), 1 + 3 + 2 + 4);
        x.withdraw(0);
        x.enqueue(1);
        is("in use, behind another strain", x.forecast(), 1 + 3 + 2 + 5);
        x.withdraw(0);
        x.pass(3);
        x.enqueue(0);
        is("being cleaned: on its clean day", x.forecast(), x.cleanDay(0) + 4);
        x.pass(1);
        is("being cleaned, a day to go", x.forecast(), 6 + 4);
        x.withdraw(0);
        x.pass(2);
        x.enqueue(1);
        is("clean: today, behind another strain", x.forecast(), x.day() + 5);
        x.withdraw(0);
        x.brew(0, 0);
        x.pass(4);
        is("waits", x.stage(1), 'w');
        x.enqueue(0);
        is("a brew waits: two days from today", x.forecast(), x.day() + 2 + 4);
        x.setCrews(0);
        x.addVessel('t');
        x.pass(1);
        is("dirty", x.state(0), 'd');
        is("dirty: two days from today", x.forecast(), x.day() + 2 + 4);
    }

    // Promises 14 and 15.
    private static void bestOrder() {
        Hopyard x = new Hopyard();
        call("an empty queue, best", x::bestForecast, NONE);
        call("an empty queue, by trying", x::bestForecastByTrying, NONE);
        x.addRecipe(0, 1, 0);
        x.addRecipe(1, 9, 0);
        x.enqueue(0);
        call("no fermenter, best", x::bestForecast, NONE);
        call("no fermenter, by trying", x::bestForecastByTrying, NONE);
        x.addVessel('f');
        x.addVessel('f');
        is("one, best", x.bestForecast(), 1);
        is("one, by trying", x.bestForecastByTrying(), 1);
        enqueueAll(x, 0, 1);
        is("as it stands", x.forecast(), 13);
        is("the long one at first", x.bestForecast(), 9);
        is("the same by trying", x.bestForecastByTrying(), 9);
        is("the queue stays", queueOf(x), "001");
        x.withdraw(0);
        x.withdraw(0);
        x.withdraw(0);
        call("an empty queue again", x::bestForecast, NONE);

        Hopyard y = with("fff");
        y.addRecipe(0, 3, 0);
        y.addRecipe(1, 5, 0);
        y.addRecipe(2, 7, 0);
        y.addRecipe(3, 2, 0);
        y.addRecipe(0, 14, 0);
        enqueueAll(y, 3, 0, 1, 2, 3, 4);
        is("six, best as by trying", y.bestForecast(), y.bestForecastByTrying());
        is("six, best", y.bestForecast(), 14);
        is("six, as they stand", y.forecast(), 22);
    }

    private static final String[] SHOPS = {"f", "ff", "fff", "fffff"};
    private static final int[][] QUEUES = {{0, 1, 2, 3, 4, 0}, {4, 4, 0, 1, 0, 1}, {3, 1, 2}, {2, 2, 2, 2}, {0, 4},
        {1, 0, 3, 3, 0, 1}, {4, 3, 2, 1, 0}, {0, 0, 1, 1, 2, 2}, {3, 2, 3, 2, 4, 4}};
    private static final int[][] RECIPES = {{0, 1, 2, 7, 1, 3, 3, 2, 0, 14}, {0, 5, 0, 4, 1, 3, 1, 2, 2, 1},
        {3, 9, 2, 2, 3, 2, 2, 9, 1, 4}};

    /** What the queue's own forecasts say, order by order. */
    private static void bestOrderIsThatOfAllOrders() {
        for (String shop : SHOPS) {
            for (int[] recipes : RECIPES) {
                for (int[] row : QUEUES) {
                    String what = "best of " + Arrays.toString(row) + " in " + shop;
                    Hopyard x = with(shop);
                    for (int i = 0; i < 10; i += 2) {
                        x.addRecipe(recipes[i], recipes[i + 1], 0);
                    }
                    x.brew(row[0], 0);
                    enqueueAll(x, row);
                    int before = x.forecast();
                    Best best = new Best(x);
                    best.tryFrom("", row.clone());
                    is(what, x.bestForecast(), best.day);
                    is(what + ", by trying", x.bestForecastByTrying(), best.day);
                    is(what + ", gained", x.improve(), before - best.day);
                    is(what + ", its order", queueOf(x), best.order);
                    is(what + ", its forecast", x.forecast(), best.day);
                }
            }
        }
    }

    /** Puts the queue into one order after the other, and leaves it in the one that it had. */
    private static final class Best {
        private final Hopyard x;
        private int day = Integer.MAX_VALUE;
        private String order = "";

        private Best(Hopyard x) {
            this.x = x;
        }

        private void tryFrom(String head, int[] rest) {
            if (rest.length == 0) {
                look(head);
            }
            for (int i = 0; i < rest.length; i++) {
                int[] others = new int[rest.length - 1];
                System.arraycopy(rest, 0, others, 0, i);
                System.arraycopy(rest, i + 1, others, i, rest.length - 1 - i);
                tryFrom(head + rest[i], others);
            }
        }

        private void look(String row) {
            String kept = queueOf(x);
            refill(row);
            int found = x.forecast();
            refill(kept);
            if (found < day || found == day && row.compareTo(order) < 0) {
                day = found;
                order = row;
            }
        }

        private void refill(String row) {
            while (x.queued() > 0) {
                x.withdraw(0);
            }
            for (char recipe : row.toCharArray()) {
                x.enqueue(recipe - '0');
            }
        }
    }

    // Promise 16.
    private static void improve() {
        Hopyard x = new Hopyard();
        call("an empty queue", x::improve, NONE);
        x.addRecipe(0, 3, 0);
        x.addRecipe(1, 3, 0);
        x.addRecipe(0, 3, 0);
        x.enqueue(1);
        call("no fermenter", x::improve, NONE);
        x.addVessel('f');
        call("one can't be improved", x::improve, 0);
        enqueueAll(x, 0, 1, 0);
        is("before", x.forecast(), 3 + 6 + 6 + 6);
        call("two changes fewer", x::improve, 2);
        is("the recipes with the lower numbers at first", queueOf(x), "0011");
        is("after", x.forecast(), 19);
        call("no better", x::improve, 0);

        Hopyard y = with("f");
        y.addRecipe(0, 3, 0);
        y.addRecipe(0, 3, 0);
        y.addRecipe(0, 3, 0);
        enqueueAll(y, 2, 1, 0, 2, 1, 0);
        call("of several, the lower numbers", y::improve, 0);
        is("sorted", queueOf(y), "001122");

        Hopyard z = with("f");
        z.addRecipe(0, 3, 0);
        z.addRecipe(1, 3, 0);
        z.brew(1, 0);
        enqueueAll(z, 0, 1, 0);
        call("behind the strain in the fermenter", z::improve, 2);
        is("its own strain at first", queueOf(z), "100");
    }

    // Promise 17.
    private static void order() {
        Hopyard x = new Hopyard();
        call("no recipe", () -> x.order(0, 1, 0), INDEX);
        x.addRecipe(0, 1, 0);
        for (int bad : new int[] {-1, 1, Integer.MIN_VALUE, Integer.MAX_VALUE}) {
            call("recipe " + bad + ", and wrong units", () -> x.order(bad, 0, 0), INDEX);
        }
        for (int bad : new int[] {-1, 0, 41, Integer.MIN_VALUE, Integer.MAX_VALUE}) {
            call("units " + bad, () -> x.order(0, bad, 0), ARGUMENT);
        }
        x.pass(7);
        for (int bad : new int[] {6, 0, -1, 107, Integer.MIN_VALUE, Integer.MAX_VALUE}) {
            call("due " + bad, () -> x.order(0, 1, bad), ARGUMENT);
        }
        call("the least", () -> x.order(0, 1, 7), 0);
        call("the most", () -> x.order(0, 40, 106), 1);
        is("open", x.status(0), 'o');
        x.cancel(0);
        for (int i = 2; i < 20; i++) {
            int number = i;
            call("order " + i, () -> x.order(0, 1, 20), number);
        }
        call("the 21st, one being cancelled", () -> x.order(0, 1, 20), STATE);
        call("the 21st, and wrong units", () -> x.order(0, 0, 20), ARGUMENT);
        call("the 21st, and no such recipe", () -> x.order(1, 1, 20), INDEX);
        call("the 21st is not there", () -> x.status(20), INDEX);
    }

    // Promise 18.
    private static void blend() {
        Hopyard x = withReadyBrews(2);
        x.addRecipe(1, 1, 0);
        call("no order", () -> x.blend(0, 0, 1), INDEX);
        x.order(0, 5, 30);
        for (int bad : FAR) {
            call("order " + bad, () -> x.blend(bad, 0, 1), INDEX);
            call("recipe " + bad, () -> x.blend(0, bad, 1), INDEX);
        }
        call("no such order, and wrong units", () -> x.blend(1, 0, 0), INDEX);
        call("no such recipe, and wrong units", () -> x.blend(0, 2, 0), INDEX);
        for (int bad : new int[] {-1, 0, 41, Integer.MIN_VALUE, Integer.MAX_VALUE}) {
            call("units " + bad, () -> x.blend(0, 0, bad), ARGUMENT);
        }
        call("the second part", () -> x.blend(0, 0, 1), 2);
        call("the third part", () -> x.blend(0, 1, 40), 3);
        call("the fourth part", () -> x.blend(0, 0, 1), 4);
        call("the fifth part", () -> x.blend(0, 0, 1), STATE);
        call("the fifth part, and wrong units", () -> x.blend(0, 0, 0), ARGUMENT);
        is("all units", x.cancel(0), 47);
        call("cancelled", () -> x.blend(0, 0, 1), STATE);
        x.order(0, 30, 30);
        x.blend(1, 0, 11);
        is("not enough for all parts together", x.pass(1), 0);
        x.order(0, 30, 30);
        x.blend(2, 0, 10);
        is("just enough for all parts together", x.pass(1), 1);
        call("filled", () -> x.blend(2, 0, 1), STATE);
        is("filled alone", "" + x.status(1) + x.status(2), "of");
    }

    // Promise 19.
    private static void cancel() {
        Hopyard x = withReadyBrews(1);
        call("no order", () -> x.cancel(0), INDEX);
        x.order(0, 4, 50);
        x.blend(0, 0, 3);
        for (int bad : FAR) {
            call("order " + bad, () -> x.cancel(bad), INDEX);
        }
        call("its units", () -> x.cancel(0), 7);
        is("cancelled", x.status(0), 'c');
        call("cancelled already", () -> x.cancel(0), STATE);
        is("a cancelled order is not filled", x.pass(1), 0);
        x.order(0, 4, 50);
        x.pass(1);
        call("filled already", () -> x.cancel(1), STATE);
        is("stays filled", x.status(1), 'f');
    }

    // Promises 20 and 21.
    private static void statusAndFilledOn() {
        Hopyard x = withReadyBrews(1);
        call("no order", () -> x.status(0), INDEX);
        call("no order was filled", () -> x.filledOn(0), INDEX);
        x.order(0, 20, 50);
        x.order(0, 1, 50);
        x.order(0, 1, 50);
        x.cancel(2);
        is("open before a day has passed", x.status(0), 'o');
        call("open", () -> x.filledOn(0), STATE);
        x.pass(2);
        is("filled, open, cancelled", "" + x.status(0) + x.status(1) + x.status(2), "foc");
        call("filled on the day that came first", () -> x.filledOn(0), 4);
        call("still open", () -> x.filledOn(1), STATE);
        call("cancelled", () -> x.filledOn(2), STATE);
        for (int bad : FAR) {
            call("status " + bad, () -> x.status(bad), INDEX);
            call("filledOn " + bad, () -> x.filledOn(bad), INDEX);
        }
        call("status 3", () -> x.status(3), INDEX);
        call("filledOn 3", () -> x.filledOn(3), INDEX);
    }

    // Promise 22.
    private static void onTime() {
        Hopyard x = withReadyBrews(2);
        call("no order", x::onTime, NONE);
        x.order(0, 1, 6);
        call("none filled", x::onTime, NONE);
        x.pass(1);
        call("one day late", x::onTime, 0f);
        x.order(0, 1, 8);
        x.pass(1);
        call("one of two, on its due day", x::onTime, 0.5f);
        x.order(0, 1, 90);
        x.order(0, 40, 90);
        x.cancel(3);
        x.order(0, 40, 90);
        x.pass(1);
        call("two of three, earlier; open and cancelled ones left out", x::onTime, 2f / 3f);
    }

    // Promises 23 and 24.
    private static void pass() {
        Hopyard x = withReadyBrews(3);
        for (int bad : new int[] {-1, 0, 31, Integer.MIN_VALUE, Integer.MAX_VALUE}) {
            call("days " + bad, () -> x.pass(bad), ARGUMENT);
        }
        is("the day stays", x.day(), 9);
        for (int i = 0; i < 5; i++) {
            x.order(0, 13, 20);
        }
        is("orders filled, of five", x.pass(1), 4);
        is("day 10", x.day(), 10);
        is("none filled", x.pass(30), 0);
        is("day 40", x.day(), 40);

        Hopyard y = with("ft");
        y.addRecipe(0, 1, 1);
        for (int i = 0; i < 4; i++) {
            y.enqueue(0);
            y.order(0, 20, 60);
        }
        is("all that is filled in 30 days", y.pass(30), 4);
        is("all brews are drained", "" + y.stage(0) + y.stage(1) + y.stage(2) + y.stage(3), "xxxx");
    }

    private static void ordersAreFilledByDueDay() {
        Hopyard x = withReadyBrews(1);
        x.order(0, 9, 12);
        x.order(0, 9, 11);
        x.order(0, 9, 11);
        x.order(0, 25, 10);
        x.order(0, 2, 50);
        is("by due days, then by numbers, those that can be filled", x.pass(1), 3);
        StringBuilder all = new StringBuilder();
        for (int i = 0; i < 5; i++) {
            all.append(x.status(i));
        }
        is("filled", all.toString(), "offof");
        is("in this order", "" + x.deliveredOrder(0) + x.deliveredOrder(1) + x.deliveredOrder(2), "124");
    }

    private static void brewsMoveInTheirOrder() {
        Hopyard x = with("fftt");
        x.addRecipe(0, 2, 3);
        x.addRecipe(0, 1, 0);
        x.brew(0, 1);
        x.brew(1, 0);
        x.pass(1);
        is("the lowest clean tank", x.vesselOf(1), 2);
        is("ready at once without days for maturing", x.stage(1), 'r');
        x.pass(1);
        is("moves on the day on which it has fermented", x.vesselOf(0), 3);
        is("matures", x.stage(0), 'm');
        is("with all its days", x.daysToGo(0), 3);
        x.pass(3);
        is("ready", x.stage(0), 'r');

        Hopyard y = with("fft");
        y.addRecipe(0, 1, 0);
        y.addRecipe(0, 1, 2);
        y.brew(1, 1);
        y.brew(0, 0);
        y.pass(1);
        is("the brew with the lower number", "" + y.stage(0) + y.stage(1), "mw");
        y.pass(2);
        y.order(1, 20, 50);
        y.pass(1);
        is("drained, the tank being cleaned", "" + y.stage(0) + y.state(2), "xg");
        is("still waits", y.stage(1), 'w');
        y.pass(1);
        is("moves on the day on which the tank is clean", y.stage(1), 'r');
    }

    // Promises 25, 26 and 27.
    private static void stateBrewInCleanDay() {
        Hopyard x = with("ft");
        x.addRecipe(0, 2, 1);
        for (int bad : new int[] {-1, 2, Integer.MIN_VALUE, Integer.MAX_VALUE}) {
            call("state " + bad, () -> x.state(bad), INDEX);
            call("brewIn " + bad, () -> x.brewIn(bad), INDEX);
            call("cleanDay " + bad, () -> x.cleanDay(bad), INDEX);
        }
        is("clean", "" + x.state(0) + x.state(1), "cc");
        call("no brew in a clean vessel", () -> x.brewIn(0), NONE);
        call("no clean day of a clean vessel", () -> x.cleanDay(0), NONE);
        x.brew(0, 0);
        is("in use", "" + x.state(0) + x.state(1), "uc");
        call("the brew in it", () -> x.brewIn(0), 0);
        call("no clean day of a vessel in use", () -> x.cleanDay(0), NONE);
        x.pass(2);
        is("being cleaned, in use", "" + x.state(0) + x.state(1), "gu");
        call("a fermenter takes two days", () -> x.cleanDay(0), 4);
        call("no brew in a vessel that is being cleaned", () -> x.brewIn(0), NONE);
        call("the brew in the tank", () -> x.brewIn(1), 0);
        x.pass(1);
        call("the same day a day later", () -> x.cleanDay(0), 4);
        x.pass(1);
        is("clean on this day", x.state(0), 'c');
        x.setCrews(0);
        x.order(0, 20, 50);
        x.pass(1);
        is("dirty", x.state(1), 'd');
        call("no brew in a dirty vessel", () -> x.brewIn(1), NONE);
        call("no clean day of a dirty vessel", () -> x.cleanDay(1), NONE);
        x.setCrews(1);
        x.pass(1);
        call("a tank takes one day", () -> x.cleanDay(1), 7);
    }

    private static void crewsCleanInTheOrderOfDirt() {
        Hopyard x = with("ffftttt");
        x.addRecipe(0, 1, 0);
        x.addRecipe(0, 2, 0);
        x.setCrews(0);
        x.brew(1, 0);
        x.brew(0, 2);
        x.brew(0, 1);
        x.pass(1);
        is("dirty on the same day", "" + x.state(0) + x.state(1) + x.state(2), "udd");
        x.pass(1);
        is("dirty", x.state(0), 'd');
        x.setCrews(1);
        x.pass(1);
        is("the one whose brew moved first", "" + x.state(0) + x.state(1) + x.state(2), "ddg");
        x.setCrews(2);
        x.pass(1);
        is("then the next, by a second crew", "" + x.state(0) + x.state(1) + x.state(2), "dgg");
        x.pass(1);
        is("then the last one", "" + x.state(0) + x.state(1) + x.state(2), "ggc");

        Hopyard z = with("fftt");
        z.addRecipe(0, 1, 0);
        z.brew(0, 0);
        z.brew(0, 1);
        z.pass(1);
        is("one crew, one vessel", "" + z.state(0) + z.state(1), "gd");
        z.pass(1);
        is("the other one waits for the crew", "" + z.state(0) + z.state(1), "gd");
        z.pass(1);
        is("and is taken on the day on which the first is clean", "" + z.state(0) + z.state(1), "cg");

        Hopyard y = with("fftt");
        y.addRecipe(0, 1, 0);
        y.addRecipe(0, 4, 0);
        y.brew(1, 1);
        y.brew(0, 0);
        y.pass(3);
        y.order(0, 20, 50);
        y.pass(1);
        is("a fermenter is left before a tank is drained", "" + y.state(1) + y.state(2), "gd");
    }

    // Promises 28, 29 and 30.
    private static void brewsAsked() {
        Hopyard x = with("fff");
        x.addRecipe(0, 2, 0);
        x.addRecipe(1, 2, 0);
        is("none", x.brews(), 0);
        call("recipe of none", () -> x.recipeOf(0), INDEX);
        call("generation of none", () -> x.generation(0), INDEX);
        x.brew(1, 0);
        x.enqueue(0);
        is("the queue is no brew", x.brews(), 1);
        x.pass(2);
        x.brew(1, 2);
        is("three", x.brews(), 3);
        is("recipes", "" + x.recipeOf(0) + x.recipeOf(1) + x.recipeOf(2), "101");
        is("generations", "" + x.generation(0) + x.generation(1) + x.generation(2), "001");
        for (int bad : new int[] {-1, 3, Integer.MIN_VALUE, Integer.MAX_VALUE}) {
            call("recipeOf " + bad, () -> x.recipeOf(bad), INDEX);
            call("generation " + bad, () -> x.generation(bad), INDEX);
        }
    }

    // Promises 31, 32 and 33.
    private static void stageVesselOfDaysToGo() {
        Hopyard x = with("ft");
        x.addRecipe(0, 2, 2);
        call("stage of none", () -> x.stage(0), INDEX);
        call("vessel of none", () -> x.vesselOf(0), INDEX);
        call("days of none", () -> x.daysToGo(0), INDEX);
        x.brew(0, 0);
        is("ferments", "" + x.stage(0) + x.vesselOf(0) + x.daysToGo(0), "f02");
        x.pass(1);
        is("a day later", "" + x.stage(0) + x.vesselOf(0) + x.daysToGo(0), "f01");
        x.pass(1);
        is("matures", "" + x.stage(0) + x.vesselOf(0) + x.daysToGo(0), "m12");
        x.pass(2);
        is("ready", "" + x.stage(0) + x.vesselOf(0), "r1");
        call("ready, no days to go", () -> x.daysToGo(0), NONE);
        x.brew(0, 0);
        x.pass(5);
        is("waits", "" + x.stage(1) + x.vesselOf(1), "w0");
        call("waits, no days to go", () -> x.daysToGo(1), NONE);
        x.order(0, 20, 50);
        x.pass(1);
        is("drained", x.stage(0), 'x');
        call("drained, in no vessel", () -> x.vesselOf(0), NONE);
        call("drained, no days to go", () -> x.daysToGo(0), NONE);
        for (int bad : new int[] {-1, 2, Integer.MIN_VALUE, Integer.MAX_VALUE}) {
            call("stage " + bad, () -> x.stage(bad), INDEX);
            call("vesselOf " + bad, () -> x.vesselOf(bad), INDEX);
            call("daysToGo " + bad, () -> x.daysToGo(bad), INDEX);
        }
    }

    // Promises 34 and 35.
    private static void stocks() {
        Hopyard x = withReadyBrews(3);
        x.addRecipe(0, 1, 0);
        for (int bad : new int[] {-1, 2, Integer.MIN_VALUE, Integer.MAX_VALUE}) {
            call("stock " + bad, () -> x.stock(bad), INDEX);
            call("stockByDeliveries " + bad, () -> x.stockByDeliveries(bad), INDEX);
        }
        is("three brews", x.stock(0) + " " + x.stockByDeliveries(0), "60 60");
        is("another recipe", x.stock(1) + " " + x.stockByDeliveries(1), "0 0");
        x.order(0, 25, 50);
        x.pass(1);
        is("25 drawn", x.stock(0) + " " + x.stockByDeliveries(0), "35 35");
        x.brew(1, 0);
        x.pass(2);
        is("what matures or waits is no stock", x.stock(1) + " " + x.stockByDeliveries(1), "20 20");
        x.order(0, 35, 50);
        x.pass(1);
        is("all drawn", x.stock(0) + " " + x.stockByDeliveries(0), "0 0");

        Hopyard y = with("ft");
        y.addRecipe(0, 1, 5);
        y.brew(0, 0);
        y.pass(1);
        is("what matures is no stock", y.stock(0) + " " + y.stockByDeliveries(0), "0 0");
        y.pass(5);
        is("ready", y.stock(0) + " " + y.stockByDeliveries(0), "20 20");
    }

    // Promises 36 to 39.
    private static void deliveries() {
        Hopyard x = with("fttttt");
        x.addRecipe(0, 1, 0);
        x.addRecipe(0, 1, 0);
        for (int recipe : new int[] {0, 1, 0, 0}) {
            x.brew(recipe, 0);
            x.pass(3);
        }
        is("none", x.deliveries(), 0);
        call("brew of none", () -> x.deliveredBrew(0), INDEX);
        call("order of none", () -> x.deliveredOrder(0), INDEX);
        call("units of none", () -> x.deliveredUnits(0), INDEX);
        x.order(0, 3, 50);
        x.order(1, 5, 40);
        x.blend(1, 0, 17);
        x.blend(1, 1, 1);
        x.blend(1, 0, 24);
        x.pass(1);
        StringBuilder all = new StringBuilder();
        for (int i = 0; i < x.deliveries(); i++) {
            all.append(x.deliveredBrew(i)).append('/').append(x.deliveredOrder(i)).append('/')
                    .append(x.deliveredUnits(i)).append(' ');
        }
        is("each part in its order, each brew by rising numbers", all.toString(),
                "1/1/5 0/1/17 1/1/1 0/1/3 2/1/20 3/1/1 3/0/3 ");
        for (int bad : new int[] {-1, 7, Integer.MIN_VALUE, Integer.MAX_VALUE}) {
            call("deliveredBrew " + bad, () -> x.deliveredBrew(bad), INDEX);
            call("deliveredOrder " + bad, () -> x.deliveredOrder(bad), INDEX);
            call("deliveredUnits " + bad, () -> x.deliveredUnits(bad), INDEX);
        }
    }
}
