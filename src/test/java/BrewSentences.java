import java.util.Arrays;

/** Promises 8 to 16: brews and the queue. */
final class BrewSentences extends Bench {
    // Strain, days for fermenting and days for maturing of five recipes each.
    private static final int[] LONG_LAST = {0, 3, 0, 1, 5, 0, 2, 7, 0, 3, 2, 0, 0, 14, 0};
    private static final int[][] FIVES = {{0, 7, 0, 1, 6, 0, 2, 5, 0, 3, 4, 0, 0, 3, 0},
        {0, 3, 0, 1, 9, 0, 0, 5, 0, 1, 4, 0, 0, 8, 0}, {2, 4, 0, 3, 3, 0, 2, 3, 0, 3, 6, 0, 1, 7, 0},
        {0, 1, 0, 1, 2, 0, 0, 3, 0, 1, 4, 0, 2, 9, 0}};

    static void addTo(Sentences all) {
        all.in("Promise 8");
        all.says("Starts a brew by hand.", BrewSentences::brewIsStarted);
        all.says("Returns the number of the brew.", BrewSentences::brewNumber);
        all.says("Throws `IndexOutOfBoundsException` if there is no such recipe or vessel",
                BrewSentences::brewOfNoRecipeOrVessel);
        all.says("Throws `UnsupportedOperationException` if the vessel is a tank", BrewSentences::brewInTank);
        all.says("Throws `IllegalStateException` if the vessel is not clean, or the brews and the recipes in the queue "
                + "together are 30", BrewSentences::brewInNoCleanVesselOrTooMany);
        all.says("Throws `NoSuchElementException` if there is no yeast", BrewSentences::brewWithoutYeast);
        all.in("Promise 9");
        all.says("Puts a recipe at the end of the queue.", BrewSentences::recipeIsQueued);
        all.says("Returns the number of recipes in the queue.", BrewSentences::numberAfterEnqueue);
        all.says("Throws `IndexOutOfBoundsException` if there is no such recipe", BrewSentences::enqueueNoRecipe);
        all.says("Throws `IllegalStateException` if there are 6, or the brews and the recipes in the queue together "
                + "are 30", BrewSentences::queueIsFull);
        all.in("Promise 10");
        all.says("Takes a recipe out of the queue; its recipes are counted from 0.", BrewSentences::recipeIsWithdrawn);
        all.says("Returns the number of the recipe.", BrewSentences::withdrawnRecipe);
        all.says("Throws `NoSuchElementException` if there is no such one", BrewSentences::withdrawNone);
        all.in("Promise 11");
        all.says("Returns the number of recipes in the queue.", BrewSentences::queued);
        all.repeats("Returns the number of recipes.");
        all.in("Promise 12");
        all.says("Returns a recipe in the queue.", BrewSentences::queuedAt);
        all.repeats("Returns the number of the recipe.");
        all.says("Throws `NoSuchElementException` if there is no such one", BrewSentences::queuedAtNone);
        addForecastsTo(all);
    }

    private static void addForecastsTo(Sentences all) {
        String refused = "Throws `NoSuchElementException` if the queue is empty, or there is no fermenter";
        all.in("Promise 13");
        all.says("Returns the forecast of the queue.", BrewSentences::forecast);
        all.repeats("Returns the day.");
        all.says(refused, c -> needsQueueAndFermenter(c, Hopyard::forecast));
        all.in("Promise 14");
        all.says("Returns the forecast of the best order of the queue, found by orders that are given up early.",
                c -> findsBest(c, Hopyard::bestForecast));
        all.repeats("Returns the day.");
        all.says(refused, c -> needsQueueAndFermenter(c, Hopyard::bestForecast));
        all.in("Promise 15");
        all.says("Returns the same forecast, found by trying all orders.",
                c -> findsBest(c, Hopyard::bestForecastByTrying));
        all.repeats("Returns the day.");
        all.says(refused, c -> needsQueueAndFermenter(c, Hopyard::bestForecastByTrying));
        all.in("Promise 16");
        all.says("Gives the queue its best order.", BrewSentences::queueGetsBestOrder);
        all.says("Returns by how many days the forecast became earlier.", BrewSentences::daysGained);
        all.says(refused, c -> needsQueueAndFermenter(c, Hopyard::improve));
    }

    private static void brewIsStarted(Checks c) {
        Hopyard x = brewery("fft", 0, 5, 0, 2, 3, 2);
        x.brew(1, 1);
        c.equal("at once", x.day() + " " + x.brews(), "0 1");
        c.equal("in its vessel", states(x) + " " + x.brewIn(1) + " " + x.vesselOf(0), "cuc 0 1");
        c.equal("of its recipe", x.recipeOf(0), 1);
        c.equal("ferments for its days", x.stage(0) + " " + x.daysToGo(0), "f 3");
        c.equal("has taken a pack of its strain", x.addPacks(2, 1), 9);
        c.equal("and none of another", x.addPacks(0, 1), 10);
    }

    private static void brewNumber(Checks c) {
        Hopyard x = brewery("ffff", 0, 5, 0);
        c.answer("the first", () -> x.brew(0, 2), 0);
        c.answer("the second", () -> x.brew(0, 0), 1);
        c.answer("a refused one", () -> x.brew(0, 0), STATE);
        x.enqueue(0);
        x.pass(1);
        c.answer("the fourth, the third one being from the queue", () -> x.brew(0, 3), 3);
        c.equal("the one from the queue", x.brewIn(1), 2);
    }

    private static void brewOfNoRecipeOrVessel(Checks c) {
        refused(c, "no recipe and no vessel at all", Hopyard::new, INDEX, x -> x.brew(0, 0));
        refused(c, "no recipe at all", () -> brewery("f"), INDEX, x -> x.brew(0, 0));
        refused(c, "no vessel at all", () -> brewery("", 0, 1, 0), INDEX, x -> x.brew(0, 0));
        Maker maker = () -> brewery("ftf", 0, 1, 0, 1, 1, 0);
        outside(c, "recipe", 0, 1, maker, INDEX, (x, recipe) -> x.brew(recipe, 0));
        outside(c, "vessel", 0, 2, maker, INDEX, (x, vessel) -> x.brew(0, vessel));
        inside(c, "recipe", 0, 1, maker, (x, recipe) -> x.brew(recipe, 0));
        taken(c, "the first vessel", maker, x -> x.brew(0, 0));
        taken(c, "the last vessel", maker, x -> x.brew(0, 2));
    }

    private static Hopyard drainedTank(int crews) {
        Hopyard x = ready(1);
        x.setCrews(crews);
        x.order(0, 20, 9);
        x.pass(1);
        return x;
    }

    private static void brewInTank(Checks c) {
        refused(c, "a clean tank", () -> brewery("ft", 0, 1, 0), UNSUPPORTED, x -> x.brew(0, 1));
        refused(c, "a tank in use", () -> ready(1), UNSUPPORTED, x -> x.brew(0, 1));
        refused(c, "a dirty tank", () -> drainedTank(0), UNSUPPORTED, x -> x.brew(0, 1));
        refused(c, "a tank that is being cleaned", () -> drainedTank(1), UNSUPPORTED, x -> x.brew(0, 1));
        taken(c, "a fermenter", () -> ready(1), x -> x.brew(0, 0));
    }

    /** Fermenter 0 had a brew, which has left it on day 1. */
    private static Hopyard leftFermenter(int crews, int days) {
        Hopyard x = brewery("ft", 0, 1, 0);
        x.setCrews(crews);
        x.brew(0, 0);
        x.pass(days);
        return x;
    }

    private static void brewInNoCleanVesselOrTooMany(Checks c) {
        Maker ferments = () -> {
            Hopyard x = brewery("f", 0, 1, 0);
            x.brew(0, 0);
            return x;
        };
        Maker waits = () -> {
            Hopyard x = ferments.make();
            x.pass(3);
            return x;
        };
        refused(c, "a brew ferments in it", ferments, STATE, x -> x.brew(0, 0));
        refused(c, "a brew waits in it", waits, STATE, x -> x.brew(0, 0));
        refused(c, "a dirty one", () -> leftFermenter(0, 9), STATE, x -> x.brew(0, 0));
        refused(c, "being cleaned, two days to go", () -> leftFermenter(1, 1), STATE, x -> x.brew(0, 0));
        refused(c, "being cleaned, one day to go", () -> leftFermenter(1, 2), STATE, x -> x.brew(0, 0));
        taken(c, "a clean one", () -> leftFermenter(1, 3), x -> x.brew(0, 0));
        for (int queued : new int[] {0, 1, 3, 6}) {
            String what = 30 - queued + " brews and " + queued + " recipes";
            refused(c, what, () -> thirty(queued), STATE, x -> x.brew(0, 0));
        }
        for (int queued : new int[] {1, 3, 6}) {
            Hopyard x = thirty(queued);
            x.withdraw(0);
            c.answer("29 brews and recipes, " + (queued - 1) + " recipes", () -> x.brew(0, 0), 30 - queued);
        }
    }

    private static void brewWithoutYeast(Checks c) {
        refused(c, "none at all", () -> dry("f", 0, 1, 0), NONE, x -> x.brew(0, 0));
        Maker otherStrain = () -> {
            Hopyard x = dry("f", 0, 1, 0);
            x.addPacks(1, 9);
            return x;
        };
        refused(c, "yeast of another strain", otherStrain, NONE, x -> x.brew(0, 0));
        refused(c, "the last pack is used", () -> lastPackUsed(0), NONE, x -> x.brew(0, 1));
        taken(c, "a new pitch", () -> lastPackUsed(1), x -> x.brew(0, 1));
        taken(c, "a pitch on its tenth day", () -> lastPackUsed(11), x -> x.brew(0, 1));
        refused(c, "a pitch on its eleventh day", () -> lastPackUsed(12), NONE, x -> x.brew(0, 1));
    }

    private static Hopyard lastPackUsed(int days) {
        Hopyard x = dry("ff", 0, 1, 0);
        x.addPacks(0, 1);
        x.brew(0, 0);
        if (days > 0) {
            x.pass(days);
        }
        return x;
    }

    private static void recipeIsQueued(Checks c) {
        Hopyard x = brewery("f", 0, 1, 0, 1, 1, 0, 2, 1, 0);
        enqueueAll(x, 2, 0, 1);
        c.equal("one behind the other", queueOf(x), "201");
        x.enqueue(0);
        c.equal("at the end, a recipe that is there already", queueOf(x), "2010");
        x.withdraw(0);
        x.enqueue(2);
        c.equal("at the end, when the first has gone", queueOf(x), "0102");
        c.equal("no brew is started by that", x.brews() + states(x), "0c");
    }

    private static void numberAfterEnqueue(Checks c) {
        Hopyard x = dry("", 0, 1, 0);
        for (int i = 1; i <= 6; i++) {
            int number = i;
            c.answer("recipe " + i, () -> x.enqueue(0), number);
        }
        x.withdraw(0);
        x.withdraw(0);
        c.answer("the fifth again", () -> x.enqueue(0), 5);
    }

    private static void enqueueNoRecipe(Checks c) {
        refused(c, "no recipe at all", () -> brewery("f"), INDEX, x -> x.enqueue(0));
        Maker maker = () -> brewery("f", 0, 1, 0, 1, 1, 0);
        outside(c, "recipe", 0, 1, maker, INDEX, Hopyard::enqueue);
        inside(c, "recipe", 0, 1, maker, Hopyard::enqueue);
    }

    private static Hopyard queueOfSix(int withdrawn) {
        Hopyard x = brewery("f", 0, 1, 0);
        enqueueAll(x, 0, 0, 0, 0, 0, 0);
        for (int i = 0; i < withdrawn; i++) {
            x.withdraw(0);
        }
        return x;
    }

    private static void queueIsFull(Checks c) {
        refused(c, "a seventh one", () -> queueOfSix(0), STATE, x -> x.enqueue(0));
        taken(c, "a sixth one", () -> queueOfSix(1), x -> x.enqueue(0));
        for (int queued : new int[] {0, 1, 5, 6}) {
            String what = 30 - queued + " brews and " + queued + " recipes";
            refused(c, what, () -> thirty(queued), STATE, x -> x.enqueue(0));
        }
        for (int queued : new int[] {1, 5, 6}) {
            Hopyard x = thirty(queued);
            x.withdraw(0);
            c.answer("29 brews and recipes, " + (queued - 1) + " recipes", () -> x.enqueue(0), queued);
        }
    }

    private static Hopyard queue(int... recipes) {
        Hopyard x = brewery("f", 0, 1, 0, 1, 2, 0, 2, 3, 0, 3, 4, 0);
        enqueueAll(x, recipes);
        return x;
    }

    private static String queueWithout(int index, int... recipes) {
        Hopyard x = queue(recipes);
        x.withdraw(index);
        return queueOf(x);
    }

    private static void recipeIsWithdrawn(Checks c) {
        c.equal("the first one, of index 0", queueWithout(0, 3, 2, 1, 0), "210");
        c.equal("the second one", queueWithout(1, 3, 2, 1, 0), "310");
        c.equal("the last one", queueWithout(3, 3, 2, 1, 0), "321");
        c.equal("one of two that are the same", queueWithout(2, 3, 2, 3, 0), "320");
        c.equal("the only one", queueWithout(0, 3), "");
        Hopyard x = queue(3, 2);
        x.withdraw(0);
        x.pass(1);
        c.equal("what has been taken out is not started", x.brews() + " " + x.recipeOf(0), "1 2");
    }

    private static void withdrawnRecipe(Checks c) {
        c.answer("the first one", () -> queue(3, 2, 1, 0).withdraw(0), 3);
        c.answer("the second one", () -> queue(3, 2, 1, 0).withdraw(1), 2);
        c.answer("the last one", () -> queue(3, 2, 1, 0).withdraw(3), 0);
        Hopyard x = queue(1, 3);
        c.answer("the first of two", () -> x.withdraw(0), 1);
        c.answer("the first again", () -> x.withdraw(0), 3);
    }

    private static void withdrawNone(Checks c) {
        refused(c, "of an empty queue", () -> brewery("f", 0, 1, 0), NONE, x -> x.withdraw(0));
        outside(c, "index", 0, 2, () -> queue(1, 2, 3), NONE, Hopyard::withdraw);
        inside(c, "index", 0, 2, () -> queue(1, 2, 3), Hopyard::withdraw);
        outside(c, "index", 0, 5, () -> queueOfSix(0), NONE, Hopyard::withdraw);
    }

    private static void queued(Checks c) {
        c.equal("none", queue().queued(), 0);
        c.equal("one", queue(2).queued(), 1);
        Hopyard x = queueOfSix(0);
        c.equal("six", x.queued(), 6);
        x.withdraw(5);
        c.equal("five", x.queued(), 5);
        x.pass(1);
        c.equal("four, one being started", x.queued(), 4);
        c.answer("one refused", () -> x.enqueue(4), INDEX);
        c.equal("four still", x.queued(), 4);
    }

    private static void queuedAt(Checks c) {
        Hopyard x = queue(3, 0, 2, 1, 1, 2);
        c.equal("the first", x.queuedAt(0), 3);
        c.equal("the third", x.queuedAt(2), 2);
        c.equal("the last of six", x.queuedAt(5), 2);
        c.equal("they stay", x.queuedAt(0) + " " + x.queued(), "3 6");
    }

    private static void queuedAtNone(Checks c) {
        refused(c, "of an empty queue", () -> brewery("f", 0, 1, 0), NONE, x -> x.queuedAt(0));
        outside(c, "index", 0, 2, () -> queue(1, 2, 3), NONE, Hopyard::queuedAt);
        inside(c, "index", 0, 2, () -> queue(1, 2, 3), Hopyard::queuedAt);
        outside(c, "index", 0, 5, () -> queueOfSix(0), NONE, Hopyard::queuedAt);
    }

    // Forecasts.

    private static void forecast(Checks c) {
        Hopyard x = brewery("f", 0, 3, 14, 1, 2, 0);
        enqueueAll(x, 0);
        c.equal("one recipe", x.forecast(), 3);
        enqueueAll(x, 0);
        c.equal("two", x.forecast(), 3 + 2 + 3);
        enqueueAll(x, 1);
        c.equal("three, the last with another strain", x.forecast(), 3 + 2 + 3 + 2 + 3);
        c.equal("the queue and the day stay", queueOf(x) + " " + x.day() + " " + x.brews(), "001 0 0");
        x.withdraw(0);
        enqueueAll(x, 0);
        c.equal("in its own order, not the best", x.forecast(), 3 + 2 + 3 + 2 + 4);
    }

    private static void needsQueueAndFermenter(Checks c, Change forecast) {
        Maker noFermenter = () -> {
            Hopyard x = brewery("tt", 0, 1, 0);
            x.enqueue(0);
            return x;
        };
        Maker noVessel = () -> {
            Hopyard x = brewery("", 0, 1, 0);
            x.enqueue(0);
            return x;
        };
        Maker emptiedQueue = () -> {
            Hopyard x = queue(1);
            x.withdraw(0);
            return x;
        };
        refused(c, "a new brewery", Hopyard::new, NONE, forecast);
        refused(c, "an empty queue", () -> queue(), NONE, forecast);
        refused(c, "a queue that has become empty", emptiedQueue, NONE, forecast);
        refused(c, "no vessel", noVessel, NONE, forecast);
        refused(c, "tanks alone", noFermenter, NONE, forecast);
        taken(c, "one recipe and one fermenter", () -> queue(1), forecast);
    }

    private static void best(Checks c, Change call, String what, int want, Hopyard x, int... recipes) {
        enqueueAll(x, recipes);
        String before = queueOf(x);
        c.equal(what, call.make(x), want);
        c.equal(what + ", the queue stays", queueOf(x), before);
    }

    private static void findsBest(Checks c, Change call) {
        best(c, call, "one recipe", 3, brewery("f", 0, 3, 0), 0);
        best(c, call, "the same recipes", 3 + 5 + 5, brewery("f", 0, 3, 0), 0, 0, 0);
        best(c, call, "the long one at first", 9, brewery("ff", 0, 1, 0, 1, 9, 0), 0, 0, 1);
        best(c, call, "strain by strain", 3 + 5 + 6 + 5, brewery("f", 0, 3, 0, 1, 3, 0), 0, 1, 0, 1);
        best(c, call, "the highest number at first alone", 9 + 9, behindTheirStrains(), 0, 1, 2);
        best(c, call, "six in three fermenters", 14, brewery("fff", LONG_LAST), 3, 0, 1, 2, 3, 4);
        best(c, call, "six in one fermenter", 3 + 5 + 7 + 2 + 14 + 2 + 5 * 2 + 3, brewery("f", LONG_LAST),
                3, 0, 1, 2, 3, 4);
        Hopyard late = brewery("f", 0, 3, 0, 1, 3, 0);
        late.brew(1, 0);
        late.pass(1);
        best(c, call, "behind a brew of strain 1", 3 + 2 + 3 + 2 + 4, late, 0, 1);
        for (int[] recipes : FIVES) {
            int[] row = {4, 1, 0, 3, 2};
            int least = leastOf(() -> brewery("ff", recipes), new int[0], row);
            best(c, call, "five in two fermenters", least, brewery("ff", recipes), row);
        }
    }

    /** The least forecast of all orders that begin so, each one asked of a brewery of its own. */
    private static int leastOf(Maker maker, int[] begun, int[] rest) {
        if (rest.length == 0) {
            Hopyard x = maker.make();
            enqueueAll(x, begun);
            return x.forecast();
        }
        int least = Integer.MAX_VALUE;
        for (int i = 0; i < rest.length; i++) {
            int[] longer = Arrays.copyOf(begun, begun.length + 1);
            longer[begun.length] = rest[i];
            int[] others = Arrays.copyOf(rest, rest.length - 1);
            System.arraycopy(rest, i + 1, others, i, others.length - i);
            least = Math.min(least, leastOf(maker, longer, others));
        }
        return least;
    }

    /** On day 9; the fermenter 0 had a brew of recipe 2, and 1 one of recipe 1: each other order is a day later. */
    private static Hopyard behindTheirStrains() {
        Hopyard x = brewery("fftt", 0, 1, 0, 1, 5, 0, 2, 5, 0);
        x.brew(2, 0);
        x.brew(1, 1);
        x.pass(9);
        return x;
    }

    private static String improved(Hopyard x, int... recipes) {
        enqueueAll(x, recipes);
        x.improve();
        return queueOf(x);
    }

    private static void queueGetsBestOrder(Checks c) {
        c.equal("one", improved(brewery("f", 0, 3, 0), 0), "0");
        c.equal("the long one at first", improved(brewery("ff", 0, 1, 0, 1, 9, 0), 0, 0, 1), "010");
        c.equal("strain by strain", improved(brewery("f", 0, 3, 0, 1, 3, 0), 1, 0, 1, 0), "0011");
        c.equal("the highest number at first", improved(behindTheirStrains(), 0, 1, 2), "210");
        Hopyard x = brewery("f", 0, 3, 0, 1, 3, 0);
        enqueueAll(x, 1, 0, 1, 0);
        int best = x.bestForecast();
        x.improve();
        c.equal("the forecast is the best then", x.forecast(), best);
        x.pass(1);
        c.equal("the first of the new order is started", x.recipeOf(0) + " " + queueOf(x), "0 011");
    }

    private static int gained(Hopyard x, int... recipes) {
        enqueueAll(x, recipes);
        return x.improve();
    }

    private static void daysGained(Checks c) {
        c.equal("one can't be better", gained(brewery("f", 0, 3, 0), 0), 0);
        c.equal("13 to 9", gained(brewery("ff", 0, 1, 0, 1, 9, 0), 0, 0, 1), 4);
        Hopyard x = brewery("f", 0, 3, 0, 1, 3, 0);
        x.pass(30);
        c.equal("51 to 49", gained(x, 1, 0, 1, 0), 2);
        c.equal("the best order can't be better", x.improve(), 0);
        c.equal("another order that is no better", gained(brewery("f", 0, 3, 0, 0, 3, 0), 1, 0), 0);
    }
}
