/** The terms: what is done when a day passes, forecasts, and exceptions. */
final class DaysSentences extends Bench {
    static void addTo(Sentences all) {
        all.in("Terms");
        all.says("The day is 0 at first.", DaysSentences::dayZero);
        all.says("When a day passes, the day increases by 1, and then the following is done.",
                DaysSentences::dayIncreasesFirst);
        all.says("First: each vessel that is being cleaned has one day less to go, and is clean if none is left.",
                DaysSentences::firstVesselsAreCleaned);
        all.says("Second: in the order of the brews, each one that ferments or matures has one day less to go, and has "
                + "fermented or is ready if none is left.", DaysSentences::secondBrewsGoOn);
        all.says("Third: in the order of the brews, each one that waits moves into the clean tank with the lowest "
                + "number, if there is one; if its recipe has no days for maturing, it is ready at once.",
                DaysSentences::thirdBrewsMove);
        all.says("Fourth: the open orders are looked at by rising due days, those with the same one by rising numbers; "
                + "each one is filled if it can be.", DaysSentences::fourthOrdersAreFilled);
        all.says("Fifth: as long as a crew is free, cleaning begins for the vessel that has been dirty for the longest "
                + "time; vessels that became dirty on the same day did so in the order of what is done.",
                DaysSentences::fifthCleaningBegins);
        all.says("Sixth: the recipes in the queue are looked at in their order; each one for which there are a clean "
                + "fermenter and yeast is started in the clean fermenter with the lowest number, and leaves the queue.",
                DaysSentences::sixthQueueIsStarted);
        all.says("The queue has at most 6 recipes.", DaysSentences::queueOfSix);
        all.says("Its forecast is the latest one of the days on which they would have fermented if they were started in "
                + "their order, each in the fermenter that is free first, of several the one with the lowest number.",
                DaysSentences::forecastIsLatestDay);
        all.says("For the forecast, a clean fermenter is free on the present day, one that is being cleaned when its "
                + "days to go have passed, a dirty one or one in which a brew waits 2 days after the present day, and "
                + "any other one 2 days after its brew has fermented; a recipe is started on the day on which its "
                + "fermenter is free, ferments as a brew does, and the fermenter is free again 2 days after that.",
                DaysSentences::forecastOfEachState);
        all.says("Orders, tanks, crews and yeast are left out.", DaysSentences::leftOutOfForecast);
        all.says("The best order of the queue is the one with the least forecast; of several, the one that has, at the "
                + "first place where they differ, the recipe with the lower number.", DaysSentences::bestOrder);
        all.says("A method that throws an exception changes nothing.", DaysSentences::exceptionsChangeNothing);
        all.says("If several exceptions apply, the one that is listed first is thrown.",
                DaysSentences::firstExceptionIsThrown);
    }

    private static void dayZero(Checks c) {
        c.equal("the day", new Hopyard().day(), 0);
        Hopyard x = brewery("f", 0, 1, 0);
        x.brew(0, 0);
        x.enqueue(0);
        c.equal("the day, no day having passed", x.day(), 0);
        c.answer("the day before", () -> x.order(0, 1, -1), ARGUMENT);
        c.answer("the first due day", () -> x.order(0, 1, 0), 0);
    }

    private static void dayIncreasesFirst(Checks c) {
        Hopyard x = brewery("ft", 0, 1, 0);
        x.order(0, 20, 1);
        x.brew(0, 0);
        x.pass(1);
        c.equal("by 1", x.day(), 1);
        c.equal("an order is filled on the new day", x.filledOn(0), 1);
        c.equal("in time", x.onTime(), 1f);
        c.equal("the fermenter is clean 2 days after the new day", x.cleanDay(0), 3);
        x.pass(10);
        c.equal("the harvest was on the new day", x.pitches(0), 2);
        Hopyard y = brewery("f", 0, 1, 0);
        for (int day = 1; day <= 30; day++) {
            y.pass(1);
            c.equal("day by day", y.day(), day);
        }
        y.pass(30);
        c.equal("30 at once", y.day(), 60);
    }

    private static void firstVesselsAreCleaned(Checks c) {
        Hopyard x = brewery("fft", 0, 1, 0, 0, 5, 0);
        x.brew(0, 0);
        x.order(0, 20, 9);
        x.pass(1);
        c.equal("begun on day 1", states(x) + x.cleanDay(0), "gcd3");
        x.pass(1);
        c.equal("one day less to go", states(x) + x.cleanDay(0), "gcd3");
        x.pass(1);
        c.equal("none left, and the crew is free for the tank on that day", states(x) + x.cleanDay(2), "ccg4");
        x.brew(0, 0);
        x.pass(1);
        c.equal("the tank is clean before the brew moves, third", stages(x) + states(x), "xrgcu");

        Hopyard y = brewery("ft", 0, 1, 0);
        y.brew(0, 0);
        y.enqueue(0);
        y.pass(2);
        c.equal("not clean yet for the queue", y.queued(), 1);
        y.pass(1);
        c.equal("the fermenter is clean before the queue is started, sixth", y.queued() + states(y), "0uu");
    }

    private static void secondBrewsGoOn(Checks c) {
        Hopyard x = brewery("fft", 0, 2, 2, 0, 3, 0);
        x.brew(0, 0);
        x.brew(1, 1);
        x.pass(1);
        c.equal("each has one day less", stages(x) + x.daysToGo(0) + x.daysToGo(1), "ff12");
        x.pass(1);
        c.equal("fermented, and moved, with all its days to go", stages(x) + x.daysToGo(0) + x.daysToGo(1), "mf21");
        x.pass(1);
        c.equal("one day less, and the other one waits", stages(x) + x.daysToGo(0), "mw1");
        x.order(0, 20, 9);
        x.pass(1);
        c.equal("ready before orders are filled, fourth", stages(x) + x.filledOn(0), "xw4");

        Hopyard y = brewery("f", 0, 1, 0);
        y.enqueue(0);
        y.pass(1);
        c.equal("a brew that is started on this day has all its days", stages(y) + y.daysToGo(0), "f1");

        Hopyard z = brewery("fffff", 0, 1, 0, 0, 13, 0, 0, 14, 0);
        z.brew(0, 4);
        z.brew(2, 3);
        z.pass(1);
        z.brew(1, 0);
        z.pass(13);
        c.equal("in the order of the brews, not of the vessels", z.nextGeneration(0), 1);
    }

    private static void thirdBrewsMove(Checks c) {
        Hopyard x = brewery("fffttf", 0, 1, 3, 0, 1, 0);
        x.brew(0, 2);
        x.brew(1, 1);
        x.brew(0, 0);
        x.pass(1);
        c.equal("in the order of the brews, into the lowest tank", x.vesselOf(0) + " " + x.vesselOf(1), "3 4");
        c.equal("matures, ready at once, waits", stages(x), "mrw");
        c.equal("the one that waits stays in its fermenter", x.vesselOf(2) + states(x), "0udguuc");
        x.order(1, 20, 9);
        x.pass(1);
        c.equal("not into a tank that is left on this day", stages(x) + states(x), "mxwudgudc");
        x.setCrews(3);
        x.pass(1);
        c.equal("nor into one that is dirty on this day at first", stages(x) + states(x), "mxwugcugc");
        x.pass(1);
        c.equal("but on the day on which it is clean", stages(x) + states(x), "rxmggcuuc");

        Hopyard y = brewery("fft", 0, 1, 0, 0, 1, 1);
        y.setCrews(2);
        y.brew(0, 1);
        y.brew(1, 0);
        y.order(0, 20, 9);
        y.pass(1);
        c.equal("no days for maturing: filled on the same day", stages(y) + statuses(y), "xwf");
        y.pass(1);
        c.equal("a day for maturing", stages(y) + y.daysToGo(1), "xm1");
    }

    private static void fourthOrdersAreFilled(Checks c) {
        Hopyard x = ready(1);
        x.order(0, 9, 12);
        x.order(0, 9, 11);
        x.order(0, 9, 11);
        x.order(0, 25, 10);
        x.order(0, 2, 50);
        x.order(0, 1, 13);
        c.equal("filled", x.pass(1) + statuses(x), "3offoof");
        c.equal("by rising due days, then by numbers", deliveriesOf(x), "0/1/9 0/2/9 0/5/1");

        Hopyard y = ready(1);
        y.order(0, 11, 9);
        y.order(0, 11, 9);
        c.equal("the lower number of the same due day", y.pass(1) + statuses(y), "1fo");

        Hopyard z = ready(1);
        z.order(0, 20, 9);
        z.order(0, 20, 8);
        z.cancel(1);
        z.order(0, 20, 10);
        c.equal("open orders alone", z.pass(1) + statuses(z), "1fco");
        c.equal("after its due day too", lateOrder().filledOn(0), 12);
    }

    /** The order is due on day 0, but its brew is ready on day 12. */
    private static Hopyard lateOrder() {
        Hopyard x = brewery("ft", 0, 5, 7);
        x.order(0, 20, 0);
        x.brew(0, 0);
        x.pass(20);
        return x;
    }

    private static void fifthCleaningBegins(Checks c) {
        Hopyard x = brewery("fffttt", 0, 2, 0, 0, 1, 0, 0, 3, 0);
        x.setCrews(0);
        x.brew(0, 0);
        x.brew(1, 1);
        x.brew(2, 2);
        x.pass(3);
        c.equal("dirty, on days 2, 1 and 3", states(x), "ddduuu");
        x.setCrews(1);
        x.pass(1);
        c.equal("the one of day 1", states(x), "dgduuu");
        x.pass(2);
        c.equal("the one of day 2, on the day on which the crew is free", states(x), "gcduuu");
        x.setCrews(2);
        x.pass(1);
        c.equal("the one of day 3, by the second crew", states(x), "gcguuu");
        Hopyard w = brewery("fffftttt", 0, 1, 0);
        w.setCrews(3);
        for (int i = 0; i < 4; i++) {
            w.brew(0, i);
        }
        w.pass(1);
        c.equal("as long as a crew is free: three on one day", states(w), "gggduuuu");

        Hopyard y = brewery("tffft", 0, 1, 0);
        y.setCrews(0);
        y.brew(0, 3);
        y.brew(0, 1);
        y.order(0, 20, 9);
        y.pass(1);
        c.equal("dirty on one day: fermenters 3 and 1, third, and tank 0, fourth", states(y), "ddcdu");
        y.setCrews(1);
        y.pass(1);
        c.equal("the fermenter whose brew moved first", states(y), "ddcgu");
        y.pass(2);
        c.equal("then the other fermenter", states(y), "dgccu");
        y.pass(2);
        c.equal("then the tank", states(y), "gcccu");

        Hopyard z = brewery("ftt", 0, 1, 0);
        z.brew(0, 0);
        z.pass(3);
        z.brew(0, 0);
        z.pass(3);
        z.setCrews(0);
        z.order(0, 20, 50);
        z.blend(0, 0, 20);
        z.pass(1);
        z.setCrews(1);
        z.pass(1);
        c.equal("tanks that were drained on one day, by the order of the deliveries", states(z), "cgd");
        c.equal("by the order of the orders", states(drainedByDueDay()), "cdg");
    }

    /** The tank 2 was drained for the order that is due first, tank 1 for the other one. */
    private static Hopyard drainedByDueDay() {
        Hopyard x = brewery("ftt", 0, 1, 0, 0, 1, 0);
        for (int recipe = 0; recipe < 2; recipe++) {
            x.brew(recipe, 0);
            x.pass(3);
        }
        x.order(0, 20, 51);
        x.order(1, 20, 50);
        x.pass(1);
        return x;
    }

    private static void sixthQueueIsStarted(Checks c) {
        Hopyard x = dry("tfff", 0, 5, 0, 1, 5, 0, 2, 1, 0);
        enqueueAll(x, 1, 0, 1, 0, 0, 2);
        x.pass(1);
        c.equal("none without yeast", queueOf(x) + states(x), "101002cccc");
        x.addPacks(0, 2);
        c.equal("none before a day has passed", queueOf(x), "101002");
        x.pass(1);
        c.equal("those with yeast, in the lowest fermenters", queueOf(x) + states(x), "1102cuuc");
        c.equal("with all their days to go", x.daysToGo(0) + " " + x.daysToGo(1), "5 5");
        c.equal("in their order", x.recipeOf(0) + " " + x.brewIn(1) + " " + x.brewIn(2), "0 0 1");
        x.addPacks(0, 9);
        x.addPacks(1, 9);
        x.addPacks(2, 9);
        x.pass(1);
        c.equal("the first, in the last fermenter", queueOf(x) + states(x) + x.recipeOf(2), "102cuuu1");
        x.pass(3);
        c.equal("none without a clean fermenter", queueOf(x), "102");

        Hopyard y = dry("ff", 0, 1, 0);
        y.addPacks(0, 1);
        enqueueAll(y, 0, 0);
        y.pass(1);
        c.equal("one pack, one brew", y.brews() + " " + y.queued(), "1 1");
        y.pass(1);
        c.equal("the pitches of this day are there", y.brews() + " " + y.generation(1), "2 1");

        Hopyard z = dry("ff", 0, 1, 0);
        z.addPacks(0, 1);
        z.brew(0, 0);
        z.pass(11);
        z.enqueue(0);
        z.pass(1);
        c.equal("no yeast: the pitches are in their eleventh day", z.queued() + " " + z.pitches(0), "1 0");
    }

    private static void queueOfSix(Checks c) {
        Hopyard x = brewery("", 0, 1, 0, 1, 1, 0);
        enqueueAll(x, 0, 1, 0, 1, 1);
        c.answer("a sixth one", () -> x.enqueue(1), 6);
        c.answer("a seventh one", () -> x.enqueue(0), STATE);
        c.equal("six", x.queued() + queueOf(x), "6010111");
        x.withdraw(0);
        c.answer("a sixth one again", () -> x.enqueue(0), 6);
        c.equal("six again", x.queued() + queueOf(x), "6101110");
    }

    private static int forecastOf(Hopyard x, int... recipes) {
        enqueueAll(x, recipes);
        return x.forecast();
    }

    private static void forecastIsLatestDay(Checks c) {
        int[] recipes = {0, 3, 9, 1, 2, 9, 0, 14, 9};
        c.equal("the latest, which is the first", forecastOf(brewery("ff", recipes), 2, 1), 14);
        c.equal("the latest, which is the last", forecastOf(brewery("ff", recipes), 1, 2), 14);
        c.equal("in their order", forecastOf(brewery("ff", recipes), 0, 1, 2), 2 + 2 + 15);
        c.equal("in the one that is free first", forecastOf(brewery("ff", recipes), 0, 1, 1), 2 + 2 + 2);
        c.equal("behind the same strain in the one that is free first", forecastOf(brewery("ff", recipes), 1, 0, 1),
                2 + 2 + 2);
        c.equal("of several, the lowest number", forecastOf(brewery("ff", 0, 2, 0, 1, 2, 0), 1, 0, 0), 2 + 2 + 3);
        c.equal("of several, the lowest number, behind its own strain",
                forecastOf(brewery("ff", 0, 2, 0, 1, 2, 0), 1, 0, 1, 0), 2 + 2 + 2);
        c.equal("of several, the lowest number, behind the strains of brews", forecastOf(behindZeroAndOne(), 1), 8 + 3);
        c.equal("then the next number", forecastOf(behindZeroAndOne(), 0, 1), 8 + 2);
        c.equal("in no tank", forecastOf(brewery("tft", recipes), 0, 0), 3 + 2 + 3);
        c.equal("six in one", forecastOf(brewery("f", recipes), 0, 0, 0, 0, 0, 0), 6 * 3 + 5 * 2);
        c.equal("six in eight", forecastOf(brewery("ffffffff", recipes), 2, 2, 2, 2, 2, 2), 14);
        Hopyard late = brewery("tftf", recipes);
        late.pass(30);
        c.equal("from the present day", forecastOf(late, 0), 33);
    }

    /** On day 8 in two clean fermenters, the first one behind a brew of strain 0, the second one of strain 1. */
    private static Hopyard behindZeroAndOne() {
        Hopyard x = brewery("fftt", 0, 2, 0, 1, 2, 0);
        x.brew(0, 0);
        x.brew(1, 1);
        x.pass(8);
        return x;
    }

    private static void forecastOfEachState(Checks c) {
        int[] recipes = {0, 4, 9, 1, 4, 9};
        c.equal("clean", forecastOf(brewery("f", recipes), 0), 4);
        c.equal("behind another strain of the queue", forecastOf(brewery("f", recipes), 0, 1), 4 + 2 + 5);
        c.equal("then behind its own strain", forecastOf(brewery("f", recipes), 0, 1, 1), 4 + 2 + 5 + 2 + 4);
        Hopyard x = brewery("ft", recipes);
        x.brew(0, 0);
        c.equal("it ferments, 4 days to go", forecastOf(x, 0), 4 + 2 + 4);
        x.pass(3);
        c.equal("it ferments, 1 day to go", x.forecast(), 4 + 2 + 4);
        x.withdraw(0);
        x.pass(1);
        c.equal("being cleaned, 2 days to go", forecastOf(x, 0), 6 + 4);
        x.withdraw(0);
        x.pass(1);
        c.equal("being cleaned, 1 day to go", forecastOf(x, 0), 6 + 4);
        c.equal("free again 2 days after that", forecastOf(x, 0), 6 + 4 + 2 + 4);
        c.equal("as a brew does, behind another strain", forecastOf(x, 1), 6 + 4 + 2 + 4 + 2 + 5);
        Hopyard y = brewery("ft", recipes);
        y.setCrews(0);
        y.brew(0, 0);
        y.pass(4);
        c.equal("dirty since this day", y.state(0) + " " + forecastOf(y, 0), "d " + (4 + 2 + 4));
        y.withdraw(0);
        y.pass(6);
        c.equal("dirty for some days", forecastOf(y, 0), 10 + 2 + 4);
        Hopyard z = brewery("f", recipes);
        z.brew(0, 0);
        z.pass(4);
        c.equal("a brew waits in it", z.stage(0) + " " + forecastOf(z, 0), "w " + (4 + 2 + 4));
        z.pass(3);
        c.equal("a brew waits in it for days", z.forecast(), 7 + 2 + 4);
        z.withdraw(0);
        c.equal("behind the other strain of the brew that waits", forecastOf(z, 1), 7 + 2 + 5);
        Hopyard cleaned = brewery("ft", recipes);
        cleaned.brew(0, 0);
        cleaned.pass(6);
        c.equal("clean again, behind another strain", cleaned.state(0) + " " + forecastOf(cleaned, 1), "c 11");
    }

    private static void leftOutOfForecast(Checks c) {
        Hopyard x = dry("f", 0, 3, 5);
        enqueueAll(x, 0, 0);
        c.equal("without yeast and tanks", x.forecast(), 3 + 2 + 3);
        x.setCrews(0);
        c.equal("without crews", x.forecast(), 3 + 2 + 3);
        x.addPacks(0, 9);
        x.addVessel('t');
        x.setCrews(3);
        x.order(0, 40, 99);
        c.equal("with all of them, and an order", x.forecast(), 3 + 2 + 3);

        Hopyard y = brewery("fft", 0, 3, 5);
        y.setCrews(0);
        y.brew(0, 0);
        y.pass(1);
        y.brew(0, 1);
        y.pass(3);
        c.equal("one dirty, one with a brew that waits", states(y) + stages(y), "duumw");
        c.equal("dirty without crews, full without a tank", forecastOf(y, 0, 0), 4 + 2 + 3);
    }

    private static String best(Hopyard x, int... recipes) {
        enqueueAll(x, recipes);
        int byTrying = x.bestForecastByTrying();
        int bySearch = x.bestForecast();
        x.improve();
        return queueOf(x) + " " + x.forecast() + " " + bySearch + " " + byTrying;
    }

    private static void bestOrder(Checks c) {
        c.equal("one", best(brewery("f", 0, 3, 0), 0), "0 3 3 3");
        c.equal("the least forecast", best(brewery("ff", 0, 1, 0, 1, 9, 0), 0, 0, 1), "010 9 9 9");
        c.equal("of several, the lower number", best(brewery("f", 0, 3, 0, 0, 3, 0, 0, 3, 0), 2, 1, 0, 2, 1, 0),
                "001122 28 28 28");
        c.equal("the same if it is the order that the queue has", best(brewery("f", 0, 3, 0, 0, 3, 0), 0, 0, 1),
                "001 13 13 13");
        c.equal("a higher number at first, as it is needed", best(behindStrainOne(), 0, 1, 0), "100 19 19 19");
        c.equal("the lower number at the first place where they differ",
                best(brewery("fff", 0, 2, 0, 0, 3, 0, 0, 4, 0), 2, 1, 0), "012 4 4 4");
        c.equal("two strains in two fermenters", best(brewery("ff", 0, 2, 0, 1, 2, 0), 1, 1, 0, 0, 1, 0),
                "010101 10 10 10");
    }

    /** On day 3 in one fermenter, being cleaned for two more days after a brew of strain 1. */
    private static Hopyard behindStrainOne() {
        Hopyard x = brewery("ft", 0, 3, 0, 1, 3, 0);
        x.brew(1, 0);
        x.pass(3);
        return x;
    }

    // Exceptions.

    /** On day 2: order 0 is filled, 1 open, 2 cancelled; brew 0 is ready, 1 ferments; recipe 2 has no yeast. */
    private static Hopyard busy() {
        Hopyard x = dry("fffftt", 0, 1, 0, 1, 4, 3, 2, 1, 0);
        x.addPacks(0, 9);
        x.addPacks(1, 9);
        x.brew(0, 0);
        x.brew(1, 1);
        x.brew(0, 2);
        x.order(0, 5, 9);
        x.pass(2);
        x.order(0, 40, 9);
        x.blend(1, 1, 2);
        x.order(1, 3, 20);
        x.cancel(2);
        enqueueAll(x, 1, 0);
        return x;
    }

    /** Five recipes, eight vessels, six in the queue, twenty orders, the first with four parts. */
    private static Hopyard full() {
        Hopyard x = brewery("fffftttt", 0, 1, 0, 1, 1, 0, 2, 1, 0, 3, 1, 0, 0, 2, 0);
        enqueueAll(x, 0, 1, 2, 3, 4, 0);
        for (int i = 0; i < 20; i++) {
            x.order(i % 5, 1, 9);
        }
        for (int i = 0; i < 3; i++) {
            x.blend(0, i, 1);
        }
        return x;
    }

    private static void exceptionsChangeNothing(Checks c) {
        Change[] changes = {x -> x.addRecipe(4, 1, 0), x -> x.addRecipe(0, 0, 0), x -> x.addRecipe(0, 1, 15),
            x -> x.addVessel('x'), x -> x.setCrews(4), x -> x.addPacks(0, 10), x -> x.addPacks(4, 1),
            x -> x.pass(0), x -> x.pass(31), x -> x.order(0, 0, 9), x -> x.order(0, 1, 1),
            x -> x.blend(1, 0, 41)};
        for (int i = 0; i < changes.length; i++) {
            refused(c, "an argument, " + i, DaysSentences::busy, ARGUMENT, changes[i]);
        }
        Change[] indexes = {x -> x.brew(3, 3), x -> x.brew(0, 6), x -> x.enqueue(3), x -> x.order(3, 1, 9),
            x -> x.blend(3, 0, 1), x -> x.blend(1, 3, 1), x -> x.cancel(3)};
        for (int i = 0; i < indexes.length; i++) {
            refused(c, "an index, " + i, DaysSentences::busy, INDEX, indexes[i]);
        }
        refused(c, "a brew in a tank", DaysSentences::busy, UNSUPPORTED, x -> x.brew(0, 4));
        Change[] busyStates = {x -> x.brew(0, 0), x -> x.brew(0, 1), x -> x.brew(0, 2), x -> x.blend(0, 0, 1),
            x -> x.blend(2, 0, 1), x -> x.cancel(0), x -> x.cancel(2), x -> x.filledOn(1)};
        for (int i = 0; i < busyStates.length; i++) {
            refused(c, "a state, " + i, DaysSentences::busy, STATE, busyStates[i]);
        }
        Change[] fullStates = {x -> x.addRecipe(0, 1, 0), x -> x.addVessel('f'), x -> x.enqueue(0),
            x -> x.order(0, 1, 9), x -> x.blend(0, 0, 1)};
        for (int i = 0; i < fullStates.length; i++) {
            refused(c, "full, " + i, DaysSentences::full, STATE, fullStates[i]);
        }
        Change[] none = {x -> x.brew(2, 3), x -> x.withdraw(2), x -> x.withdraw(-1), x -> x.nextGeneration(2),
            x -> x.brewIn(3), x -> x.cleanDay(3), x -> x.daysToGo(0)};
        for (int i = 0; i < none.length; i++) {
            refused(c, "none, " + i, DaysSentences::busy, NONE, none[i]);
        }
        refused(c, "an empty queue", () -> ready(1), NONE, Hopyard::improve);
        refused(c, "30 brews, by hand", () -> thirty(0), STATE, x -> x.brew(0, 0));
        refused(c, "30 brews, the queue", () -> thirty(1), STATE, x -> x.enqueue(0));
    }

    private static void first(Checks c, String what, Maker maker, Change call, Class<?> due) {
        c.answer(what, () -> call.make(maker.make()), due);
    }

    private static void firstExceptionIsThrown(Checks c) {
        Maker full = DaysSentences::full;
        Maker busy = DaysSentences::busy;
        first(c, "addRecipe: a strain, and 5 recipes", full, x -> x.addRecipe(4, 1, 0), ARGUMENT);
        first(c, "addRecipe: days for fermenting, and 5 recipes", full, x -> x.addRecipe(0, 0, 0), ARGUMENT);
        first(c, "addRecipe: days for maturing, and 5 recipes", full, x -> x.addRecipe(0, 1, -1), ARGUMENT);
        first(c, "addVessel: a kind, and 8 vessels", full, x -> x.addVessel('x'), ARGUMENT);
        first(c, "nextGeneration: a strain, and no yeast", Hopyard::new, x -> x.nextGeneration(4), ARGUMENT);
        first(c, "brew: a recipe, and a tank", busy, x -> x.brew(3, 4), INDEX);
        first(c, "brew: a recipe, and no clean vessel", busy, x -> x.brew(3, 0), INDEX);
        first(c, "brew: a recipe, and 30 brews", () -> thirty(0), x -> x.brew(2, 0), INDEX);
        first(c, "brew: a vessel, and 30 brews", () -> thirty(0), x -> x.brew(0, 8), INDEX);
        first(c, "brew: a vessel, and no yeast", busy, x -> x.brew(2, 6), INDEX);
        first(c, "brew: a tank in use", busy, x -> x.brew(0, 4), UNSUPPORTED);
        first(c, "brew: a tank, and 30 brews", () -> thirty(0), x -> x.brew(0, 4), UNSUPPORTED);
        first(c, "brew: a tank, and no yeast", busy, x -> x.brew(2, 4), UNSUPPORTED);
        first(c, "brew: no clean vessel, and no yeast", busy, x -> x.brew(2, 0), STATE);
        first(c, "brew: 30 brews, and no yeast", () -> thirty(0), x -> x.brew(1, 0), STATE);
        first(c, "enqueue: a recipe, and 6 in the queue", full, x -> x.enqueue(5), INDEX);
        first(c, "enqueue: a recipe, and 30 brews", () -> thirty(0), x -> x.enqueue(2), INDEX);
        first(c, "order: a recipe, and units", busy, x -> x.order(3, 0, 9), INDEX);
        first(c, "order: a recipe, and a due day", busy, x -> x.order(3, 1, 1), INDEX);
        first(c, "order: a recipe, and 20 orders", full, x -> x.order(5, 1, 9), INDEX);
        first(c, "order: units, and 20 orders", full, x -> x.order(0, 41, 9), ARGUMENT);
        first(c, "order: a due day, and 20 orders", full, x -> x.order(0, 1, 100), ARGUMENT);
        first(c, "blend: an order, and units", busy, x -> x.blend(3, 0, 0), INDEX);
        first(c, "blend: a recipe, and units", busy, x -> x.blend(1, 3, 0), INDEX);
        first(c, "blend: a recipe, and a filled order", busy, x -> x.blend(0, 3, 1), INDEX);
        first(c, "blend: a recipe, and 4 parts", full, x -> x.blend(0, 5, 1), INDEX);
        first(c, "blend: units, and a filled order", busy, x -> x.blend(0, 0, 0), ARGUMENT);
        first(c, "blend: units, and a cancelled order", busy, x -> x.blend(2, 0, 41), ARGUMENT);
        first(c, "blend: units, and 4 parts", full, x -> x.blend(0, 0, 0), ARGUMENT);
    }
}
