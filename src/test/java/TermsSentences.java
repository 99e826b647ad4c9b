/** The terms: what recipes, vessels, yeast, brews and orders are. */
final class TermsSentences extends Bench {
    static void addTo(Sentences all) {
        all.in("What it is");
        all.says("An object is used for at most 512 calls after it has been made; what later calls answer is free.",
                TermsSentences::fiveHundredAndTwelveCalls);
        all.in("Terms");
        all.says("At most 5 recipes have the numbers 0 to n - 1 in the order in which they were added; a recipe has a "
                + "strain of yeast from 0 to 3, days for fermenting and days for maturing.",
                TermsSentences::fiveRecipes);
        all.says("At most 8 vessels have the numbers 0 to n - 1 in the order in which they were added; a vessel is a "
                + "fermenter or a tank.", TermsSentences::eightVessels);
        all.says("A vessel is clean at first.", TermsSentences::cleanAtFirst);
        all.says("It is in use when a brew is in it, dirty when a brew has left it, then it is being cleaned, and then "
                + "clean again.", TermsSentences::statesOfVessel);
        all.says("Cleaning takes 2 days for a fermenter and 1 day for a tank.", TermsSentences::daysForCleaning);
        all.says("There are crews, at first 1; not more vessels than that many are cleaned at the same time.",
                TermsSentences::crewsClean);
        all.says("For each strain there are packs, at first none, and pitches.", TermsSentences::yeastOfEachStrain);
        all.says("A pitch has a generation and the day on which it was harvested, and is usable up to the tenth day "
                + "after that one, this day included.", TermsSentences::tenthDay);
        all.says("The yeast for a brew is the usable pitch of its strain that was harvested first, of several the one "
                + "that came first, or else a pack, whose generation is 0; there is none if there is neither.",
                TermsSentences::yeastForBrew);
        all.says("The generation of a brew is that of its yeast.", TermsSentences::generationIsThatOfYeast);
        all.says("At most 30 brews have the numbers 0 to n - 1 in the order in which they were started; the brews and "
                + "the recipes in the queue together are never more.", TermsSentences::thirtyBrews);
        all.says("A brew takes yeast and is put into a clean fermenter, where it ferments for the days of its recipe, "
                + "and for one more day if there was a brew in this fermenter before and the last one had another "
                + "strain.", TermsSentences::oneMoreDay);
        all.says("When it has fermented, it waits, and two pitches are harvested, unless their generation, which is "
                + "greater by 1 than that of the brew, is greater than 4.", TermsSentences::twoPitches);
        all.says("Then it moves into a clean tank, where it matures for the days of its recipe, and then it is ready, "
                + "with 20 units.", TermsSentences::readyWithTwentyUnits);
        all.says("When all its units have been drawn, it is drained and leaves the tank.", TermsSentences::drained);
        addOrdersTo(all);
    }

    private static void addOrdersTo(Sentences all) {
        all.says("At most 20 orders have the numbers 0 to n - 1 in the order in which they came.",
                TermsSentences::twentyOrders);
        all.says("An order has a due day and parts, each of which is a number of units of a recipe.",
                TermsSentences::dueDayAndParts);
        all.says("Orders are filled when a day passes alone.", TermsSentences::filledByPassAlone);
        all.says("An order can be filled if there are enough units of ready brews for all its parts together; then, "
                + "for each part, in the order of the parts, units are drawn from the ready brews of the recipe by "
                + "rising numbers, and each time that units are drawn from a brew is a delivery.",
                TermsSentences::enoughForAllParts);
        all.says("Deliveries are numbered from 0.", TermsSentences::deliveriesFromZero);
    }

    private static void fiveHundredAndTwelveCalls(Checks c) {
        Hopyard x = new Hopyard();
        for (int i = 0; i < 510; i++) {
            x.pass(30);
        }
        c.answer("call 511", () -> x.pass(30), 0);
        c.answer("call 512", x::day, 511 * 30);

        Hopyard y = new Hopyard();
        for (int i = 0; i < 511; i++) {
            y.addPacks(0, 9);
        }
        c.answer("512 calls for packs", () -> y.addPacks(0, 9), 512 * 9);

        Hopyard z = brewery("ft", 0, 1, 0);
        for (int i = 7; i < 506; i++) {
            z.pass(30);
        }
        c.answer("call 507, a brew", () -> z.brew(0, 0), 0);
        c.answer("call 508, an order", () -> z.order(0, 20, 14970 + 99), 0);
        c.answer("call 509, a day", () -> z.pass(1), 1);
        c.answer("call 510, the day of the order", () -> z.filledOn(0), 14971);
        c.answer("call 511, the fermenter", () -> z.cleanDay(0), 14973);
        c.answer("call 512, the stage", () -> z.stage(0), 'x');
    }

    private static void fiveRecipes(Checks c) {
        Hopyard x = brewery("fffff");
        int[] strains = {3, 0, 1, 2, 0};
        for (int i = 0; i < 5; i++) {
            int number = i;
            c.answer("recipe " + i, () -> x.addRecipe(strains[number], number + 1, 0), number);
        }
        c.answer("a sixth one", () -> x.addRecipe(0, 6, 0), STATE);
        for (int i = 0; i < 5; i++) {
            x.brew(i, i);
            c.equal("the days of recipe " + i, x.daysToGo(i), i + 1);
        }
        c.answer("no recipe 5", () -> x.enqueue(5), INDEX);
        x.pass(4);
        c.equal("pitches by strains", "" + x.pitches(0) + x.pitches(1) + x.pitches(2) + x.pitches(3), "2222");
        x.pass(1);
        c.equal("the strain of recipe 4", x.pitches(0), 4);
    }

    private static void eightVessels(Checks c) {
        Hopyard x = dry("", 0, 1, 0);
        x.addPacks(0, 9);
        String kinds = "tfffttff";
        for (int i = 0; i < 8; i++) {
            int number = i;
            c.answer("vessel " + i, () -> x.addVessel(kinds.charAt(number)), number);
        }
        c.answer("a ninth one", () -> x.addVessel('f'), STATE);
        int brews = 0;
        for (int i = 0; i < 8; i++) {
            int number = i;
            c.answer("a brew in vessel " + i, () -> x.brew(0, number), kinds.charAt(i) == 'f' ? brews : UNSUPPORTED);
            brews += kinds.charAt(i) == 'f' ? 1 : 0;
        }
        c.answer("no vessel 8", () -> x.brew(0, 8), INDEX);
        x.pass(1);
        c.equal("all tanks are in use", "" + x.state(0) + x.state(4) + x.state(5), "uuu");
    }

    private static void cleanAtFirst(Checks c) {
        Hopyard x = new Hopyard();
        x.addRecipe(0, 1, 0);
        x.addPacks(0, 1);
        x.addVessel('f');
        c.equal("a fermenter", states(x), "c");
        c.answer("ready for a brew at once", () -> x.brew(0, 0), 0);
        x.addVessel('t');
        c.equal("a tank", states(x), "uc");
        x.pass(1);
        c.equal("ready for a brew at once", x.vesselOf(0), 1);
        x.addVessel('f');
        c.equal("a vessel that is added later", states(x), "guc");
    }

    private static void statesOfVessel(Checks c) {
        Hopyard x = brewery("fft", 0, 1, 1);
        x.setCrews(0);
        x.brew(0, 0);
        c.equal("the fermenter in use", states(x), "ucc");
        x.pass(1);
        c.equal("dirty, the tank in use", states(x), "dcu");
        x.setCrews(1);
        x.pass(1);
        c.equal("being cleaned, the tank in use", states(x), "gcu");
        x.pass(2);
        c.equal("clean again", states(x), "ccu");
        x.setCrews(0);
        x.order(0, 20, 9);
        x.pass(1);
        c.equal("the tank dirty", states(x), "ccd");
        x.setCrews(1);
        x.pass(1);
        c.equal("being cleaned", states(x), "ccg");
        x.pass(1);
        c.equal("clean again", states(x), "ccc");
        c.answer("a brew again", () -> x.brew(0, 0), 1);
        x.pass(1);
        c.equal("both again", states(x), "gcu");
        x.brew(0, 1);
        x.pass(1);
        c.equal("in use while a brew waits", x.stage(2) + states(x), "wguu");
    }

    private static void daysForCleaning(Checks c) {
        Hopyard x = brewery("ft", 0, 1, 0);
        x.order(0, 20, 9);
        x.brew(0, 0);
        x.setCrews(2);
        x.pass(1);
        c.equal("both begin on day 1", states(x) + x.cleanDay(0) + x.cleanDay(1), "gg32");
        x.pass(1);
        c.equal("1 day for a tank", states(x), "gc");
        x.pass(1);
        c.equal("2 days for a fermenter", states(x), "cc");
    }

    /** Four fermenters and four tanks become dirty on one day. */
    private static Hopyard eightDirty() {
        Hopyard x = brewery("fffftttt", 0, 1, 0);
        x.order(0, 40, 9);
        x.order(0, 40, 9);
        for (int i = 0; i < 4; i++) {
            x.brew(0, i);
        }
        return x;
    }

    private static void crewsClean(Checks c) {
        Hopyard one = eightDirty();
        one.pass(1);
        c.equal("one crew at first", states(one), "gddddddd");
        one.pass(1);
        c.equal("one crew, on the second day", states(one), "gddddddd");
        one.pass(1);
        c.equal("one crew, on the third day", states(one), "cgdddddd");
        c.equal("1 at first", one.setCrews(1), 1);
        String[][] due = {{"dddddddd", "dddddddd", "dddddddd", "dddddddd"},
            {"gddddddd", "gddddddd", "cgdddddd", "cgdddddd"}, {"ggdddddd", "ggdddddd", "ccggdddd", "ccggdddd"},
            {"gggddddd", "gggddddd", "cccgggdd", "cccgccgg"}};
        for (int crews = 0; crews < 4; crews++) {
            Hopyard x = eightDirty();
            x.setCrews(crews);
            for (int day = 0; day < 4; day++) {
                x.pass(1);
                c.equal(crews + " crews, on day " + x.day(), states(x), due[crews][day]);
            }
        }
    }

    private static void yeastOfEachStrain(Checks c) {
        Hopyard x = dry("ffff", 0, 1, 0, 1, 1, 0, 2, 1, 0, 3, 1, 0);
        for (int strain = 0; strain < 4; strain++) {
            int s = strain;
            c.answer("no yeast of strain " + s, () -> x.nextGeneration(s), NONE);
            c.answer("no brew of strain " + s, () -> x.brew(s, 0), NONE);
            c.equal("no pitches of strain " + s, x.pitches(s), 0);
        }
        for (int strain = 0; strain < 4; strain++) {
            c.equal("the first packs of strain " + strain, x.addPacks(strain, strain + 1), strain + 1);
        }
        for (int strain = 0; strain < 4; strain++) {
            c.equal("no pack is a pitch of strain " + strain, x.pitches(strain), 0);
        }
        x.brew(2, 0);
        x.pass(1);
        c.equal("pitches of one strain", "" + x.pitches(0) + x.pitches(1) + x.pitches(2) + x.pitches(3), "0020");
        c.equal("a pack less of one strain", "" + x.addPacks(0, 1) + x.addPacks(1, 1) + x.addPacks(2, 1)
                + x.addPacks(3, 1), "2335");
    }

    private static void tenthDay(Checks c) {
        Hopyard x = brewery("fft", 0, 5, 0);
        x.brew(0, 0);
        x.pass(5);
        c.equal("on the day of the harvest", x.pitches(0) + " of generation " + x.nextGeneration(0),
                "2 of generation 1");
        for (int day = 1; day <= 10; day++) {
            x.pass(1);
            c.equal("on day " + day + " after it", x.pitches(0) + " of generation " + x.nextGeneration(0),
                    "2 of generation 1");
        }
        x.pass(1);
        c.equal("on day 11 after it", x.pitches(0) + " of generation " + x.nextGeneration(0), "0 of generation 0");

        Hopyard y = brewery("ff", 0, 5, 0);
        y.brew(0, 0);
        y.pass(15);
        y.brew(0, 1);
        c.equal("taken on the tenth day", y.generation(1) + " " + y.pitches(0), "1 1");
        Hopyard z = brewery("ff", 0, 5, 0);
        z.brew(0, 0);
        z.pass(16);
        z.brew(0, 1);
        c.equal("a pack on the eleventh", z.generation(1) + " " + z.pitches(0), "0 0");
    }

    private static void yeastForBrew(Checks c) {
        Hopyard x = dry("ffffff", 0, 1, 0);
        c.answer("neither", () -> x.brew(0, 0), NONE);
        x.addPacks(0, 2);
        x.brew(0, 0);
        c.equal("a pack, of generation 0", x.generation(0) + " " + x.addPacks(0, 1), "0 2");
        x.pass(1);
        x.brew(0, 1);
        c.equal("a pitch before a pack", x.generation(1) + " " + x.pitches(0) + " " + x.addPacks(0, 1), "1 1 3");
        x.pass(1);
        c.equal("the one harvested first, of generation 1", x.pitches(0) + " " + x.nextGeneration(0), "3 1");
        x.brew(0, 2);
        c.equal("taken", x.generation(2), 1);
        x.brew(0, 3);
        c.equal("then the next day's, of generation 2", x.generation(3), 2);

        c.equal("of one day, those of the first brew, from a pack", nextFour(packBeforePitch()), "1122");
        c.equal("of one day, those of the first brew, from a pitch", nextFour(pitchBeforePack()), "2211");
    }

    /** On day 14, brew 1, from a pack, and brew 2, from a pitch, have fermented; older pitches are gone. */
    private static Hopyard packBeforePitch() {
        Hopyard x = brewery("fffffff", 0, 1, 0, 0, 13, 0, 0, 14, 0);
        x.brew(0, 0);
        x.brew(2, 1);
        x.pass(1);
        x.brew(1, 2);
        x.pass(13);
        return x;
    }

    /** On day 15, brew 1, from a pitch, and brew 2, from a pack, have fermented; older pitches are gone. */
    private static Hopyard pitchBeforePack() {
        Hopyard x = brewery("fffffff", 0, 1, 0, 0, 3, 0, 0, 14, 0);
        x.brew(0, 0);
        x.pass(1);
        x.brew(2, 1);
        x.pass(11);
        x.brew(1, 2);
        x.pass(3);
        return x;
    }

    private static String nextFour(Hopyard x) {
        StringBuilder all = new StringBuilder();
        for (int fermenter = 3; fermenter < 7; fermenter++) {
            all.append(x.generation(x.brew(0, fermenter)));
        }
        return all.toString();
    }

    private static void generationIsThatOfYeast(Checks c) {
        Hopyard x = brewery("ffff", 0, 1, 0);
        x.brew(0, 0);
        c.equal("a pack's", x.generation(0), 0);
        x.pass(1);
        x.brew(0, 1);
        c.equal("a pitch's", x.generation(1), 1);
        x.pass(11);
        x.brew(0, 2);
        c.equal("that of a pitch of generation 2", x.generation(2), 2);
        x.pass(1);
        c.equal("it stays when the yeast is used up", "" + x.generation(0) + x.generation(1) + x.generation(2), "012");
    }

    private static void thirtyBrews(Checks c) {
        Hopyard x = thirty(6);
        c.equal("24 and 6", x.brews() + " " + x.queued(), "24 6");
        c.answer("no more by hand", () -> x.brew(0, 0), STATE);
        x.withdraw(0);
        c.answer("brew 24 by hand", () -> x.brew(0, 0), 24);
        c.answer("25 and 5, no more in the queue", () -> x.enqueue(0), STATE);
        x.pass(30);
        c.equal("30 and 0, the queue being started", x.brews() + " " + x.queued(), "30 0");
        c.answer("no more in the queue", () -> x.enqueue(0), STATE);
        c.answer("no more by hand", () -> x.brew(0, 0), STATE);
        c.answer("the last brew", () -> x.recipeOf(29), 0);
        c.answer("no brew 30", () -> x.recipeOf(30), INDEX);
        Hopyard y = brewery("fff", 0, 9, 0, 1, 9, 0, 2, 9, 0);
        y.brew(2, 1);
        y.enqueue(1);
        y.brew(0, 2);
        y.pass(1);
        c.equal("in the order in which they were started", "" + y.recipeOf(0) + y.recipeOf(1) + y.recipeOf(2), "201");
    }

    /** The days that a recipe has to go in fermenter 0, after brews of the recipes before it in the same fermenter. */
    private static int lastDaysToGo(int... recipes) {
        Hopyard x = brewery("fttttt", 0, 2, 0, 1, 2, 0, 1, 3, 0, 0, 14, 0);
        int days = 0;
        for (int i = 0; i < recipes.length; i++) {
            if (i > 0) {
                x.pass(days + 2);
            }
            days = x.daysToGo(x.brew(recipes[i], 0));
        }
        return days;
    }

    private static void oneMoreDay(Checks c) {
        c.equal("the first brew of strain 0", lastDaysToGo(0), 2);
        c.equal("the first brew of strain 1", lastDaysToGo(1), 2);
        c.equal("the same recipe", lastDaysToGo(0, 0), 2);
        c.equal("another recipe of the same strain", lastDaysToGo(1, 2), 3);
        c.equal("another strain", lastDaysToGo(0, 1), 3);
        c.equal("a lower strain", lastDaysToGo(1, 0), 3);
        c.equal("the last one counts, not the first", lastDaysToGo(0, 1, 0), 3);
        c.equal("the last one counts alone", lastDaysToGo(0, 1, 1), 2);
        c.equal("14 days and one more", lastDaysToGo(1, 3), 15);
        Hopyard x = brewery("fftt", 0, 2, 0, 1, 2, 0);
        x.brew(0, 0);
        x.brew(1, 1);
        c.equal("another fermenter had the other strain", x.daysToGo(1), 2);
        x.pass(8);
        x.enqueue(1);
        x.pass(1);
        c.equal("from the queue, in fermenter 0", x.vesselOf(2) + " " + x.daysToGo(2), "0 3");
        c.equal("a pitch has been taken", x.generation(2) + " " + x.pitches(1), "1 1");
    }

    /** Each brew waits until the pitches of lower generations are too old. */
    private static void twoPitches(Checks c) {
        Hopyard x = brewery("ftttttt", 0, 1, 0);
        int[] waits = {0, 2, 8, 2, 8};
        for (int generation = 0; generation < 5; generation++) {
            if (waits[generation] > 0) {
                x.pass(waits[generation]);
            }
            x.brew(0, 0);
            int before = x.pitches(0);
            c.equal("the generation of the brew", x.generation(generation), generation);
            x.pass(1);
            c.equal("after a brew of generation " + generation, x.pitches(0) - before, generation < 4 ? 2 : 0);
        }
        x.pass(2);
        c.equal("no pitch of generation 5, but a pack", x.nextGeneration(0), 0);

        Hopyard y = brewery("f", 0, 3, 1);
        y.brew(0, 0);
        y.pass(2);
        c.equal("it ferments, no pitch", y.stage(0) + "" + y.pitches(0), "f0");
        y.pass(1);
        c.equal("it waits, two pitches", y.stage(0) + "" + y.pitches(0), "w2");
        y.pass(3);
        c.equal("no more while it waits", y.stage(0) + "" + y.pitches(0), "w2");
        y.addVessel('t');
        y.pass(2);
        c.equal("no more when it is ready", y.stage(0) + "" + y.pitches(0), "r2");
    }

    private static void readyWithTwentyUnits(Checks c) {
        Hopyard x = brewery("ft", 0, 1, 3);
        x.brew(0, 0);
        x.pass(1);
        c.equal("matures in the tank", x.stage(0) + " " + x.vesselOf(0) + " " + x.daysToGo(0), "m 1 3");
        x.pass(2);
        c.equal("not ready before", x.stage(0) + " " + x.stock(0), "m 0");
        x.pass(1);
        c.equal("ready, 20 units", x.stage(0) + " " + x.stock(0) + " " + x.stockByDeliveries(0), "r 20 20");
        x.order(0, 21, 50);
        c.equal("21 are too many", x.pass(1), 0);
        x.order(0, 20, 50);
        c.equal("20 are there", x.pass(1) + " " + x.deliveredUnits(0), "1 20");
    }

    private static void drained(Checks c) {
        Hopyard x = ready(1);
        x.order(0, 19, 50);
        x.pass(1);
        c.equal("one unit left", stages(x) + states(x) + x.stock(0), "rcu1");
        x.order(0, 1, 50);
        x.pass(1);
        c.equal("none left", stages(x) + states(x) + x.stock(0), "xcg0");
        c.answer("in no vessel", () -> x.vesselOf(0), NONE);
        c.answer("no brew in the tank", () -> x.brewIn(1), NONE);
        Hopyard y = ready(1);
        y.order(0, 20, 50);
        y.pass(1);
        c.equal("all at once", stages(y) + states(y) + y.stock(0), "xcg0");
    }

    private static void twentyOrders(Checks c) {
        Hopyard x = ready(1);
        for (int i = 0; i < 20; i++) {
            int number = i;
            c.answer("order " + i, () -> x.order(0, number + 1, 50 - number), number);
        }
        c.answer("a 21st one", () -> x.order(0, 1, 50), STATE);
        c.answer("no order 20", () -> x.status(20), INDEX);
        for (int i = 0; i < 20; i++) {
            c.equal("the units of order " + i, x.cancel(i), i + 1);
        }
        c.answer("cancelled ones count", () -> x.order(0, 1, 50), STATE);
    }

    private static void dueDayAndParts(Checks c) {
        Hopyard x = brewery("fttt", 0, 1, 0, 0, 1, 0);
        for (int recipe = 0; recipe < 2; recipe++) {
            x.brew(recipe, 0);
            x.pass(3);
        }
        x.order(0, 13, 8);
        x.order(0, 12, 7);
        x.blend(1, 1, 11);
        c.equal("the one that is due first, both parts", x.pass(1) + statuses(x) + deliveriesOf(x),
                "1of0/1/12 1/1/11");
        c.equal("each recipe is drawn for its part", x.stock(0) + " " + x.stock(1), "8 9");
        x.order(1, 9, 7);
        c.equal("another recipe than that of the open order", x.pass(1) + statuses(x), "1off");
        c.equal("on time and late", x.onTime(), 0.5f);
    }

    private static void filledByPassAlone(Checks c) {
        Hopyard x = ready(2);
        x.order(0, 5, 6);
        c.equal("taken in", statuses(x), "o");
        x.blend(0, 0, 5);
        x.order(0, 5, 6);
        x.addRecipe(1, 1, 0);
        x.order(1, 5, 6);
        x.cancel(2);
        x.addPacks(0, 1);
        x.setCrews(3);
        x.brew(0, 0);
        x.enqueue(0);
        x.improve();
        x.withdraw(0);
        x.addVessel('t');
        c.equal("no other call fills it", statuses(x) + x.deliveries() + " " + x.stock(0), "ooc0 40");
        c.equal("a day passes", x.pass(1) + statuses(x) + x.deliveries(), "2ffc3");
    }

    private static Hopyard ordered(int... parts) {
        Hopyard x = ready(3);
        x.order(0, parts[0], 50);
        for (int i = 1; i < parts.length; i++) {
            x.blend(0, 0, parts[i]);
        }
        x.pass(1);
        return x;
    }

    private static void enoughForAllParts(Checks c) {
        c.equal("one part, enough", deliveriesOf(ordered(20)), "0/0/20");
        c.equal("one part, of two brews", deliveriesOf(ordered(21)), "0/0/20 1/0/1");
        c.equal("one part, of two brews in whole", deliveriesOf(ordered(40)), "0/0/20 1/0/20");
        c.equal("two parts, of one brew", deliveriesOf(ordered(15, 5)), "0/0/15 0/0/5");
        c.equal("two parts, the second from two brews", deliveriesOf(ordered(15, 6)), "0/0/15 0/0/5 1/0/1");
        c.equal("just enough together", deliveriesOf(ordered(20, 10, 30)), "0/0/20 1/0/10 1/0/10 2/0/20");
        c.equal("one too few together", statuses(ordered(20, 11, 30)) + ordered(20, 11, 30).deliveries(), "o0");
        c.equal("four parts", deliveriesOf(ordered(1, 2, 3, 4)), "0/0/1 0/0/2 0/0/3 0/0/4");
        Hopyard x = brewery("fttt", 0, 1, 0, 0, 1, 0);
        for (int recipe : new int[] {1, 0, 1}) {
            x.brew(recipe, 0);
            x.pass(3);
        }
        x.order(0, 20, 50);
        x.blend(0, 1, 25);
        x.order(0, 1, 50);
        x.blend(1, 1, 1);
        c.equal("parts in their order, brews by rising numbers", x.pass(1) + deliveriesOf(x),
                "11/0/20 0/0/20 2/0/5");
        c.equal("enough for the second part alone is not enough", statuses(x) + x.stock(0) + x.stock(1), "fo015");
        x.order(1, 1, 50);
        x.blend(2, 0, 1);
        c.equal("enough for the first part alone is not enough", x.pass(1) + statuses(x) + x.stock(1), "0foo15");
    }

    private static void deliveriesFromZero(Checks c) {
        Hopyard x = ready(1);
        c.answer("none", () -> x.deliveredUnits(0), INDEX);
        x.order(0, 7, 50);
        x.pass(1);
        c.answer("the first", () -> x.deliveredUnits(0), 7);
        c.answer("no second", () -> x.deliveredUnits(1), INDEX);
        x.order(0, 8, 50);
        x.pass(1);
        c.answer("the second", () -> x.deliveredUnits(1), 8);
        c.answer("none below 0", () -> x.deliveredUnits(-1), INDEX);
    }
}
