/** Promises 25 to 33: vessels and brews, asked. */
final class AskedSentences extends Bench {
    static void addTo(Sentences all) {
        String noVessel = "Throws `IndexOutOfBoundsException` if there is no such vessel";
        String noBrew = "Throws `IndexOutOfBoundsException` if there is no such brew";
        all.in("Promise 25");
        all.repeats("Returns the state of a vessel.");
        all.says("Returns 'c' if it is clean, 'u' if it is in use, 'd' if it is dirty, 'g' if it is being cleaned.",
                AskedSentences::stateOfEach);
        all.says(noVessel, c -> needsVessel(c, Hopyard::state));
        all.in("Promise 26");
        all.says("Returns the brew in a vessel.", AskedSentences::brewInside);
        all.repeats("Returns the number of the brew.");
        all.says(noVessel, c -> needsVessel(c, Hopyard::brewIn));
        all.says("Throws `NoSuchElementException` if it is not in use", AskedSentences::noBrewInside);
        all.in("Promise 27");
        all.says("Returns the day on which a vessel that is being cleaned will be clean.",
                AskedSentences::dayOfCleanness);
        all.repeats("Returns the day.");
        all.says(noVessel, c -> needsVessel(c, Hopyard::cleanDay));
        all.says("Throws `NoSuchElementException` if it is not being cleaned", AskedSentences::notBeingCleaned);
        all.in("Promise 28");
        all.says("Returns the number of brews.", AskedSentences::numberOfBrews);
        all.in("Promise 29");
        all.says("Returns the recipe of a brew.", AskedSentences::recipeOfBrew);
        all.repeats("Returns the number of the recipe.");
        all.says(noBrew, c -> needsBrew(c, Hopyard::recipeOf));
        all.in("Promise 30");
        all.says("Returns the generation of a brew.", AskedSentences::generationOfBrew);
        all.repeats("Returns the generation.");
        all.says(noBrew, c -> needsBrew(c, Hopyard::generation));
        all.in("Promise 31");
        all.repeats("Returns the stage of a brew.");
        all.says("Returns 'f' if it ferments, 'w' if it waits, 'm' if it matures, 'r' if it is ready, 'x' if it is "
                + "drained.", AskedSentences::stageOfEach);
        all.says(noBrew, c -> needsBrew(c, Hopyard::stage));
        all.in("Promise 32");
        all.says("Returns the vessel in which a brew is.", AskedSentences::vesselOfBrew);
        all.repeats("Returns the number of the vessel.");
        all.says(noBrew, c -> needsBrew(c, Hopyard::vesselOf));
        all.says("Throws `NoSuchElementException` if it is drained", AskedSentences::inNoVessel);
        all.in("Promise 33");
        all.says("Returns the days that a brew which ferments or matures has to go.", AskedSentences::daysOfBrew);
        all.repeats("Returns the number of days.");
        all.says(noBrew, c -> needsBrew(c, Hopyard::daysToGo));
        all.says("Throws `NoSuchElementException` if it does neither", AskedSentences::neitherFermentsNorMatures);
    }

    /**
     * On day 2: fermenter 0 is being cleaned for one more day, 1 has brew 1 with a day to go, 2 is dirty, 3 is clean;
     * tank 4 is dirty, brew 0 in it having been drained today, tank 5 has brew 2, which is ready, tank 6 is clean.
     */
    static Hopyard everyState() {
        Hopyard x = brewery("fffftt", 0, 1, 0, 1, 3, 5, 2, 1, 4);
        x.brew(0, 0);
        x.brew(1, 1);
        x.brew(0, 2);
        x.pass(1);
        x.addVessel('t');
        x.order(0, 20, 9);
        x.pass(1);
        return x;
    }

    private static void stateOfEach(Checks c) {
        Hopyard x = everyState();
        c.equal("being cleaned", x.state(0), 'g');
        c.equal("in use, a fermenter", x.state(1), 'u');
        c.equal("dirty, a fermenter", x.state(2), 'd');
        c.equal("clean, a fermenter", x.state(3), 'c');
        c.equal("dirty, a tank", x.state(4), 'd');
        c.equal("in use, a tank", x.state(5), 'u');
        c.equal("clean, a tank", x.state(6), 'c');
        x.setCrews(3);
        x.pass(1);
        c.equal("a day later", states(x), "cggcguu");
    }

    private static void needsVessel(Checks c, NumberedChange call) {
        refused(c, "no vessel at all", Hopyard::new, INDEX, x -> call.make(x, 0));
        outside(c, "vessel", 0, 6, AskedSentences::everyState, INDEX, call);
        for (int vessel = 0; vessel <= 6; vessel++) {
            int number = vessel;
            Object answer = Checks.answerOf(() -> call.make(everyState(), number));
            c.equal("there is vessel " + vessel, answer != INDEX, true);
        }
        outside(c, "of eight, vessel", 0, 7, () -> brewery("fftttttt"), INDEX, call);
    }

    private static void brewInside(Checks c) {
        Hopyard x = everyState();
        c.equal("in a fermenter", x.brewIn(1), 1);
        c.equal("in a tank", x.brewIn(5), 2);
        x.brew(0, 3);
        c.equal("in another fermenter", x.brewIn(3), 3);
        x.pass(1);
        c.equal("brew 1 has moved", x.brewIn(6), 1);
        c.equal("brew 3 waits", x.brewIn(3), 3);
    }

    private static void noBrewInside(Checks c) {
        int[] notInUse = {0, 2, 3, 4, 6};
        for (int vessel : notInUse) {
            refused(c, "vessel " + vessel, AskedSentences::everyState, NONE, x -> x.brewIn(vessel));
        }
        taken(c, "a fermenter in use", AskedSentences::everyState, x -> x.brewIn(1));
        taken(c, "a tank in use", AskedSentences::everyState, x -> x.brewIn(5));
    }

    private static void dayOfCleanness(Checks c) {
        Hopyard x = brewery("ft", 0, 1, 0);
        x.brew(0, 0);
        x.pass(1);
        c.equal("a fermenter, two days to go", x.cleanDay(0), 3);
        x.pass(1);
        c.equal("a fermenter, one day to go", x.cleanDay(0), 3);
        c.equal("not clean before", x.state(0), 'g');
        x.pass(1);
        c.equal("clean on that day", x.day() + "" + x.state(0), "3c");
        x.order(0, 20, 9);
        x.pass(1);
        c.equal("a tank, one day to go", x.cleanDay(1), 5);
        x.pass(1);
        c.equal("clean on that day", x.day() + "" + x.state(1), "5c");
    }

    private static void notBeingCleaned(Checks c) {
        for (int vessel = 1; vessel <= 6; vessel++) {
            int number = vessel;
            refused(c, "vessel " + vessel, AskedSentences::everyState, NONE, x -> x.cleanDay(number));
        }
        taken(c, "a vessel that is being cleaned", AskedSentences::everyState, x -> x.cleanDay(0));
    }

    private static void numberOfBrews(Checks c) {
        Hopyard x = brewery("ff", 0, 1, 0);
        c.equal("none", x.brews(), 0);
        x.brew(0, 0);
        c.equal("one", x.brews(), 1);
        c.answer("one refused", () -> x.brew(0, 0), STATE);
        x.enqueue(0);
        c.equal("one, another in the queue", x.brews(), 1);
        x.pass(1);
        c.equal("two, one started from the queue", x.brews(), 2);
        c.equal("drained brews count", thirty(0).brews(), 30);
        c.equal("those in the queue do not", thirty(6).brews(), 24);
    }

    private static void recipeOfBrew(Checks c) {
        Hopyard x = everyState();
        x.enqueue(2);
        x.pass(1);
        c.equal("each, by hand or from the queue", "" + x.recipeOf(0) + x.recipeOf(1) + x.recipeOf(2) + x.recipeOf(3),
                "0102");
        c.equal("drained, matures, ready, ferments", stages(x), "xmrf");
    }

    private static void generationOfBrew(Checks c) {
        Hopyard x = brewery("fffff", 0, 1, 0);
        for (int i = 0; i < 3; i++) {
            x.brew(0, i);
        }
        x.pass(1);
        x.brew(0, 3);
        x.enqueue(0);
        x.pass(1);
        c.equal("three from packs, one by hand and one from the queue from pitches", "" + x.generation(0)
                + x.generation(1) + x.generation(2) + x.generation(3) + x.generation(4), "00011");
    }

    private static void needsBrew(Checks c, NumberedChange call) {
        refused(c, "no brew at all", () -> brewery("f", 0, 1, 0), INDEX, x -> call.make(x, 0));
        outside(c, "brew", 0, 2, AskedSentences::everyState, INDEX, call);
        for (int brew = 0; brew <= 2; brew++) {
            int number = brew;
            Object answer = Checks.answerOf(() -> call.make(everyState(), number));
            c.equal("there is brew " + brew, answer != INDEX, true);
        }
        refused(c, "of 30, brew 30", () -> thirty(0), INDEX, x -> call.make(x, 30));
        Object last = Checks.answerOf(() -> call.make(thirty(0), 29));
        c.equal("there is brew 29 of 30", last != INDEX, true);
    }

    private static void stageOfEach(Checks c) {
        Hopyard x = brewery("fft", 0, 1, 2);
        x.brew(0, 0);
        c.equal("ferments", x.stage(0), 'f');
        x.brew(0, 1);
        x.pass(1);
        c.equal("matures", x.stage(0), 'm');
        c.equal("waits, there being no clean tank", x.stage(1), 'w');
        x.pass(2);
        c.equal("ready", x.stage(0), 'r');
        x.order(0, 20, 9);
        x.pass(1);
        c.equal("drained", x.stage(0), 'x');
    }

    private static void vesselOfBrew(Checks c) {
        Hopyard x = everyState();
        c.equal("ferments in", x.vesselOf(1), 1);
        c.equal("is ready in", x.vesselOf(2), 5);
        x.brew(0, 3);
        x.pass(1);
        c.equal("matures in", x.vesselOf(1), 6);
        c.equal("waits in", x.stage(3) + "" + x.vesselOf(3), "w3");
    }

    private static void inNoVessel(Checks c) {
        refused(c, "a drained brew", AskedSentences::everyState, NONE, x -> x.vesselOf(0));
        taken(c, "a brew that ferments", AskedSentences::everyState, x -> x.vesselOf(1));
        taken(c, "a brew that is ready", AskedSentences::everyState, x -> x.vesselOf(2));
        Maker oneUnitLeft = () -> {
            Hopyard x = ready(1);
            x.order(0, 19, 9);
            x.pass(1);
            return x;
        };
        taken(c, "a brew with one unit left", oneUnitLeft, x -> x.vesselOf(0));
    }

    private static void daysOfBrew(Checks c) {
        Hopyard x = brewery("ft", 0, 2, 3);
        x.brew(0, 0);
        c.equal("ferments, on its first day", x.daysToGo(0), 2);
        x.pass(1);
        c.equal("ferments, on its last day", x.daysToGo(0), 1);
        x.pass(1);
        c.equal("matures, on its first day", x.daysToGo(0), 3);
        x.pass(2);
        c.equal("matures, on its last day", x.daysToGo(0), 1);
        Hopyard y = brewery("ft", 0, 14, 14, 1, 14, 14);
        y.brew(0, 0);
        c.equal("the most of a recipe", y.daysToGo(0), 14);
        y.pass(16);
        y.brew(1, 0);
        c.equal("the most, behind another strain", y.daysToGo(1), 15);
    }

    private static void neitherFermentsNorMatures(Checks c) {
        Maker waits = () -> {
            Hopyard x = brewery("f", 0, 1, 1);
            x.brew(0, 0);
            x.pass(1);
            return x;
        };
        refused(c, "it waits", waits, NONE, x -> x.daysToGo(0));
        refused(c, "it is ready", () -> ready(1), NONE, x -> x.daysToGo(0));
        refused(c, "it is drained", AskedSentences::everyState, NONE, x -> x.daysToGo(0));
        taken(c, "it ferments", AskedSentences::everyState, x -> x.daysToGo(1));
        Maker matures = () -> {
            Hopyard x = everyState();
            x.pass(1);
            return x;
        };
        taken(c, "it matures", matures, x -> x.daysToGo(1));
    }
}
