/** Promises 1 to 7: recipes, vessels, yeast. */
final class SupplySentences extends Bench {
    static void addTo(Sentences all) {
        all.in("Promise 1");
        all.says("Creates a brewery without recipes, vessels and yeast.", SupplySentences::newBrewery);
        all.in("Promise 2");
        all.says("Adds a recipe.", SupplySentences::recipeIsAdded);
        all.says("Returns the number of the recipe.", SupplySentences::recipeNumber);
        all.says("Throws `IllegalArgumentException` if the strain is not between 0 and 3, the days for fermenting are "
                + "not between 1 and 14, or those for maturing are not between 0 and 14",
                SupplySentences::recipeOutOfBounds);
        all.says("Throws `IllegalStateException` if there are 5 recipes", SupplySentences::recipesAreFull);
        all.in("Promise 3");
        all.says("Adds a vessel.", SupplySentences::vesselIsAdded);
        all.says("Returns the number of the vessel.", SupplySentences::vesselNumber);
        all.says("Throws `IllegalArgumentException` if there is no such kind", SupplySentences::noSuchKind);
        all.says("Throws `IllegalStateException` if there are 8 vessels", SupplySentences::vesselsAreFull);
        all.in("Promise 4");
        all.says("Sets the number of crews; cleaning that has begun goes on.", SupplySentences::crewsAreSet);
        all.says("Returns the number before.", SupplySentences::crewsBefore);
        all.says("Throws `IllegalArgumentException` if it is not between 0 and 3", SupplySentences::crewsOutOfBounds);
        all.in("Promise 5");
        all.says("Adds packs of a strain.", SupplySentences::packsAreAdded);
        all.says("Returns the number of packs of this strain.", SupplySentences::packsOfStrain);
        all.says("Throws `IllegalArgumentException` if the strain is not between 0 and 3, or the packs are not between "
                + "1 and 9", SupplySentences::packsOutOfBounds);
        all.in("Promise 6");
        all.says("Returns the number of usable pitches of a strain.", SupplySentences::usablePitches);
        all.repeats("Returns the number of pitches.");
        all.says("Throws `IllegalArgumentException` if the strain is not between 0 and 3",
                SupplySentences::pitchesOfNoStrain);
        all.in("Promise 7");
        all.says("Returns the generation of the yeast that a brew with a strain would get.",
                SupplySentences::nextGeneration);
        all.repeats("Returns the generation.");
        all.says("Throws `IllegalArgumentException` if the strain is not between 0 and 3",
                SupplySentences::nextGenerationOfNoStrain);
        all.says("Throws `NoSuchElementException` if there is no yeast", SupplySentences::nextGenerationOfNoYeast);
    }

    private static void newBrewery(Checks c) {
        Hopyard x = new Hopyard();
        c.answer("no recipe, asked for its stock", () -> x.stock(0), INDEX);
        c.answer("no recipe, for the queue", () -> x.enqueue(0), INDEX);
        c.answer("no vessel", () -> x.state(0), INDEX);
        for (int strain = 0; strain < 4; strain++) {
            int s = strain;
            c.answer("no pitches of strain " + s, () -> x.pitches(s), 0);
            c.answer("no yeast of strain " + s, () -> x.nextGeneration(s), NONE);
            c.answer("the first pack of strain " + s, () -> x.addPacks(s, 1), 1);
        }
        Hopyard y = new Hopyard();
        c.answer("another brewery has yeast of its own", () -> y.nextGeneration(0), NONE);
    }

    private static void recipeIsAdded(Checks c) {
        Hopyard x = brewery("fft", 0, 1, 0, 2, 3, 4);
        x.brew(1, 0);
        c.equal("its days for fermenting", x.daysToGo(0), 3);
        x.pass(3);
        c.equal("its strain", x.pitches(0) + " " + x.pitches(1) + " " + x.pitches(2) + " " + x.pitches(3), "0 0 2 0");
        c.equal("its days for maturing", x.stage(0) + " " + x.daysToGo(0), "m 4");

        Hopyard y = brewery("fftt", 0, 1, 0, 3, 14, 14);
        y.brew(0, 0);
        y.brew(1, 1);
        y.pass(1);
        c.equal("the least days", stages(y), "rf");
        y.pass(12);
        c.equal("a day before the most for fermenting", stages(y), "rf");
        y.pass(1);
        c.equal("the most for fermenting", stages(y), "rm");
        y.pass(13);
        c.equal("a day before the most for maturing", stages(y), "rm");
        y.pass(1);
        c.equal("the most for maturing", stages(y), "rr");
    }

    private static void recipeNumber(Checks c) {
        Hopyard x = new Hopyard();
        c.answer("the first", () -> x.addRecipe(1, 2, 3), 0);
        c.answer("the same once more", () -> x.addRecipe(1, 2, 3), 1);
        c.answer("a refused one", () -> x.addRecipe(4, 2, 3), ARGUMENT);
        c.answer("the one after it", () -> x.addRecipe(0, 2, 3), 2);
    }

    private static void recipeOutOfBounds(Checks c) {
        outside(c, "strain", 0, 3, Hopyard::new, ARGUMENT, (x, strain) -> x.addRecipe(strain, 1, 0));
        outside(c, "days for fermenting", 1, 14, Hopyard::new, ARGUMENT, (x, days) -> x.addRecipe(0, days, 0));
        outside(c, "days for maturing", 0, 14, Hopyard::new, ARGUMENT, (x, days) -> x.addRecipe(0, 1, days));
        inside(c, "strain", 0, 3, Hopyard::new, (x, strain) -> x.addRecipe(strain, 1, 0));
        inside(c, "days for fermenting", 1, 14, Hopyard::new, (x, days) -> x.addRecipe(0, days, 0));
        inside(c, "days for maturing", 0, 14, Hopyard::new, (x, days) -> x.addRecipe(0, 1, days));
    }

    private static Hopyard recipes(int number) {
        Hopyard x = brewery("ft");
        for (int i = 0; i < number; i++) {
            x.addRecipe(i % 4, 1, 0);
        }
        return x;
    }

    private static void recipesAreFull(Checks c) {
        taken(c, "a fifth recipe", () -> recipes(4), x -> x.addRecipe(0, 1, 0));
        refused(c, "a sixth recipe", () -> recipes(5), STATE, x -> x.addRecipe(0, 1, 0));
    }

    private static void vesselIsAdded(Checks c) {
        Hopyard x = dry("", 0, 1, 0);
        x.addPacks(0, 9);
        c.equal("no vessel", states(x), "");
        x.addVessel('f');
        x.addVessel('t');
        c.equal("two vessels", states(x), "cc");
        c.answer("a tank takes no brew", () -> x.brew(0, 1), UNSUPPORTED);
        c.answer("a fermenter takes one", () -> x.brew(0, 0), 0);
        x.pass(1);
        c.equal("the tank takes it next", x.vesselOf(0), 1);
    }

    private static void vesselNumber(Checks c) {
        Hopyard x = new Hopyard();
        c.answer("the first, a tank", () -> x.addVessel('t'), 0);
        c.answer("the second, a fermenter", () -> x.addVessel('f'), 1);
        c.answer("a refused one", () -> x.addVessel('x'), ARGUMENT);
        c.answer("the third, a tank", () -> x.addVessel('t'), 2);
    }

    private static void noSuchKind(Checks c) {
        char[] bad = {'e', 'g', 's', 'u', 'F', 'T', ' ', 0, 0xffff, 'f' + 256, 't' + 256};
        for (char kind : bad) {
            refused(c, "kind " + (int) kind, Hopyard::new, ARGUMENT, x -> x.addVessel(kind));
        }
        taken(c, "a fermenter", Hopyard::new, x -> x.addVessel('f'));
        taken(c, "a tank", Hopyard::new, x -> x.addVessel('t'));
    }

    private static void vesselsAreFull(Checks c) {
        taken(c, "an eighth vessel", () -> brewery("fttffff", 0, 1, 0), x -> x.addVessel('t'));
        refused(c, "a ninth vessel, a fermenter", () -> brewery("fttfffft", 0, 1, 0), STATE, x -> x.addVessel('f'));
        refused(c, "a ninth vessel, a tank", () -> brewery("fttfffft", 0, 1, 0), STATE, x -> x.addVessel('t'));
    }

    /** On day 1, four fermenters have become dirty, and the cleaning of as many as there are crews has begun. */
    private static Hopyard fourDirty(int crews) {
        Hopyard x = brewery("fffftttt", 0, 1, 0);
        x.setCrews(crews);
        for (int i = 0; i < 4; i++) {
            x.brew(0, i);
        }
        x.pass(1);
        return x;
    }

    private static void crewsAreSet(Checks c) {
        String[] begun = {"dddduuuu", "gddduuuu", "ggdduuuu", "gggduuuu"};
        for (int crews = 0; crews < 4; crews++) {
            c.equal(crews + " crews", states(fourDirty(crews)), begun[crews]);
        }
        String[] next = {"cccduuuu", "cccguuuu"};
        for (int crews = 0; crews < 2; crews++) {
            Hopyard x = fourDirty(3);
            x.setCrews(crews);
            c.equal(crews + " crews, cleaning goes on", states(x), "gggduuuu");
            x.pass(1);
            c.equal(crews + " crews, cleaning goes on, none begins", states(x), "gggduuuu");
            x.pass(1);
            c.equal(crews + " crews, cleaned", states(x), next[crews]);
        }
        Hopyard y = fourDirty(0);
        y.setCrews(2);
        c.equal("none begins before a day has passed", states(y), "dddduuuu");
        y.pass(1);
        c.equal("two begin", states(y), "ggdduuuu");
    }

    private static void crewsBefore(Checks c) {
        Hopyard x = new Hopyard();
        c.answer("1 at first", () -> x.setCrews(3), 1);
        c.answer("3 before", () -> x.setCrews(0), 3);
        c.answer("0 before", () -> x.setCrews(0), 0);
        c.answer("0 before once more", () -> x.setCrews(2), 0);
        c.answer("one refused", () -> x.setCrews(4), ARGUMENT);
        c.answer("2 before", () -> x.setCrews(2), 2);
    }

    private static void crewsOutOfBounds(Checks c) {
        outside(c, "crews", 0, 3, () -> fourDirty(2), ARGUMENT, Hopyard::setCrews);
        inside(c, "crews", 0, 3, () -> fourDirty(2), Hopyard::setCrews);
    }

    private static void packsAreAdded(Checks c) {
        Hopyard x = dry("fff", 0, 1, 0, 1, 1, 0);
        x.addPacks(0, 2);
        c.answer("a brew from the first pack", () -> x.brew(0, 0), 0);
        c.answer("a brew from the second pack", () -> x.brew(0, 1), 1);
        c.answer("there is no third", () -> x.brew(0, 2), NONE);
        c.answer("nor one of another strain", () -> x.brew(1, 2), NONE);
        x.addPacks(0, 1);
        c.answer("a third one", () -> x.brew(0, 2), 2);
    }

    private static void packsOfStrain(Checks c) {
        Hopyard x = dry("f", 1, 1, 0);
        c.answer("the first", () -> x.addPacks(1, 1), 1);
        c.answer("nine more", () -> x.addPacks(1, 9), 10);
        c.answer("another strain", () -> x.addPacks(2, 3), 3);
        x.brew(0, 0);
        c.answer("a brew has taken one", () -> x.addPacks(1, 1), 10);
        for (int i = 0; i < 400; i++) {
            x.addPacks(3, 9);
        }
        c.answer("there is no limit", () -> x.addPacks(3, 9), 401 * 9);
    }

    private static void packsOutOfBounds(Checks c) {
        Maker maker = () -> brewery("ft", 0, 1, 0);
        outside(c, "strain", 0, 3, maker, ARGUMENT, (x, strain) -> x.addPacks(strain, 1));
        outside(c, "packs", 1, 9, maker, ARGUMENT, (x, packs) -> x.addPacks(0, packs));
        inside(c, "strain", 0, 3, maker, (x, strain) -> x.addPacks(strain, 1));
        inside(c, "packs", 1, 9, maker, (x, packs) -> x.addPacks(0, packs));
    }

    private static void usablePitches(Checks c) {
        Hopyard x = brewery("fff", 2, 1, 0);
        c.equal("none at first, and no pack is a pitch", x.pitches(2), 0);
        x.brew(0, 0);
        x.brew(0, 1);
        x.pass(1);
        c.equal("two of each brew", x.pitches(2), 4);
        c.equal("none of another strain", x.pitches(1), 0);
        x.brew(0, 2);
        c.equal("a brew has taken one", x.pitches(2), 3);
        x.pass(1);
        c.equal("two more a day later", x.pitches(2), 5);
        x.pass(9);
        c.equal("all, on the tenth day of the older ones", x.pitches(2), 5);
        x.pass(1);
        c.equal("the younger ones alone", x.pitches(2), 2);
        x.pass(1);
        c.equal("none", x.pitches(2), 0);
    }

    private static void pitchesOfNoStrain(Checks c) {
        outside(c, "strain", 0, 3, () -> ready(1), ARGUMENT, Hopyard::pitches);
        inside(c, "strain", 0, 3, () -> ready(1), Hopyard::pitches);
    }

    private static void nextGeneration(Checks c) {
        Hopyard x = brewery("ff", 0, 1, 0, 1, 1, 0);
        c.equal("a pack", x.nextGeneration(0), 0);
        x.brew(0, 0);
        c.equal("what the brew got", x.generation(0), 0);
        x.pass(1);
        c.equal("a pitch, though there are packs", x.nextGeneration(0), 1);
        c.equal("the same, asked again", x.nextGeneration(0), 1);
        c.equal("asking takes none", x.pitches(0), 2);
        c.equal("a pack of another strain", x.nextGeneration(1), 0);
        x.brew(0, 1);
        c.equal("what the brew got", x.generation(1), 1);
        x.pass(10);
        c.equal("the older pitch on its tenth day", x.nextGeneration(0), 1);
        x.pass(1);
        c.equal("the younger pitch then", x.nextGeneration(0), 2);
        x.pass(1);
        c.equal("then a pack", x.nextGeneration(0), 0);
    }

    private static void nextGenerationOfNoStrain(Checks c) {
        outside(c, "strain", 0, 3, () -> ready(1), ARGUMENT, Hopyard::nextGeneration);
        inside(c, "strain", 0, 3, () -> ready(1), Hopyard::nextGeneration);
    }

    /** The only pack is used, and two pitches were harvested on day 1. */
    private static Hopyard lastPackUsed(int daysPassed) {
        Hopyard x = dry("ff", 0, 1, 0);
        x.addPacks(0, 1);
        x.addPacks(3, 9);
        x.brew(0, 0);
        if (daysPassed > 0) {
            x.pass(daysPassed);
        }
        return x;
    }

    private static void nextGenerationOfNoYeast(Checks c) {
        refused(c, "of a new brewery", Hopyard::new, NONE, x -> x.nextGeneration(0));
        refused(c, "of another strain", () -> lastPackUsed(0), NONE, x -> x.nextGeneration(2));
        refused(c, "after the last pack", () -> lastPackUsed(0), NONE, x -> x.nextGeneration(0));
        taken(c, "of new pitches", () -> lastPackUsed(1), x -> x.nextGeneration(0));
        taken(c, "of pitches on their tenth day", () -> lastPackUsed(11), x -> x.nextGeneration(0));
        refused(c, "of pitches on their eleventh day", () -> lastPackUsed(12), NONE, x -> x.nextGeneration(0));
        taken(c, "of the last pack", () -> brewery("f"), x -> x.nextGeneration(3));
    }
}
