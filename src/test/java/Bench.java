/** What the tests of the sentences share: breweries to begin with, and what is seen of them. */
abstract class Bench {
    static final Class<?> ARGUMENT = IllegalArgumentException.class;
    static final Class<?> STATE = IllegalStateException.class;
    static final Class<?> INDEX = IndexOutOfBoundsException.class;
    static final Class<?> NONE = java.util.NoSuchElementException.class;
    static final Class<?> UNSUPPORTED = UnsupportedOperationException.class;

    interface Maker {
        Hopyard make();
    }

    interface Change {
        Object make(Hopyard x);
    }

    interface NumberedChange {
        Object make(Hopyard x, int number);
    }

    private interface Question {
        Object ask(int number);
    }

    /** No more than the things of any kind that a brewery can have. */
    private static final int MOST = 200;

    // Breweries.

    /** A vessel for each kind, a recipe for each three numbers (strain, ferment, mature), and no yeast. */
    static Hopyard dry(String kinds, int... recipes) {
        Hopyard x = new Hopyard();
        for (char kind : kinds.toCharArray()) {
            x.addVessel(kind);
        }
        for (int i = 0; i < recipes.length; i += 3) {
            x.addRecipe(recipes[i], recipes[i + 1], recipes[i + 2]);
        }
        return x;
    }

    /** The same, with nine packs of each strain. */
    static Hopyard brewery(String kinds, int... recipes) {
        Hopyard x = dry(kinds, recipes);
        for (int strain = 0; strain < 4; strain++) {
            x.addPacks(strain, 9);
        }
        return x;
    }

    /** Recipe 0 alone, with so many ready brews of 20 units in the tanks 1 to n, on day 3 n; fermenter 0 is clean. */
    static Hopyard ready(int number) {
        Hopyard x = brewery("f" + "t".repeat(number), 0, 1, 0);
        for (int i = 0; i < number; i++) {
            x.brew(0, 0);
            x.pass(3);
        }
        return x;
    }

    /**
     * The brews and the queue together are 30, so many of them in the queue. The fermenters 0 to 3 are clean.
     * Recipe 0 has packs, recipe 1 has no yeast.
     */
    static Hopyard thirty(int queued) {
        Hopyard x = dry("fffftttt", 0, 1, 0, 1, 1, 0);
        for (int i = 0; i < 4; i++) {
            x.addPacks(0, 9);
        }
        x.setCrews(3);
        for (int i = 0; i < 14; i++) {
            x.order(0, 40, 99);
        }
        for (int started = 0; started < 30 - queued; started += 6) {
            for (int i = 0; i < 6 && started + i < 30 - queued; i++) {
                x.enqueue(0);
            }
            x.pass(30);
        }
        for (int i = 0; i < queued; i++) {
            x.enqueue(0);
        }
        return x;
    }

    static void enqueueAll(Hopyard x, int... recipes) {
        for (int recipe : recipes) {
            x.enqueue(recipe);
        }
    }

    // What is seen of a brewery.

    static String states(Hopyard x) {
        return row(x::state, "");
    }

    static String stages(Hopyard x) {
        return row(x::stage, "");
    }

    static String statuses(Hopyard x) {
        return row(x::status, "");
    }

    static String queueOf(Hopyard x) {
        return row(x::queuedAt, "");
    }

    /** Brew, order and units of each delivery. */
    static String deliveriesOf(Hopyard x) {
        return row(d -> x.deliveredBrew(d) + "/" + x.deliveredOrder(d) + "/" + x.deliveredUnits(d), " ");
    }

    private static String row(Question question, String between) {
        StringBuilder all = new StringBuilder();
        for (int i = 0; i < MOST; i++) {
            int number = i;
            Object answer = Checks.answerOf(() -> question.ask(number));
            if (answer instanceof Class) {
                return all.toString();
            }
            all.append(i == 0 ? "" : between).append(answer);
        }
        return all.append(" and so on").toString();
    }

    /** The answers to one question about all things of a kind, up to the first that is not there. */
    private static String answers(String name, Question question) {
        StringBuilder all = new StringBuilder("\n" + name + ":");
        for (int i = 0; i < MOST; i++) {
            int number = i;
            Object answer = Checks.answerOf(() -> question.ask(number));
            if (answer == INDEX || answer == ARGUMENT) {
                break;
            }
            all.append(' ').append(answer);
        }
        return all.toString();
    }

    /** All that a brewery answers without being changed, the searches left out. */
    static String allOf(Hopyard x) {
        return "day " + x.day() + ", " + x.queued() + " queued: " + queueOf(x) + ", " + x.brews() + " brews, "
                + x.deliveries() + " deliveries, forecast " + Checks.answerOf(x::forecast)
                + ", on time " + Checks.answerOf(x::onTime)
                + answers("pitches", x::pitches) + answers("nextGeneration", x::nextGeneration)
                + answers("state", x::state) + answers("brewIn", x::brewIn) + answers("cleanDay", x::cleanDay)
                + answers("recipeOf", x::recipeOf) + answers("generation", x::generation)
                + answers("stage", x::stage) + answers("vesselOf", x::vesselOf) + answers("daysToGo", x::daysToGo)
                + answers("status", x::status) + answers("filledOn", x::filledOn)
                + answers("stock", x::stock) + answers("stockByDeliveries", x::stockByDeliveries)
                + "\ndeliveries: " + deliveriesOf(x);
    }

    /** What a brewery answers to some changes and after some days, which shows what no question shows at once. */
    static String futureOf(Hopyard x) {
        StringBuilder all = new StringBuilder();
        for (int strain = 0; strain < 4; strain++) {
            all.append(x.addPacks(strain, 1)).append(" packs ");
        }
        Change[] changes = {y -> y.setCrews(2), y -> y.addRecipe(0, 1, 0), y -> y.addVessel('t'), y -> y.enqueue(0),
            y -> y.order(0, 1, y.day()), y -> y.blend(0, 0, 1), y -> y.pass(1), y -> y.pass(2)};
        for (Change change : changes) {
            all.append(Checks.answerOf(() -> change.make(x))).append(' ');
        }
        return all + allOf(x) + answers("cancel", x::cancel);
    }

    // Refused calls.

    /** The call throws what is due, and the brewery is then as one like it that never had the call. */
    static void refused(Checks c, String what, Maker maker, Class<?> due, Change call) {
        Hopyard x = maker.make();
        c.answer(what, () -> call.make(x), due);
        c.equal(what + ", refused, and all that is seen", allOf(x), allOf(maker.make()));
        Hopyard y = maker.make();
        Checks.answerOf(() -> call.make(y));
        c.equal(what + ", refused, and the days to come", futureOf(y), futureOf(maker.make()));
    }

    /** Numbers just beside the two bounds, and the farthest ones, are all refused. */
    static void outside(Checks c, String what, int least, int most, Maker maker, Class<?> due, NumberedChange call) {
        for (int bad : new int[] {least - 1, most + 1, Integer.MIN_VALUE, Integer.MAX_VALUE}) {
            refused(c, what + " " + bad, maker, due, x -> call.make(x, bad));
        }
    }

    /** The call is taken: it throws nothing. */
    static void taken(Checks c, String what, Maker maker, Change call) {
        Object answer = Checks.answerOf(() -> call.make(maker.make()));
        c.equal(what + " is taken, not answered by " + answer, answer instanceof Integer, true);
    }

    /** The two bounds themselves are taken. */
    static void inside(Checks c, String what, int least, int most, Maker maker, NumberedChange call) {
        taken(c, what + " " + least, maker, x -> call.make(x, least));
        taken(c, what + " " + most, maker, x -> call.make(x, most));
    }
}
