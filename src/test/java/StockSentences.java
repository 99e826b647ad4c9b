/** Promises 34 to 39: stocks and deliveries. */
final class StockSentences extends Bench {
    static void addTo(Sentences all) {
        String noRecipe = "Throws `IndexOutOfBoundsException` if there is no such recipe";
        String noDelivery = "Throws `IndexOutOfBoundsException` if there is no such delivery";
        all.in("Promise 34");
        all.says("Returns the number of units of ready brews of a recipe, as they are kept.",
                c -> countsUnits(c, Hopyard::stock));
        all.repeats("Returns the number of units.");
        all.says(noRecipe, c -> needsRecipe(c, Hopyard::stock));
        all.in("Promise 35");
        all.says("Returns the same number, found from the brews that are or were ready and all deliveries.",
                c -> countsUnits(c, Hopyard::stockByDeliveries));
        all.repeats("Returns the number of units.");
        all.says(noRecipe, c -> needsRecipe(c, Hopyard::stockByDeliveries));
        all.in("Promise 36");
        all.says("Returns the number of deliveries.", StockSentences::numberOfDeliveries);
        all.in("Promise 37");
        all.says("Returns the brew of a delivery.", StockSentences::brewOfDelivery);
        all.repeats("Returns the number of the brew.");
        all.says(noDelivery, c -> needsDelivery(c, Hopyard::deliveredBrew));
        all.in("Promise 38");
        all.says("Returns the order of a delivery.", StockSentences::orderOfDelivery);
        all.repeats("Returns the number of the order.");
        all.says(noDelivery, c -> needsDelivery(c, Hopyard::deliveredOrder));
        all.in("Promise 39");
        all.says("Returns the units of a delivery.", StockSentences::unitsOfDelivery);
        all.repeats("Returns the number of units.");
        all.says(noDelivery, c -> needsDelivery(c, Hopyard::deliveredUnits));
    }

    private static void countsUnits(Checks c, NumberedChange stock) {
        Hopyard x = brewery("fttt", 0, 1, 0, 1, 1, 2);
        c.equal("no brew", stock.make(x, 0), 0);
        x.brew(1, 0);
        c.equal("one that ferments", stock.make(x, 1), 0);
        x.pass(1);
        c.equal("one that matures", stock.make(x, 1), 0);
        x.pass(2);
        c.equal("a ready one", stock.make(x, 1), 20);
        c.equal("of another recipe", stock.make(x, 0), 0);
        x.brew(0, 0);
        x.pass(5);
        x.brew(0, 0);
        x.pass(3);
        c.equal("two", stock.make(x, 0), 40);
        x.order(0, 19, 50);
        x.pass(1);
        c.equal("one unit left of the first", stock.make(x, 0), 21);
        x.brew(0, 0);
        x.pass(1);
        c.equal("one that waits", x.stage(3) + " " + stock.make(x, 0), "w 21");
        x.order(0, 1, 50);
        x.pass(1);
        c.equal("the first drained", x.stage(1) + " " + stock.make(x, 0), "x 20");
        x.pass(1);
        c.equal("the one that waited", stock.make(x, 0), 40);
        x.order(0, 40, 50);
        x.pass(1);
        c.equal("all drained", stages(x) + " " + stock.make(x, 0), "rxxx 0");
        c.equal("of another recipe, still", stock.make(x, 1), 20);
    }

    private static void needsRecipe(Checks c, NumberedChange call) {
        refused(c, "no recipe at all", () -> brewery("f"), INDEX, x -> call.make(x, 0));
        Maker two = () -> brewery("f", 0, 1, 0, 1, 1, 0);
        outside(c, "recipe", 0, 1, two, INDEX, call);
        inside(c, "recipe", 0, 1, two, call);
        Maker five = () -> brewery("f", 0, 1, 0, 1, 1, 0, 2, 1, 0, 3, 1, 0, 0, 2, 0);
        outside(c, "of five, recipe", 0, 4, five, INDEX, call);
        inside(c, "of five, recipe", 0, 4, five, call);
    }

    /** Deliveries 1/1/5 0/1/17 1/1/1 0/1/3 2/1/20 3/1/1 3/0/3: brew, order, units. */
    private static Hopyard sevenDeliveries() {
        Hopyard x = brewery("ftttt", 0, 1, 0, 0, 1, 0);
        for (int recipe : new int[] {0, 1, 0, 0}) {
            x.brew(recipe, 0);
            x.pass(3);
        }
        x.order(0, 3, 50);
        x.order(1, 5, 40);
        x.blend(1, 0, 17);
        x.blend(1, 1, 1);
        x.blend(1, 0, 24);
        x.pass(1);
        return x;
    }

    private static void numberOfDeliveries(Checks c) {
        Hopyard x = ready(3);
        c.equal("none", x.deliveries(), 0);
        x.order(0, 1, 50);
        c.equal("none by an open order", x.deliveries(), 0);
        x.pass(1);
        c.equal("one", x.deliveries(), 1);
        x.order(0, 40, 50);
        x.pass(1);
        c.equal("three more by one part, from three brews", x.deliveries(), 4);
        x.order(0, 20, 50);
        x.pass(1);
        c.equal("none by an order that can't be filled", x.deliveries(), 4);
        c.equal("seven by two orders", sevenDeliveries().deliveries(), 7);
    }

    private static void brewOfDelivery(Checks c) {
        Hopyard x = sevenDeliveries();
        int[] due = {1, 0, 1, 0, 2, 3, 3};
        for (int i = 0; i < due.length; i++) {
            c.equal("delivery " + i, x.deliveredBrew(i), due[i]);
        }
    }

    private static void orderOfDelivery(Checks c) {
        Hopyard x = sevenDeliveries();
        int[] due = {1, 1, 1, 1, 1, 1, 0};
        for (int i = 0; i < due.length; i++) {
            c.equal("delivery " + i, x.deliveredOrder(i), due[i]);
        }
    }

    private static void unitsOfDelivery(Checks c) {
        Hopyard x = sevenDeliveries();
        int[] due = {5, 17, 1, 3, 20, 1, 3};
        for (int i = 0; i < due.length; i++) {
            c.equal("delivery " + i, x.deliveredUnits(i), due[i]);
        }
    }

    private static void needsDelivery(Checks c, NumberedChange call) {
        refused(c, "no delivery at all", () -> ready(1), INDEX, x -> call.make(x, 0));
        outside(c, "delivery", 0, 6, StockSentences::sevenDeliveries, INDEX, call);
        inside(c, "delivery", 0, 6, StockSentences::sevenDeliveries, call);
    }
}
