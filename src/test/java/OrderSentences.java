/** Promises 17 to 24: orders and days. */
final class OrderSentences extends Bench {
    static void addTo(Sentences all) {
        all.in("Promise 17");
        all.says("Takes in an order with one part.", OrderSentences::orderIsTakenIn);
        all.says("Returns the number of the order.", OrderSentences::orderNumber);
        all.says("Throws `IndexOutOfBoundsException` if there is no such recipe", OrderSentences::orderOfNoRecipe);
        all.says("Throws `IllegalArgumentException` if the units are not between 1 and 40, or the due day is not "
                + "between the present day and that day plus 99", OrderSentences::orderOutOfBounds);
        all.says("Throws `IllegalStateException` if there are 20 orders", OrderSentences::ordersAreFull);
        all.in("Promise 18");
        all.says("Adds a part to an open order; a recipe may occur in several parts.", OrderSentences::partIsAdded);
        all.says("Returns the number of parts.", OrderSentences::numberOfParts);
        all.says("Throws `IndexOutOfBoundsException` if there is no such order or recipe",
                OrderSentences::blendOfNoOrderOrRecipe);
        all.says("Throws `IllegalArgumentException` if the units are not between 1 and 40",
                OrderSentences::blendOutOfBounds);
        all.says("Throws `IllegalStateException` if the order is not open, or has 4 parts",
                OrderSentences::blendNotOpenOrFull);
        all.in("Promise 19");
        all.says("Cancels an open order.", OrderSentences::orderIsCancelled);
        all.says("Returns the number of its units.", OrderSentences::cancelledUnits);
        all.says("Throws `IndexOutOfBoundsException` if there is no such order",
                c -> needsOrder(c, Hopyard::cancel));
        all.says("Throws `IllegalStateException` if it is not open", OrderSentences::cancelNotOpen);
        addAskedTo(all);
        all.in("Promise 23");
        all.says("Lets days pass.", OrderSentences::daysPass);
        all.says("Returns the number of orders that were filled.", OrderSentences::ordersFilled);
        all.says("Throws `IllegalArgumentException` if the number is not between 1 and 30",
                OrderSentences::passOutOfBounds);
        all.in("Promise 24");
        all.says("Returns the day.", OrderSentences::dayIsReturned);
    }

    private static void addAskedTo(Sentences all) {
        all.in("Promise 20");
        all.repeats("Returns the status of an order.");
        all.says("Returns 'o' if it is open, 'f' if it was filled, 'c' if it was cancelled.",
                OrderSentences::statusOfEach);
        all.says("Throws `IndexOutOfBoundsException` if there is no such order",
                c -> needsOrder(c, Hopyard::status));
        all.in("Promise 21");
        all.says("Returns the day on which an order was filled.", OrderSentences::filledDay);
        all.repeats("Returns the day.");
        all.says("Throws `IndexOutOfBoundsException` if there is no such order",
                c -> needsOrder(c, Hopyard::filledOn));
        all.says("Throws `IllegalStateException` if it was not filled", OrderSentences::filledOnNotFilled);
        all.in("Promise 22");
        all.says("Returns the share of the orders that were filled on their due day or earlier, among those that were "
                + "filled.", OrderSentences::shareOnTime);
        all.says("Returns their number divided by that of all that were filled, both converted to float.",
                OrderSentences::shareAsFloat);
        all.says("Throws `NoSuchElementException` if none was filled", OrderSentences::shareOfNone);
    }

    // Taking orders in.

    private static void orderIsTakenIn(Checks c) {
        Hopyard x = ready(1);
        x.addRecipe(0, 1, 0);
        x.order(0, 7, 3);
        c.equal("open, nothing drawn", statuses(x) + x.stock(0) + x.deliveries(), "o200");
        c.equal("one part: the next one is the second", x.blend(0, 0, 1), 2);
        x.order(1, 6, 50);
        c.equal("its recipe and its units", x.pass(1) + statuses(x) + deliveriesOf(x), "1fo0/0/7 0/0/1");
        x.order(0, 12, 103);
        c.equal("the last units", x.pass(1) + statuses(x) + x.stock(0), "1fof0");
        c.equal("units of the one of another recipe", x.cancel(1), 6);
    }

    private static void orderNumber(Checks c) {
        Hopyard x = brewery("f", 0, 1, 0);
        c.answer("the first", () -> x.order(0, 1, 9), 0);
        c.answer("the second, due earlier", () -> x.order(0, 1, 5), 1);
        c.answer("a refused one", () -> x.order(0, 0, 5), ARGUMENT);
        x.cancel(0);
        c.answer("the third, the first being cancelled", () -> x.order(0, 1, 7), 2);
        c.equal("their statuses", statuses(x), "coo");
    }

    private static void orderOfNoRecipe(Checks c) {
        refused(c, "no recipe at all", () -> brewery("f"), INDEX, x -> x.order(0, 1, 0));
        Maker maker = () -> brewery("f", 0, 1, 0, 1, 1, 0);
        outside(c, "recipe", 0, 1, maker, INDEX, (x, recipe) -> x.order(recipe, 1, 0));
        inside(c, "recipe", 0, 1, maker, (x, recipe) -> x.order(recipe, 1, 0));
    }

    private static void orderOutOfBounds(Checks c) {
        outside(c, "units", 1, 40, () -> ready(1), ARGUMENT, (x, units) -> x.order(0, units, 3));
        inside(c, "units", 1, 40, () -> ready(1), (x, units) -> x.order(0, units, 3));
        Maker today = () -> brewery("f", 0, 1, 0);
        outside(c, "on day 0, due day", 0, 99, today, ARGUMENT, (x, due) -> x.order(0, 1, due));
        inside(c, "on day 0, due day", 0, 99, today, (x, due) -> x.order(0, 1, due));
        Maker later = () -> {
            Hopyard x = ready(1);
            x.pass(27);
            return x;
        };
        outside(c, "on day 30, due day", 30, 129, later, ARGUMENT, (x, due) -> x.order(0, 1, due));
        inside(c, "on day 30, due day", 30, 129, later, (x, due) -> x.order(0, 1, due));
    }

    /** Order 0 is filled and order 1 cancelled, the others are open. */
    private static Hopyard orders(int number) {
        Hopyard x = ready(1);
        x.order(0, 1, 3);
        x.pass(1);
        x.order(0, 1, 4);
        x.cancel(1);
        for (int i = 2; i < number; i++) {
            x.order(0, 40, 4);
        }
        return x;
    }

    private static void ordersAreFull(Checks c) {
        taken(c, "a twentieth order", () -> orders(19), x -> x.order(0, 1, 4));
        refused(c, "a 21st order, one being filled and one cancelled", () -> orders(20), STATE,
                x -> x.order(0, 1, 4));
    }

    // Parts.

    private static void partIsAdded(Checks c) {
        Hopyard x = brewery("fttt", 0, 1, 0, 0, 1, 0);
        for (int recipe = 0; recipe < 2; recipe++) {
            x.brew(recipe, 0);
            x.pass(3);
        }
        x.order(0, 2, 50);
        x.blend(0, 1, 3);
        x.blend(0, 0, 4);
        c.equal("nothing is drawn yet", x.deliveries() + statuses(x), "0o");
        x.pass(1);
        c.equal("the part of another recipe, and that of the same", deliveriesOf(x), "0/0/2 1/0/3 0/0/4");
        x.order(0, 14, 50);
        x.blend(1, 0, 1);
        c.equal("14 and 1 of 14 units", x.pass(1) + statuses(x), "0fo");
    }

    private static void numberOfParts(Checks c) {
        Hopyard x = brewery("f", 0, 1, 0);
        x.order(0, 1, 9);
        x.order(0, 1, 9);
        c.answer("the second part", () -> x.blend(0, 0, 1), 2);
        c.answer("the third part", () -> x.blend(0, 0, 1), 3);
        c.answer("the second part of another order", () -> x.blend(1, 0, 1), 2);
        c.answer("a refused part", () -> x.blend(0, 0, 41), ARGUMENT);
        c.answer("the fourth part", () -> x.blend(0, 0, 1), 4);
    }

    /** So many orders of recipe 0, each with so many parts. */
    private static Hopyard parted(int orders, int parts) {
        Hopyard x = brewery("f", 0, 1, 0, 1, 1, 0);
        for (int i = 0; i < orders; i++) {
            x.order(0, 1, 9);
            for (int part = 1; part < parts; part++) {
                x.blend(i, 1, 1);
            }
        }
        return x;
    }

    private static void blendOfNoOrderOrRecipe(Checks c) {
        refused(c, "no order at all", () -> parted(0, 1), INDEX, x -> x.blend(0, 0, 1));
        outside(c, "order", 0, 1, () -> parted(2, 1), INDEX, (x, order) -> x.blend(order, 0, 1));
        outside(c, "recipe", 0, 1, () -> parted(2, 1), INDEX, (x, recipe) -> x.blend(0, recipe, 1));
        inside(c, "order", 0, 1, () -> parted(2, 1), (x, order) -> x.blend(order, 0, 1));
        inside(c, "recipe", 0, 1, () -> parted(2, 1), (x, recipe) -> x.blend(0, recipe, 1));
    }

    private static void blendOutOfBounds(Checks c) {
        outside(c, "units", 1, 40, () -> parted(1, 1), ARGUMENT, (x, units) -> x.blend(0, 1, units));
        inside(c, "units", 1, 40, () -> parted(1, 1), (x, units) -> x.blend(0, 1, units));
    }

    private static void blendNotOpenOrFull(Checks c) {
        refused(c, "a filled order", () -> orders(3), STATE, x -> x.blend(0, 0, 1));
        refused(c, "a cancelled order", () -> orders(3), STATE, x -> x.blend(1, 0, 1));
        taken(c, "an open order", () -> orders(3), x -> x.blend(2, 0, 1));
        taken(c, "a fourth part", () -> parted(1, 3), x -> x.blend(0, 0, 1));
        refused(c, "a fifth part", () -> parted(1, 4), STATE, x -> x.blend(0, 0, 1));
    }

    // Cancelling.

    private static void orderIsCancelled(Checks c) {
        Hopyard x = ready(1);
        x.order(0, 15, 50);
        x.order(0, 16, 50);
        x.cancel(0);
        c.equal("it alone", statuses(x), "co");
        c.equal("the other one is filled, it is not", x.pass(2) + statuses(x) + x.stock(0), "1cf4");
    }

    private static void cancelledUnits(Checks c) {
        Hopyard x = parted(1, 1);
        c.equal("one unit", x.cancel(0), 1);
        Hopyard y = parted(2, 1);
        y.blend(1, 1, 40);
        y.blend(1, 0, 30);
        y.blend(1, 1, 20);
        c.equal("of all its parts", y.cancel(1), 91);
        c.equal("and of no other order", y.cancel(0), 1);
        Hopyard z = brewery("f", 0, 1, 0);
        z.order(0, 40, 9);
        for (int i = 0; i < 3; i++) {
            z.blend(0, 0, 40);
        }
        c.equal("the most", z.cancel(0), 160);
    }

    private static void needsOrder(Checks c, Change asked, NumberedChange call) {
        refused(c, "no order at all", () -> ready(1), INDEX, asked);
        outside(c, "order", 0, 2, () -> orders(3), INDEX, call);
    }

    private static void needsOrder(Checks c, NumberedChange call) {
        needsOrder(c, x -> call.make(x, 0), call);
        for (int order = 0; order < 3; order++) {
            int number = order;
            Object answer = Checks.answerOf(() -> call.make(orders(3), number));
            c.equal("there is order " + order, answer != INDEX, true);
        }
    }

    private static void cancelNotOpen(Checks c) {
        refused(c, "a filled order", () -> orders(3), STATE, x -> x.cancel(0));
        refused(c, "a cancelled order", () -> orders(3), STATE, x -> x.cancel(1));
        taken(c, "an open order", () -> orders(3), x -> x.cancel(2));
    }

    // Orders, asked.

    private static void statusOfEach(Checks c) {
        Hopyard x = ready(1);
        x.order(0, 20, 3);
        c.equal("open", x.status(0), 'o');
        x.order(0, 1, 3);
        x.order(0, 1, 3);
        x.cancel(2);
        c.equal("cancelled", x.status(2), 'c');
        x.pass(1);
        c.equal("filled", x.status(0), 'f');
        c.equal("still open, though its due day is over", x.status(1), 'o');
        x.pass(30);
        c.equal("they stay so", statuses(x), "foc");
    }

    private static void filledDay(Checks c) {
        Hopyard x = ready(1);
        x.order(0, 5, 50);
        x.pass(1);
        c.equal("on the first day, not the due day", x.filledOn(0), 4);
        x.pass(3);
        x.order(0, 5, 50);
        x.pass(30);
        c.equal("on the first of many days", x.filledOn(1), 8);
        c.equal("the day stays", x.filledOn(0), 4);
    }

    private static void filledOnNotFilled(Checks c) {
        refused(c, "a cancelled order", () -> orders(3), STATE, x -> x.filledOn(1));
        refused(c, "an open order", () -> orders(3), STATE, x -> x.filledOn(2));
        taken(c, "a filled order", () -> orders(3), x -> x.filledOn(0));
    }

    private static void shareOnTime(Checks c) {
        Hopyard x = ready(1);
        x.order(0, 1, 3);
        x.pass(1);
        c.answer("a day late", x::onTime, 0f);
        x.order(0, 1, 5);
        x.pass(1);
        c.answer("one of two, on its due day", x::onTime, 0.5f);
        x.order(0, 1, 7);
        x.order(0, 1, 90);
        x.pass(1);
        c.answer("three of four, earlier", x::onTime, 0.75f);
        x.order(0, 40, 6);
        x.order(0, 1, 90);
        x.cancel(5);
        x.pass(1);
        c.answer("open and cancelled ones don't count", x::onTime, 0.75f);
        Hopyard y = ready(1);
        y.order(0, 1, 4);
        y.pass(1);
        c.answer("all", y::onTime, 1f);
    }

    private static void shareAsFloat(Checks c) {
        for (int filled = 1; filled <= 7; filled++) {
            for (int late = 0; late <= filled; late++) {
                Hopyard x = ready(1);
                for (int i = 0; i < filled; i++) {
                    x.order(0, 1, i < late ? 3 : 4);
                }
                x.pass(1);
                float due = (float) (filled - late) / (float) filled;
                c.answer(late + " of " + filled + " late", x::onTime, due);
            }
        }
    }

    private static void shareOfNone(Checks c) {
        refused(c, "no order", () -> ready(1), NONE, Hopyard::onTime);
        Maker open = () -> {
            Hopyard x = ready(1);
            x.order(0, 21, 3);
            x.pass(9);
            return x;
        };
        refused(c, "an open order alone", open, NONE, Hopyard::onTime);
        Maker cancelled = () -> {
            Hopyard x = ready(1);
            x.order(0, 1, 3);
            x.cancel(0);
            return x;
        };
        refused(c, "a cancelled order alone", cancelled, NONE, Hopyard::onTime);
        c.answer("one filled", () -> orders(2).onTime(), 0f);
    }

    // Days.

    private static void daysPass(Checks c) {
        Hopyard x = brewery("ft", 0, 14, 14);
        x.brew(0, 0);
        x.pass(1);
        c.equal("one day", x.day() + stages(x) + x.daysToGo(0), "1f13");
        x.pass(12);
        c.equal("13 days in all", x.day() + stages(x) + x.daysToGo(0), "13f1");
        x.pass(14);
        c.equal("14 days more, one by one", x.day() + stages(x) + x.daysToGo(0), "27m1");
        x.pass(30);
        c.equal("the most at once", x.day() + stages(x) + states(x), "57rcu");
    }

    private static void ordersFilled(Checks c) {
        Hopyard x = ready(2);
        c.equal("none, there being no order", x.pass(1), 0);
        x.order(0, 10, 50);
        x.order(0, 10, 50);
        x.order(0, 40, 50);
        c.equal("two of three", x.pass(1), 2);
        c.equal("none, though there is one", x.pass(1), 0);
        Hopyard y = brewery("ft", 0, 1, 1);
        for (int i = 0; i < 4; i++) {
            y.enqueue(0);
            y.order(0, 20, 60);
        }
        c.equal("on several days", y.pass(30), 4);
    }

    private static void passOutOfBounds(Checks c) {
        outside(c, "days", 1, 30, () -> orders(3), ARGUMENT, Hopyard::pass);
        inside(c, "days", 1, 30, () -> orders(3), Hopyard::pass);
    }

    private static void dayIsReturned(Checks c) {
        Hopyard x = new Hopyard();
        c.equal("at first", x.day(), 0);
        x.pass(1);
        c.equal("after one", x.day(), 1);
        x.pass(30);
        c.equal("after 30 more", x.day(), 31);
        c.equal("asked again", x.day(), 31);
    }
}
