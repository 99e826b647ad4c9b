import java.util.ArrayList;
import java.util.List;
import java.util.NoSuchElementException;

/** A scheduler for a brewery: brews, yeast, vessels, a queue and orders, day by day. Not thread-safe. */
public final class Hopyard {
    private static final int MAX_RECIPES = 5;
    private static final int MAX_VESSELS = 8;
    private static final int MAX_BREWS = 30;
    private static final int MAX_QUEUE = 6;
    private static final int MAX_ORDERS = 20;
    private static final int MAX_PARTS = 4;
    private static final int MAX_CREWS = 3;
    private static final int MAX_PACKS = 9;
    private static final int MAX_UNITS = 40;
    private static final int MAX_DAYS_AHEAD = 99;
    private static final int MAX_PASS = 30;
    private static final int MAX_FERMENT = 14;
    private static final int MAX_MATURE = 14;

    private static final int STRAINS = 4;
    private static final int NO_STRAIN = -1;
    private static final int BREW_UNITS = 20;
    private static final int PITCHES_OF_A_BREW = 2;
    private static final int LAST_GENERATION = 4;
    private static final int PITCH_DAYS = 10;
    private static final int FERMENTER_CLEANING = 2;
    private static final int TANK_CLEANING = 1;
    /** 6 recipes have at most 6! orders. */
    private static final int ALL_ORDERS = 720;

    private static final char FERMENTER = 'f';
    private static final char TANK = 't';

    private static final char CLEAN = 'c';
    private static final char IN_USE = 'u';
    private static final char DIRTY = 'd';
    private static final char CLEANING = 'g';

    private static final char FERMENTING = 'f';
    private static final char WAITING = 'w';
    private static final char MATURING = 'm';
    private static final char READY = 'r';
    private static final char DRAINED = 'x';

    private static final char OPEN = 'o';
    private static final char FILLED = 'f';
    private static final char CANCELLED = 'c';

    private final List<Yeast> yeasts = new ArrayList<>();
    private final List<Recipe> recipeList = new ArrayList<>();
    private final List<Vessel> vesselList = new ArrayList<>();
    private final List<Brew> brewList = new ArrayList<>();
    private final List<Recipe> queue = new ArrayList<>();
    private final List<Order> orderList = new ArrayList<>();
    private final List<Order> ordersByDue = new ArrayList<>();
    private final List<Delivery> deliveryList = new ArrayList<>();
    /** The dirty vessels in the order in which they became dirty. */
    private final List<Vessel> dirtyVessels = new ArrayList<>();
    private final Planner planner = new Planner();
    private int crewCount = 1;
    private int today = 0;

    public Hopyard() {
        for (int strain = 0; strain < STRAINS; strain++) {
            yeasts.add(new Yeast());
        }
    }

    // Recipes, vessels, yeast.

    public int addRecipe(int strain, int ferment, int mature)
            throws IllegalArgumentException, IllegalStateException {
        Yeast yeast = yeastOf(strain);
        if (isOutside(ferment, 1, MAX_FERMENT) || isOutside(mature, 0, MAX_MATURE)) {
            throw new IllegalArgumentException("no such number of days");
        }
        if (recipeList.size() >= MAX_RECIPES) {
            throw new IllegalStateException("no more recipes");
        }
        Recipe recipe = new Recipe(recipeList.size(), strain, yeast, ferment, mature);
        recipeList.add(recipe);
        return recipe.number;
    }

    public int addVessel(char kind) throws IllegalArgumentException, IllegalStateException {
        if (kind != FERMENTER && kind != TANK) {
            throw new IllegalArgumentException("no such kind");
        }
        if (vesselList.size() >= MAX_VESSELS) {
            throw new IllegalStateException("no more vessels");
        }
        Vessel vessel = new Vessel(vesselList.size(), kind);
        vesselList.add(vessel);
        if (kind == FERMENTER) {
            planner.slots.add(new Slot(vessel));
        }
        return vessel.number;
    }

    public int setCrews(int crews) throws IllegalArgumentException {
        if (isOutside(crews, 0, MAX_CREWS)) {
            throw new IllegalArgumentException("no such number of crews");
        }
        int before = crewCount;
        crewCount = crews;
        return before;
    }

    public int addPacks(int strain, int packs) throws IllegalArgumentException {
        Yeast yeast = yeastOf(strain);
        if (isOutside(packs, 1, MAX_PACKS)) {
            throw new IllegalArgumentException("no such number of packs");
        }
        yeast.packCount += packs;
        return yeast.packCount;
    }

    public int pitches(int strain) throws IllegalArgumentException {
        return yeastOf(strain).countUsable(today);
    }

    public int nextGeneration(int strain) throws IllegalArgumentException, NoSuchElementException {
        Yeast yeast = yeastOf(strain);
        if (!yeast.isThere(today)) {
            throw new NoSuchElementException("no yeast");
        }
        return yeast.generationToTake(today);
    }

    // Brews and the queue.

    public int brew(int recipe, int vessel) throws IndexOutOfBoundsException, UnsupportedOperationException,
            IllegalStateException, NoSuchElementException {
        Recipe chosen = recipeAt(recipe);
        Vessel fermenter = vesselAt(vessel);
        if (fermenter.kind == TANK) {
            throw new UnsupportedOperationException("a tank");
        }
        if (fermenter.condition != CLEAN || isFullyBooked()) {
            throw new IllegalStateException("not clean, or no more brews");
        }
        if (!chosen.yeast.isThere(today)) {
            throw new NoSuchElementException("no yeast");
        }
        return startBrew(chosen, fermenter);
    }

    public int enqueue(int recipe) throws IndexOutOfBoundsException, IllegalStateException {
        Recipe chosen = recipeAt(recipe);
        if (queue.size() >= MAX_QUEUE || isFullyBooked()) {
            throw new IllegalStateException("no more in the queue");
        }
        queue.add(chosen);
        return queue.size();
    }

    public int withdraw(int index) throws NoSuchElementException {
        int number = queuedRecipe(index).number;
        queue.remove(index);
        return number;
    }

    public int queued() {
        return queue.size();
    }

    public int queuedAt(int index) throws NoSuchElementException {
        return queuedRecipe(index).number;
    }

    public int forecast() throws NoSuchElementException {
        checkForecast();
        return planner.forecastOf(queue, today);
    }

    public int bestForecast() throws NoSuchElementException {
        checkForecast();
        return planner.findBest(queue, today);
    }

    public int bestForecastByTrying() throws NoSuchElementException {
        checkForecast();
        return planner.tryAll(queue, today);
    }

    public int improve() throws NoSuchElementException {
        checkForecast();
        int before = planner.forecastOf(queue, today);
        int after = planner.findBest(queue, today);
        copyRecipes(planner.best, queue);
        return before - after;
    }

    // Orders.

    public int order(int recipe, int units, int due)
            throws IndexOutOfBoundsException, IllegalArgumentException, IllegalStateException {
        Recipe chosen = recipeAt(recipe);
        if (isOutside(units, 1, MAX_UNITS) || isOutside(due, today, today + MAX_DAYS_AHEAD)) {
            throw new IllegalArgumentException("no such units or due day");
        }
        if (orderList.size() >= MAX_ORDERS) {
            throw new IllegalStateException("no more orders");
        }
        Order order = new Order(orderList.size(), due);
        order.parts.add(new Part(chosen, units));
        orderList.add(order);
        insertByDue(order);
        return order.number;
    }

    public int blend(int order, int recipe, int units)
            throws IndexOutOfBoundsException, IllegalArgumentException, IllegalStateException {
        Order blended = orderAt(order);
        Recipe chosen = recipeAt(recipe);
        if (isOutside(units, 1, MAX_UNITS)) {
            throw new IllegalArgumentException("no such number of units");
        }
        if (blended.progress != OPEN || blended.parts.size() >= MAX_PARTS) {
            throw new IllegalStateException("not open, or no more parts");
        }
        blended.parts.add(new Part(chosen, units));
        return blended.parts.size();
    }

    public int cancel(int order) throws IndexOutOfBoundsException, IllegalStateException {
        Order cancelled = orderAt(order);
        if (cancelled.progress != OPEN) {
            throw new IllegalStateException("not open");
        }
        cancelled.progress = CANCELLED;
        return cancelled.allUnits();
    }

    public char status(int order) throws IndexOutOfBoundsException {
        return orderAt(order).progress;
    }

    public int filledOn(int order) throws IndexOutOfBoundsException, IllegalStateException {
        Order filled = orderAt(order);
        if (filled.progress != FILLED) {
            throw new IllegalStateException("not filled");
        }
        return filled.filledDay;
    }

    public float onTime() throws NoSuchElementException {
        int filled = 0;
        int punctual = 0;
        for (int i = 0; i < orderList.size(); i++) {
            Order order = orderList.get(i);
            if (order.progress == FILLED) {
                filled++;
                punctual += order.filledDay <= order.dueDay ? 1 : 0;
            }
        }
        if (filled == 0) {
            throw new NoSuchElementException("no order was filled");
        }
        return (float) punctual / (float) filled;
    }

    // Days.

    public int pass(int days) throws IllegalArgumentException {
        if (isOutside(days, 1, MAX_PASS)) {
            throw new IllegalArgumentException("no such number of days");
        }
        int filled = 0;
        for (int i = 0; i < days; i++) {
            filled += passOneDay();
        }
        return filled;
    }

    public int day() {
        return today;
    }

    // Vessels and brews, asked.

    public char state(int vessel) throws IndexOutOfBoundsException {
        return vesselAt(vessel).condition;
    }

    public int brewIn(int vessel) throws IndexOutOfBoundsException, NoSuchElementException {
        Brew brew = vesselAt(vessel).content;
        if (brew == null) {
            throw new NoSuchElementException("not in use");
        }
        return brew.number;
    }

    public int cleanDay(int vessel) throws IndexOutOfBoundsException, NoSuchElementException {
        Vessel cleaned = vesselAt(vessel);
        if (cleaned.condition != CLEANING) {
            throw new NoSuchElementException("not being cleaned");
        }
        return today + cleaned.daysLeft;
    }

    public int brews() {
        return brewList.size();
    }

    public int recipeOf(int brew) throws IndexOutOfBoundsException {
        return brewAt(brew).recipe.number;
    }

    public int generation(int brew) throws IndexOutOfBoundsException {
        return brewAt(brew).yeastGeneration;
    }

    public char stage(int brew) throws IndexOutOfBoundsException {
        return brewAt(brew).phase;
    }

    public int vesselOf(int brew) throws IndexOutOfBoundsException, NoSuchElementException {
        Vessel vessel = brewAt(brew).vessel;
        if (vessel == null) {
            throw new NoSuchElementException("drained");
        }
        return vessel.number;
    }

    public int daysToGo(int brew) throws IndexOutOfBoundsException, NoSuchElementException {
        Brew asked = brewAt(brew);
        if (!asked.isAtWork()) {
            throw new NoSuchElementException("neither ferments nor matures");
        }
        return asked.daysLeft;
    }

    // Stocks and deliveries.

    public int stock(int recipe) throws IndexOutOfBoundsException {
        return unitsReady(recipeAt(recipe));
    }

    public int stockByDeliveries(int recipe) throws IndexOutOfBoundsException {
        Recipe asked = recipeAt(recipe);
        int units = 0;
        for (int i = 0; i < brewList.size(); i++) {
            Brew brew = brewList.get(i);
            if (brew.recipe == asked && (brew.phase == READY || brew.phase == DRAINED)) {
                units += BREW_UNITS;
            }
        }
        for (int i = 0; i < deliveryList.size(); i++) {
            Delivery delivery = deliveryList.get(i);
            if (delivery.brew.recipe == asked) {
                units -= delivery.units;
            }
        }
        return units;
    }

    public int deliveries() {
        return deliveryList.size();
    }

    public int deliveredBrew(int delivery) throws IndexOutOfBoundsException {
        return deliveryAt(delivery).brew.number;
    }

    public int deliveredOrder(int delivery) throws IndexOutOfBoundsException {
        return deliveryAt(delivery).order.number;
    }

    public int deliveredUnits(int delivery) throws IndexOutOfBoundsException {
        return deliveryAt(delivery).units;
    }

    // What the calls look up and test.

    private static boolean isOutside(int value, int least, int most) {
        return value < least || value > most;
    }

    private Yeast yeastOf(int strain) {
        if (strain < 0 || strain >= yeasts.size()) {
            throw new IllegalArgumentException("no such strain");
        }
        return yeasts.get(strain);
    }

    private Recipe recipeAt(int number) {
        if (number < 0 || number >= recipeList.size()) {
            throw new IndexOutOfBoundsException("no such recipe");
        }
        return recipeList.get(number);
    }

    private Vessel vesselAt(int number) {
        if (number < 0 || number >= vesselList.size()) {
            throw new IndexOutOfBoundsException("no such vessel");
        }
        return vesselList.get(number);
    }

    private Brew brewAt(int number) {
        if (number < 0 || number >= brewList.size()) {
            throw new IndexOutOfBoundsException("no such brew");
        }
        return brewList.get(number);
    }

    private Order orderAt(int number) {
        if (number < 0 || number >= orderList.size()) {
            throw new IndexOutOfBoundsException("no such order");
        }
        return orderList.get(number);
    }

    private Delivery deliveryAt(int number) {
        if (number < 0 || number >= deliveryList.size()) {
            throw new IndexOutOfBoundsException("no such delivery");
        }
        return deliveryList.get(number);
    }

    private Recipe queuedRecipe(int index) {
        if (index < 0 || index >= queue.size()) {
            throw new NoSuchElementException("no such one in the queue");
        }
        return queue.get(index);
    }

    private void checkForecast() {
        if (queue.isEmpty() || planner.slots.isEmpty()) {
            throw new NoSuchElementException("an empty queue, or no fermenter");
        }
    }

    private boolean isFullyBooked() {
        return brewList.size() + queue.size() >= MAX_BREWS;
    }

    /** Keeps the orders with the same due day in the order of their numbers. */
    private void insertByDue(Order order) {
        int place = ordersByDue.size();
        while (place > 0 && ordersByDue.get(place - 1).dueDay > order.dueDay) {
            place--;
        }
        ordersByDue.add(place, order);
    }

    private int unitsReady(Recipe recipe) {
        int units = 0;
        for (int i = 0; i < brewList.size(); i++) {
            Brew brew = brewList.get(i);
            if (brew.holds(recipe)) {
                units += brew.unitsLeft;
            }
        }
        return units;
    }

    private Vessel firstClean(char kind) {
        for (int i = 0; i < vesselList.size(); i++) {
            Vessel vessel = vesselList.get(i);
            if (vessel.kind == kind && vessel.condition == CLEAN) {
                return vessel;
            }
        }
        return null;
    }

    private static void copyRecipes(List<Recipe> from, List<Recipe> to) {
        to.clear();
        for (int i = 0; i < from.size(); i++) {
            to.add(from.get(i));
        }
    }

    // What is done when a day passes.

    private int passOneDay() {
        today++;
        continueCleaning();
        ageBrews();
        moveWaitingBrews();
        int filled = fillOrders();
        beginCleaning();
        startQueued();
        return filled;
    }

    private void continueCleaning() {
        for (int i = 0; i < vesselList.size(); i++) {
            Vessel vessel = vesselList.get(i);
            if (vessel.condition == CLEANING) {
                vessel.daysLeft--;
                if (vessel.daysLeft == 0) {
                    vessel.condition = CLEAN;
                }
            }
        }
    }

    private void ageBrews() {
        for (int i = 0; i < brewList.size(); i++) {
            Brew brew = brewList.get(i);
            if (brew.isAtWork()) {
                brew.daysLeft--;
                if (brew.daysLeft == 0) {
                    finishPhase(brew);
                }
            }
        }
    }

    private void finishPhase(Brew brew) {
        if (brew.phase == FERMENTING) {
            brew.phase = WAITING;
            brew.recipe.yeast.harvest(brew.yeastGeneration + 1, today);
        } else {
            brew.becomeReady();
        }
    }

    private void moveWaitingBrews() {
        for (int i = 0; i < brewList.size(); i++) {
            Brew brew = brewList.get(i);
            if (brew.phase == WAITING) {
                Vessel tank = firstClean(TANK);
                if (tank != null) {
                    leaveVessel(brew);
                    tank.takeIn(brew);
                    brew.mature();
                }
            }
        }
    }

    private int fillOrders() {
        int filled = 0;
        for (int i = 0; i < ordersByDue.size(); i++) {
            Order order = ordersByDue.get(i);
            if (order.progress == OPEN && canFill(order)) {
                fill(order);
                filled++;
            }
        }
        return filled;
    }

    private boolean canFill(Order order) {
        for (int i = 0; i < order.parts.size(); i++) {
            Recipe recipe = order.parts.get(i).recipe;
            if (order.unitsOf(recipe) > unitsReady(recipe)) {
                return false;
            }
        }
        return true;
    }

    private void fill(Order order) {
        for (int i = 0; i < order.parts.size(); i++) {
            draw(order, order.parts.get(i));
        }
        order.progress = FILLED;
        order.filledDay = today;
    }

    private void draw(Order order, Part part) {
        int missing = part.units;
        for (int i = 0; i < brewList.size() && missing > 0; i++) {
            Brew brew = brewList.get(i);
            if (brew.holds(part.recipe)) {
                int drawn = Math.min(missing, brew.unitsLeft);
                missing -= drawn;
                brew.unitsLeft -= drawn;
                deliveryList.add(new Delivery(brew, order, drawn));
                if (brew.unitsLeft == 0) {
                    brew.phase = DRAINED;
                    leaveVessel(brew);
                }
            }
        }
    }

    private void leaveVessel(Brew brew) {
        Vessel vessel = brew.vessel;
        if (vessel != null) {
            brew.vessel = null;
            vessel.content = null;
            vessel.condition = DIRTY;
            dirtyVessels.add(vessel);
        }
    }

    private void beginCleaning() {
        int busy = 0;
        for (int i = 0; i < vesselList.size(); i++) {
            busy += vesselList.get(i).condition == CLEANING ? 1 : 0;
        }
        for (int crew = busy; crew < crewCount && !dirtyVessels.isEmpty(); crew++) {
            Vessel vessel = dirtyVessels.remove(0);
            vessel.condition = CLEANING;
            vessel.daysLeft = vessel.kind == FERMENTER ? FERMENTER_CLEANING : TANK_CLEANING;
        }
    }

    private void startQueued() {
        int index = 0;
        for (int looks = queue.size(); looks > 0 && index < queue.size(); looks--) {
            Recipe recipe = queue.get(index);
            Vessel fermenter = firstClean(FERMENTER);
            if (fermenter != null && recipe.yeast.isThere(today)) {
                queue.remove(index);
                startBrew(recipe, fermenter);
            } else {
                index++;
            }
        }
    }

    private int startBrew(Recipe recipe, Vessel fermenter) {
        Brew brew = new Brew(brewList.size(), recipe, recipe.yeast.take(today));
        brew.daysLeft = recipe.fermentDaysAfter(fermenter.lastStrain);
        fermenter.lastStrain = recipe.strain;
        fermenter.takeIn(brew);
        brewList.add(brew);
        return brew.number;
    }

    private static final class Recipe {
        final int number;
        final int strain;
        final Yeast yeast;
        final int fermentDays;
        final int matureDays;

        Recipe(int number, int strain, Yeast yeast, int fermentDays, int matureDays) {
            this.number = number;
            this.strain = strain;
            this.yeast = yeast;
            this.fermentDays = fermentDays;
            this.matureDays = matureDays;
        }

        int fermentDaysAfter(int lastStrain) {
            boolean strainChanges = lastStrain != NO_STRAIN && lastStrain != strain;
            return strainChanges ? fermentDays + 1 : fermentDays;
        }
    }

    /** The yeast of one strain. */
    private static final class Yeast {
        int packCount = 0;
        /** In the order in which they came, which is that of the days of their harvest. */
        final List<Pitch> pitchList = new ArrayList<>();

        int firstUsable(int today) {
            for (int i = 0; i < pitchList.size(); i++) {
                if (pitchList.get(i).isUsable(today)) {
                    return i;
                }
            }
            return -1;
        }

        int countUsable(int today) {
            int usable = 0;
            for (int i = 0; i < pitchList.size(); i++) {
                usable += pitchList.get(i).isUsable(today) ? 1 : 0;
            }
            return usable;
        }

        boolean isThere(int today) {
            return packCount > 0 || firstUsable(today) >= 0;
        }

        int generationToTake(int today) {
            int index = firstUsable(today);
            return index >= 0 ? pitchList.get(index).generation : 0;
        }

        int take(int today) {
            int index = firstUsable(today);
            if (index >= 0) {
                return pitchList.remove(index).generation;
            }
            packCount--;
            return 0;
        }

        void harvest(int generation, int today) {
            if (generation <= LAST_GENERATION) {
                for (int i = 0; i < PITCHES_OF_A_BREW; i++) {
                    pitchList.add(new Pitch(generation, today));
                }
            }
        }
    }

    private static final class Pitch {
        final int generation;
        final int harvestDay;

        Pitch(int generation, int harvestDay) {
            this.generation = generation;
            this.harvestDay = harvestDay;
        }

        boolean isUsable(int today) {
            return today <= harvestDay + PITCH_DAYS;
        }
    }

    private static final class Vessel {
        final int number;
        final char kind;
        char condition = CLEAN;
        int daysLeft = 0;
        int lastStrain = NO_STRAIN;
        Brew content = null;

        Vessel(int number, char kind) {
            this.number = number;
            this.kind = kind;
        }

        void takeIn(Brew brew) {
            condition = IN_USE;
            content = brew;
            brew.vessel = this;
        }

        /** For the forecast alone, which leaves out tanks and crews. */
        int daysUntilFree() {
            if (condition == CLEAN) {
                return 0;
            }
            if (condition == CLEANING) {
                return daysLeft;
            }
            if (content != null && content.phase == FERMENTING) {
                return content.daysLeft + FERMENTER_CLEANING;
            }
            return FERMENTER_CLEANING;
        }
    }

    private static final class Brew {
        final int number;
        final Recipe recipe;
        final int yeastGeneration;
        char phase = FERMENTING;
        int daysLeft = 0;
        int unitsLeft = 0;
        Vessel vessel = null;

        Brew(int number, Recipe recipe, int yeastGeneration) {
            this.number = number;
            this.recipe = recipe;
            this.yeastGeneration = yeastGeneration;
        }

        boolean isAtWork() {
            return phase == FERMENTING || phase == MATURING;
        }

        boolean holds(Recipe wanted) {
            return phase == READY && recipe == wanted;
        }

        void mature() {
            phase = MATURING;
            daysLeft = recipe.matureDays;
            if (daysLeft == 0) {
                becomeReady();
            }
        }

        void becomeReady() {
            phase = READY;
            unitsLeft = BREW_UNITS;
        }
    }

    private static final class Order {
        final int number;
        final int dueDay;
        final List<Part> parts = new ArrayList<>();
        char progress = OPEN;
        int filledDay = 0;

        Order(int number, int dueDay) {
            this.number = number;
            this.dueDay = dueDay;
        }

        int allUnits() {
            int units = 0;
            for (int i = 0; i < parts.size(); i++) {
                units += parts.get(i).units;
            }
            return units;
        }

        int unitsOf(Recipe recipe) {
            int units = 0;
            for (int i = 0; i < parts.size(); i++) {
                Part part = parts.get(i);
                units += part.recipe == recipe ? part.units : 0;
            }
            return units;
        }
    }

    private static final class Part {
        final Recipe recipe;
        final int units;

        Part(Recipe recipe, int units) {
            this.recipe = recipe;
            this.units = units;
        }
    }

    private static final class Delivery {
        final Brew brew;
        final Order order;
        final int units;

        Delivery(Brew brew, Order order, int units) {
            this.brew = brew;
            this.order = order;
            this.units = units;
        }
    }

    /** A fermenter as the forecast sees it. */
    private static final class Slot {
        final Vessel fermenter;
        int freeOn = 0;
        int lastStrain = NO_STRAIN;

        Slot(Vessel fermenter) {
            this.fermenter = fermenter;
        }

        void reset(int today) {
            freeOn = today + fermenter.daysUntilFree();
            lastStrain = fermenter.lastStrain;
        }

        /** Returns the day on which the recipe would have fermented. */
        int plan(Recipe recipe) {
            int fermented = freeOn + recipe.fermentDaysAfter(lastStrain);
            lastStrain = recipe.strain;
            freeOn = fermented + FERMENTER_CLEANING;
            return fermented;
        }
    }

    /** Forecasts for orders of the queue; its lists are made once, so that a search makes no objects. */
    private static final class Planner {
        final List<Slot> slots = new ArrayList<>();
        final List<Recipe> best = new ArrayList<>();
        private final List<Recipe> rest = new ArrayList<>();
        private final List<Recipe> tried = new ArrayList<>();
        private int bestDay = 0;

        int forecastOf(List<Recipe> recipes, int today) {
            resetSlots(today);
            int latest = today;
            for (int i = 0; i < recipes.size(); i++) {
                Slot slot = firstFree();
                if (slot != null) {
                    latest = Math.max(latest, slot.plan(recipes.get(i)));
                }
            }
            return latest;
        }

        /** Leaves the best order in best. */
        int findBest(List<Recipe> recipes, int today) {
            // The day after the present forecast: an order that is worse than the present one is given up at once.
            bestDay = forecastOf(recipes, today) + 1;
            resetSlots(today);
            copySorted(recipes, rest);
            tried.clear();
            search(this, 0, today);
            return bestDay;
        }

        int tryAll(List<Recipe> recipes, int today) {
            copySorted(recipes, tried);
            int least = forecastOf(tried, today);
            for (int i = 1; i < ALL_ORDERS && goToNextOrder(tried); i++) {
                least = Math.min(least, forecastOf(tried, today));
            }
            return least;
        }

        private void resetSlots(int today) {
            for (int i = 0; i < slots.size(); i++) {
                slots.get(i).reset(today);
            }
        }

        private Slot firstFree() {
            Slot first = null;
            for (int i = 0; i < slots.size(); i++) {
                Slot slot = slots.get(i);
                if (first == null || slot.freeOn < first.freeOn) {
                    first = slot;
                }
            }
            return first;
        }

        /**
         * Tries the rest by rising recipes, so that of several best orders the due one comes first
         * and no later one, being no earlier, takes its place.
         */
        private static void search(Planner plan, int depth, int latest) {
            if (latest >= plan.bestDay || depth > MAX_QUEUE) {
                return;
            }
            if (plan.rest.isEmpty()) {
                plan.bestDay = latest;
                copyRecipes(plan.tried, plan.best);
                return;
            }
            Slot slot = plan.firstFree();
            if (slot == null) {
                return;
            }
            int freeOn = slot.freeOn;
            int lastStrain = slot.lastStrain;
            for (int i = 0; i < MAX_QUEUE && i < plan.rest.size(); i++) {
                if (i == 0 || plan.rest.get(i) != plan.rest.get(i - 1)) {
                    Recipe recipe = plan.rest.remove(i);
                    plan.tried.add(recipe);
                    search(plan, depth + 1, Math.max(latest, slot.plan(recipe)));
                    plan.undoLast(i, recipe);
                    slot.freeOn = freeOn;
                    slot.lastStrain = lastStrain;
                }
            }
        }

        private void undoLast(int index, Recipe recipe) {
            if (!tried.isEmpty()) {
                tried.remove(tried.size() - 1);
            }
            if (index >= 0 && index <= rest.size()) {
                rest.add(index, recipe);
            }
        }

        private static void copySorted(List<Recipe> from, List<Recipe> to) {
            to.clear();
            for (int i = 0; i < from.size(); i++) {
                Recipe recipe = from.get(i);
                int place = to.size();
                while (place > 0 && to.get(place - 1).number > recipe.number) {
                    place--;
                }
                to.add(place, recipe);
            }
        }

        /** Puts the recipes into the next greater order; returns false if there is none. */
        private static boolean goToNextOrder(List<Recipe> row) {
            int left = row.size() - 2;
            while (left >= 0 && row.get(left).number >= row.get(left + 1).number) {
                left--;
            }
            if (left < 0) {
                return false;
            }
            int right = row.size() - 1;
            while (right > left && row.get(right).number <= row.get(left).number) {
                right--;
            }
            swap(row, left, right);
            int high = row.size() - 1;
            for (int low = left + 1; low < high; low++) {
                swap(row, low, high);
                high--;
            }
            return true;
        }

        private static void swap(List<Recipe> row, int one, int other) {
            Recipe recipe = row.get(one);
            row.set(one, row.get(other));
            row.set(other, recipe);
        }
    }
}
