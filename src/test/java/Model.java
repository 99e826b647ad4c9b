import java.util.ArrayList;
import java.util.List;
import java.util.NoSuchElementException;

/**
 * The document a second time, held in plain lists of numbers and looked up afresh at each call; the
 * random runs compare it with the program.
 */
final class Model {
    final List<int[]> recipes = new ArrayList<>();               // strain, ferment, mature
    final List<Character> kinds = new ArrayList<>();
    final List<Integer> cleanIn = new ArrayList<>();             // days to go, 0 if not being cleaned
    final List<Integer> dirtySince = new ArrayList<>();          // number of the event, -1 if not dirty
    final int[] packs = new int[4];
    final List<int[]> pitches = new ArrayList<>();               // strain, generation, day
    final List<int[]> brews = new ArrayList<>();                 // recipe, generation, stage, vessel, days, fermenter
    final List<Integer> queue = new ArrayList<>();
    final List<List<int[]>> orders = new ArrayList<>();          // parts: recipe, units
    final List<int[]> orderState = new ArrayList<>();            // due, status, filled on
    final List<int[]> deliveries = new ArrayList<>();            // brew, order, units
    int crews = 1;
    int day = 0;
    int events = 0;

    private static void need(boolean ok, RuntimeException otherwise) {
        if (!ok) {
            throw otherwise;
        }
    }

    private static boolean in(int x, int from, int to) {
        return from <= x && x <= to;
    }

    private static <T> T get(List<T> list, int index) {
        need(in(index, 0, list.size() - 1), new IndexOutOfBoundsException());
        return list.get(index);
    }

    int addRecipe(int strain, int ferment, int mature) {
        need(in(strain, 0, 3) && in(ferment, 1, 14) && in(mature, 0, 14), new IllegalArgumentException());
        need(recipes.size() < 5, new IllegalStateException());
        recipes.add(new int[] {strain, ferment, mature});
        return recipes.size() - 1;
    }

    int addVessel(char kind) {
        need("ft".indexOf(kind) >= 0, new IllegalArgumentException());
        need(kinds.size() < 8, new IllegalStateException());
        kinds.add(kind);
        cleanIn.add(0);
        dirtySince.add(-1);
        return kinds.size() - 1;
    }

    int setCrews(int number) {
        need(in(number, 0, 3), new IllegalArgumentException());
        int before = crews;
        crews = number;
        return before;
    }

    int addPacks(int strain, int number) {
        need(in(strain, 0, 3) && in(number, 1, 9), new IllegalArgumentException());
        return packs[strain] += number;
    }

    private List<int[]> usable(int strain) {
        return pitches.stream().filter(p -> p[0] == strain && day - p[2] <= 10).toList();
    }

    int pitches(int strain) {
        need(in(strain, 0, 3), new IllegalArgumentException());
        return usable(strain).size();
    }

    int nextGeneration(int strain) {
        need(in(strain, 0, 3), new IllegalArgumentException());
        need(hasYeast(strain), new NoSuchElementException());
        return usable(strain).isEmpty() ? 0 : usable(strain).get(0)[1];
    }

    private boolean hasYeast(int strain) {
        return packs[strain] > 0 || !usable(strain).isEmpty();
    }

    private int brewInside(int vessel) {
        for (int b = 0; b < brews.size(); b++) {
            if (brews.get(b)[3] == vessel) {
                return b;
            }
        }
        return -1;
    }

    private char stateOf(int vessel) {
        return brewInside(vessel) >= 0 ? 'u' : cleanIn.get(vessel) > 0 ? 'g' : dirtySince.get(vessel) >= 0 ? 'd' : 'c';
    }

    private int lastStrain(int fermenter) {
        int strain = -1;
        for (int[] b : brews) {
            strain = b[5] == fermenter ? recipes.get(b[0])[0] : strain;
        }
        return strain;
    }

    private int fermentDays(int recipe, int last) {
        int[] r = recipes.get(recipe);
        return r[1] + (last == -1 || last == r[0] ? 0 : 1);
    }

    private void start(int recipe, int vessel) {
        int strain = recipes.get(recipe)[0];
        int generation = nextGeneration(strain);
        if (usable(strain).isEmpty()) {
            packs[strain]--;
        } else {
            pitches.remove(usable(strain).get(0));
        }
        brews.add(new int[] {recipe, generation, 'f', vessel, fermentDays(recipe, lastStrain(vessel)), vessel});
    }

    int brew(int recipe, int vessel) {
        get(recipes, recipe);
        need(get(kinds, vessel) == 'f', new UnsupportedOperationException());
        need(stateOf(vessel) == 'c' && brews.size() + queue.size() < 30, new IllegalStateException());
        need(hasYeast(recipes.get(recipe)[0]), new NoSuchElementException());
        start(recipe, vessel);
        return brews.size() - 1;
    }

    int enqueue(int recipe) {
        get(recipes, recipe);
        need(queue.size() < 6 && brews.size() + queue.size() < 30, new IllegalStateException());
        queue.add(recipe);
        return queue.size();
    }

    int queuedAt(int index) {
        need(in(index, 0, queue.size() - 1), new NoSuchElementException());
        return queue.get(index);
    }

    int withdraw(int index) {
        int recipe = queuedAt(index);
        queue.remove(index);
        return recipe;
    }

    private int freeOn(int fermenter) {
        switch (stateOf(fermenter)) {
            case 'c': return day;
            case 'g': return day + cleanIn.get(fermenter);
            case 'd': return day + 2;
            default:
                int[] b = brews.get(brewInside(fermenter));
                return b[2] == 'w' ? day + 2 : day + b[4] + 2;
        }
    }

    private int forecastOf(List<Integer> row) {
        int[] free = new int[8];
        int[] last = new int[8];
        for (int v = 0; v < kinds.size(); v++) {
            free[v] = kinds.get(v) == 'f' ? freeOn(v) : 0;
            last[v] = lastStrain(v);
        }
        int latest = 0;
        for (int recipe : row) {
            int at = -1;
            for (int v = kinds.size() - 1; v >= 0; v--) {
                if (kinds.get(v) == 'f' && (at < 0 || free[v] <= free[at])) {
                    at = v;
                }
            }
            int done = free[at] + fermentDays(recipe, last[at]);
            last[at] = recipes.get(recipe)[0];
            free[at] = done + 2;
            latest = Math.max(latest, done);
        }
        return latest;
    }

    private void needForecast() {
        need(!queue.isEmpty() && kinds.contains('f'), new NoSuchElementException());
    }

    int forecast() {
        needForecast();
        return forecastOf(queue);
    }

    private static void permute(List<Integer> head, List<Integer> rest, List<List<Integer>> all) {
        if (rest.isEmpty()) {
            all.add(new ArrayList<>(head));
        }
        for (int i = 0; i < rest.size(); i++) {
            List<Integer> others = new ArrayList<>(rest);
            List<Integer> longer = new ArrayList<>(head);
            longer.add(others.remove(i));
            permute(longer, others, all);
        }
    }

    private static boolean isLower(List<Integer> one, List<Integer> other) {
        for (int i = 0; i < one.size(); i++) {
            if (!one.get(i).equals(other.get(i))) {
                return one.get(i) < other.get(i);
            }
        }
        return false;
    }

    private List<Integer> bestOrder() {
        List<List<Integer>> all = new ArrayList<>();
        permute(List.of(), queue, all);
        List<Integer> best = all.get(0);
        for (List<Integer> row : all) {
            int gain = forecastOf(best) - forecastOf(row);
            best = gain > 0 || gain == 0 && isLower(row, best) ? row : best;
        }
        return best;
    }

    int bestForecast() {
        needForecast();
        return forecastOf(bestOrder());
    }

    int improve() {
        needForecast();
        int before = forecast();
        List<Integer> best = bestOrder();
        queue.clear();
        queue.addAll(best);
        return before - forecast();
    }

    int order(int recipe, int units, int due) {
        get(recipes, recipe);
        need(in(units, 1, 40) && in(due, day, day + 99), new IllegalArgumentException());
        need(orders.size() < 20, new IllegalStateException());
        orders.add(new ArrayList<>(List.of(new int[] {recipe, units})));
        orderState.add(new int[] {due, 'o', -1});
        return orders.size() - 1;
    }

    int blend(int order, int recipe, int units) {
        get(orders, order);
        get(recipes, recipe);
        need(in(units, 1, 40), new IllegalArgumentException());
        need(orderState.get(order)[1] == 'o' && orders.get(order).size() < 4, new IllegalStateException());
        orders.get(order).add(new int[] {recipe, units});
        return orders.get(order).size();
    }

    int cancel(int order) {
        get(orders, order);
        need(orderState.get(order)[1] == 'o', new IllegalStateException());
        orderState.get(order)[1] = 'c';
        return orders.get(order).stream().mapToInt(p -> p[1]).sum();
    }

    char status(int order) {
        return (char) get(orderState, order)[1];
    }

    int filledOn(int order) {
        need(status(order) == 'f', new IllegalStateException());
        return orderState.get(order)[2];
    }

    float onTime() {
        long filled = orderState.stream().filter(o -> o[1] == 'f').count();
        need(filled > 0, new NoSuchElementException());
        return (float) orderState.stream().filter(o -> o[1] == 'f' && o[2] <= o[0]).count() / (float) filled;
    }

    int pass(int days) {
        need(in(days, 1, 30), new IllegalArgumentException());
        int filled = 0;
        for (int d = 0; d < days; d++) {
            filled += oneDay();
        }
        return filled;
    }

    private int cleanVessel(char kind) {
        for (int v = 0; v < kinds.size(); v++) {
            if (kinds.get(v) == kind && stateOf(v) == 'c') {
                return v;
            }
        }
        return -1;
    }

    private int oneDay() {
        day++;
        for (int v = 0; v < kinds.size(); v++) {
            cleanIn.set(v, Math.max(0, cleanIn.get(v) - 1));
        }
        for (int[] b : brews) {
            if ((b[2] == 'f' || b[2] == 'm') && --b[4] == 0) {
                if (b[2] == 'f' && b[1] < 4) {
                    pitches.add(new int[] {recipes.get(b[0])[0], b[1] + 1, day});
                    pitches.add(new int[] {recipes.get(b[0])[0], b[1] + 1, day});
                }
                b[2] = b[2] == 'f' ? 'w' : 'r';
            }
        }
        for (int[] b : brews) {
            int tank = cleanVessel('t');
            if (b[2] == 'w' && tank >= 0) {
                dirtySince.set(b[3], events++);
                b[3] = tank;
                b[4] = recipes.get(b[0])[2];
                b[2] = b[4] == 0 ? 'r' : 'm';
            }
        }
        int filled = 0;
        List<Integer> byDue = new ArrayList<>();
        for (int o = 0; o < orders.size(); o++) {
            byDue.add(o);
        }
        byDue.sort((a, b) -> orderState.get(a)[0] - orderState.get(b)[0]);
        for (int o : byDue) {
            filled += orderState.get(o)[1] == 'o' && fillIfPossible(o) ? 1 : 0;
        }
        for (int crew = 0; crew < 3; crew++) {
            cleanOne();
        }
        List<Integer> kept = new ArrayList<>();
        for (int recipe : queue) {
            int fermenter = cleanVessel('f');
            if (fermenter >= 0 && hasYeast(recipes.get(recipe)[0])) {
                start(recipe, fermenter);
            } else {
                kept.add(recipe);
            }
        }
        queue.clear();
        queue.addAll(kept);
        return filled;
    }

    private void cleanOne() {
        int longest = -1;
        int busy = 0;
        for (int v = 0; v < kinds.size(); v++) {
            busy += cleanIn.get(v) > 0 ? 1 : 0;
            if (dirtySince.get(v) >= 0 && (longest < 0 || dirtySince.get(v) < dirtySince.get(longest))) {
                longest = v;
            }
        }
        if (busy < crews && longest >= 0) {
            dirtySince.set(longest, -1);
            cleanIn.set(longest, kinds.get(longest) == 'f' ? 2 : 1);
        }
    }

    private int left(int brew) {
        int units = 20;
        for (int[] d : deliveries) {
            units -= d[0] == brew ? d[2] : 0;
        }
        return units;
    }

    private boolean fillIfPossible(int order) {
        int[] need = new int[5];
        for (int[] part : orders.get(order)) {
            need[part[0]] += part[1];
        }
        for (int r = 0; r < recipes.size(); r++) {
            if (need[r] > stock(r)) {
                return false;
            }
        }
        for (int[] part : orders.get(order)) {
            int open = part[1];
            for (int b = 0; b < brews.size(); b++) {
                if (open > 0 && brews.get(b)[2] == 'r' && brews.get(b)[0] == part[0]) {
                    int drawn = Math.min(open, left(b));
                    deliveries.add(new int[] {b, order, drawn});
                    open -= drawn;
                    if (left(b) == 0) {
                        dirtySince.set(brews.get(b)[3], events++);
                        brews.get(b)[3] = -1;
                        brews.get(b)[2] = 'x';
                    }
                }
            }
        }
        orderState.get(order)[1] = 'f';
        orderState.get(order)[2] = day;
        return true;
    }

    char state(int vessel) {
        get(kinds, vessel);
        return stateOf(vessel);
    }

    int brewIn(int vessel) {
        get(kinds, vessel);
        need(brewInside(vessel) >= 0, new NoSuchElementException());
        return brewInside(vessel);
    }

    int cleanDay(int vessel) {
        need(get(cleanIn, vessel) > 0, new NoSuchElementException());
        return day + cleanIn.get(vessel);
    }

    int recipeOf(int brew) {
        return get(brews, brew)[0];
    }

    int generation(int brew) {
        return get(brews, brew)[1];
    }

    char stage(int brew) {
        return (char) get(brews, brew)[2];
    }

    int vesselOf(int brew) {
        need(get(brews, brew)[3] >= 0, new NoSuchElementException());
        return brews.get(brew)[3];
    }

    int daysToGo(int brew) {
        need("fm".indexOf(stage(brew)) >= 0, new NoSuchElementException());
        return brews.get(brew)[4];
    }

    int stock(int recipe) {
        get(recipes, recipe);
        int units = 0;
        for (int b = 0; b < brews.size(); b++) {
            units += brews.get(b)[0] == recipe && brews.get(b)[2] == 'r' ? left(b) : 0;
        }
        return units;
    }

    int delivered(int delivery, int what) {
        return get(deliveries, delivery)[what];
    }
}
