import java.util.ArrayList;
import java.util.Arrays;
import java.util.HashMap;
import java.util.HashSet;
import java.util.List;
import java.util.Map;
import java.util.NoSuchElementException;
import java.util.Set;
import java.util.regex.Matcher;
import java.util.regex.Pattern;

/**
 * The document done over by trying everything out, with nothing in common with the class but the
 * face: faults by a pass for the form and another for the rest, orders and choices by listing all.
 */
final class PlainModel {
    static final String[] PATTERNS = {
        "law hot #40-90 by #600-900",
        "kitchen NEW at #0-99 hot #60-99",
        "flood #0-98 adds #1-60",
        "dish NEW of LETTERS costs #1-99",
        "diet NEW bars LETTERS",
        "house NEW at #0-99 eats =diet doors #0-30 tea #0-60 chance #0-100 need #1-9 ?dog",
        "car NEW from =kitchen starts #500-800 holds #1-6 cools #0-50 ?afraid",
        "call NEW takes #1-60 chance #0-100",
        "helper NEW days DAYS most #1-7",
    };
    static final Map<String, Integer> ROOM = Map.of("law", 1, "kitchen", 3, "flood", 3, "dish", 6,
            "diet", 4, "house", 6, "car", 3, "call", 5, "helper", 5);
    static final String[] SIZES = {"kitchen", "dish", "diet", "house", "car", "flood", "call", "helper"};
    static final Set<String> NO_NAMES = Set.of("law", "kitchen", "flood", "dish", "diet", "house", "car",
            "call", "helper", "dog", "afraid");

    record Token(String sign, int place) {
        boolean isWord() {
            return sign.matches("[a-z]{1,8}");
        }

        boolean isWhole() {
            return sign.matches("[0-9]{1,3}");
        }

        int whole() {
            return Integer.parseInt(sign);
        }
    }

    record Slot(String want, Token token) { }

    record Fault(int number, int place) { }

    /** One line's numbers in their order; letters and days as bits, a name as its row's number. */
    record Line(String sort, List<Integer> numbers) { }

    private final StringBuilder tape = new StringBuilder();
    private Map<String, List<Line>> day = new HashMap<>();
    private Fault latestFault = new Fault(0, -1);
    private int trouble;
    private final List<List<Integer>> driven = new ArrayList<>();
    private final List<List<Integer>> signs = new ArrayList<>();
    private final List<int[]> probes = new ArrayList<>();
    private int tea;
    private List<Integer> menu;
    private List<Integer> calls;
    private List<Integer> filled;
    private List<Integer> shared;
    private List<Integer> keptFilling;

    // ---- the text

    static List<Token> tokens(String text) {
        List<Token> tokens = new ArrayList<>();
        Matcher matcher = Pattern.compile("[a-z]+|[0-9]+|[^ ]", Pattern.DOTALL).matcher(text);
        while (matcher.find()) {
            tokens.add(new Token(matcher.group(), matcher.start()));
        }
        return tokens;
    }

    /** Matches one line's tokens; fills the slots, and answers the place of a token that is off, or -1. */
    private static int match(List<Token> line, int end, List<Slot> slots) {
        String[] pattern = null;
        for (String candidate : PATTERNS) {
            if (!line.isEmpty() && candidate.split(" ")[0].equals(line.get(0).sign())) {
                pattern = candidate.split(" ");
            }
        }
        if (pattern == null) {
            return line.isEmpty() ? end : line.get(0).place();
        }
        int at = 0;
        for (String want : pattern) {
            if (want.equals("DAYS")) {
                int from = at;
                while (at == from || at < line.size() && line.get(at).sign().equals(",")) {
                    at += at == from ? 0 : 1;
                    if (at >= line.size() || !line.get(at).isWhole()) {
                        return at >= line.size() ? end : line.get(at).place();
                    }
                    slots.add(new Slot("DAY", line.get(at)));
                    at++;
                }
                continue;
            }
            Token token = at < line.size() ? line.get(at) : null;
            if (want.startsWith("?")) {
                if (token != null && token.sign().equals(want.substring(1))) {
                    slots.add(new Slot(want, token));
                    at++;
                }
                continue;
            }
            if (token == null) {
                return end;
            }
            boolean isName = token.isWord() && !NO_NAMES.contains(token.sign());
            boolean fits = want.startsWith("#") ? token.isWhole()
                    : want.equals("LETTERS") ? token.isWord()
                    : want.equals("NEW") || want.startsWith("=") ? isName
                    : token.sign().equals(want);
            if (!fits) {
                return token.place();
            }
            slots.add(new Slot(want, token));
            at++;
        }
        return at < line.size() ? line.get(at).place() : -1;
    }

    /** Answers the day, or the first fault. */
    static Object read(String text) {
        List<List<Slot>> lines = new ArrayList<>();
        List<Fault> faults = new ArrayList<>();
        List<Token> line = new ArrayList<>();
        List<Token> all = tokens(text);
        all.add(new Token("END", text.length()));
        for (Token token : all) {
            if (!token.sign().equals(";") && !token.sign().equals("END")) {
                line.add(token);
                continue;
            }
            List<Slot> slots = new ArrayList<>();
            int off = match(line, token.place(), slots);
            lines.add(slots);
            line = new ArrayList<>();
            if (off >= 0) {
                faults.add(new Fault(1, off));
                break;
            }
        }
        Map<String, List<Line>> day = new HashMap<>();
        Map<String, String> sorts = new HashMap<>();
        Map<String, Integer> rows = new HashMap<>();
        for (List<Slot> slots : lines) {
            weigh(slots, day, sorts, rows, faults);
        }
        for (String needed : List.of("law", "house", "car")) {
            if (!day.containsKey(needed)) {
                faults.add(new Fault(6, text.length()));
            }
        }
        Fault first = null;
        for (Fault fault : faults) {
            boolean sooner = first == null || fault.place() < first.place()
                    || fault.place() == first.place() && fault.number() < first.number();
            first = sooner ? fault : first;
        }
        return first == null ? day : first;
    }

    private static void weigh(List<Slot> slots, Map<String, List<Line>> day, Map<String, String> sorts,
            Map<String, Integer> rows, List<Fault> faults) {
        if (slots.isEmpty()) {
            return;
        }
        String sort = slots.get(0).token().sign();
        List<Line> same = day.computeIfAbsent(sort, s -> new ArrayList<>());
        if (same.size() >= ROOM.get(sort)) {
            faults.add(new Fault(sort.equals("law") ? 3 : 5, slots.get(0).token().place()));
        }
        List<Integer> numbers = new ArrayList<>();
        same.add(new Line(sort, numbers));
        int days = 0;
        boolean daysTold = false;
        for (Slot slot : slots) {
            Token token = slot.token();
            if (slot.want().startsWith("#")) {
                String[] bounds = slot.want().substring(1).split("-");
                if (token.whole() < Integer.parseInt(bounds[0]) || token.whole() > Integer.parseInt(bounds[1])) {
                    faults.add(new Fault(4, token.place()));
                }
                numbers.add(token.whole());
            } else if (slot.want().equals("DAY")) {
                if (token.whole() > 6) {
                    faults.add(new Fault(4, token.place()));
                } else if ((days >> token.whole() & 1) == 1) {
                    faults.add(new Fault(3, token.place()));
                } else {
                    days |= 1 << token.whole();
                }
                if (daysTold) {
                    numbers.remove(numbers.size() - 1);
                }
                numbers.add(days);
                daysTold = true;
            } else if (slot.want().equals("LETTERS")) {
                int bits = 0;
                for (char letter : token.sign().toCharArray()) {
                    bits |= 1 << letter - 'a';
                }
                numbers.add(bits);
            } else if (slot.want().equals("NEW")) {
                if (sorts.containsKey(token.sign())) {
                    faults.add(new Fault(3, token.place()));
                }
                sorts.putIfAbsent(token.sign(), sort);
                rows.putIfAbsent(token.sign(), same.size() - 1);
            } else if (slot.want().startsWith("=")) {
                if (!slot.want().substring(1).equals(sorts.get(token.sign()))) {
                    faults.add(new Fault(2, token.place()));
                }
                numbers.add(rows.getOrDefault(token.sign(), 0));
            } else if (slot.want().startsWith("?")) {
                numbers.add(1);
            }
        }
    }

    int feed(int a, int b, int c, int d, int e) {
        if (tape.length() + 20 > 900) {
            return -1;
        }
        for (int number : new int[] {a, b, c, d, e}) {
            tape.append((char) (number >>> 24)).append((char) (number >>> 16 & 255));
            tape.append((char) (number >>> 8 & 255)).append((char) (number & 255));
        }
        return tape.length();
    }

    @SuppressWarnings("unchecked")
    int day(int n) {
        if (n < 0 || n > tape.length()) {
            return no(2);
        }
        Object read = read(tape.substring(0, n));
        tape.setLength(0);
        if (read instanceof Fault fault) {
            latestFault = fault;
            return no(4);
        }
        latestFault = new Fault(0, -1);
        day = (Map<String, List<Line>>) read;
        driven.clear();
        signs.clear();
        probes.clear();
        for (int i = 0; i < 6; i++) {
            driven.add(new ArrayList<>());
            signs.add(new ArrayList<>());
        }
        tea = 0;
        menu = null;
        calls = null;
        filled = null;
        shared = null;
        keptFilling = null;
        return yes(count("house"));
    }

    int fault() {
        return latestFault.number();
    }

    int where() {
        return trouble == 4 ? latestFault.place() : -1;
    }

    int trouble() {
        return trouble;
    }

    int size(int what) {
        return what >= 0 && what < 8 ? count(SIZES[what])
                : what == 8 ? probes.size() : what == 9 ? tea : what == 10 ? tape.length() : -1;
    }

    private int no(int number) {
        trouble = number;
        return -1;
    }

    private int yes(int answer) {
        trouble = 0;
        return answer;
    }

    private int count(String sort) {
        return day.containsKey(sort) ? day.get(sort).size() : 0;
    }

    private boolean isNone(String sort, int row) {
        return row < 0 || row >= count(sort);
    }

    /** A line's i-th number; 0 for a dog or fear that isn't told. */
    private int get(String sort, int row, int i) {
        List<Integer> numbers = day.get(sort).get(row).numbers();
        return i < numbers.size() ? numbers.get(i) : 0;
    }

    private boolean isNoDay() {
        return day.isEmpty();
    }

    private boolean isNoBits(int houses) {
        return houses < 0 || houses >= 1 << count("house");
    }

    // ---- rounds

    private int plainWay(int x, int y) {
        int minutes = 0;
        for (int step = Math.min(x, y); step < Math.max(x, y); step++) {
            minutes++;
            for (int flood = 0; flood < count("flood"); flood++) {
                minutes += get("flood", flood, 0) == step ? get("flood", flood, 1) : 0;
            }
        }
        return minutes;
    }

    private List<Integer> arrivals(int car, List<Integer> round, int teas) {
        List<Integer> arrivals = new ArrayList<>();
        int place = get("kitchen", get("car", car, 0), 0);
        int minute = get("car", car, 1);
        for (int house : round) {
            minute += plainWay(place, get("house", house, 0));
            arrivals.add(minute);
            place = get("house", house, 0);
            minute += get("house", house, 2);
            minute += get("house", house, 6) * get("car", car, 4) * 5;
            minute += (teas >> house & 1) * get("house", house, 3);
        }
        return arrivals;
    }

    private int heatAt(int car, int minute) {
        int lost = get("car", car, 3) * (minute - get("car", car, 1));
        return get("kitchen", get("car", car, 0), 1) - (lost - lost % 10) / 10;
    }

    private int badBits(int car, List<Integer> round, int teas) {
        int bits = 0;
        List<Integer> arrivals = arrivals(car, round, teas);
        for (int i = 0; i < round.size(); i++) {
            boolean late = arrivals.get(i) > get("law", 0, 1);
            boolean cold = heatAt(car, arrivals.get(i)) < get("law", 0, 0);
            bits |= late || cold ? 1 << round.get(i) : 0;
        }
        return bits;
    }

    private int carOf(int house) {
        for (int car = 0; car < driven.size(); car++) {
            if (driven.get(car).contains(house)) {
                return car;
            }
        }
        return -1;
    }

    int drive(int car, int house) {
        if (isNone("car", car) || isNone("house", house)) {
            return no(1);
        }
        if (carOf(house) >= 0) {
            return no(5);
        }
        if (driven.get(car).size() == get("car", car, 2)) {
            return no(3);
        }
        driven.get(car).add(house);
        return yes(driven.get(car).size());
    }

    int unload(int car) {
        if (isNone("car", car)) {
            return no(1);
        }
        int had = driven.get(car).size();
        driven.get(car).clear();
        return yes(had);
    }

    boolean tea(int houses) {
        if (isNoDay() || isNoBits(houses)) {
            no(isNoDay() ? 1 : 2);
            return false;
        }
        tea = houses;
        yes(0);
        return true;
    }

    int comes(int house) {
        if (isNone("house", house) || carOf(house) < 0) {
            return no(isNone("house", house) ? 1 : 6);
        }
        List<Integer> round = driven.get(carOf(house));
        return yes(arrivals(carOf(house), round, tea).get(round.indexOf(house)));
    }

    int heat(int house) {
        int minute = comes(house);
        return trouble != 0 ? -1000 : heatAt(carOf(house), minute);
    }

    int bad(int car) {
        return isNone("car", car) ? no(1) : yes(badBits(car, driven.get(car), tea));
    }

    int way(int x, int y) {
        if (isNoDay()) {
            return no(1);
        }
        return x < 0 || x > 99 || y < 0 || y > 99 ? no(2) : yes(plainWay(x, y));
    }

    int led(int car, int i) {
        if (isNone("car", car) || i < 0 || i >= driven.get(car).size()) {
            throw new NoSuchElementException();
        }
        return driven.get(car).get(i);
    }

    int recall(int kitchen) {
        if (isNone("kitchen", kitchen)) {
            return no(1);
        }
        int bits = 0;
        for (int house = 0; house < count("house"); house++) {
            bits |= carOf(house) >= 0 && get("car", carOf(house), 0) == kitchen ? 1 << house : 0;
        }
        return yes(bits);
    }

    // ---- best rounds

    static List<List<Integer>> orders(List<Integer> of) {
        if (of.isEmpty()) {
            return List.of(List.of());
        }
        List<List<Integer>> orders = new ArrayList<>();
        for (Integer first : of) {
            List<Integer> rest = new ArrayList<>(of);
            rest.remove(first);
            for (List<Integer> behind : orders(rest)) {
                List<Integer> order = new ArrayList<>(List.of(first));
                order.addAll(behind);
                orders.add(order);
            }
        }
        return orders;
    }

    private static List<Integer> bits(int bits) {
        List<Integer> list = new ArrayList<>();
        for (int i = 0; i < 6; i++) {
            if ((bits >> i & 1) == 1) {
                list.add(i);
            }
        }
        return list;
    }

    /** How many are bad and when the last comes. */
    private int[] worth(int car, List<Integer> order) {
        int last = order.isEmpty() ? get("car", car, 1) : arrivals(car, order, 0).get(order.size() - 1);
        return new int[] {Integer.bitCount(badBits(car, order, 0)), last};
    }

    private List<Integer> bestOrder(int car, int houses) {
        List<Integer> best = null;
        for (List<Integer> order : orders(bits(houses))) {
            if (best == null || Arrays.compare(worth(car, order), worth(car, best)) < 0) {
                best = order;
            }
        }
        return best;
    }

    private boolean refusesBest(int car, int houses) {
        if (isNone("car", car) || isNoBits(houses)) {
            no(1);
            return true;
        }
        if (Integer.bitCount(houses) > get("car", car, 2)) {
            no(3);
            return true;
        }
        return false;
    }

    int best(int car, int houses) {
        if (refusesBest(car, houses)) {
            return -1;
        }
        int[] worth = worth(car, bestOrder(car, houses));
        return yes(10000 * worth[0] + worth[1]);
    }

    int bestAt(int car, int houses, int i) {
        if (refusesBest(car, houses)) {
            return -1;
        }
        List<Integer> order = bestOrder(car, houses);
        return i < 0 || i >= order.size() ? no(1) : yes(order.get(i));
    }

    int share() {
        if (isNoDay()) {
            return no(1);
        }
        int houses = count("house");
        int cars = count("car");
        int[][][] worths = new int[cars][1 << houses][];
        int[] bestWorth = null;
        List<Integer> bestCars = null;
        for (int choice = 0; choice < Math.pow(cars, houses); choice++) {
            List<Integer> chosen = new ArrayList<>();
            int[] held = new int[cars];
            int rest = choice;
            for (int house = houses - 1; house >= 0; house--) {
                chosen.add(0, rest % cars);
                held[rest % cars] |= 1 << house;
                rest /= cars;
            }
            int[] worth = {0, 0};
            boolean holds = true;
            for (int car = 0; car < cars; car++) {
                holds &= Integer.bitCount(held[car]) <= get("car", car, 2);
            }
            for (int car = 0; car < cars && holds; car++) {
                if (held[car] != 0) {
                    if (worths[car][held[car]] == null) {
                        worths[car][held[car]] = worth(car, bestOrder(car, held[car]));
                    }
                    worth[0] += worths[car][held[car]][0];
                    worth[1] += worths[car][held[car]][1];
                }
            }
            if (holds && (bestWorth == null || Arrays.compare(worth, bestWorth) < 0)) {
                bestWorth = worth;
                bestCars = chosen;
            }
        }
        if (bestWorth == null) {
            return no(6);
        }
        shared = bestCars;
        return yes(bestWorth[0]);
    }

    int shared(int house) {
        return at(shared, house);
    }

    private static int at(List<Integer> list, int i) {
        return list == null || i < 0 || i >= list.size() ? -1 : list.get(i);
    }

    long odds(int car) {
        if (isNone("car", car)) {
            return no(1);
        }
        yes(0);
        List<Integer> round = driven.get(car);
        long sum = 0;
        for (int teas = 0; teas < 64; teas++) {
            long product = 1;
            for (int house = 0; house < 6; house++) {
                boolean takes = (teas >> house & 1) == 1;
                if (round.contains(house)) {
                    product *= takes ? get("house", house, 4) : 100 - get("house", house, 4);
                } else if (takes) {
                    product = 0;
                }
            }
            sum += badBits(car, round, teas) == 0 ? product : 0;
        }
        return sum;
    }

    int costs(int house) {
        if (isNone("house", house) || carOf(house) < 0) {
            no(isNone("house", house) ? 1 : 6);
            return -1000;
        }
        int car = carOf(house);
        return yes(Integer.bitCount(badBits(car, driven.get(car), 1 << house))
                - Integer.bitCount(badBits(car, driven.get(car), 0)));
    }

    // ---- diets, coin

    private int barred(int diet, int dish) {
        return get("diet", diet, 0) & get("dish", dish, 0);
    }

    int fits(int house, int dish) {
        int breach = breach(house, dish);
        return breach < 0 ? breach : breach == 0 ? 1 : 0;
    }

    int breach(int house, int dish) {
        if (isNone("house", house) || isNone("dish", dish)) {
            return no(1);
        }
        return yes(barred(get("house", house, 1), dish));
    }

    int forAll() {
        if (isNoDay()) {
            return no(1);
        }
        int dishes = (1 << count("dish")) - 1;
        for (int dish = 0; dish < count("dish"); dish++) {
            for (int house = 0; house < count("house"); house++) {
                dishes &= barred(get("house", house, 1), dish) == 0 ? -1 : ~(1 << dish);
            }
        }
        return yes(dishes);
    }

    /** Whole menus, a day longer each time: of those that end with the same dish only the first best stays. */
    private List<Integer> plainMenu(int diet, int days) {
        List<List<Integer>> menus = new ArrayList<>(List.of(List.of()));
        for (int i = 0; i < days; i++) {
            List<List<Integer>> longer = new ArrayList<>();
            for (int dish = 0; dish < count("dish"); dish++) {
                List<Integer> best = null;
                for (List<Integer> before : menus) {
                    boolean twice = !before.isEmpty() && before.get(before.size() - 1) == dish;
                    if (!twice && barred(diet, dish) == 0) {
                        List<Integer> menu = new ArrayList<>(before);
                        menu.add(dish);
                        best = best == null || isBefore(menu, best) ? menu : best;
                    }
                }
                if (best != null) {
                    longer.add(best);
                }
            }
            menus = longer;
        }
        List<Integer> best = null;
        for (List<Integer> menu : menus) {
            best = best == null || isBefore(menu, best) ? menu : best;
        }
        return best;
    }

    private boolean isBefore(List<Integer> one, List<Integer> other) {
        if (coin(one) != coin(other)) {
            return coin(one) < coin(other);
        }
        return Arrays.compare(one.toArray(new Integer[0]), other.toArray(new Integer[0])) < 0;
    }

    private int coin(List<Integer> menu) {
        int coin = 0;
        for (int dish : menu) {
            coin += get("dish", dish, 1);
        }
        return coin;
    }

    int menu(int diet, int days) {
        if (isNone("diet", diet)) {
            return no(1);
        }
        if (days < 1 || days > 14) {
            return no(2);
        }
        List<Integer> found = plainMenu(diet, days);
        if (found == null) {
            return no(6);
        }
        menu = found;
        return yes(coin(found));
    }

    int menuAt(int i) {
        return at(menu, i);
    }

    int dropped(int coin, int days) {
        if (isNoDay()) {
            return no(1);
        }
        if (days < 1 || days > 14 || coin < 0 || coin > 99999) {
            return no(2);
        }
        List<int[]> left = new ArrayList<>();
        int sum = 0;
        for (int house = 0; house < count("house"); house++) {
            List<Integer> found = plainMenu(get("house", house, 1), days);
            if (found == null) {
                return no(6);
            }
            left.add(new int[] {get("house", house, 5), -house, coin(found)});
            sum += coin(found);
        }
        left.sort(Arrays::compare);
        int bits = 0;
        while (sum > coin) {
            int[] gone = left.remove(0);
            sum -= gone[2];
            bits |= 1 << -gone[1];
        }
        return yes(bits);
    }

    // ---- knocks, helpers

    private long expected(List<Integer> order) {
        long sum = 0;
        for (int i = 0; i < order.size(); i++) {
            long term = get("call", order.get(i), 0);
            for (int j = 0; j < order.size(); j++) {
                term *= j < i ? 100 - get("call", order.get(j), 1) : 100;
            }
            sum += term;
        }
        return sum;
    }

    private List<Integer> toldCalls() {
        List<Integer> list = new ArrayList<>();
        for (int call = 0; call < count("call"); call++) {
            list.add(call);
        }
        return list;
    }

    long knock() {
        if (isNoDay() || count("call") == 0) {
            return no(isNoDay() ? 1 : 6);
        }
        List<Integer> best = null;
        for (List<Integer> order : orders(toldCalls())) {
            best = best == null || expected(order) < expected(best) ? order : best;
        }
        calls = best;
        yes(0);
        return expected(best);
    }

    int callAt(int i) {
        return at(calls, i);
    }

    long asTold() {
        if (isNoDay() || count("call") == 0) {
            return no(isNoDay() ? 1 : 6);
        }
        yes(0);
        return expected(toldCalls());
    }

    int fill() {
        if (isNoDay()) {
            return no(1);
        }
        if (keptFilling == null) {
            bestFilling(0, new int[7], new int[count("helper") + 1], new int[8]);
        }
        filled = keptFilling;
        int days = 0;
        for (int helper : filled) {
            days += helper == -2 ? 0 : 1;
        }
        return yes(days);
    }

    /** Tries all weeks in their order; best holds how many are filled and less the busiest's days. */
    private void bestFilling(int date, int[] week, int[] loads, int[] best) {
        int helpers = count("helper");
        if (date == 7) {
            int days = 7 - loads[helpers];
            int busiest = 0;
            for (int helper = 0; helper < helpers; helper++) {
                busiest = Math.max(busiest, loads[helper]);
            }
            if (keptFilling == null || days > best[0] || days == best[0] && busiest < best[1]) {
                best[0] = days;
                best[1] = busiest;
                keptFilling = new ArrayList<>();
                for (int helper : week) {
                    keptFilling.add(helper == helpers ? -2 : helper);
                }
            }
            return;
        }
        for (int helper = 0; helper <= helpers; helper++) {
            boolean may = helper == helpers || (get("helper", helper, 0) >> date & 1) == 1
                    && loads[helper] < get("helper", helper, 1);
            if (may) {
                week[date] = helper;
                loads[helper]++;
                bestFilling(date + 1, week, loads, best);
                loads[helper]--;
            }
        }
    }

    int helper(int i) {
        return at(filled, i);
    }

    // ---- signs, probes

    int sign(int house, int v) {
        if (isNone("house", house)) {
            return no(1);
        }
        if (v < 0 || v > 99) {
            return no(2);
        }
        if (signs.get(house).size() == 10) {
            return no(3);
        }
        signs.get(house).add(v);
        return yes(signs.get(house).size());
    }

    int fading(int house) {
        if (isNone("house", house)) {
            return no(1);
        }
        List<Integer> list = signs.get(house);
        int count = list.size();
        if (count < 4) {
            return no(5);
        }
        int last = list.get(count - 1) + list.get(count - 2) + list.get(count - 3);
        int choices = 0;
        for (int choice = 0; choice < 1 << count; choice++) {
            int sum = 0;
            for (int i = 0; i < count; i++) {
                sum += (choice >> i & 1) * list.get(i);
            }
            choices += Integer.bitCount(choice) == 3 && sum >= last ? 1 : 0;
        }
        return yes(choices);
    }

    int probe(int car, int minute, int heat) {
        if (isNone("car", car)) {
            return no(1);
        }
        if (minute < get("car", car, 1) || minute > 999 || heat < 0 || heat > 99) {
            return no(2);
        }
        if (probes.size() == 16) {
            return no(3);
        }
        probes.add(new int[] {car, minute, heat});
        return yes(probes.size());
    }

    int faulty(int t) {
        if (isNoDay() || t < 0 || t > 99) {
            return no(isNoDay() ? 1 : 2);
        }
        Set<Integer> off = new HashSet<>();
        for (int i = 0; i < probes.size(); i++) {
            int due = heatAt(probes.get(i)[0], probes.get(i)[1]);
            if (probes.get(i)[2] > due + t || probes.get(i)[2] < due - t) {
                off.add(i);
            }
        }
        int bits = 0;
        for (int i : off) {
            bits |= 1 << i;
        }
        return yes(bits);
    }

    int firstCold() {
        if (isNoDay()) {
            return no(1);
        }
        for (int minute = 0; minute <= 999; minute++) {
            for (int i = 0; i < probes.size(); i++) {
                if (probes.get(i)[1] == minute && probes.get(i)[2] < get("law", 0, 0)) {
                    return yes(i);
                }
            }
        }
        return yes(-2);
    }
}
