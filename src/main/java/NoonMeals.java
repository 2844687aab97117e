import java.util.Arrays;
import java.util.NoSuchElementException;

/**
 * Dinners that must come hot by a told minute. The promises are told in ../shared/DOC.md.
 *
 * All rows are made with the object and used again, so that no call makes anything new.
 */
public final class NoonMeals {
    public static final int NONE = -1;

    private static final int NOBODY = -2;
    private static final int NOT_COLD = -2;
    private static final int FAR_BELOW = -1000;

    // Troubles of a call.
    private static final int FREE = 0;
    private static final int NO_SUCH = 1;
    private static final int BAD_NUMBER = 2;
    private static final int NO_ROOM = 3;
    private static final int FAULTY_TEXT = 4;
    private static final int NOT_SO = 5;
    private static final int NO_ANSWER = 6;

    // Faults of a text.
    private static final int FORM = 1;
    private static final int UNTOLD = 2;
    private static final int AGAIN = 3;
    private static final int BOUNDS = 4;
    private static final int MANY = 5;
    private static final int LACKS = 6;

    // Sorts of lines, numbered as size() asks for them; the law, which it never asks for, is last.
    private static final int KITCHENS = 0;
    private static final int DISHES = 1;
    private static final int DIETS = 2;
    private static final int HOUSES = 3;
    private static final int CARS = 4;
    private static final int FLOODS = 5;
    private static final int CALLS = 6;
    private static final int HELPERS = 7;
    private static final int LAWS = 8;
    private static final int SORTS = 9;
    private static final int[] ROOM = {3, 6, 4, 6, 3, 3, 5, 5, 1};

    private static final int SIZE_PROBES = 8;
    private static final int SIZE_TEA = 9;
    private static final int SIZE_TAPE = 10;

    private static final int MOST_ROWS = 6;
    private static final int MOST_COLUMNS = 7;
    private static final int MOST_CARS = 3;
    private static final int MOST_HOUSES = 6;
    private static final int MOST_DISHES = 6;
    private static final int MOST_CALLS = 5;
    private static final int MOST_HELPERS = 5;
    private static final int MOST_NAMES = 32;
    private static final int MOST_SIGNS = 10;
    private static final int MOST_PROBES = 16;
    private static final int MOST_MENU = 14;
    private static final int WEEK = 7;
    private static final int TAPE_ROOM = 900;
    private static final int FEED_BYTES = 20;

    // Columns of each sort's rows.
    private static final int LAW_HOT = 0;
    private static final int LAW_BY = 1;
    private static final int KITCHEN_AT = 0;
    private static final int KITCHEN_HOT = 1;
    private static final int FLOOD_AT = 0;
    private static final int FLOOD_ADDS = 1;
    private static final int DISH_LETTERS = 0;
    private static final int DISH_COSTS = 1;
    private static final int DIET_BARS = 0;
    private static final int HOUSE_AT = 0;
    private static final int HOUSE_DIET = 1;
    private static final int HOUSE_DOORS = 2;
    private static final int HOUSE_TEA = 3;
    private static final int HOUSE_CHANCE = 4;
    private static final int HOUSE_NEED = 5;
    private static final int HOUSE_DOG = 6;
    private static final int CAR_KITCHEN = 0;
    private static final int CAR_STARTS = 1;
    private static final int CAR_HOLDS = 2;
    private static final int CAR_COOLS = 3;
    private static final int CAR_AFRAID = 4;
    private static final int CALL_TAKES = 0;
    private static final int CALL_CHANCE = 1;
    private static final int HELPER_DAYS = 0;
    private static final int HELPER_MOST = 1;

    private static final int DOG_MINUTES = 5;
    private static final int LAST_MINUTE = 999;
    private static final int MOST_COIN = 99999;

    /** A round's worth in one number: bad plates count this, and no sum of minutes reaches it. */
    private static final int BAD_WEIGHT = 10000;
    /** Above all worths, coins, needs and minutes, and above all that calls can be expected to take. */
    private static final int WORST = 1000000000;
    private static final long ENDLESS = 1000000000000000L;

    private final DayReader reader = new DayReader();
    private final Rounds rounds = new Rounds();
    private final Orders orders = new Orders();
    private final Shares shares = new Shares();
    private final Menus menus = new Menus();
    private final Knocks knocks = new Knocks();
    private final Wishes wishes = new Wishes();
    private final Signs signs = new Signs();
    private final Probes probes = new Probes();
    private Day told = new Day();
    private int latestTrouble = FREE;

    public NoonMeals() {
    }

    // ---- the day

    public int feed(int a, int b, int c, int d, int e) {
        if (!reader.text.hasRoom(FEED_BYTES)) {
            return NONE;
        }
        reader.text.append(a);
        reader.text.append(b);
        reader.text.append(c);
        reader.text.append(d);
        reader.text.append(e);
        return reader.text.held;
    }

    public int day(int n) {
        if (n < 0 || n > reader.text.held) {
            return refuse(BAD_NUMBER);
        }
        boolean isDay = reader.read(n);
        reader.text.empty();
        if (!isDay) {
            return refuse(FAULTY_TEXT);
        }
        told = reader.exchange(told);
        forgetDoings();
        return accept(told.rows(HOUSES));
    }

    public int fault() {
        return reader.fault;
    }

    public int where() {
        return latestTrouble == FAULTY_TEXT ? reader.faultPlace : NONE;
    }

    // ---- rounds

    public int drive(int car, int house) {
        if (!told.has(CARS, car) || !told.has(HOUSES, house)) {
            return refuse(NO_SUCH);
        }
        if (rounds.carOf(house) != NONE) {
            return refuse(NOT_SO);
        }
        if (rounds.count(car) >= told.get(CARS, car, CAR_HOLDS)) {
            return refuse(NO_ROOM);
        }
        return accept(rounds.append(car, house));
    }

    public int unload(int car) {
        if (!told.has(CARS, car)) {
            return refuse(NO_SUCH);
        }
        return accept(rounds.clearRound(car));
    }

    public boolean tea(int houses) {
        latestTrouble = noDay() ? NO_SUCH : told.hasHouses(houses) ? FREE : BAD_NUMBER;
        if (latestTrouble == FREE) {
            rounds.teaHouses = houses;
        }
        return latestTrouble == FREE;
    }

    public int comes(int house) {
        int trouble = drivenTrouble(house);
        if (trouble != FREE) {
            return refuse(trouble);
        }
        return accept(rounds.arrival(told, house));
    }

    public int heat(int house) {
        int trouble = drivenTrouble(house);
        if (trouble != FREE) {
            refuse(trouble);
            return FAR_BELOW;
        }
        return accept(told.boxHeat(rounds.carOf(house), rounds.arrival(told, house)));
    }

    public int bad(int car) {
        if (!told.has(CARS, car)) {
            return refuse(NO_SUCH);
        }
        return accept(rounds.follow(told, car, rounds.teaHouses));
    }

    public int way(int x, int y) {
        if (noDay()) {
            return refuse(NO_SUCH);
        }
        if (!isWithin(x, 0, 99) || !isWithin(y, 0, 99)) {
            return refuse(BAD_NUMBER);
        }
        return accept(told.wayBetween(x, y));
    }

    // ---- best rounds

    public int best(int car, int houses) {
        int trouble = bestTrouble(car, houses);
        if (trouble != FREE) {
            return refuse(trouble);
        }
        orders.learn(told, car);
        return accept(orders.worth(car, houses));
    }

    public int bestAt(int car, int houses, int i) {
        int trouble = bestTrouble(car, houses);
        if (trouble != FREE) {
            return refuse(trouble);
        }
        if (i < 0 || i >= Integer.bitCount(houses)) {
            return refuse(NO_SUCH);
        }
        orders.learn(told, car);
        return accept(orders.houseAt(car, houses, i));
    }

    public int share() {
        if (noDay()) {
            return refuse(NO_SUCH);
        }
        for (int car = 0; car < told.rows(CARS); car++) {
            orders.learn(told, car);
        }
        int worth = shares.search(told, orders);
        if (worth == WORST) {
            return refuse(NO_ANSWER);
        }
        return accept(worth / BAD_WEIGHT);
    }

    public int shared(int house) {
        return shares.carOf(house);
    }

    public long odds(int car) {
        if (!told.has(CARS, car)) {
            return refuse(NO_SUCH);
        }
        latestTrouble = FREE;
        return rounds.oddsOf(told, car);
    }

    public int costs(int house) {
        int trouble = drivenTrouble(house);
        if (trouble != FREE) {
            refuse(trouble);
            return FAR_BELOW;
        }
        int car = rounds.carOf(house);
        int withTea = Integer.bitCount(rounds.follow(told, car, 1 << house));
        int without = Integer.bitCount(rounds.follow(told, car, 0));
        return accept(withTea - without);
    }

    // ---- diets, coin

    public int fits(int house, int dish) {
        if (!told.has(HOUSES, house) || !told.has(DISHES, dish)) {
            return refuse(NO_SUCH);
        }
        return accept(told.barredLetters(told.dietOf(house), dish) == 0 ? 1 : 0);
    }

    public int breach(int house, int dish) {
        if (!told.has(HOUSES, house) || !told.has(DISHES, dish)) {
            return refuse(NO_SUCH);
        }
        return accept(told.barredLetters(told.dietOf(house), dish));
    }

    public int forAll() {
        if (noDay()) {
            return refuse(NO_SUCH);
        }
        int dishes = 0;
        for (int dish = 0; dish < told.rows(DISHES); dish++) {
            if (told.isFitForAll(dish)) {
                dishes |= 1 << dish;
            }
        }
        return accept(dishes);
    }

    public int menu(int diet, int days) {
        if (!told.has(DIETS, diet)) {
            return refuse(NO_SUCH);
        }
        if (!isWithin(days, 1, MOST_MENU)) {
            return refuse(BAD_NUMBER);
        }
        int coin = menus.cheapest(told, diet, days);
        if (coin == WORST) {
            return refuse(NO_ANSWER);
        }
        menus.tell(days);
        return accept(coin);
    }

    public int menuAt(int i) {
        return menus.dishOn(i);
    }

    public int dropped(int coin, int days) {
        if (noDay()) {
            return refuse(NO_SUCH);
        }
        if (!isWithin(days, 1, MOST_MENU) || !isWithin(coin, 0, MOST_COIN)) {
            return refuse(BAD_NUMBER);
        }
        if (!menus.priceHouses(told, days)) {
            return refuse(NO_ANSWER);
        }
        return accept(menus.dropFor(told, coin));
    }

    // ---- knocks, helpers

    public long knock() {
        int trouble = callTrouble();
        if (trouble != FREE) {
            return refuse(trouble);
        }
        latestTrouble = FREE;
        return knocks.search(told);
    }

    public int callAt(int i) {
        return knocks.callOf(i);
    }

    public long asTold() {
        int trouble = callTrouble();
        if (trouble != FREE) {
            return refuse(trouble);
        }
        latestTrouble = FREE;
        return knocks.expectedAsTold(told);
    }

    public int fill() {
        if (noDay()) {
            return refuse(NO_SUCH);
        }
        return accept(wishes.fillWeek(told));
    }

    public int helper(int i) {
        return wishes.helperOf(i);
    }

    // ---- signs, probes

    public int sign(int house, int v) {
        if (!told.has(HOUSES, house)) {
            return refuse(NO_SUCH);
        }
        if (!isWithin(v, 0, 99)) {
            return refuse(BAD_NUMBER);
        }
        if (signs.count(house) >= MOST_SIGNS) {
            return refuse(NO_ROOM);
        }
        return accept(signs.append(house, v));
    }

    public int fading(int house) {
        if (!told.has(HOUSES, house)) {
            return refuse(NO_SUCH);
        }
        if (signs.count(house) < 4) {
            return refuse(NOT_SO);
        }
        return accept(signs.choicesNoLess(house));
    }

    public int probe(int car, int minute, int heat) {
        if (!told.has(CARS, car)) {
            return refuse(NO_SUCH);
        }
        int starts = told.get(CARS, car, CAR_STARTS);
        if (!isWithin(minute, starts, LAST_MINUTE) || !isWithin(heat, 0, 99)) {
            return refuse(BAD_NUMBER);
        }
        if (probes.count >= MOST_PROBES) {
            return refuse(NO_ROOM);
        }
        return accept(probes.append(car, minute, heat));
    }

    public int faulty(int t) {
        if (noDay()) {
            return refuse(NO_SUCH);
        }
        if (!isWithin(t, 0, 99)) {
            return refuse(BAD_NUMBER);
        }
        return accept(probes.offByMore(told, t));
    }

    public int firstCold() {
        if (noDay()) {
            return refuse(NO_SUCH);
        }
        return accept(probes.earliestBelow(told.get(LAWS, 0, LAW_HOT)));
    }

    public int recall(int kitchen) {
        if (!told.has(KITCHENS, kitchen)) {
            return refuse(NO_SUCH);
        }
        int houses = 0;
        for (int car = 0; car < told.rows(CARS); car++) {
            if (told.get(CARS, car, CAR_KITCHEN) == kitchen) {
                houses |= rounds.housesOf(car);
            }
        }
        return accept(houses);
    }

    public int led(int car, int i) throws NoSuchElementException {
        int house = rounds.houseAt(car, i);
        if (house == NONE) {
            throw new NoSuchElementException("no such house in a round");
        }
        return house;
    }

    public int size(int what) {
        if (what >= 0 && what < LAWS) {
            return told.rows(what);
        }
        switch (what) {
            case SIZE_PROBES:
                return probes.count;
            case SIZE_TEA:
                return rounds.teaHouses;
            case SIZE_TAPE:
                return reader.text.held;
            default:
                return NONE;
        }
    }

    public int trouble() {
        return latestTrouble;
    }

    private int refuse(int trouble) {
        latestTrouble = trouble;
        return NONE;
    }

    private int accept(int answer) {
        latestTrouble = FREE;
        return answer;
    }

    /** A day without a house is refused, so only the object that has none yet is without. */
    private boolean noDay() {
        return told.rows(HOUSES) == 0;
    }

    private void forgetDoings() {
        rounds.clear();
        orders.forget();
        shares.forget();
        menus.forget();
        knocks.forget();
        wishes.forget();
        signs.clear();
        probes.clear();
    }

    private int drivenTrouble(int house) {
        if (!told.has(HOUSES, house)) {
            return NO_SUCH;
        }
        return rounds.carOf(house) == NONE ? NO_ANSWER : FREE;
    }

    private int bestTrouble(int car, int houses) {
        if (!told.has(CARS, car) || !told.hasHouses(houses)) {
            return NO_SUCH;
        }
        boolean holds = Integer.bitCount(houses) <= told.get(CARS, car, CAR_HOLDS);
        return holds ? FREE : NO_ROOM;
    }

    private int callTrouble() {
        if (noDay()) {
            return NO_SUCH;
        }
        return told.rows(CALLS) == 0 ? NO_ANSWER : FREE;
    }

    private static boolean isWithin(int number, int least, int most) {
        return number >= least && number <= most;
    }

    /** What one text tells: rows of numbers by sort, and what follows from them alone. */
    private static final class Day {
        private final int[] counts = new int[SORTS];
        private final int[] cells = new int[SORTS * MOST_ROWS * MOST_COLUMNS];

        void clear() {
            Arrays.fill(counts, 0);
            Arrays.fill(cells, 0);
        }

        int rows(int sort) {
            return sort >= 0 && sort < SORTS ? counts[sort] : 0;
        }

        boolean has(int sort, int row) {
            return row >= 0 && row < rows(sort);
        }

        int allHouses() {
            return (1 << rows(HOUSES)) - 1;
        }

        boolean hasHouses(int houses) {
            return (houses & ~allHouses()) == 0;
        }

        boolean addRow(int sort) {
            if (sort < 0 || sort >= SORTS || counts[sort] >= ROOM[sort]) {
                return false;
            }
            counts[sort]++;
            return true;
        }

        void putInLatest(int sort, int column, int value) {
            int cell = cellOf(sort, rows(sort) - 1, column);
            if (cell != NONE) {
                cells[cell] = value;
            }
        }

        int get(int sort, int row, int column) {
            int cell = cellOf(sort, row, column);
            return cell == NONE ? 0 : cells[cell];
        }

        private int cellOf(int sort, int row, int column) {
            if (sort < 0 || sort >= SORTS || row < 0 || row >= counts[sort]) {
                return NONE;
            }
            if (column < 0 || column >= MOST_COLUMNS) {
                return NONE;
            }
            return (sort * MOST_ROWS + row) * MOST_COLUMNS + column;
        }

        int wayBetween(int x, int y) {
            int lesser = Math.min(x, y);
            int greater = Math.max(x, y);
            int minutes = greater - lesser;
            for (int flood = 0; flood < rows(FLOODS); flood++) {
                int at = get(FLOODS, flood, FLOOD_AT);
                if (at >= lesser && at < greater) {
                    minutes += get(FLOODS, flood, FLOOD_ADDS);
                }
            }
            return minutes;
        }

        int startPlace(int car) {
            return get(KITCHENS, get(CARS, car, CAR_KITCHEN), KITCHEN_AT);
        }

        int stayWithoutTea(int car, int house) {
            boolean waits = get(HOUSES, house, HOUSE_DOG) == 1 && get(CARS, car, CAR_AFRAID) == 1;
            return get(HOUSES, house, HOUSE_DOORS) + (waits ? DOG_MINUTES : 0);
        }

        int boxHeat(int car, int minute) {
            int hot = get(KITCHENS, get(CARS, car, CAR_KITCHEN), KITCHEN_HOT);
            int since = minute - get(CARS, car, CAR_STARTS);
            return hot - Math.floorDiv(get(CARS, car, CAR_COOLS) * since, 10);
        }

        boolean isBadAt(int car, int minute) {
            return minute > get(LAWS, 0, LAW_BY) || boxHeat(car, minute) < get(LAWS, 0, LAW_HOT);
        }

        int dietOf(int house) {
            return get(HOUSES, house, HOUSE_DIET);
        }

        int barredLetters(int diet, int dish) {
            return get(DIETS, diet, DIET_BARS) & get(DISHES, dish, DISH_LETTERS);
        }

        boolean isFitForAll(int dish) {
            int barred = 0;
            for (int house = 0; house < rows(HOUSES); house++) {
                barred |= barredLetters(dietOf(house), dish);
            }
            return barred == 0;
        }
    }

    /** The tape, and the token of it that is looked at. */
    private static final class Text {
        static final int END = 0;
        static final int WORD = 1;
        static final int WHOLE = 2;
        static final int SEMICOLON = 3;
        static final int COMMA = 4;
        static final int BROKEN = 5;
        private static final int WORD_ROOM = 8;
        private static final int WHOLE_ROOM = 3;

        private final byte[] tape = new byte[TAPE_ROOM];
        private int held;
        private int length;
        private int kind;
        private int place;
        private int end;
        /** The letters of a word, five bits each: two words are the same if these are. */
        private long packed;
        private int letters;
        private int value;

        boolean hasRoom(int bytes) {
            return held + bytes <= TAPE_ROOM;
        }

        void append(int fourBytes) {
            for (int shift = 24; shift >= 0; shift -= 8) {
                if (held < TAPE_ROOM) {
                    tape[held] = (byte) (fourBytes >> shift);
                    held++;
                }
            }
        }

        void empty() {
            held = 0;
        }

        void open(int bytes) {
            length = Math.max(0, Math.min(bytes, held));
            end = 0;
            next();
        }

        void next() {
            int from = end;
            while (from < length && tape[from] == ' ') {
                from++;
            }
            place = from;
            end = from;
            if (from >= length) {
                kind = END;
            } else if (tape[from] >= 'a' && tape[from] <= 'z') {
                takeWord();
            } else if (tape[from] >= '0' && tape[from] <= '9') {
                takeWhole();
            } else {
                takeSign(tape[from]);
            }
        }

        boolean isWord(String wanted) {
            if (kind != WORD || wanted.length() != end - place) {
                return false;
            }
            for (int i = 0; i < wanted.length(); i++) {
                if (tape[place + i] != wanted.charAt(i)) {
                    return false;
                }
            }
            return true;
        }

        private void takeWord() {
            packed = 0;
            letters = 0;
            while (end < length && tape[end] >= 'a' && tape[end] <= 'z') {
                int letter = tape[end] - 'a';
                packed = packed * 32 + letter + 1;
                letters |= 1 << letter;
                end++;
            }
            kind = end - place <= WORD_ROOM ? WORD : BROKEN;
        }

        private void takeWhole() {
            value = 0;
            while (end < length && tape[end] >= '0' && tape[end] <= '9') {
                value = value * 10 + tape[end] - '0';
                end++;
            }
            kind = end - place <= WHOLE_ROOM ? WHOLE : BROKEN;
        }

        private void takeSign(int sign) {
            end = place + 1;
            kind = sign == ';' ? SEMICOLON : sign == ',' ? COMMA : BROKEN;
        }
    }

    /**
     * Reads a text from the left into a draft, up to the first fault. Each step answers whether the
     * reading goes on.
     */
    private static final class DayReader {
        private final Text text = new Text();
        private final long[] names = new long[MOST_NAMES];
        private final int[] nameSorts = new int[MOST_NAMES];
        private final int[] nameRows = new int[MOST_NAMES];
        private Day draft = new Day();
        private int nameCount;
        private int sort;
        private int fault;
        private int faultPlace;

        /** Hands out the draft and keeps another day's room for the next one. */
        Day exchange(Day old) {
            Day day = draft;
            draft = old;
            return day;
        }

        boolean read(int bytes) {
            draft.clear();
            nameCount = 0;
            fault = 0;
            faultPlace = NONE;
            text.open(bytes);
            for (int line = 0; line <= TAPE_ROOM; line++) {
                if (!beginLine() || !readRest()) {
                    return false;
                }
                if (text.kind == Text.END) {
                    return lacksNothing();
                }
                if (text.kind != Text.SEMICOLON) {
                    return fail(FORM);
                }
                text.next();
            }
            return fail(FORM);
        }

        private boolean beginLine() {
            sort = sortOfLine();
            if (sort == NONE) {
                return fail(FORM);
            }
            if (!draft.addRow(sort)) {
                return fail(sort == LAWS ? AGAIN : MANY);
            }
            text.next();
            return true;
        }

        private int sortOfLine() {
            return text.isWord("law") ? LAWS
                    : text.isWord("kitchen") ? KITCHENS
                    : text.isWord("flood") ? FLOODS
                    : text.isWord("dish") ? DISHES
                    : text.isWord("diet") ? DIETS
                    : text.isWord("house") ? HOUSES
                    : text.isWord("car") ? CARS
                    : text.isWord("call") ? CALLS
                    : text.isWord("helper") ? HELPERS
                    : NONE;
        }

        private boolean readRest() {
            switch (sort) {
                case LAWS:
                    return word("hot") && whole(LAW_HOT, 40, 90)
                            && word("by") && whole(LAW_BY, 600, 900);
                case KITCHENS:
                    return newName()
                            && word("at") && whole(KITCHEN_AT, 0, 99)
                            && word("hot") && whole(KITCHEN_HOT, 60, 99);
                case FLOODS:
                    return whole(FLOOD_AT, 0, 98)
                            && word("adds") && whole(FLOOD_ADDS, 1, 60);
                case DISHES:
                    return newName()
                            && word("of") && letters(DISH_LETTERS)
                            && word("costs") && whole(DISH_COSTS, 1, 99);
                case DIETS:
                    return newName()
                            && word("bars") && letters(DIET_BARS);
                case HOUSES:
                    return newName()
                            && word("at") && whole(HOUSE_AT, 0, 99)
                            && word("eats") && toldName(DIETS, HOUSE_DIET)
                            && word("doors") && whole(HOUSE_DOORS, 0, 30)
                            && word("tea") && whole(HOUSE_TEA, 0, 60)
                            && word("chance") && whole(HOUSE_CHANCE, 0, 100)
                            && word("need") && whole(HOUSE_NEED, 1, 9)
                            && perhaps("dog", HOUSE_DOG);
                case CARS:
                    return newName()
                            && word("from") && toldName(KITCHENS, CAR_KITCHEN)
                            && word("starts") && whole(CAR_STARTS, 500, 800)
                            && word("holds") && whole(CAR_HOLDS, 1, 6)
                            && word("cools") && whole(CAR_COOLS, 0, 50)
                            && perhaps("afraid", CAR_AFRAID);
                case CALLS:
                    return newName()
                            && word("takes") && whole(CALL_TAKES, 1, 60)
                            && word("chance") && whole(CALL_CHANCE, 0, 100);
                case HELPERS:
                    return newName()
                            && word("days") && unlikeDays()
                            && word("most") && whole(HELPER_MOST, 1, 7);
                default:
                    return fail(FORM);
            }
        }

        private boolean word(String wanted) {
            if (!text.isWord(wanted)) {
                return fail(FORM);
            }
            text.next();
            return true;
        }

        private boolean perhaps(String wanted, int column) {
            if (text.isWord(wanted)) {
                take(column, 1);
            }
            return true;
        }

        private boolean letters(int column) {
            if (text.kind != Text.WORD) {
                return fail(FORM);
            }
            return take(column, text.letters);
        }

        private boolean whole(int column, int least, int most) {
            if (text.kind != Text.WHOLE) {
                return fail(FORM);
            }
            if (!isWithin(text.value, least, most)) {
                return fail(BOUNDS);
            }
            return take(column, text.value);
        }

        private boolean unlikeDays() {
            int days = 0;
            for (int i = 0; i <= WEEK; i++) {
                if (text.kind != Text.WHOLE) {
                    return fail(FORM);
                }
                if (text.value >= WEEK) {
                    return fail(BOUNDS);
                }
                if ((days & 1 << text.value) != 0) {
                    return fail(AGAIN);
                }
                days |= 1 << text.value;
                take(HELPER_DAYS, days);
                if (text.kind != Text.COMMA) {
                    return true;
                }
                text.next();
            }
            return fail(FORM);
        }

        private boolean newName() {
            if (!isName()) {
                return fail(FORM);
            }
            if (findName() != NONE) {
                return fail(AGAIN);
            }
            if (nameCount < MOST_NAMES) {
                names[nameCount] = text.packed;
                nameSorts[nameCount] = sort;
                nameRows[nameCount] = draft.rows(sort) - 1;
                nameCount++;
            }
            text.next();
            return true;
        }

        private boolean toldName(int wantedSort, int column) {
            if (!isName()) {
                return fail(FORM);
            }
            int name = findName();
            if (name == NONE || nameSorts[name] != wantedSort) {
                return fail(UNTOLD);
            }
            return take(column, nameRows[name]);
        }

        private boolean take(int column, int value) {
            draft.putInLatest(sort, column, value);
            text.next();
            return true;
        }

        private int findName() {
            for (int name = 0; name < nameCount; name++) {
                if (names[name] == text.packed) {
                    return name;
                }
            }
            return NONE;
        }

        private boolean isName() {
            return text.kind == Text.WORD && sortOfLine() == NONE
                    && !text.isWord("dog") && !text.isWord("afraid");
        }

        private boolean lacksNothing() {
            boolean lacks = draft.rows(LAWS) == 0 || draft.rows(HOUSES) == 0 || draft.rows(CARS) == 0;
            return !lacks || fail(LACKS);
        }

        private boolean fail(int number) {
            fault = number;
            faultPlace = text.place;
            return false;
        }
    }

    /** The rounds as they are driven, and the houses where tea is taken. */
    private static final class Rounds {
        private final int[][] routes = new int[MOST_CARS][MOST_HOUSES];
        private final int[] counts = new int[MOST_CARS];
        private final int[] arrivals = new int[MOST_HOUSES];
        private int teaHouses;

        void clear() {
            Arrays.fill(counts, 0);
            teaHouses = 0;
        }

        int count(int car) {
            return car >= 0 && car < MOST_CARS ? counts[car] : 0;
        }

        int houseAt(int car, int i) {
            return i >= 0 && i < count(car) ? routes[car][i] : NONE;
        }

        int append(int car, int house) {
            int count = count(car);
            if (isWithin(car, 0, MOST_CARS - 1) && isWithin(house, 0, MOST_HOUSES - 1) && count < MOST_HOUSES) {
                routes[car][count] = house;
                counts[car]++;
            }
            return count(car);
        }

        int clearRound(int car) {
            int count = count(car);
            if (count > 0) {
                counts[car] = 0;
            }
            return count;
        }

        int carOf(int house) {
            for (int car = 0; car < MOST_CARS; car++) {
                for (int i = 0; i < counts[car]; i++) {
                    if (routes[car][i] == house) {
                        return car;
                    }
                }
            }
            return NONE;
        }

        int housesOf(int car) {
            int houses = 0;
            for (int i = 0; i < count(car); i++) {
                houses |= 1 << routes[car][i];
            }
            return houses;
        }

        int arrival(Day day, int house) {
            follow(day, carOf(house), teaHouses);
            return isWithin(house, 0, MOST_HOUSES - 1) ? arrivals[house] : NONE;
        }

        /** Drives a car's round with tea in some houses: notes the arrivals, answers the bad ones. */
        int follow(Day day, int car, int teas) {
            int bad = 0;
            int place = day.startPlace(car);
            int minute = day.get(CARS, car, CAR_STARTS);
            for (int i = 0; i < count(car); i++) {
                int house = routes[car][i];
                int next = day.get(HOUSES, house, HOUSE_AT);
                minute += day.wayBetween(place, next);
                place = next;
                arrivals[house] = minute;
                if (day.isBadAt(car, minute)) {
                    bad |= 1 << house;
                }
                minute += day.stayWithoutTea(car, house);
                if ((teas & 1 << house) != 0) {
                    minute += day.get(HOUSES, house, HOUSE_TEA);
                }
            }
            return bad;
        }

        long oddsOf(Day day, int car) {
            long together = 0;
            for (int choice = 0; choice < 1 << count(car); choice++) {
                int teas = 0;
                long product = 1;
                for (int i = 0; i < count(car); i++) {
                    boolean takes = (choice & 1 << i) != 0;
                    int chance = day.get(HOUSES, routes[car][i], HOUSE_CHANCE);
                    product *= takes ? chance : 100 - chance;
                    teas |= takes ? 1 << routes[car][i] : 0;
                }
                if (follow(day, car, teas) == 0) {
                    together += product;
                }
            }
            return together;
        }
    }

    /**
     * The best orders without tea: of each car for each set of houses that it holds. They hang on the
     * day alone, so a car's are all found when one is first asked for, and kept.
     */
    private static final class Orders {
        private final int[][] worths = new int[MOST_CARS][1 << MOST_HOUSES];
        /** The houses of an order, three bits each, the last one lowest. */
        private final int[][] packed = new int[MOST_CARS][1 << MOST_HOUSES];
        private final int[] order = new int[MOST_HOUSES];
        private int knownCars;

        void forget() {
            knownCars = 0;
        }

        int worth(int car, int houses) {
            return isInside(car, houses) ? worths[car][houses] : WORST;
        }

        int houseAt(int car, int houses, int i) {
            int behind = Integer.bitCount(houses) - 1 - i;
            return isInside(car, houses) && i >= 0 && behind >= 0 ? packed[car][houses] >> 3 * behind & 7 : NONE;
        }

        private static boolean isInside(int car, int houses) {
            return isWithin(car, 0, MOST_CARS - 1) && isWithin(houses, 0, (1 << MOST_HOUSES) - 1);
        }

        void learn(Day day, int car) {
            if (!isInside(car, 0) || (knownCars & 1 << car) != 0) {
                return;
            }
            int starts = day.get(CARS, car, CAR_STARTS);
            knownCars |= 1 << car;
            Arrays.fill(worths[car], WORST);
            worths[car][0] = starts;
            extend(this, day, car, 0, 0, starts, 0);
        }

        /** Drives on from a round of so many houses to each house that is left. */
        private static void extend(Orders orders, Day day, int car, int depth, int done, int leaves, int bad) {
            if (depth >= Math.min(MOST_HOUSES, day.get(CARS, car, CAR_HOLDS))) {
                return;
            }
            int place = depth < 1 ? day.startPlace(car) : day.get(HOUSES, orders.order[depth - 1], HOUSE_AT);
            for (int house = 0; house < Math.min(MOST_HOUSES, day.rows(HOUSES)); house++) {
                int now = done | 1 << house;
                if (now != done) {
                    int minute = leaves + day.wayBetween(place, day.get(HOUSES, house, HOUSE_AT));
                    int badNow = bad + (day.isBadAt(car, minute) ? 1 : 0);
                    int leavesNow = minute + day.stayWithoutTea(car, house);
                    orders.order[depth] = house;
                    orders.note(car, now, badNow * BAD_WEIGHT + minute);
                    extend(orders, day, car, depth + 1, now, leavesNow, badNow);
                }
            }
        }

        /** Orders are met in the order of houses' numbers, so a later one must be better to be kept. */
        private void note(int car, int houses, int worth) {
            if (worth >= worths[car][houses]) {
                return;
            }
            int houseBits = 0;
            for (int i = 0; i < Integer.bitCount(houses); i++) {
                houseBits = houseBits << 3 | order[i];
            }
            worths[car][houses] = worth;
            packed[car][houses] = houseBits;
        }
    }

    /** Which car for which house. */
    private static final class Shares {
        private final int[] held = new int[MOST_CARS];
        private final int[] cars = new int[MOST_HOUSES];
        private final int[] bestCars = new int[MOST_HOUSES];
        private int least;
        private int toldHouses;

        void forget() {
            toldHouses = 0;
        }

        int carOf(int house) {
            return house >= 0 && house < toldHouses ? bestCars[house] : NONE;
        }

        /** Each car's orders must have been learnt; answers the least worth of all cars together. */
        int search(Day day, Orders orders) {
            least = WORST;
            Arrays.fill(held, 0);
            give(this, day, orders, 0);
            if (least != WORST) {
                toldHouses = Math.min(MOST_HOUSES, day.rows(HOUSES));
            }
            return least;
        }

        /** Gives a house, and behind it those of higher numbers, to each car that has room for it. */
        private static void give(Shares shares, Day day, Orders orders, int house) {
            if (house >= Math.min(MOST_HOUSES, day.rows(HOUSES))) {
                shares.note(orders);
                return;
            }
            for (int car = 0; car < Math.min(MOST_CARS, day.rows(CARS)); car++) {
                if (Integer.bitCount(shares.held[car]) < day.get(CARS, car, CAR_HOLDS)) {
                    shares.held[car] |= 1 << house;
                    shares.cars[house] = car;
                    give(shares, day, orders, house + 1);
                    shares.held[car] &= ~(1 << house);
                }
            }
        }

        private void note(Orders orders) {
            int worth = 0;
            for (int car = 0; car < MOST_CARS; car++) {
                worth += held[car] == 0 ? 0 : orders.worth(car, held[car]);
            }
            if (worth < least) {
                least = worth;
                System.arraycopy(cars, 0, bestCars, 0, MOST_HOUSES);
            }
        }
    }

    /** Menus of least coin, and who is dropped when the coin doesn't reach. */
    private static final class Menus {
        /** By days and first dish: the least coin of such a menu. */
        private final int[][] coins = new int[MOST_MENU + 1][MOST_DISHES];
        private final int[] dishes = new int[MOST_MENU];
        private final int[] prices = new int[MOST_HOUSES];
        private int toldDays;

        void forget() {
            toldDays = 0;
        }

        int dishOn(int i) {
            return i >= 0 && i < toldDays ? dishes[i] : NONE;
        }

        int cheapest(Day day, int diet, int days) {
            int last = Math.min(days, MOST_MENU);
            for (int count = 1; count <= last; count++) {
                for (int dish = 0; dish < MOST_DISHES; dish++) {
                    coins[count][dish] = coinFrom(day, diet, count, dish);
                }
            }
            return last < 1 ? WORST : leastBut(last, NONE);
        }

        private int coinFrom(Day day, int diet, int count, int dish) {
            if (!day.has(DISHES, dish) || day.barredLetters(diet, dish) != 0) {
                return WORST;
            }
            int behind = count == 1 ? 0 : leastBut(count - 1, dish);
            return behind == WORST ? WORST : behind + day.get(DISHES, dish, DISH_COSTS);
        }

        private int leastBut(int count, int barredDish) {
            int least = WORST;
            for (int dish = 0; dish < MOST_DISHES; dish++) {
                if (dish != barredDish) {
                    least = Math.min(least, coins[count][dish]);
                }
            }
            return least;
        }

        /** Writes down the first menu of the coin that cheapest() found for as many days. */
        void tell(int days) {
            toldDays = Math.min(days, MOST_MENU);
            int before = NONE;
            for (int i = 0; i < toldDays; i++) {
                before = firstCheapest(toldDays - i, before);
                dishes[i] = before;
            }
        }

        private int firstCheapest(int count, int barredDish) {
            int least = leastBut(count, barredDish);
            for (int dish = 0; dish < MOST_DISHES; dish++) {
                if (dish != barredDish && coins[count][dish] == least) {
                    return dish;
                }
            }
            return NONE;
        }

        boolean priceHouses(Day day, int days) {
            for (int house = 0; house < Math.min(MOST_HOUSES, day.rows(HOUSES)); house++) {
                prices[house] = cheapest(day, day.dietOf(house), days);
                if (prices[house] == WORST) {
                    return false;
                }
            }
            return true;
        }

        int dropFor(Day day, int coin) {
            int gone = 0;
            for (int round = 0; round < MOST_HOUSES; round++) {
                if (priceOfLeft(day, gone) <= coin) {
                    return gone;
                }
                gone |= 1 << leastNeeding(day, gone);
            }
            return gone;
        }

        private int priceOfLeft(Day day, int gone) {
            int price = 0;
            for (int house = 0; house < Math.min(MOST_HOUSES, day.rows(HOUSES)); house++) {
                price += (gone & 1 << house) == 0 ? prices[house] : 0;
            }
            return price;
        }

        private int leastNeeding(Day day, int gone) {
            int found = 0;
            int least = WORST;
            for (int house = 0; house < day.rows(HOUSES); house++) {
                int need = day.get(HOUSES, house, HOUSE_NEED);
                if ((gone & 1 << house) == 0 && need <= least) {
                    found = house;
                    least = need;
                }
            }
            return found;
        }
    }

    /** Whom to call first behind an unanswered knock. */
    private static final class Knocks {
        private final int[] order = new int[MOST_CALLS];
        private final int[] firstOrder = new int[MOST_CALLS];
        private long least;
        private int toldCalls;

        void forget() {
            toldCalls = 0;
        }

        int callOf(int i) {
            return i >= 0 && i < toldCalls ? firstOrder[i] : NONE;
        }

        long search(Day day) {
            least = ENDLESS;
            extend(this, day, 0, 0);
            toldCalls = callCount(day);
            return least;
        }

        long expectedAsTold(Day day) {
            for (int call = 0; call < MOST_CALLS; call++) {
                order[call] = call;
            }
            return expected(day);
        }

        private static void extend(Knocks knocks, Day day, int depth, int done) {
            if (depth >= callCount(day)) {
                knocks.note(day);
                return;
            }
            for (int call = 0; call < callCount(day); call++) {
                if ((done & 1 << call) == 0) {
                    knocks.order[depth] = call;
                    extend(knocks, day, depth + 1, done | 1 << call);
                }
            }
        }

        private void note(Day day) {
            long expected = expected(day);
            if (expected < least) {
                least = expected;
                System.arraycopy(order, 0, firstOrder, 0, MOST_CALLS);
            }
        }

        /** From the back: what stands behind a call counts only as far as that call has no luck. */
        private long expected(Day day) {
            long minutes = 0;
            long hundreds = 1;
            for (int i = callCount(day) - 1; i >= 0; i--) {
                hundreds *= 100;
                long noLuck = 100 - day.get(CALLS, order[i], CALL_CHANCE);
                minutes = day.get(CALLS, order[i], CALL_TAKES) * hundreds + noLuck * minutes;
            }
            return minutes;
        }

        private static int callCount(Day day) {
            return Math.min(MOST_CALLS, day.rows(CALLS));
        }
    }

    /** Helpers to the days of a week by their wishes. */
    private static final class Wishes {
        private final int[] wishers = new int[WEEK];
        private final int[] left = new int[MOST_HELPERS];
        private final int[] helpers = new int[WEEK];
        private boolean isTold;

        void forget() {
            isTold = false;
        }

        int helperOf(int i) {
            return isTold && i >= 0 && i < WEEK ? helpers[i] : NONE;
        }

        int fillWeek(Day day) {
            noteWishers(day);
            int filled = capForFewest(day);
            int open = filled;
            for (int date = 0; date < WEEK; date++) {
                helpers[date] = firstFor(date, open);
                open -= helpers[date] == NOBODY ? 0 : 1;
            }
            isTold = true;
            return filled;
        }

        private void noteWishers(Day day) {
            Arrays.fill(wishers, 0);
            for (int helper = 0; helper < day.rows(HELPERS); helper++) {
                for (int date = 0; date < WEEK; date++) {
                    boolean wished = (day.get(HELPERS, helper, HELPER_DAYS) & 1 << date) != 0;
                    wishers[date] |= wished ? 1 << helper : 0;
                }
            }
        }

        /** Leaves each helper the least number of days at most with which the most days are filled. */
        private int capForFewest(Day day) {
            capAt(day, WEEK);
            int filled = mostFrom(0);
            for (int cap = 0; cap < WEEK; cap++) {
                capAt(day, cap);
                if (mostFrom(0) == filled) {
                    return filled;
                }
            }
            capAt(day, WEEK);
            return filled;
        }

        private void capAt(Day day, int cap) {
            for (int helper = 0; helper < MOST_HELPERS; helper++) {
                left[helper] = Math.min(cap, day.get(HELPERS, helper, HELPER_MOST));
            }
        }

        private int firstFor(int date, int open) {
            for (int helper = 0; helper < MOST_HELPERS; helper++) {
                if ((wishers[date] & 1 << helper) != 0 && left[helper] > 0) {
                    left[helper]--;
                    if (mostFrom(date + 1) >= open - 1) {
                        return helper;
                    }
                    left[helper]++;
                }
            }
            return NOBODY;
        }

        /**
         * The most days from one on that can be filled, as a least cut: for any group of helpers, no
         * more than what the group may still take and the days that somebody outside it wished for;
         * and for some group just as many.
         */
        private int mostFrom(int firstDate) {
            int least = WEEK;
            for (int group = 0; group < 1 << MOST_HELPERS; group++) {
                int bound = 0;
                for (int helper = 0; helper < MOST_HELPERS; helper++) {
                    bound += (group & 1 << helper) != 0 ? left[helper] : 0;
                }
                for (int date = Math.max(0, firstDate); date < WEEK; date++) {
                    bound += (wishers[date] & ~group) != 0 ? 1 : 0;
                }
                least = Math.min(least, bound);
            }
            return least;
        }
    }

    /** Signs of each house, behind one another. */
    private static final class Signs {
        private final int[][] values = new int[MOST_HOUSES][MOST_SIGNS];
        private final int[] counts = new int[MOST_HOUSES];

        void clear() {
            Arrays.fill(counts, 0);
        }

        int count(int house) {
            return house >= 0 && house < MOST_HOUSES ? counts[house] : 0;
        }

        int append(int house, int value) {
            int count = count(house);
            if (isWithin(house, 0, MOST_HOUSES - 1) && count < MOST_SIGNS) {
                values[house][count] = value;
                counts[house]++;
            }
            return count(house);
        }

        int choicesNoLess(int house) {
            int count = count(house);
            if (count < 3) {
                return 0;
            }
            int[] row = values[house];
            int lastThree = row[count - 1] + row[count - 2] + row[count - 3];
            int choices = 0;
            for (int i = 0; i < count; i++) {
                for (int j = i + 1; j < count; j++) {
                    for (int k = j + 1; k < count; k++) {
                        choices += row[i] + row[j] + row[k] >= lastThree ? 1 : 0;
                    }
                }
            }
            return choices;
        }
    }

    /** Probes of the cars' boxes. */
    private static final class Probes {
        private final int[] cars = new int[MOST_PROBES];
        private final int[] minutes = new int[MOST_PROBES];
        private final int[] heats = new int[MOST_PROBES];
        private int count;

        void clear() {
            count = 0;
        }

        int append(int car, int minute, int heat) {
            if (count < MOST_PROBES) {
                cars[count] = car;
                minutes[count] = minute;
                heats[count] = heat;
                count++;
            }
            return count;
        }

        int offByMore(Day day, int allowed) {
            int found = 0;
            for (int i = 0; i < count; i++) {
                int off = Math.abs(heats[i] - day.boxHeat(cars[i], minutes[i]));
                found |= off > allowed ? 1 << i : 0;
            }
            return found;
        }

        int earliestBelow(int hot) {
            int found = NOT_COLD;
            int least = WORST;
            for (int i = 0; i < count; i++) {
                if (heats[i] < hot && minutes[i] < least) {
                    found = i;
                    least = minutes[i];
                }
            }
            return found;
        }
    }
}
