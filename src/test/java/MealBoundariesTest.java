/**
 * The boundary cases of Terms III and of promises 19 to 37: diets, coin, knocks, helpers, signs, probes and
 * sizes. Each method has the document's sentence above it; answers are worked out by hand.
 */
public final class MealBoundariesTest extends DayText {
    private static final String HOUSE = house('h', 50);
    private static final Check CHECK = new Check("MealBoundariesTest");

    private MealBoundariesTest() {
    }

    public static void main(String[] args) {
        fitsAndBreachRows();
        breachLetters();
        forAllDishes();
        menuDays();
        menuNoneTwoDaysRunning();
        menuOfLikeOnes();
        menuRefused();
        menuAtDays();
        droppedAtTheCoin();
        droppedOfLikeNeed();
        droppedNumbers();
        droppedWithoutMenu();
        knockOfOneAndFive();
        knockChances();
        knockOfLikeOnes();
        knockRefused();
        callAtPlaces();
        asToldKeepsTheOrder();
        fillOfNobody();
        fillUpToMost();
        fillMostDays();
        fillLeastBusy();
        fillFirstByDays();
        helperDays();
        signNumbers();
        signRoom();
        signRefused();
        fadingOfFewerThanFour();
        fadingCounts();
        probeNumbers();
        probeRoom();
        probeRefused();
        faultyAtTheEdge();
        faultyNumbers();
        firstColdAtTheEdge();
        recallKitchens();
        ledPlaces();
        sizesOfWhat();
        CHECK.end();
    }

    private static String day(String... lines) {
        return text(HOUSE, CAR, String.join(";", lines));
    }

    private static NoonMeals told(String... lines) {
        return Check.told(day(lines));
    }

    private static NoonMeals bare() {
        return Check.told(text(HOUSE, CAR));
    }

    private static NoonMeals dishes(int... costs) {
        StringBuilder lines = new StringBuilder();
        for (int i = 0; i < costs.length; i++) {
            lines.append(i == 0 ? "" : ";").append("dish d").append((char) ('a' + i)).append(" of a costs ");
            lines.append(costs[i]);
        }
        return told(lines.toString());
    }

    // ---- diets, coin

    /** fits, breach: "NONE: 1", for a house and for a dish. */
    private static void fitsAndBreachRows() {
        NoonMeals x = dishes(1, 1);
        for (int row : new int[] {LEAST, -1, 1, 6, MOST}) {
            CHECK.due(x, "fits(" + row + ", 0)", -1, 1, x.fits(row, 0));
            CHECK.due(x, "breach(" + row + ", 0)", -1, 1, x.breach(row, 0));
        }
        for (int row : new int[] {LEAST, -1, 2, 6, MOST}) {
            CHECK.due(x, "fits(0, " + row + ")", -1, 1, x.fits(0, row));
            CHECK.due(x, "breach(0, " + row + ")", -1, 1, x.breach(0, row));
        }
        CHECK.due(x, "fits of the last dish", 1, 0, x.fits(0, 1));
        CHECK.due(x, "breach of the last dish", 0, 0, x.breach(0, 1));
        NoonMeals none = bare();
        CHECK.due(none, "fits without dishes", -1, 1, none.fits(0, 0));
        CHECK.due(none, "breach without dishes", -1, 1, none.breach(0, 0));
    }

    /** "as bits (a is bit 0)". */
    private static void breachLetters() {
        for (char letter = 'a'; letter <= 'z'; letter++) {
            NoonMeals x = Check.told(day("dish x of " + letter + " costs 1").replace("bars z", "bars " + letter));
            CHECK.due(x, "breach of " + letter, 1 << letter - 'a', 0, x.breach(0, 0));
            CHECK.due(x, "fits of " + letter, 0, 0, x.fits(0, 0));
        }
    }

    /** "Dishes that are FIT for all houses, as bits." */
    private static void forAllDishes() {
        NoonMeals none = bare();
        CHECK.due(none, "forAll without dishes", 0, 0, none.forAll());
        NoonMeals six = dishes(1, 1, 1, 1, 1, 1);
        CHECK.due(six, "forAll of six", 63, 0, six.forAll());
        NoonMeals last = Check.told(text("diet m bars a", sixHouses().replaceFirst("(.*) n ", "$1 m "), CAR,
                "dish a of a costs 1", "dish b of b costs 1", "dish z of z costs 1"));
        CHECK.due(last, "fits the last house's diet", 0, 0, last.fits(5, 0));
        CHECK.due(last, "fits the others' diet", 1, 0, last.fits(4, 0));
        CHECK.due(last, "forAll where only the last house minds", 2, 0, last.forAll());
        String minds = house('a', 50).replace("eats n", "eats m");
        NoonMeals first = Check.told(text("diet m bars a", minds, HOUSE, CAR, "dish x of a costs 1"));
        CHECK.due(first, "forAll where only the first house minds", 0, 0, first.forAll());
        NoonMeals both = Check.told(text("diet m bars a", minds, minds.replace("house a", "house b"), CAR,
                "dish x of a costs 1"));
        CHECK.due(both, "forAll where two houses mind", 0, 0, both.forAll());
        NoonMeals nobody = Check.told(text("diet m bars a", HOUSE, CAR, "dish x of a costs 1"));
        CHECK.due(nobody, "forAll where nobody eats the diet that bars it", 1, 0, nobody.forAll());
    }

    /** "A MENU of a diet for n days (1 .. 14)". */
    private static void menuDays() {
        NoonMeals x = dishes(1, 99);
        for (int days = 1; days <= 14; days++) {
            CHECK.due(x, "menu(0, " + days + ")", (days + 1) / 2 + 99 * (days / 2), 0, x.menu(0, days));
        }
        for (int days : new int[] {LEAST, -1, 0, 15, 16, MOST}) {
            CHECK.due(x, "menu(0, " + days + ")", -1, 2, x.menu(0, days));
        }
    }

    /** "none two days running": one dish is enough for a day, not for two. */
    private static void menuNoneTwoDaysRunning() {
        NoonMeals one = dishes(99);
        CHECK.due(one, "menu of one dish for a day", 99, 0, one.menu(0, 1));
        for (int days : new int[] {2, 3, 14}) {
            CHECK.due(one, "menu of one dish for " + days, -1, 6, one.menu(0, days));
        }
        NoonMeals barred = told("dish x of a costs 5", "dish y of z costs 1");
        CHECK.due(barred, "menu of one fit dish for a day", 5, 0, barred.menu(0, 1));
        CHECK.due(barred, "menu of one fit dish for two", -1, 6, barred.menu(0, 2));
        NoonMeals none = told("dish x of z costs 5");
        CHECK.due(none, "menu of no fit dish", -1, 6, none.menu(0, 1));
        NoonMeals bare = bare();
        CHECK.due(bare, "menu without dishes", -1, 6, bare.menu(0, 1));
        NoonMeals three = dishes(3, 1, 2);
        CHECK.due(three, "menu of three dishes", 1 + 2 + 1, 0, three.menu(0, 3));
    }

    /** "of like ones the first by dishes' numbers, day by day". */
    private static void menuOfLikeOnes() {
        dueMenu(dishes(2, 2, 2), 8, 0, 1, 0, 1);
        dueMenu(dishes(1, 2, 1), 4, 0, 2, 0, 2);
        dueMenu(dishes(2, 1), 6, 0, 1, 0, 1);
        dueMenu(dishes(2, 1), 4, 1, 0, 1);
        dueMenu(dishes(2, 2, 1), 6, 0, 2, 0, 2);
        dueMenu(dishes(9, 9, 9, 9, 9, 1), 1, 5);
    }

    private static void dueMenu(NoonMeals x, int coin, int... dishes) {
        CHECK.due(x, "menu for " + dishes.length, coin, 0, x.menu(0, dishes.length));
        for (int i = 0; i < dishes.length; i++) {
            CHECK.due("dish of day " + i, dishes[i], x.menuAt(i));
        }
        CHECK.due("dish behind the last day", -1, x.menuAt(dishes.length));
    }

    /** menu: "NONE: 1 (diet); 2; 6", in that order. */
    private static void menuRefused() {
        NoonMeals x = Check.told(day("diet m bars a", "dish x of a costs 4"));
        for (int row : new int[] {LEAST, -1, 2, 4, MOST}) {
            CHECK.due(x, "menu(" + row + ", 1)", -1, 1, x.menu(row, 1));
            CHECK.due(x, "menu(" + row + ", 0), ahead of 2", -1, 1, x.menu(row, 0));
        }
        CHECK.due(x, "menu(1, 15), ahead of 6", -1, 2, x.menu(1, 15));
        CHECK.due(x, "menu(1, 1) of the last diet", -1, 6, x.menu(1, 1));
        CHECK.due(x, "menu(0, 1)", 4, 0, x.menu(0, 1));
    }

    /** menuAt: "by the latest menu() since day() that told a coin; NONE for none such". */
    private static void menuAtDays() {
        NoonMeals x = dishes(1, 2);
        CHECK.due("menuAt ahead of menu", -1, x.menuAt(0));
        x.menu(0, 14);
        CHECK.due("menuAt(13)", 1, x.menuAt(13));
        for (int i : new int[] {LEAST, -1, 14, MOST}) {
            CHECK.due("menuAt(" + i + ")", -1, x.menuAt(i));
        }
        x.menu(0, 0);
        x.menu(1, 1);
        x.dropped(99999, 1);
        CHECK.due("menuAt(13) behind refused menus and dropped", 1, x.menuAt(13));
        x.menu(0, 1);
        CHECK.due("menuAt(0) of a shorter menu", 0, x.menuAt(0));
        CHECK.due("menuAt(1) of a shorter menu", -1, x.menuAt(1));
        Check.tell(x, day("dish x of a costs 4"));
        CHECK.due("menuAt(0) of a new day", -1, x.menuAt(0));
        x.menu(0, 1);
        x.menu(0, 2);
        CHECK.due("menuAt(0) behind a menu that there isn't", 0, x.menuAt(0));
        CHECK.due("menuAt(1) behind a menu that there isn't", -1, x.menuAt(1));
    }

    /** "as long as all that are left cost more than the coin". */
    private static void droppedAtTheCoin() {
        NoonMeals one = dishes(5);
        CHECK.due(one, "dropped of just the coin", 0, 0, one.dropped(5, 1));
        CHECK.due(one, "dropped of a coin less", 1, 0, one.dropped(4, 1));
        CHECK.due(one, "dropped of no coin", 1, 0, one.dropped(0, 1));
        NoonMeals six = Check.told(text(sixHouses(), CAR, "dish d of a costs 10", "dish e of a costs 20"));
        for (int left = 6; left >= 0; left--) {
            int gone = 63 & ~((1 << left) - 1);
            CHECK.due(six, "dropped down to " + left, gone, 0, six.dropped(10 * left, 1));
            CHECK.due(six, "dropped with a coin to spare", gone, 0, six.dropped(10 * left + 9, 1));
            CHECK.due(six, "dropped of two days", gone, 0, six.dropped(30 * left, 2));
        }
    }

    /** "the one of least need goes, of like ones the last". */
    private static void droppedOfLikeNeed() {
        String dish = "dish x of a costs 1";
        NoonMeals x = Check.told(text(house('a', 0, "0 0 0 9"), house('b', 0, "0 0 0 1"), house('d', 0, "0 0 0 5"),
                house('e', 0, "0 0 0 1"), CAR, dish));
        int[] gone = {0, 8, 8 + 2, 8 + 2 + 4, 15};
        for (int i = 0; i < gone.length; i++) {
            CHECK.due(x, "dropped of " + i, gone[i], 0, x.dropped(4 - i, 1));
        }
        // The one of least need goes even if another's would be enough.
        NoonMeals dear = Check.told(text("diet m bars b", house('a', 0, "0 0 0 1").replace("eats n", "eats m"),
                house('b', 0, "0 0 0 2"), CAR, "dish x of b costs 1", "dish y of d costs 9"));
        CHECK.due(dear, "dropped of the dear one", 1, 0, dear.dropped(9, 1));
        CHECK.due(dear, "dropped of both", 3, 0, dear.dropped(0, 1));
    }

    /** dropped: "2 (days, coin 0 .. 99,999)". */
    private static void droppedNumbers() {
        NoonMeals x = dishes(1, 1);
        CHECK.due(x, "dropped(0, 14)", 1, 0, x.dropped(0, 14));
        CHECK.due(x, "dropped(99999, 14)", 0, 0, x.dropped(99999, 14));
        CHECK.due(x, "dropped(14, 14)", 0, 0, x.dropped(14, 14));
        CHECK.due(x, "dropped(13, 14)", 1, 0, x.dropped(13, 14));
        for (int coin : new int[] {LEAST, -1, 100000, MOST}) {
            CHECK.due(x, "dropped(" + coin + ", 1)", -1, 2, x.dropped(coin, 1));
        }
        for (int days : new int[] {LEAST, -1, 0, 15, MOST}) {
            CHECK.due(x, "dropped(9, " + days + ")", -1, 2, x.dropped(9, days));
        }
    }

    /** dropped: "6 (some house has no MENU)", behind 2, however much coin there is. */
    private static void droppedWithoutMenu() {
        NoonMeals x = Check.told(text("diet m bars a", house('a', 0), house('b', 0).replace("eats n", "eats m"), CAR,
                "dish x of a costs 1"));
        CHECK.due(x, "dropped where the last house has no menu", -1, 6, x.dropped(99999, 1));
        CHECK.due(x, "dropped of no coin where one has no menu", -1, 6, x.dropped(0, 1));
        CHECK.due(x, "dropped of a wrong coin, ahead of 6", -1, 2, x.dropped(100000, 1));
        NoonMeals first = Check.told(text("diet m bars a", house('a', 0).replace("eats n", "eats m"), house('b', 0),
                CAR, "dish x of a costs 1"));
        CHECK.due(first, "dropped where the first house has no menu", -1, 6, first.dropped(99999, 1));
        NoonMeals unused = Check.told(text("diet m bars a", house('a', 0), CAR, "dish x of a costs 1"));
        CHECK.due(unused, "dropped where a diet that nobody eats has none", 0, 0, unused.dropped(99999, 1));
        CHECK.due(unused, "dropped of two days of one dish", -1, 6, unused.dropped(99999, 2));
        NoonMeals none = bare();
        CHECK.due(none, "dropped without dishes", -1, 6, none.dropped(99999, 1));
    }

    // ---- knocks, helpers

    private static NoonMeals calls(int... numbers) {
        StringBuilder lines = new StringBuilder();
        for (int i = 0; i < numbers.length; i += 2) {
            lines.append(i == 0 ? "" : ";").append("call l").append((char) ('a' + i / 2)).append(" takes ");
            lines.append(numbers[i]).append(" chance ").append(numbers[i + 1]);
        }
        return told(lines.toString());
    }

    /** "minutes together, each times .. 100 for each other one (it too)". */
    private static void knockOfOneAndFive() {
        for (int chance : new int[] {0, 1, 100}) {
            NoonMeals least = calls(1, chance);
            CHECK.due(least, "knock of the least", 100, 0, least.knock());
            NoonMeals most = calls(60, chance);
            CHECK.due(most, "knock of the most", 6000, 0, most.knock());
            CHECK.due(most, "asTold of the most", 6000, 0, most.asTold());
        }
        NoonMeals five = calls(60, 0, 60, 0, 60, 0, 60, 0, 60, 0);
        CHECK.due(five, "knock of five", 3000000000000L, 0, five.knock());
        CHECK.due(five, "asTold of five", 3000000000000L, 0, five.asTold());
        for (int i = 0; i < 5; i++) {
            CHECK.due("callAt(" + i + ") of like ones", i, five.callAt(i));
        }
    }

    /** "with its chance nobody needs to be called behind it": 0 and 100. */
    private static void knockChances() {
        NoonMeals sure = calls(60, 0, 59, 100);
        CHECK.due(sure, "knock with a sure one", 590000, 0, sure.knock());
        CHECK.due("the sure one first", 1, sure.callAt(0));
        CHECK.due(sure, "asTold with a sure one behind", 1190000, 0, sure.asTold());
        // 30 first: 30 * 10,000 + 60 * 100 * 100; 60 first: 60 * 10,000.
        NoonMeals rather = calls(30, 0, 60, 100);
        CHECK.due(rather, "knock where the sure one takes longer", 600000, 0, rather.knock());
        CHECK.due("the sure one first though it takes longer", 1, rather.callAt(0));
        NoonMeals likely = calls(10, 1, 10, 2);
        CHECK.due(likely, "knock of the likelier first", 100000 + 98000, 0, likely.knock());
        CHECK.due("the likelier first", 1, likely.callAt(0));
    }

    /** "of like ones the first by numbers". */
    private static void knockOfLikeOnes() {
        // 10 by 50 and 20 by 100 give 10 + 10 = 20 ahead of 20 + 0: all the same, so the numbers tell.
        NoonMeals x = calls(20, 100, 10, 50);
        CHECK.due(x, "knock of like orders", 200000, 0, x.knock());
        CHECK.due("the first by numbers", 0, x.callAt(0));
        NoonMeals y = calls(10, 50, 20, 100);
        CHECK.due(y, "knock of like orders, told otherwise", 200000, 0, y.knock());
        CHECK.due("the first by numbers again", 0, y.callAt(0));
        // Behind a sure one all orders are alike.
        NoonMeals behind = calls(9, 0, 1, 100, 3, 50);
        CHECK.due(behind, "knock where nothing counts behind", 1000000, 0, behind.knock());
        int[] order = {1, 0, 2};
        for (int i = 0; i < 3; i++) {
            CHECK.due("callAt(" + i + ") behind a sure one", order[i], behind.callAt(i));
        }
    }

    /** knock: "-1: 1 (no DAY); 6 (no call)"; asTold: "-1: likewise". */
    private static void knockRefused() {
        NoonMeals x = bare();
        CHECK.due(x, "knock without calls", -1, 6, x.knock());
        CHECK.due(x, "asTold without calls", -1, 6, x.asTold());
        CHECK.due("callAt(0) without calls", -1, x.callAt(0));
    }

    /** callAt: "by the latest knock() since day() that was not refused; NONE for none such". */
    private static void callAtPlaces() {
        NoonMeals x = calls(1, 0, 1, 0, 1, 0, 1, 0, 1, 100);
        CHECK.due("callAt(0) ahead of knock", -1, x.callAt(0));
        x.knock();
        CHECK.due("callAt(0)", 4, x.callAt(0));
        CHECK.due("callAt(4)", 3, x.callAt(4));
        for (int i : new int[] {LEAST, -1, 5, MOST}) {
            CHECK.due("callAt(" + i + ")", -1, x.callAt(i));
        }
        Check.tell(x, day("call x takes 1 chance 0"));
        CHECK.due("callAt(0) of a new day", -1, x.callAt(0));
        x.knock();
        CHECK.due("callAt(0) of one call", 0, x.callAt(0));
        CHECK.due("callAt(1) of one call", -1, x.callAt(1));
        Check.tell(x, text(HOUSE, CAR));
        x.knock();
        CHECK.due("callAt(0) behind a refused knock", -1, x.callAt(0));
    }

    private static void asToldKeepsTheOrder() {
        NoonMeals x = calls(60, 0, 1, 100);
        CHECK.due(x, "asTold ahead of knock", 610000, 0, x.asTold());
        CHECK.due("callAt(0) behind asTold alone", -1, x.callAt(0));
        CHECK.due(x, "knock", 10000, 0, x.knock());
        CHECK.due(x, "asTold behind knock", 610000, 0, x.asTold());
        CHECK.due("callAt(0) behind asTold", 1, x.callAt(0));
    }

    private static void dueWeek(NoonMeals x, int days, int... helpers) {
        CHECK.due(x, "fill()", days, 0, x.fill());
        for (int day = 0; day < 7; day++) {
            CHECK.due("helper(" + day + ")", helpers[day], x.helper(day));
        }
    }

    /** "or to nobody": without helpers nothing is filled, and nothing is refused. */
    private static void fillOfNobody() {
        dueWeek(bare(), 0, -2, -2, -2, -2, -2, -2, -2);
        dueWeek(told("helper x days 3 most 7"), 1, -2, -2, -2, 0, -2, -2, -2);
    }

    /** "nobody more than most": 1 and 7. */
    private static void fillUpToMost() {
        dueWeek(told("helper x days 0,1,2,3,4,5,6 most 1"), 1, 0, -2, -2, -2, -2, -2, -2);
        dueWeek(told("helper x days 0,1,2,3,4,5,6 most 6"), 6, 0, 0, 0, 0, 0, 0, -2);
        dueWeek(told("helper x days 0,1,2,3,4,5,6 most 7"), 7, 0, 0, 0, 0, 0, 0, 0);
        dueWeek(told("helper x days 6 most 7", "helper y days 0 most 1"), 2, 1, -2, -2, -2, -2, -2, 0);
    }

    /** "the most days", ahead of all else. */
    private static void fillMostDays() {
        dueWeek(told("helper x days 0,6 most 1", "helper y days 0 most 1"), 2, 1, -2, -2, -2, -2, -2, 0);
        dueWeek(told("helper x days 0,1,2,3,4,5,6 most 7", "helper y days 6 most 1"), 7, 0, 0, 0, 0, 0, 0, 1);
        dueWeek(told("helper a days 0 most 7", "helper b days 0,1 most 1", "helper d days 1,2 most 1",
                "helper e days 2,3 most 1", "helper f days 3,4 most 1"), 5, 0, 1, 2, 3, 4, -2, -2);
        // Behind a day for nobody all others still count.
        dueWeek(told("helper x days 1,6 most 1", "helper y days 1 most 1"), 2, -2, 1, -2, -2, -2, -2, 0);
        // Five helpers wish for two days alone.
        dueWeek(told("helper a days 0,1 most 7", "helper b days 0,1 most 7", "helper d days 0,1 most 7",
                "helper e days 0,1 most 7", "helper f days 0,1 most 7"), 2, 0, 1, -2, -2, -2, -2, -2);
    }

    /** "then the least days of the busiest". */
    private static void fillLeastBusy() {
        String all = " days 0,1,2,3,4,5,6 most 7";
        dueWeek(told("helper x" + all, "helper y" + all), 7, 0, 0, 0, 0, 1, 1, 1);
        dueWeek(told("helper x" + all, "helper y" + all, "helper w" + all), 7, 0, 0, 0, 1, 1, 1, 2);
        dueWeek(told("helper x" + all, "helper y days 0,1 most 2"), 7, 1, 1, 0, 0, 0, 0, 0);
    }

    /** "then the first by days, helpers by numbers, nobody last". */
    private static void fillFirstByDays() {
        dueWeek(told("helper x days 5,6 most 1"), 1, -2, -2, -2, -2, -2, 0, -2);
        dueWeek(told("helper x days 0,1 most 1", "helper y days 0,1 most 1"), 2, 0, 1, -2, -2, -2, -2, -2);
        dueWeek(told("helper x days 1 most 1", "helper y days 0,1 most 1"), 2, 1, 0, -2, -2, -2, -2, -2);
    }

    /** helper: "-2 for nobody. NONE for none such". */
    private static void helperDays() {
        NoonMeals x = told("helper x days 0 most 1");
        CHECK.due("helper(0) ahead of fill", -1, x.helper(0));
        x.fill();
        CHECK.due("helper(0)", 0, x.helper(0));
        CHECK.due("helper(6)", -2, x.helper(6));
        for (int i : new int[] {LEAST, -2, -1, 7, MOST}) {
            CHECK.due("helper(" + i + ")", -1, x.helper(i));
        }
        Check.tell(x, day("helper x days 0 most 1"));
        CHECK.due("helper(0) of a new day", -1, x.helper(0));
        Check.tell(x, day("helper x days 6 most 1"));
        dueWeek(x, 1, -2, -2, -2, -2, -2, -2, 0);
    }

    // ---- signs, probes

    /** "up to 10 numbers (0 .. 99)"; sign: 2. */
    private static void signNumbers() {
        NoonMeals x = bare();
        CHECK.due(x, "sign(0, 0)", 1, 0, x.sign(0, 0));
        CHECK.due(x, "sign(0, 99)", 2, 0, x.sign(0, 99));
        for (int v : new int[] {LEAST, -1, 100, MOST}) {
            CHECK.due(x, "sign(0, " + v + ")", -1, 2, x.sign(0, v));
        }
        CHECK.due(x, "a refused sign doesn't count", 3, 0, x.sign(0, 1));
    }

    /** sign: "3", for each house by itself. */
    private static void signRoom() {
        NoonMeals x = Check.told(text(sixHouses(), CAR));
        for (int count = 1; count <= 10; count++) {
            CHECK.due(x, "sign of the last house", count, 0, x.sign(5, 0));
        }
        CHECK.due(x, "an eleventh sign", -1, 3, x.sign(5, 0));
        CHECK.due(x, "an eleventh sign again", -1, 3, x.sign(5, 99));
        CHECK.due(x, "the first sign of another house", 1, 0, x.sign(0, 0));
        CHECK.due(x, "all choices of three of ten", 120, 0, x.fading(5));
    }

    /** sign: "NONE: 1; 2; 3", in that order; fading: "1". */
    private static void signRefused() {
        NoonMeals x = bare();
        for (int count = 1; count <= 10; count++) {
            x.sign(0, count);
        }
        for (int row : new int[] {LEAST, -1, 1, 6, MOST}) {
            CHECK.due(x, "sign(" + row + ", 0)", -1, 1, x.sign(row, 0));
            CHECK.due(x, "sign(" + row + ", 100), ahead of 2", -1, 1, x.sign(row, 100));
            CHECK.due(x, "fading(" + row + ")", -1, 1, x.fading(row));
        }
        CHECK.due(x, "sign(0, 100), ahead of 3", -1, 2, x.sign(0, 100));
        CHECK.due(x, "sign(0, -1), ahead of 3", -1, 2, x.sign(0, -1));
    }

    /** fading: "5 (fewer than four SIGNS)". */
    private static void fadingOfFewerThanFour() {
        NoonMeals x = bare();
        for (int count = 0; count < 4; count++) {
            CHECK.due(x, "fading of " + count, -1, 5, x.fading(0));
            x.sign(0, 7);
        }
        CHECK.due(x, "fading of four", 4, 0, x.fading(0));
    }

    /** "those whose sum is no less than that of the last three": as much counts, one less doesn't. */
    private static void fadingCounts() {
        dueFading(1, 0, 1, 1, 1);
        dueFading(4, 1, 1, 1, 1);
        dueFading(4, 2, 1, 1, 1);
        dueFading(1, 98, 99, 99, 99);
        dueFading(4, 99, 0, 0, 0);
        // No less than 6 are 1 + 2 + 3 and the six choices with the 5.
        dueFading(1 + 6, 5, 0, 1, 2, 3);
        dueFading(120, 99, 99, 99, 99, 99, 99, 99, 99, 99, 99);
        dueFading(1, 0, 0, 0, 0, 0, 0, 0, 99, 99, 99);
    }

    private static void dueFading(int choices, int... signs) {
        NoonMeals x = bare();
        for (int sign : signs) {
            x.sign(0, sign);
        }
        CHECK.due(x, "fading of " + signs.length, choices, 0, x.fading(0));
    }

    /** probe: "2 (minute starts .. 999, heat)". */
    private static void probeNumbers() {
        for (int starts : new int[] {500, 800}) {
            NoonMeals x = Check.told(text(HOUSE, car("c", starts, 1, 0)));
            CHECK.due(x, "a probe at starts", 1, 0, x.probe(0, starts, 0));
            CHECK.due(x, "a probe at 999", 2, 0, x.probe(0, 999, 99));
            for (int minute : new int[] {LEAST, -1, 0, starts - 1, 1000, MOST}) {
                CHECK.due(x, "a probe at " + minute, -1, 2, x.probe(0, minute, 50));
            }
            for (int heat : new int[] {LEAST, -1, 100, MOST}) {
                CHECK.due(x, "a probe of " + heat, -1, 2, x.probe(0, starts, heat));
            }
            CHECK.due("refused probes don't count", 2, x.size(8));
        }
        NoonMeals two = Check.told(text(HOUSE, car("c", 500, 1, 0), car("d", 501, 1, 0)));
        CHECK.due(two, "a probe at the first car's starts", 1, 0, two.probe(0, 500, 50));
        CHECK.due(two, "a probe ahead of the last car's starts", -1, 2, two.probe(1, 500, 50));
    }

    /** "PROBES, up to 16"; probe: "3"; the last one is bit 15. */
    private static void probeRoom() {
        NoonMeals x = bare();
        for (int count = 1; count <= 16; count++) {
            CHECK.due(x, "probe no. " + count, count, 0, x.probe(0, 600, count == 16 ? 0 : 80));
        }
        CHECK.due(x, "a seventeenth probe", -1, 3, x.probe(0, 600, 0));
        CHECK.due("sixteen probes", 16, x.size(8));
        CHECK.due(x, "faulty(0) of the last", 1 << 15, 0, x.faulty(0));
        CHECK.due(x, "firstCold of the last", 15, 0, x.firstCold());
    }

    /** probe: "NONE: 1 (car); 2 ..; 3", in that order. */
    private static void probeRefused() {
        NoonMeals x = bare();
        for (int count = 1; count <= 16; count++) {
            x.probe(0, 600, 80);
        }
        for (int row : new int[] {LEAST, -1, 1, 3, MOST}) {
            CHECK.due(x, "probe(" + row + ", 600, 80)", -1, 1, x.probe(row, 600, 80));
            CHECK.due(x, "probe(" + row + ", 599, 100), ahead of 2", -1, 1, x.probe(row, 599, 100));
        }
        CHECK.due(x, "a seventeenth ahead of starts, ahead of 3", -1, 2, x.probe(0, 599, 80));
        CHECK.due(x, "a seventeenth of wrong heat, ahead of 3", -1, 2, x.probe(0, 600, 100));
    }

    /** "off by more than t from hot of its kitchen less (cools times minutes since starts by 10, downwards)". */
    private static void faultyAtTheEdge() {
        NoonMeals x = Check.told(text(HOUSE, car("c", 600, 1, 3)));
        // Due are 80 at 603 (9 by 10 is 0) and 79 at 604 (12 by 10 is 1).
        x.probe(0, 603, 80);
        x.probe(0, 604, 79);
        x.probe(0, 603, 85);
        x.probe(0, 603, 75);
        CHECK.due(x, "faulty(0)", 12, 0, x.faulty(0));
        CHECK.due(x, "faulty(4): above and below", 12, 0, x.faulty(4));
        CHECK.due(x, "faulty(5): off by just so much", 0, 0, x.faulty(5));
        NoonMeals first = bare();
        first.probe(0, 600, 59);
        CHECK.due(first, "faulty(20) of the first", 1, 0, first.faulty(20));
        CHECK.due(first, "firstCold of the first", 0, 0, first.firstCold());
        NoonMeals cold = Check.told(text(HOUSE, car("c", 500, 1, 50)));
        // At 535 due is 80 - 175 = -95, at 999 far below.
        cold.probe(0, 535, 4);
        cold.probe(0, 535, 5);
        cold.probe(0, 999, 0);
        CHECK.due(cold, "faulty(99)", 2 + 4, 0, cold.faulty(99));
    }

    /** faulty: "t (0 .. 99) .. NONE: 1 (no DAY); 2". */
    private static void faultyNumbers() {
        NoonMeals x = bare();
        CHECK.due(x, "faulty(0) without probes", 0, 0, x.faulty(0));
        CHECK.due(x, "faulty(99) without probes", 0, 0, x.faulty(99));
        for (int t : new int[] {LEAST, -1, 100, MOST}) {
            CHECK.due(x, "faulty(" + t + ")", -1, 2, x.faulty(t));
        }
    }

    /** "of those below hot of the law the one of the least minute, the first such"; "-2 if there is none". */
    private static void firstColdAtTheEdge() {
        NoonMeals x = bare();
        CHECK.due(x, "firstCold without probes", -2, 0, x.firstCold());
        x.probe(0, 600, 60);
        CHECK.due(x, "firstCold of one as hot as the law", -2, 0, x.firstCold());
        x.probe(0, 999, 59);
        CHECK.due(x, "firstCold of one at 999", 1, 0, x.firstCold());
        x.probe(0, 700, 59);
        CHECK.due(x, "firstCold of a lesser minute", 2, 0, x.firstCold());
        x.probe(0, 700, 0);
        CHECK.due(x, "firstCold of the same minute stays the first", 2, 0, x.firstCold());
        x.probe(0, 600, 59);
        CHECK.due(x, "firstCold at starts", 4, 0, x.firstCold());
    }

    /** recall: "Houses DRIVEN by cars of a kitchen, as bits. NONE: 1". */
    private static void recallKitchens() {
        NoonMeals x = Check.told(text("kitchen m at 0 hot 60", sixHouses(), CAR, car("d", 600, 6, 0),
                car("e", 600, 6, 0).replace("from k", "from m")));
        CHECK.due(x, "recall of nothing driven", 0, 0, x.recall(0));
        x.drive(0, 0);
        x.drive(1, 5);
        CHECK.due(x, "recall of two cars' houses", 33, 0, x.recall(0));
        CHECK.due(x, "recall of the last kitchen, whose car is empty", 0, 0, x.recall(1));
        x.drive(2, 4);
        CHECK.due(x, "recall of the last kitchen", 16, 0, x.recall(1));
        x.unload(1);
        CHECK.due(x, "recall behind unload", 1, 0, x.recall(0));
        for (int row : new int[] {LEAST, -1, 2, 3, MOST}) {
            CHECK.due(x, "recall(" + row + ")", -1, 1, x.recall(row));
        }
    }

    /** led: "NoSuchElementException if there is none such". */
    private static void ledPlaces() {
        NoonMeals x = Check.told(text(sixHouses(), CAR, car("d", 600, 1, 0)));
        CHECK.dueNoHouse(x, 0, 0);
        for (int i = 0; i < 6; i++) {
            x.drive(0, 5 - i);
            CHECK.due("led(0, " + i + ")", 5 - i, x.led(0, i));
            CHECK.dueNoHouse(x, 0, i + 1);
        }
        for (int n : new int[] {LEAST, -1, 6, MOST}) {
            CHECK.dueNoHouse(x, 0, n);
            CHECK.dueNoHouse(x, n, 0);
        }
        CHECK.dueNoHouse(x, 1, 0);
        CHECK.dueNoHouse(x, 2, 0);
        x.unload(0);
        CHECK.dueNoHouse(x, 0, 0);
    }

    /** size: "NONE for others; 0 for what there isn't". */
    private static void sizesOfWhat() {
        NoonMeals x = bare();
        int[] sizes = {1, 0, 1, 1, 1, 0, 0, 0, 0, 0, 0};
        for (int what = 0; what <= 10; what++) {
            CHECK.due("size(" + what + ")", sizes[what], x.size(what));
        }
        for (int what : new int[] {LEAST, -1, 11, 12, MOST}) {
            CHECK.due("size(" + what + ")", -1, x.size(what));
            CHECK.due("size(" + what + ") of a new object", -1, new NoonMeals().size(what));
        }
    }
}
