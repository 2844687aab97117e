/** Each promise of the document with answers worked out by hand. */
public final class PromisesTest {
    private static final String DAY = "law hot 60 by 700;kitchen k at 10 hot 80;kitchen m at 50 hot 90;"
            + "flood 30 adds 15;dish pie of ab costs 5;dish egg of bc costs 3;dish tea of d costs 4;"
            + "diet free bars z;diet noa bars a;diet nobc bars bc;"
            + "house ann at 20 eats free doors 5 tea 34 chance 40 need 3 dog;"
            + "house bob at 40 eats noa doors 2 tea 10 chance 25 need 1;"
            + "house cyd at 31 eats nobc doors 0 tea 60 chance 100 need 1;"
            + "car van from k starts 600 holds 3 cools 2 afraid;car cab from m starts 650 holds 1 cools 10;"
            + "call nurse takes 4 chance 10;call son takes 10 chance 50;call ward takes 60 chance 100;"
            + "helper hal days 0,2,3 most 2;helper ivy days 0,1 most 1";
    /** One of each that a day must have, and nothing else. */
    private static final String BARE = "law hot 40 by 900;kitchen k at 0 hot 60;diet n bars a;"
            + "house h at 0 eats n doors 0 tea 0 chance 0 need 1;car c from k starts 500 holds 1 cools 0";
    private static final int[] WRONG_ROWS = {-1, 6, 100, Integer.MIN_VALUE, Integer.MAX_VALUE};
    private static final Check CHECK = new Check("PromisesTest");

    private PromisesTest() {
    }

    public static void main(String[] args) {
        newObject();
        feed();
        day();
        dayForgets();
        faultAndWhere();
        driveUnloadLed();
        rounds();
        tea();
        ways();
        bestOrders();
        shares();
        odds();
        costs();
        diets();
        menus();
        dropped();
        knocks();
        helpers();
        signs();
        probes();
        recall();
        sizes();
        whatLeavesTrouble();
        CHECK.end();
    }

    private static NoonMeals told() {
        return Check.told(DAY);
    }

    private static NoonMeals driven() {
        NoonMeals x = told();
        x.drive(0, 0);
        x.drive(0, 1);
        x.drive(0, 2);
        return x;
    }

    /** Promise 1, and what every call answers without a day. */
    private static void newObject() {
        NoonMeals x = new NoonMeals();
        CHECK.due("NONE", -1, NoonMeals.NONE);
        CHECK.due("trouble()", 0, x.trouble());
        CHECK.due("fault()", 0, x.fault());
        CHECK.due("where()", -1, x.where());
        for (int what = 0; what <= 10; what++) {
            CHECK.due("size(" + what + ") of a new object", 0, x.size(what));
        }
        CHECK.due(x, "drive without a day", -1, 1, x.drive(0, 0));
        CHECK.due(x, "unload without a day", -1, 1, x.unload(0));
        CHECK.due(x, "tea without a day", 0, 1, x.tea(0) ? 1 : 0);
        CHECK.due(x, "comes without a day", -1, 1, x.comes(0));
        CHECK.due(x, "heat without a day", -1000, 1, x.heat(0));
        CHECK.due(x, "bad without a day", -1, 1, x.bad(0));
        CHECK.due(x, "way without a day", -1, 1, x.way(0, 0));
        CHECK.due(x, "way of wrong places without a day", -1, 1, x.way(-1, 100));
        CHECK.due(x, "best without a day", -1, 1, x.best(0, 0));
        CHECK.due(x, "bestAt without a day", -1, 1, x.bestAt(0, 0, 0));
        CHECK.due(x, "share without a day", -1, 1, x.share());
        CHECK.due(x, "odds without a day", -1, 1, x.odds(0));
        CHECK.due(x, "costs without a day", -1000, 1, x.costs(0));
        CHECK.due(x, "fits without a day", -1, 1, x.fits(0, 0));
        CHECK.due(x, "breach without a day", -1, 1, x.breach(0, 0));
        CHECK.due(x, "forAll without a day", -1, 1, x.forAll());
        CHECK.due(x, "menu without a day", -1, 1, x.menu(0, 1));
        CHECK.due(x, "dropped without a day", -1, 1, x.dropped(0, 1));
        CHECK.due(x, "dropped of wrong numbers without a day", -1, 1, x.dropped(-1, 0));
        CHECK.due(x, "knock without a day", -1, 1, x.knock());
        CHECK.due(x, "asTold without a day", -1, 1, x.asTold());
        CHECK.due(x, "fill without a day", -1, 1, x.fill());
        CHECK.due(x, "sign without a day", -1, 1, x.sign(0, 1));
        CHECK.due(x, "fading without a day", -1, 1, x.fading(0));
        CHECK.due(x, "probe without a day", -1, 1, x.probe(0, 600, 60));
        CHECK.due(x, "faulty without a day", -1, 1, x.faulty(0));
        CHECK.due(x, "faulty of a wrong number without a day", -1, 1, x.faulty(-1));
        CHECK.due(x, "firstCold without a day", -1, 1, x.firstCold());
        CHECK.due(x, "recall without a day", -1, 1, x.recall(0));
        CHECK.due("shared without a day", -1, x.shared(0));
        CHECK.due("menuAt without a day", -1, x.menuAt(0));
        CHECK.due("callAt without a day", -1, x.callAt(0));
        CHECK.due("helper without a day", -1, x.helper(0));
        CHECK.dueNoHouse(x, 0, 0);
    }

    /** Promise 2. */
    private static void feed() {
        NoonMeals x = new NoonMeals();
        for (int i = 1; i <= 45; i++) {
            CHECK.due("feed no. " + i, 20 * i, x.feed(0, 0, 0, 0, 0));
        }
        CHECK.due("feed beyond 900", -1, x.feed(0, 0, 0, 0, 0));
        CHECK.due("size(10) when full", 900, x.size(10));
        CHECK.due("trouble() behind a feed that is not taken", 0, x.trouble());
        CHECK.due(x, "day(901)", -1, 2, x.day(901));
        CHECK.due("feed beyond 900 again", -1, x.feed(0, 0, 0, 0, 0));
        CHECK.due("trouble() stays behind feed", 2, x.trouble());
        CHECK.due(x, "day(900)", -1, 4, x.day(900));
        CHECK.due("feed behind day", 20, x.feed(0, 0, 0, 0, 0));

        NoonMeals full = new NoonMeals();
        String text = BARE + " ".repeat(900 - BARE.length());
        CHECK.due("a day of 900 bytes", 1, Check.tell(full, text));

        NoonMeals order = new NoonMeals();
        order.feed(0x6C617720, 0x686F7420, 0x34302062, 0x79203939, 0x39202020);
        CHECK.due(order, "law hot 40 by 999", -1, 4, order.day(20));
        CHECK.due("fault of 999", 4, order.fault());
        CHECK.due("place of 999", 14, order.where());
    }

    /** Promise 3. */
    private static void day() {
        NoonMeals x = new NoonMeals();
        CHECK.due(x, "day(-1)", -1, 2, x.day(-1));
        CHECK.due(x, "day(1) of an empty tape", -1, 2, x.day(1));
        Check.feed(x, DAY);
        int held = x.size(10);
        CHECK.due(x, "day of more than there is", -1, 2, x.day(held + 1));
        CHECK.due("the tape stays behind 2", held, x.size(10));
        CHECK.due(x, "day of the first bytes", 3, 0, x.day(DAY.length()));
        CHECK.due("the tape is empty behind a day", 0, x.size(10));
        CHECK.due(x, "a day with a fault", -1, 4, Check.tell(x, "law hot 40 by 600;law"));
        CHECK.due("the tape is empty behind a fault", 0, x.size(10));
        CHECK.due("the day stays behind a fault", 3, x.size(3));
        CHECK.due(x, "another day", 1, 0, Check.tell(x, BARE));
        CHECK.due("houses of another day", 1, x.size(3));
        CHECK.due("dishes of another day", 0, x.size(1));
    }

    private static void dayForgets() {
        NoonMeals x = driven();
        x.tea(5);
        x.sign(0, 3);
        x.probe(0, 600, 50);
        x.menu(0, 3);
        x.knock();
        x.fill();
        x.share();
        Check.tell(x, "law");
        CHECK.due("a fault leaves the rounds", 2, x.led(0, 2));
        CHECK.due("a fault leaves the tea", 5, x.size(9));
        CHECK.due("a fault leaves the probes", 1, x.size(8));
        CHECK.due("a fault leaves the signs", 2, x.sign(0, 4));
        CHECK.due("a fault leaves the menu", 2, x.menuAt(1));
        CHECK.due("a fault leaves the order of calls", 1, x.callAt(0));
        CHECK.due("a fault leaves the helpers", 1, x.helper(1));
        CHECK.due("a fault leaves the shared houses", 0, x.shared(2));
        x.day(1);
        CHECK.due("so does a wrong number", 2, x.led(0, 2));
        CHECK.due("the same day again", 3, Check.tell(x, DAY));
        CHECK.dueNoHouse(x, 0, 0);
        CHECK.due("no tea on a new day", 0, x.size(9));
        CHECK.due("no probes on a new day", 0, x.size(8));
        CHECK.due("no signs on a new day", 1, x.sign(0, 3));
        CHECK.due("no menu on a new day", -1, x.menuAt(0));
        CHECK.due("no order of calls on a new day", -1, x.callAt(0));
        CHECK.due("no helpers on a new day", -1, x.helper(0));
        CHECK.due("no shared houses on a new day", -1, x.shared(0));
        CHECK.due(x, "no house is driven on a new day", -1, 6, x.comes(0));
    }

    /** Promises 4 and 5. */
    private static void faultAndWhere() {
        NoonMeals x = new NoonMeals();
        Check.tell(x, "law hot 40 on 600");
        CHECK.due("fault()", 1, x.fault());
        CHECK.due("where()", 11, x.where());
        CHECK.due("where() again", 11, x.where());
        x.feed(0, 0, 0, 0, 0);
        x.shared(0);
        x.menuAt(0);
        x.callAt(0);
        x.helper(0);
        x.size(0);
        CHECK.dueNoHouse(x, 0, 0);
        CHECK.due("where() behind calls that can't be refused", 11, x.where());
        x.day(21);
        CHECK.due("fault() behind a day refused by 2", 1, x.fault());
        CHECK.due("where() behind a day refused by 2", -1, x.where());
        x.day(20);
        CHECK.due("fault() of the next day", 1, x.fault());
        CHECK.due("where() of the next day", 0, x.where());
        Check.tell(x, "    law");
        CHECK.due("where() of a law that breaks off", 7, x.where());
        CHECK.due("day(0) of nothing, though blanks stood there", -1, x.day(0));
        CHECK.due("where() of nothing", 0, x.where());
        x.bad(0);
        CHECK.due("where() behind another refused call", -1, x.where());
        CHECK.due("fault() behind another refused call", 1, x.fault());
        Check.tell(x, BARE);
        CHECK.due("fault() of a day without one", 0, x.fault());
        CHECK.due("where() of a day without one", -1, x.where());
    }

    /** Promises 6, 7 and 36. */
    private static void driveUnloadLed() {
        NoonMeals x = told();
        CHECK.due(x, "drive(0, 2)", 1, 0, x.drive(0, 2));
        CHECK.due(x, "drive(1, 1)", 1, 0, x.drive(1, 1));
        CHECK.due(x, "drive(0, 2) again", -1, 5, x.drive(0, 2));
        CHECK.due(x, "drive(1, 2) of another car's, though it is full", -1, 5, x.drive(1, 2));
        CHECK.due(x, "drive(1, 0) though it is full", -1, 3, x.drive(1, 0));
        CHECK.due(x, "drive(0, 0)", 2, 0, x.drive(0, 0));
        CHECK.due("led(0, 0)", 2, x.led(0, 0));
        CHECK.due("led(0, 1)", 0, x.led(0, 1));
        CHECK.due("led(1, 0)", 1, x.led(1, 0));
        CHECK.dueNoHouse(x, 0, 2);
        CHECK.dueNoHouse(x, 0, -1);
        CHECK.dueNoHouse(x, 1, 1);
        CHECK.dueNoHouse(x, 2, 0);
        CHECK.dueNoHouse(x, -1, 0);
        CHECK.due("trouble() stays behind led", 0, x.trouble());
        CHECK.due(x, "drive(2, 1)", -1, 1, x.drive(2, 1));
        CHECK.due(x, "drive(0, 3)", -1, 1, x.drive(0, 3));
        CHECK.due(x, "drive(0, -1)", -1, 1, x.drive(0, -1));
        CHECK.due(x, "drive(-1, 1)", -1, 1, x.drive(-1, 1));
        CHECK.due(x, "unload(2)", -1, 1, x.unload(2));
        CHECK.due(x, "unload(-1)", -1, 1, x.unload(-1));
        CHECK.due(x, "unload(0)", 2, 0, x.unload(0));
        CHECK.due(x, "unload(0) again", 0, 0, x.unload(0));
        CHECK.due("led(1, 0) behind unload(0)", 1, x.led(1, 0));
        CHECK.dueNoHouse(x, 0, 0);
        CHECK.due(x, "drive(0, 2) behind unload(0)", 1, 0, x.drive(0, 2));
    }

    /** Promises 9, 10 and 11: the dog costs the one who is afraid five minutes, the flood fifteen. */
    private static void rounds() {
        NoonMeals x = driven();
        CHECK.due(x, "comes(0)", 610, 0, x.comes(0));
        CHECK.due(x, "comes(1)", 655, 0, x.comes(1));
        CHECK.due(x, "comes(2)", 666, 0, x.comes(2));
        CHECK.due(x, "heat(0)", 78, 0, x.heat(0));
        CHECK.due(x, "heat(1)", 69, 0, x.heat(1));
        CHECK.due(x, "heat(2), downwards", 67, 0, x.heat(2));
        CHECK.due(x, "bad(0)", 0, 0, x.bad(0));
        x.tea(1);
        CHECK.due("comes(1) behind a tea", 689, x.comes(1));
        CHECK.due("comes(2) at the last minute", 700, x.comes(2));
        CHECK.due("heat(2) at the law's", 60, x.heat(2));
        CHECK.due("bad(0) at the edge", 0, x.bad(0));
        x.tea(3);
        CHECK.due("comes(2) behind two teas", 710, x.comes(2));
        CHECK.due("heat(2) behind two teas", 58, x.heat(2));
        CHECK.due("bad(0) behind two teas", 4, x.bad(0));
        CHECK.due(x, "bad(1) without a round", 0, 0, x.bad(1));
        x.unload(0);
        CHECK.due(x, "comes in no round", -1, 6, x.comes(0));
        CHECK.due(x, "heat in no round", -1000, 6, x.heat(0));
        for (int row : WRONG_ROWS) {
            CHECK.due(x, "comes(" + row + ")", -1, 1, x.comes(row));
            CHECK.due(x, "heat(" + row + ")", -1000, 1, x.heat(row));
            CHECK.due(x, "bad(" + row + ")", -1, 1, x.bad(row));
        }
        x.tea(0);
        x.drive(1, 0);
        CHECK.due("comes(0) by another car", 695, x.comes(0));
        CHECK.due("heat(0) by another car", 45, x.heat(0));
        CHECK.due("bad(1): in time, but cold", 1, x.bad(1));

        NoonMeals brave = Check.told(DAY.replace(" afraid", "").replace("cools 2", "cools 0").replace("700", "660"));
        brave.drive(0, 0);
        brave.drive(0, 1);
        brave.drive(0, 2);
        CHECK.due("comes(1) of one who isn't afraid", 650, brave.comes(1));
        CHECK.due("comes(2) of one who isn't afraid", 661, brave.comes(2));
        CHECK.due("heat(2) of a box that doesn't cool", 80, brave.heat(2));
        CHECK.due("bad(0): hot, but late", 4, brave.bad(0));
    }

    /** Promise 8. */
    private static void tea() {
        NoonMeals x = driven();
        CHECK.due(x, "tea(7)", 1, 0, x.tea(7) ? 1 : 0);
        CHECK.due("size(9)", 7, x.size(9));
        CHECK.due(x, "tea(8)", 0, 2, x.tea(8) ? 1 : 0);
        CHECK.due(x, "tea(-1)", 0, 2, x.tea(-1) ? 1 : 0);
        CHECK.due(x, "tea(MIN_VALUE)", 0, 2, x.tea(Integer.MIN_VALUE) ? 1 : 0);
        CHECK.due("size(9) stays", 7, x.size(9));
        CHECK.due(x, "tea(2)", 1, 0, x.tea(2) ? 1 : 0);
        CHECK.due("comes(2)", 676, x.comes(2));
        CHECK.due(x, "tea(0)", 1, 0, x.tea(0) ? 1 : 0);
        CHECK.due("comes(2) without tea", 666, x.comes(2));
    }

    /** Promise 12. */
    private static void ways() {
        NoonMeals x = told();
        CHECK.due(x, "way(20, 40)", 35, 0, x.way(20, 40));
        CHECK.due(x, "way(40, 20)", 35, 0, x.way(40, 20));
        CHECK.due("way(10, 30): the flood is behind", 20, x.way(10, 30));
        CHECK.due("way(30, 31)", 16, x.way(30, 31));
        CHECK.due("way(31, 30)", 16, x.way(31, 30));
        CHECK.due("way(31, 99)", 68, x.way(31, 99));
        CHECK.due("way(30, 30)", 0, x.way(30, 30));
        CHECK.due("way(0, 99)", 114, x.way(0, 99));
        CHECK.due(x, "way(0, 100)", -1, 2, x.way(0, 100));
        CHECK.due(x, "way(100, 0)", -1, 2, x.way(100, 0));
        CHECK.due(x, "way(-1, 0)", -1, 2, x.way(-1, 0));
        CHECK.due(x, "way(0, -1)", -1, 2, x.way(0, -1));
        NoonMeals two = Check.told(DAY.replace("flood 30 adds 15", "flood 30 adds 15;flood 30 adds 1;flood 98 adds 60"));
        CHECK.due("way over two floods of one place", 17, two.way(30, 31));
        CHECK.due("way over all floods", 175, two.way(99, 0));
    }

    /** Promises 13 and 14. */
    private static void bestOrders() {
        NoonMeals x = driven();
        x.tea(7);
        CHECK.due(x, "best(0, 7) without tea", 655, 0, x.best(0, 7));
        CHECK.due(x, "bestAt(0, 7, 0)", 0, 0, x.bestAt(0, 7, 0));
        CHECK.due(x, "bestAt(0, 7, 1)", 2, 0, x.bestAt(0, 7, 1));
        CHECK.due(x, "bestAt(0, 7, 2)", 1, 0, x.bestAt(0, 7, 2));
        CHECK.due(x, "bestAt(0, 7, 3)", -1, 1, x.bestAt(0, 7, 3));
        CHECK.due(x, "bestAt(0, 7, -1)", -1, 1, x.bestAt(0, 7, -1));
        CHECK.due(x, "best(0, 0)", 600, 0, x.best(0, 0));
        CHECK.due(x, "bestAt(0, 0, 0)", -1, 1, x.bestAt(0, 0, 0));
        CHECK.due(x, "best(1, 1), cold", 10695, 0, x.best(1, 1));
        CHECK.due(x, "best(1, 2)", 660, 0, x.best(1, 2));
        CHECK.due(x, "bestAt(1, 4, 0)", 2, 0, x.bestAt(1, 4, 0));
        CHECK.due(x, "best(1, 3)", -1, 3, x.best(1, 3));
        CHECK.due(x, "bestAt(1, 3, 9)", -1, 3, x.bestAt(1, 3, 9));
        CHECK.due(x, "best(2, 1)", -1, 1, x.best(2, 1));
        CHECK.due(x, "best(-1, 1)", -1, 1, x.best(-1, 1));
        CHECK.due(x, "best(0, 8)", -1, 1, x.best(0, 8));
        CHECK.due(x, "best(1, -1), ahead of what it holds", -1, 1, x.best(1, -1));
        CHECK.due(x, "bestAt(0, 8, 0)", -1, 1, x.bestAt(0, 8, 0));
        CHECK.due(x, "bestAt(3, 1, 0)", -1, 1, x.bestAt(3, 1, 0));

        NoonMeals like = Check.told(near(900, "50 doors 0", "50 doors 0", "50 doors 0"));
        CHECK.due("best of like orders", 600, like.best(0, 5));
        CHECK.due("the first of like orders", 0, like.bestAt(0, 5, 0));
        CHECK.due("the second of like orders", 2, like.bestAt(0, 5, 1));
        NoonMeals other = Check.told(near(900, "60 doors 0", "55 doors 0"));
        CHECK.due(other, "bestAt without a best ahead of it", 1, 0, other.bestAt(0, 3, 0));
        CHECK.due("best of a day", 610, other.best(0, 3));
        Check.tell(other, near(900, "55 doors 0", "70 doors 0"));
        CHECK.due("best of the next day", 620, other.best(0, 3));
        // The other way round both come sooner together (615), but both too late.
        NoonMeals fewer = Check.told(near(605, "60 doors 0", "55 doors 30"));
        CHECK.due("fewest bad comes ahead of the least minutes", 10640, fewer.best(0, 3));
        CHECK.due("the slow one first", 1, fewer.bestAt(0, 3, 0));
    }

    /** Houses by places and doors round a kitchen at 50, and a car whose box doesn't cool. */
    private static String near(int by, String... houses) {
        StringBuilder text = new StringBuilder("law hot 40 by " + by + ";kitchen k at 50 hot 99;diet n bars a");
        for (int i = 0; i < houses.length; i++) {
            text.append(";house h").append((char) ('a' + i)).append(" at ");
            text.append(houses[i].replace("doors", "eats n doors")).append(" tea 1 chance 50 need 1");
        }
        return text + ";car c from k starts 600 holds 6 cools 0";
    }

    /** Promises 15 and 16. */
    private static void shares() {
        NoonMeals x = told();
        CHECK.due(x, "share() to one car", 0, 0, x.share());
        for (int house = 0; house < 3; house++) {
            CHECK.due("shared(" + house + ")", 0, x.shared(house));
        }
        CHECK.due("shared(3)", -1, x.shared(3));
        CHECK.due("shared(-1)", -1, x.shared(-1));
        NoonMeals two = Check.told(DAY.replace("holds 3", "holds 2"));
        CHECK.due("shared ahead of share()", -1, two.shared(0));
        CHECK.due(two, "share() to two cars", 0, 0, two.share());
        CHECK.due("shared(0) of two", 0, two.shared(0));
        CHECK.due("shared(1) of two", 1, two.shared(1));
        CHECK.due("shared(2) of two", 0, two.shared(2));
        NoonMeals none = Check.told(DAY.replace("holds 3", "holds 1"));
        CHECK.due(none, "share() that cars don't hold", -1, 6, none.share());
        CHECK.due("shared(0) behind it", -1, none.shared(0));
        NoonMeals late = Check.told(DAY.replace("by 700", "by 600"));
        CHECK.due("share() of bad ones", 3, late.share());
        NoonMeals like = Check.told(near(900, "50 doors 0", "50 doors 0", "50 doors 0").replace("holds 6", "holds 2")
                + ";car e from k starts 600 holds 2 cools 0");
        CHECK.due("share() to like cars", 0, like.share());
        CHECK.due("shared(0) of like cars", 0, like.shared(0));
        CHECK.due("shared(1) of like cars", 0, like.shared(1));
        CHECK.due("shared(2) of like cars", 1, like.shared(2));
    }

    /** Promise 17: with both teas the last plate is bad. */
    private static void odds() {
        NoonMeals x = told();
        CHECK.due(x, "odds(0) without houses", 1, 0, x.odds(0));
        x.drive(0, 0);
        CHECK.due(x, "odds(0) of one", 100, 0, x.odds(0));
        x.drive(0, 1);
        x.drive(0, 2);
        CHECK.due(x, "odds(0) of three", 900000, 0, x.odds(0));
        x.tea(3);
        CHECK.due("odds(0) don't heed where tea is taken", 900000, x.odds(0));
        x.unload(0);
        x.drive(1, 0);
        CHECK.due("odds(1) of a bad one", 0, x.odds(1));
        for (int row : WRONG_ROWS) {
            CHECK.due(x, "odds(" + row + ")", -1, 1, x.odds(row));
        }
        String near = "50 doors 0";
        NoonMeals six = Check.told(near(900, near, near, near, near, near, near));
        for (int house = 0; house < 6; house++) {
            six.drive(0, house);
        }
        CHECK.due("odds(0) of six", 1000000000000L, six.odds(0));
    }

    /** Promise 18. */
    private static void costs() {
        NoonMeals x = told();
        CHECK.due(x, "costs in no round", -1000, 6, x.costs(0));
        x.drive(0, 2);
        x.drive(0, 0);
        x.drive(0, 1);
        x.tea(7);
        CHECK.due(x, "costs(2)", 1, 0, x.costs(2));
        CHECK.due(x, "costs(0), whose next is bad anyway", 0, 0, x.costs(0));
        CHECK.due(x, "costs(1), the last", 0, 0, x.costs(1));
        for (int row : WRONG_ROWS) {
            CHECK.due(x, "costs(" + row + ")", -1000, 1, x.costs(row));
        }
        NoonMeals wide = Check.told(DAY.replace("hot 60 by 700", "hot 58 by 710"));
        wide.drive(0, 2);
        wide.drive(0, 0);
        wide.drive(0, 1);
        CHECK.due("costs(2) of two others", 2, wide.costs(2));
    }

    /** Promises 19, 20 and 21. */
    private static void diets() {
        NoonMeals x = told();
        int[][] breaches = {{0, 0, 0}, {1, 0, 0}, {2, 6, 0}};
        for (int house = 0; house < 3; house++) {
            for (int dish = 0; dish < 3; dish++) {
                int breach = breaches[house][dish];
                CHECK.due(x, "breach(" + house + ", " + dish + ")", breach, 0, x.breach(house, dish));
                CHECK.due(x, "fits(" + house + ", " + dish + ")", breach == 0 ? 1 : 0, 0, x.fits(house, dish));
            }
        }
        CHECK.due(x, "forAll()", 4, 0, x.forAll());
        for (int row : WRONG_ROWS) {
            CHECK.due(x, "fits(" + row + ", 0)", -1, 1, x.fits(row, 0));
            CHECK.due(x, "fits(0, " + row + ")", -1, 1, x.fits(0, row));
            CHECK.due(x, "breach(" + row + ", 0)", -1, 1, x.breach(row, 0));
            CHECK.due(x, "breach(0, " + row + ")", -1, 1, x.breach(0, row));
        }
        NoonMeals bare = Check.told(BARE);
        CHECK.due(bare, "forAll() without dishes", 0, 0, bare.forAll());
        CHECK.due(bare, "fits without dishes", -1, 1, bare.fits(0, 0));
        NoonMeals zed = Check.told(DAY.replace("pie of ab", "pie of azzz"));
        CHECK.due("breach by z", 1 << 25, zed.breach(0, 0));
    }

    /** Promises 22 and 23. */
    private static void menus() {
        NoonMeals x = told();
        CHECK.due("menuAt ahead of menu", -1, x.menuAt(0));
        CHECK.due(x, "menu(0, 1)", 3, 0, x.menu(0, 1));
        CHECK.due("menuAt(0)", 1, x.menuAt(0));
        CHECK.due("menuAt(1)", -1, x.menuAt(1));
        CHECK.due("menuAt(-1)", -1, x.menuAt(-1));
        CHECK.due(x, "menu(0, 2)", 7, 0, x.menu(0, 2));
        CHECK.due("menuAt(0), the first of like ones", 1, x.menuAt(0));
        CHECK.due("menuAt(1)", 2, x.menuAt(1));
        CHECK.due(x, "menu(1, 14)", 49, 0, x.menu(1, 14));
        CHECK.due("menuAt(13)", 2, x.menuAt(13));
        CHECK.due("menuAt(14)", -1, x.menuAt(14));
        CHECK.due(x, "menu(2, 2) of one dish", -1, 6, x.menu(2, 2));
        CHECK.due("menuAt(13) stays", 2, x.menuAt(13));
        CHECK.due(x, "menu(0, 0)", -1, 2, x.menu(0, 0));
        CHECK.due(x, "menu(0, 15)", -1, 2, x.menu(0, 15));
        CHECK.due(x, "menu(0, -1)", -1, 2, x.menu(0, -1));
        CHECK.due(x, "menu(3, 15)", -1, 1, x.menu(3, 15));
        CHECK.due(x, "menu(-1, 1)", -1, 1, x.menu(-1, 1));
        CHECK.due("menuAt(12) stays", 1, x.menuAt(12));
        x.dropped(10, 1);
        CHECK.due("menuAt(13) stays behind dropped", 2, x.menuAt(13));
        CHECK.due(x, "menu(2, 1)", 4, 0, x.menu(2, 1));
        CHECK.due("menuAt(0) of one dish", 2, x.menuAt(0));
        NoonMeals bare = Check.told(BARE);
        CHECK.due(bare, "menu without dishes", -1, 6, bare.menu(0, 1));
        NoonMeals like = Check.told(BARE + ";dish x of q costs 2;dish y of q costs 2;dish z of q costs 1");
        CHECK.due("menu(0, 4) of like ones", 6, like.menu(0, 4));
        int[] dishes = {0, 2, 0, 2};
        for (int i = 0; i < 4; i++) {
            CHECK.due("menuAt(" + i + ") of like ones", dishes[i], like.menuAt(i));
        }
    }

    /** Promise 24. */
    private static void dropped() {
        NoonMeals x = told();
        CHECK.due(x, "dropped(10, 1)", 0, 0, x.dropped(10, 1));
        CHECK.due(x, "dropped(9, 1): the last of least need", 4, 0, x.dropped(9, 1));
        CHECK.due(x, "dropped(6, 1)", 4, 0, x.dropped(6, 1));
        CHECK.due(x, "dropped(5, 1)", 6, 0, x.dropped(5, 1));
        CHECK.due(x, "dropped(2, 1)", 7, 0, x.dropped(2, 1));
        CHECK.due(x, "dropped(0, 1)", 7, 0, x.dropped(0, 1));
        CHECK.due(x, "dropped(99999, 1)", 0, 0, x.dropped(99999, 1));
        CHECK.due(x, "dropped(100000, 1)", -1, 2, x.dropped(100000, 1));
        CHECK.due(x, "dropped(-1, 1)", -1, 2, x.dropped(-1, 1));
        CHECK.due(x, "dropped(9, 0)", -1, 2, x.dropped(9, 0));
        CHECK.due(x, "dropped(9, 15)", -1, 2, x.dropped(9, 15));
        CHECK.due(x, "dropped(9, 2) where one has no menu", -1, 6, x.dropped(9, 2));
        NoonMeals first = Check.told(DAY.replace("need 3", "need 1").replace("need 1;house cyd", "need 2;house cyd"));
        CHECK.due("dropped(9, 1): cyd and ann need least", 4, first.dropped(9, 1));
        CHECK.due("dropped(5, 1): then ann", 5, first.dropped(5, 1));
    }

    /** Promises 25, 26 and 27. */
    private static void knocks() {
        NoonMeals x = told();
        CHECK.due("callAt ahead of knock", -1, x.callAt(0));
        CHECK.due(x, "asTold()", 40000000L, 0, x.asTold());
        CHECK.due("callAt behind asTold", -1, x.callAt(0));
        CHECK.due(x, "knock()", 39000000L, 0, x.knock());
        int[] calls = {1, 0, 2, -1};
        for (int i = 0; i < 4; i++) {
            CHECK.due("callAt(" + i + ")", calls[i], x.callAt(i));
        }
        CHECK.due("callAt(-1)", -1, x.callAt(-1));
        x.asTold();
        CHECK.due("callAt(0) stays behind asTold", 1, x.callAt(0));
        NoonMeals bare = Check.told(BARE);
        CHECK.due(bare, "knock() without calls", -1, 6, bare.knock());
        CHECK.due(bare, "asTold() without calls", -1, 6, bare.asTold());
        CHECK.due("callAt(0) without calls", -1, bare.callAt(0));
        NoonMeals one = Check.told(BARE + ";call x takes 7 chance 3");
        CHECK.due(one, "knock() of one", 700, 0, one.knock());
        NoonMeals like = Check.told(BARE + ";call x takes 7 chance 50;call y takes 7 chance 50");
        CHECK.due("knock() of like ones", 105000, like.knock());
        CHECK.due("callAt(0) of like ones", 0, like.callAt(0));
        CHECK.due("callAt(1) of like ones", 1, like.callAt(1));
        NoonMeals five = Check.told(BARE + ";call u takes 60 chance 0;call v takes 60 chance 0;call w takes 60 chance 0"
                + ";call x takes 60 chance 0;call y takes 60 chance 0");
        CHECK.due("knock() of five", 3000000000000L, five.knock());
    }

    /** Promises 28 and 29. */
    private static void helpers() {
        NoonMeals x = told();
        CHECK.due("helper ahead of fill", -1, x.helper(0));
        CHECK.due(x, "fill()", 3, 0, x.fill());
        dueWeek(x, 0, 1, 0, -2, -2, -2, -2);
        CHECK.due("helper(7)", -1, x.helper(7));
        CHECK.due("helper(-1)", -1, x.helper(-1));
        NoonMeals bare = Check.told(BARE);
        CHECK.due(bare, "fill() without helpers", 0, 0, bare.fill());
        dueWeek(bare, -2, -2, -2, -2, -2, -2, -2);
        NoonMeals busy = Check.told(BARE + ";helper x days 0,1,2,3 most 7;helper y days 2,3,4 most 7");
        CHECK.due("fill() of the least busy", 5, busy.fill());
        dueWeek(busy, 0, 0, 0, 1, 1, -2, -2);
        NoonMeals most = Check.told(BARE + ";helper x days 6,0 most 1;helper y days 0 most 7");
        CHECK.due("fill() of the most days", 2, most.fill());
        dueWeek(most, 1, -2, -2, -2, -2, -2, 0);
        NoonMeals first = Check.told(BARE + ";helper x days 5,6 most 1");
        CHECK.due("fill() of the first day", 1, first.fill());
        dueWeek(first, -2, -2, -2, -2, -2, 0, -2);
        NoonMeals whole = Check.told(BARE + ";helper x days 6,5,4,3,2,1,0 most 7");
        CHECK.due("fill() of the whole week", 7, whole.fill());
        dueWeek(whole, 0, 0, 0, 0, 0, 0, 0);
    }

    private static void dueWeek(NoonMeals x, int... helpers) {
        for (int date = 0; date < helpers.length; date++) {
            CHECK.due("helper(" + date + ")", helpers[date], x.helper(date));
        }
    }

    /** Promises 30 and 31. */
    private static void signs() {
        NoonMeals x = told();
        int[] values = {5, 0, 99, 1, 5, 3, 2, 4, 6, 7};
        int[] fading = {-1, -1, -1, 3};
        for (int i = 0; i < values.length; i++) {
            CHECK.due(x, "sign no. " + i, i + 1, 0, x.sign(1, values[i]));
            if (i < fading.length) {
                CHECK.due(x, "fading behind " + i, fading[i], i < 3 ? 5 : 0, x.fading(1));
            }
        }
        CHECK.due(x, "an eleventh sign", -1, 3, x.sign(1, 0));
        CHECK.due(x, "an eleventh sign out of bounds", -1, 2, x.sign(1, 100));
        CHECK.due(x, "sign(1, -1)", -1, 2, x.sign(1, -1));
        CHECK.due(x, "another house has none", 1, 0, x.sign(0, 99));
        CHECK.due(x, "fading of it", -1, 5, x.fading(0));
        // No less than 17: with 99 each of 36 pairs; without it 5 + 6 + 7 (twice), 4 + 6 + 7, 5 + 5 + 7.
        CHECK.due(x, "fading of ten", 36 + 4, 0, x.fading(1));
        for (int row : WRONG_ROWS) {
            CHECK.due(x, "sign(" + row + ", 100)", -1, 1, x.sign(row, 100));
            CHECK.due(x, "fading(" + row + ")", -1, 1, x.fading(row));
        }
    }

    /** Promises 32, 33 and 34. */
    private static void probes() {
        NoonMeals x = told();
        CHECK.due(x, "firstCold() without probes", -2, 0, x.firstCold());
        CHECK.due(x, "faulty(0) without probes", 0, 0, x.faulty(0));
        CHECK.due(x, "probe(0, 609, 79)", 1, 0, x.probe(0, 609, 79));
        CHECK.due(x, "probe(0, 610, 79)", 2, 0, x.probe(0, 610, 79));
        CHECK.due(x, "probe(0, 600, 60)", 3, 0, x.probe(0, 600, 60));
        CHECK.due(x, "faulty(0)", 6, 0, x.faulty(0));
        CHECK.due(x, "faulty(1)", 4, 0, x.faulty(1));
        CHECK.due(x, "faulty(19)", 4, 0, x.faulty(19));
        CHECK.due(x, "faulty(20)", 0, 0, x.faulty(20));
        CHECK.due(x, "firstCold() of one at the law's heat", -2, 0, x.firstCold());
        CHECK.due(x, "probe(1, 700, 59)", 4, 0, x.probe(1, 700, 59));
        CHECK.due(x, "firstCold()", 3, 0, x.firstCold());
        CHECK.due(x, "probe(0, 999, 0)", 5, 0, x.probe(0, 999, 0));
        CHECK.due(x, "firstCold(), not the coldest", 3, 0, x.firstCold());
        CHECK.due(x, "probe(0, 650, 10)", 6, 0, x.probe(0, 650, 10));
        CHECK.due(x, "probe(1, 650, 5)", 7, 0, x.probe(1, 650, 5));
        CHECK.due(x, "firstCold(), the first of a minute", 5, 0, x.firstCold());
        CHECK.due(x, "faulty(18): above too", 4 + 8 + 32 + 64, 0, x.faulty(18));
        CHECK.due(x, "faulty(99)", 0, 0, x.faulty(99));
        CHECK.due(x, "faulty(100)", -1, 2, x.faulty(100));
        CHECK.due(x, "faulty(-1)", -1, 2, x.faulty(-1));
        CHECK.due(x, "probe(1, 649, 5)", -1, 2, x.probe(1, 649, 5));
        CHECK.due(x, "probe(1, 1000, 5)", -1, 2, x.probe(1, 1000, 5));
        CHECK.due(x, "probe(1, 650, -1)", -1, 2, x.probe(1, 650, -1));
        CHECK.due(x, "probe(1, 650, 100)", -1, 2, x.probe(1, 650, 100));
        CHECK.due(x, "probe(2, 650, 100)", -1, 1, x.probe(2, 650, 100));
        CHECK.due(x, "probe(-1, 650, 5)", -1, 1, x.probe(-1, 650, 5));
        for (int i = 8; i <= 16; i++) {
            CHECK.due(x, "probe no. " + i, i, 0, x.probe(1, 650, 99));
        }
        CHECK.due(x, "a probe too many", -1, 3, x.probe(1, 650, 99));
        CHECK.due(x, "a probe too many with a wrong number", -1, 2, x.probe(1, 0, 99));
        CHECK.due("size(8)", 16, x.size(8));
        CHECK.due("faulty(8) of sixteen", 0xFF80, x.faulty(8) & 0xFF80);
    }

    /** Promise 35. */
    private static void recall() {
        NoonMeals x = told();
        CHECK.due(x, "recall(0) of nothing", 0, 0, x.recall(0));
        x.drive(0, 2);
        x.drive(0, 0);
        x.drive(1, 1);
        CHECK.due(x, "recall(0)", 5, 0, x.recall(0));
        CHECK.due(x, "recall(1)", 2, 0, x.recall(1));
        CHECK.due(x, "recall(2)", -1, 1, x.recall(2));
        CHECK.due(x, "recall(-1)", -1, 1, x.recall(-1));
        NoonMeals both = Check.told(DAY.replace("from m", "from k"));
        both.drive(0, 2);
        both.drive(1, 1);
        CHECK.due("recall(0) of two cars", 6, both.recall(0));
        CHECK.due("recall(1) of no car", 0, both.recall(1));
    }

    /** Promise 37. */
    private static void sizes() {
        NoonMeals x = told();
        int[] sizes = {2, 3, 3, 3, 2, 1, 3, 2, 0, 0, 0};
        for (int what = 0; what < sizes.length; what++) {
            CHECK.due("size(" + what + ")", sizes[what], x.size(what));
        }
        x.probe(0, 600, 80);
        x.tea(6);
        x.feed(0, 0, 0, 0, 0);
        CHECK.due("size(8)", 1, x.size(8));
        CHECK.due("size(9)", 6, x.size(9));
        CHECK.due("size(10)", 20, x.size(10));
        for (int what : new int[] {-1, 11, 12, Integer.MIN_VALUE, Integer.MAX_VALUE}) {
            CHECK.due("size(" + what + ")", -1, x.size(what));
        }
    }

    /** Promise 38: calls that can't be refused leave the trouble alone. */
    private static void whatLeavesTrouble() {
        NoonMeals x = told();
        x.way(-1, 0);
        x.fault();
        x.where();
        x.shared(9);
        x.menuAt(9);
        x.callAt(9);
        x.helper(9);
        x.size(99);
        x.feed(0, 0, 0, 0, 0);
        CHECK.dueNoHouse(x, 9, 9);
        CHECK.due("trouble() stays", 2, x.trouble());
        CHECK.due("trouble() twice", 2, x.trouble());
        x.way(0, 0);
        CHECK.due("trouble() behind a call that wasn't refused", 0, x.trouble());
    }
}
