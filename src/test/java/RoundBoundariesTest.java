/**
 * The boundary cases of Terms II and of promises 1 and 6 to 18: no DAY, ROUNDS and the best of them. Each
 * method has the document's sentence above it; answers are worked out by hand.
 */
public final class RoundBoundariesTest extends DayText {
    private static final Check CHECK = new Check("RoundBoundariesTest");

    private RoundBoundariesTest() {
    }

    public static void main(String[] args) {
        noDayAheadOfAllElse();
        driveRows();
        driveUntilFull();
        driveWhatIsDriven();
        unloadRounds();
        teaBits();
        comesAtOnce();
        comesOverFloods();
        comesBehindDogs();
        comesAndHeatRefused();
        heatDownwards();
        badByMinute();
        badByHeat();
        badOfOneCar();
        wayPlaces();
        wayFloods();
        bestOfNone();
        bestOfAsManyAsHeld();
        bestWeights();
        bestRefused();
        bestAtPlaces();
        shareOfAsManyAsHeld();
        shareCountsCarsWithHouses();
        shareOfLikeOnes();
        sharedRows();
        oddsOfChances();
        oddsRefused();
        costsOfTeas();
        costsRefused();
        CHECK.end();
    }

    /** "No DAY": 1 comes ahead of 2, 3, 5 and 6, whatever the numbers are. */
    private static void noDayAheadOfAllElse() {
        NoonMeals x = new NoonMeals();
        for (int n : new int[] {LEAST, -1, 0, 1, 6, 100, MOST}) {
            CHECK.due(x, "drive", -1, 1, x.drive(n, n));
            CHECK.due(x, "unload", -1, 1, x.unload(n));
            CHECK.due(x, "tea", 0, 1, x.tea(n) ? 1 : 0);
            CHECK.due(x, "comes", -1, 1, x.comes(n));
            CHECK.due(x, "heat", -1000, 1, x.heat(n));
            CHECK.due(x, "bad", -1, 1, x.bad(n));
            CHECK.due(x, "way", -1, 1, x.way(n, n));
            CHECK.due(x, "best", -1, 1, x.best(n, n));
            CHECK.due(x, "bestAt", -1, 1, x.bestAt(n, n, n));
            CHECK.due(x, "odds", -1, 1, x.odds(n));
            CHECK.due(x, "costs", -1000, 1, x.costs(n));
            CHECK.due(x, "fits", -1, 1, x.fits(n, n));
            CHECK.due(x, "breach", -1, 1, x.breach(n, n));
            CHECK.due(x, "menu", -1, 1, x.menu(n, n));
            CHECK.due(x, "dropped", -1, 1, x.dropped(n, n));
            CHECK.due(x, "sign", -1, 1, x.sign(n, n));
            CHECK.due(x, "fading", -1, 1, x.fading(n));
            CHECK.due(x, "probe", -1, 1, x.probe(n, n, n));
            CHECK.due(x, "faulty", -1, 1, x.faulty(n));
            CHECK.due(x, "recall", -1, 1, x.recall(n));
            CHECK.due("shared", -1, x.shared(n));
            CHECK.due("menuAt", -1, x.menuAt(n));
            CHECK.due("callAt", -1, x.callAt(n));
            CHECK.due("helper", -1, x.helper(n));
            CHECK.dueNoHouse(x, n, n);
        }
        CHECK.due(x, "share", -1, 1, x.share());
        CHECK.due(x, "forAll", -1, 1, x.forAll());
        CHECK.due(x, "knock", -1, 1, x.knock());
        CHECK.due(x, "asTold", -1, 1, x.asTold());
        CHECK.due(x, "fill", -1, 1, x.fill());
        CHECK.due(x, "firstCold", -1, 1, x.firstCold());
    }

    // ---- rounds

    /** drive: "NONE: 1 (car, house)", ahead of 5 and of 3. */
    private static void driveRows() {
        NoonMeals x = Check.told(text(house('a', 50), house('b', 50), car("c", 600, 1, 0), car("d", 600, 1, 0)));
        for (int row : new int[] {LEAST, -1, 2, 3, 6, MOST}) {
            CHECK.due(x, "drive(0, " + row + ")", -1, 1, x.drive(0, row));
            CHECK.due(x, "drive(" + row + ", 0)", -1, 1, x.drive(row, 0));
        }
        CHECK.due(x, "the last car and the last house", 1, 0, x.drive(1, 1));
        CHECK.due(x, "no house, though the car is full", -1, 1, x.drive(1, 2));
        CHECK.due(x, "no car, though the house is driven", -1, 1, x.drive(2, 1));
    }

    /** drive: "3 (the car holds no more)". */
    private static void driveUntilFull() {
        for (int holds = 1; holds <= 6; holds++) {
            NoonMeals x = Check.told(text(sixHouses(), car("c", 600, holds, 0)));
            for (int house = 0; house < 6; house++) {
                boolean goes = house < holds;
                CHECK.due(x, "drive of " + holds, goes ? house + 1 : -1, goes ? 0 : 3, x.drive(0, house));
            }
            CHECK.due("the last that is held", holds - 1, x.led(0, holds - 1));
            CHECK.dueNoHouse(x, 0, holds);
        }
    }

    /** drive: "5 (it is in a ROUND)", its own or another's, ahead of 3. */
    private static void driveWhatIsDriven() {
        NoonMeals x = Check.told(text(house('a', 50), house('b', 50), car("c", 600, 1, 0), car("d", 600, 2, 0)));
        CHECK.due(x, "drive(0, 0)", 1, 0, x.drive(0, 0));
        CHECK.due(x, "drive(0, 0) again, though the car is full", -1, 5, x.drive(0, 0));
        CHECK.due(x, "drive(1, 0) of another's", -1, 5, x.drive(1, 0));
        CHECK.due(x, "drive(0, 1) of nobody's", -1, 3, x.drive(0, 1));
        CHECK.due(x, "drive(1, 1)", 1, 0, x.drive(1, 1));
        CHECK.due(x, "drive(1, 1) again, though there is room", -1, 5, x.drive(1, 1));
        CHECK.dueNoHouse(x, 1, 1);
    }

    /** unload: "how many it had. NONE: 1"; an empty ROUND isn't refused. */
    private static void unloadRounds() {
        NoonMeals x = Check.told(text(sixHouses(), car("c", 600, 6, 0), car("d", 600, 1, 0)));
        CHECK.due(x, "unload of an empty round", 0, 0, x.unload(1));
        for (int house = 0; house < 6; house++) {
            x.drive(0, house);
        }
        x.tea(1);
        for (int row : new int[] {LEAST, -1, 2, 3, MOST}) {
            CHECK.due(x, "unload(" + row + ")", -1, 1, x.unload(row));
        }
        CHECK.due("a refused unload leaves the round", 5, x.led(0, 5));
        CHECK.due(x, "unload of a full round", 6, 0, x.unload(0));
        CHECK.due(x, "unload again", 0, 0, x.unload(0));
        CHECK.dueNoHouse(x, 0, 0);
        CHECK.due("tea stays", 1, x.size(9));
        CHECK.due(x, "a house of the old round goes to another car", 1, 0, x.drive(1, 5));
        CHECK.due(x, "unload of the last car", 1, 0, x.unload(1));
    }

    /** tea: "false: 1 (no DAY); 2 (bits of no house)". */
    private static void teaBits() {
        NoonMeals six = Check.told(text(sixHouses(), CAR));
        CHECK.due(six, "tea(63) of six", 1, 0, six.tea(63) ? 1 : 0);
        for (int bits : new int[] {64, 65, 127, -1, LEAST, MOST}) {
            CHECK.due(six, "tea(" + bits + ") of six", 0, 2, six.tea(bits) ? 1 : 0);
            CHECK.due("tea stays", 63, six.size(9));
        }
        CHECK.due(six, "tea(0)", 1, 0, six.tea(0) ? 1 : 0);
        CHECK.due("no tea", 0, six.size(9));
        NoonMeals one = Check.told(text(house('a', 50), CAR));
        CHECK.due(one, "tea(1) of one", 1, 0, one.tea(1) ? 1 : 0);
        CHECK.due(one, "tea(2) of one", 0, 2, one.tea(2) ? 1 : 0);
        CHECK.due(one, "tea(3) of one", 0, 2, one.tea(3) ? 1 : 0);
    }

    /** "It starts at its kitchen at starts; COMES to a house behind the WAY from where it was". */
    private static void comesAtOnce() {
        for (int starts : new int[] {500, 800}) {
            NoonMeals x = driven(text(house('a', 50, "30 60 0 1"), house('b', 50), house('c', 0), house('d', 99),
                    car("e", starts, 6, 0)), 0, 1, 2, 3);
            CHECK.due("comes at once", starts, x.comes(0));
            CHECK.due("comes behind the most doors", starts + 30, x.comes(1));
            CHECK.due("comes to place 0", starts + 80, x.comes(2));
            CHECK.due("comes to place 99", starts + 179, x.comes(3));
            x.tea(1);
            CHECK.due("tea doesn't delay its own plate", starts, x.comes(0));
            CHECK.due("comes behind the most tea", starts + 90, x.comes(1));
            x.tea(8);
            CHECK.due("tea at the last house delays nobody", starts + 179, x.comes(3));
        }
    }

    /** "if f is no less than the lesser and below the greater", from a kitchen at 50 both ways. */
    private static void comesOverFloods() {
        String houses = house('a', 51) + ";" + house('b', 50) + ";" + house('d', 49);
        NoonMeals above = driven(text("flood 50 adds 7", houses, CAR), 0, 1, 2);
        CHECK.due("51 over a flood at 50", 608, above.comes(0));
        CHECK.due("50 over it again", 616, above.comes(1));
        CHECK.due("49 not over it", 617, above.comes(2));
        NoonMeals below = driven(text("flood 49 adds 7", houses, CAR), 0, 1, 2);
        CHECK.due("51 not over a flood at 49", 601, below.comes(0));
        CHECK.due("50 not over it", 602, below.comes(1));
        CHECK.due("49 over it", 610, below.comes(2));
    }

    /** "stays doors, 5 more if there is a dog and it is afraid, and tea if tea is taken there". */
    private static void comesBehindDogs() {
        String[] dogs = {"", " dog", "", " dog"};
        String[] fears = {"", "", " afraid", " afraid"};
        for (int i = 0; i < 4; i++) {
            int more = i == 3 ? 5 : 0;
            NoonMeals x = driven(text(house('a', 50, "2 9 0 1") + dogs[i], house('b', 50) + dogs[i], CAR + fears[i]),
                    0, 1);
            CHECK.due("dog and fear " + i, 602 + more, x.comes(1));
            CHECK.due("best with dog and fear " + i, 600 + more, x.best(0, 3));
            x.tea(1);
            CHECK.due("dog, fear and tea " + i, 611 + more, x.comes(1));
        }
    }

    /** comes: "NONE: 1 (house); 6 (it is in no ROUND)"; heat: "-1,000: 1; 6". */
    private static void comesAndHeatRefused() {
        NoonMeals x = driven(text(house('a', 50), house('b', 50), CAR), 1);
        for (int row : new int[] {LEAST, -1, 2, 6, MOST}) {
            CHECK.due(x, "comes(" + row + ")", -1, 1, x.comes(row));
            CHECK.due(x, "heat(" + row + ")", -1000, 1, x.heat(row));
        }
        CHECK.due(x, "comes in no round", -1, 6, x.comes(0));
        CHECK.due(x, "heat in no round", -1000, 6, x.heat(0));
        CHECK.due(x, "comes of the last house", 600, 0, x.comes(1));
        CHECK.due(x, "heat of the last house", 80, 0, x.heat(1));
    }

    /** "hot of its kitchen less (cools times (COMES less starts) by 10, downwards)". */
    private static void heatDownwards() {
        int[][] cases = {{50, 50, 80}, {1, 59, 80}, {1, 60, 79}, {1, 69, 79}, {3, 53, 80}, {3, 54, 79}, {0, 99, 80},
            {50, 51, 75}, {50, 0, -170}, {50, 99, -165}, {10, 99, 31}};
        for (int[] each : cases) {
            NoonMeals x = driven(text(house('a', each[1]), car("c", 600, 1, each[0])), 0);
            CHECK.due(x, "heat by " + each[0] + " at " + each[1], each[2], 0, x.heat(0));
        }
        // (50 * 216) by 10 is 1,080: a heat of -1,000 that isn't refused.
        NoonMeals cold = driven(text("flood 50 adds 60", "flood 51 adds 60", "flood 52 adds 47", house('a', 99),
                car("c", 600, 1, 50)), 0);
        CHECK.due(cold, "a heat of -1,000", -1000, 0, cold.heat(0));
    }

    /** "A plate is BAD if COMES is above by". */
    private static void badByMinute() {
        NoonMeals x = driven(text(house('a', 59), house('b', 60), car("c", 691, 2, 0)), 0, 1);
        CHECK.due("comes by the last minute", 700, x.comes(0));
        CHECK.due("comes a minute too late", 701, x.comes(1));
        CHECK.due(x, "bad(0)", 2, 0, x.bad(0));
    }

    /** "or HEAT below hot of the law". */
    private static void badByHeat() {
        NoonMeals x = driven(text(house('a', 70), house('b', 71), car("c", 600, 2, 10)), 0, 1);
        CHECK.due("as hot as the law", 60, x.heat(0));
        CHECK.due("below the law", 59, x.heat(1));
        CHECK.due(x, "bad(0)", 2, 0, x.bad(0));
        NoonMeals both = driven(text(house('a', 50), house('b', 99), car("c", 700, 2, 10)), 0, 1);
        CHECK.due(both, "late and cold", 2, 0, both.bad(0));
        NoonMeals cool = driven(text(house('a', 50), CAR).replace("hot 60", "hot 81"), 0);
        CHECK.due(cool, "a kitchen below the law", 1, 0, cool.bad(0));
    }

    /** bad: "BAD plates of a car as DRIVEN, houses as bits. NONE: 1". */
    private static void badOfOneCar() {
        NoonMeals x = Check.told(text(sixHouses(), car("c", 701, 6, 0), car("d", 701, 6, 0)));
        CHECK.due(x, "bad of an empty round", 0, 0, x.bad(0));
        x.drive(1, 5);
        CHECK.due(x, "bad of the other's", 0, 0, x.bad(0));
        CHECK.due(x, "bad of the last house", 32, 0, x.bad(1));
        x.unload(1);
        for (int house = 5; house >= 0; house--) {
            x.drive(0, house);
        }
        CHECK.due(x, "bad of all six", 63, 0, x.bad(0));
        for (int row : new int[] {LEAST, -1, 2, 3, MOST}) {
            CHECK.due(x, "bad(" + row + ")", -1, 1, x.bad(row));
        }
    }

    /** way: "two places (0 .. 99). NONE: 1 (no DAY); 2". */
    private static void wayPlaces() {
        NoonMeals x = Check.told(text(house('a', 50), CAR));
        CHECK.due(x, "way(0, 99)", 99, 0, x.way(0, 99));
        CHECK.due(x, "way(99, 0)", 99, 0, x.way(99, 0));
        CHECK.due(x, "way(0, 0)", 0, 0, x.way(0, 0));
        CHECK.due(x, "way(99, 99)", 0, 0, x.way(99, 99));
        for (int place : new int[] {LEAST, -1, 100, MOST}) {
            CHECK.due(x, "way(" + place + ", 0)", -1, 2, x.way(place, 0));
            CHECK.due(x, "way(99, " + place + ")", -1, 2, x.way(99, place));
            CHECK.due(x, "way(" + place + ", " + place + ")", -1, 2, x.way(place, place));
        }
    }

    private static void wayFloods() {
        NoonMeals x = Check.told(text("flood 0 adds 1", "flood 98 adds 60", "flood 98 adds 3", house('a', 50), CAR));
        CHECK.due("way(0, 1) over the flood at 0", 2, x.way(0, 1));
        CHECK.due("way(1, 0) over the flood at 0", 2, x.way(1, 0));
        CHECK.due("way(0, 0) over none", 0, x.way(0, 0));
        CHECK.due("way(1, 98) over none", 97, x.way(1, 98));
        CHECK.due("way(98, 99) over two of one place", 64, x.way(98, 99));
        CHECK.due("way(98, 98) over none", 0, x.way(98, 98));
        CHECK.due("way(99, 0) over all", 163, x.way(99, 0));
    }

    // ---- best rounds

    /** best: "(starts without houses)". */
    private static void bestOfNone() {
        for (int starts : new int[] {500, 800}) {
            NoonMeals x = Check.told(text(house('a', 50), car("c", starts, 1, 0)));
            CHECK.due(x, "best without houses", starts, 0, x.best(0, 0));
            CHECK.due(x, "bestAt without houses", -1, 1, x.bestAt(0, 0, 0));
        }
    }

    /** "up to as many as it holds"; best: "3 (it doesn't hold them)". */
    private static void bestOfAsManyAsHeld() {
        for (int holds = 1; holds <= 6; holds++) {
            NoonMeals x = Check.told(text(sixHouses(), car("c", 600, holds, 0)));
            for (int count = 1; count <= 6; count++) {
                boolean held = count <= holds;
                int houses = (1 << count) - 1;
                CHECK.due(x, "best of " + count, held ? 600 + count - 1 : -1, held ? 0 : 3, x.best(0, houses));
                CHECK.due(x, "bestAt of " + count, held ? count - 1 : -1, held ? 0 : 3, x.bestAt(0, houses, count - 1));
            }
        }
        NoonMeals last = Check.told(text(sixHouses(), CAR, car("d", 700, 1, 0), car("e", 500, 2, 0)));
        CHECK.due(last, "best of the last car first", 501, 0, last.best(2, 3));
        CHECK.due(last, "best of the car ahead of it", 700, 0, last.best(1, 1));
        CHECK.due(last, "best of the first car", 605, 0, last.best(0, 63));
        NoonMeals driven = driven(text(sixHouses(), car("c", 600, 1, 0)), 0);
        CHECK.due(driven, "best of another house than the driven one", 601, 0, driven.best(0, 2));
    }

    /** best: "10,000 times how many are BAD, and COMES of the last". */
    private static void bestWeights() {
        NoonMeals x = Check.told(text(sixHouses(), car("c", 800, 6, 0)));
        CHECK.due(x, "best of six bad ones", 60805, 0, x.best(0, 63));
        NoonMeals edge = Check.told(text(house('a', 59), house('b', 60), car("c", 691, 2, 0)));
        CHECK.due(edge, "best by the last minute", 700, 0, edge.best(0, 1));
        CHECK.due(edge, "best a minute too late", 10701, 0, edge.best(0, 2));
        CHECK.due(edge, "best of both", 10701, 0, edge.best(0, 3));
        // 40 then 60 comes last at 630, and so does 60 then 40: the first order by numbers.
        NoonMeals like = Check.told(text(house('a', 60), house('b', 40), house('d', 60), CAR));
        CHECK.due(like, "best of like orders", 630, 0, like.best(0, 3));
        CHECK.due(like, "the lesser number first", 0, 0, like.bestAt(0, 3, 0));
        CHECK.due(like, "best of two of one place and one apart", 630, 0, like.best(0, 7));
        CHECK.due(like, "0, 2, 1", 0, 0, like.bestAt(0, 7, 0));
        CHECK.due(like, "then 2", 2, 0, like.bestAt(0, 7, 1));
        CHECK.due(like, "then 1", 1, 0, like.bestAt(0, 7, 2));
    }

    /** best: "1 (car, houses)", ahead of 3. */
    private static void bestRefused() {
        NoonMeals x = Check.told(text(house('a', 50), house('b', 50), car("c", 600, 1, 0)));
        for (int row : new int[] {LEAST, -1, 1, 3, MOST}) {
            CHECK.due(x, "best(" + row + ", 1)", -1, 1, x.best(row, 1));
            CHECK.due(x, "bestAt(" + row + ", 1, 0)", -1, 1, x.bestAt(row, 1, 0));
            CHECK.due(x, "best(" + row + ", 3), ahead of 3", -1, 1, x.best(row, 3));
        }
        for (int bits : new int[] {4, 7, 64, -1, LEAST, MOST}) {
            CHECK.due(x, "best(0, " + bits + ")", -1, 1, x.best(0, bits));
            CHECK.due(x, "bestAt(0, " + bits + ", 0)", -1, 1, x.bestAt(0, bits, 0));
        }
        CHECK.due(x, "best(0, 3)", -1, 3, x.best(0, 3));
        CHECK.due(x, "best(0, 2)", 600, 0, x.best(0, 2));
    }

    /** bestAt: "NONE likewise, and 1 for no such i". */
    private static void bestAtPlaces() {
        NoonMeals x = Check.told(text(sixHouses(), CAR));
        for (int i = 0; i < 6; i++) {
            CHECK.due(x, "bestAt place " + i, i, 0, x.bestAt(0, 63, i));
        }
        for (int i : new int[] {LEAST, -1, 6, 7, MOST}) {
            CHECK.due(x, "bestAt place " + i, -1, 1, x.bestAt(0, 63, i));
        }
        CHECK.due(x, "bestAt of the last alone", 5, 0, x.bestAt(0, 32, 0));
        CHECK.due(x, "bestAt behind the last alone", -1, 1, x.bestAt(0, 32, 1));
        NoonMeals small = Check.told(text(sixHouses(), car("c", 600, 1, 0)));
        CHECK.due(small, "3 ahead of no such i", -1, 3, small.bestAt(0, 3, 2));
        CHECK.due(small, "3 ahead of a negative i", -1, 3, small.bestAt(0, 3, -1));
    }

    /** share: "NONE: 1 (no DAY); 6 (cars don't hold all)". */
    private static void shareOfAsManyAsHeld() {
        NoonMeals all = Check.told(text(sixHouses(), car("c", 600, 1, 0), car("d", 600, 2, 0), car("e", 600, 3, 0)));
        CHECK.due(all, "share to cars that just hold all", 0, 0, all.share());
        NoonMeals less = Check.told(text(sixHouses(), car("c", 600, 1, 0), car("d", 600, 2, 0), car("e", 600, 2, 0)));
        CHECK.due(less, "share to cars that hold all but one", -1, 6, less.share());
        CHECK.due("shared behind it", -1, less.shared(0));
        NoonMeals least = Check.told(text(sixHouses(), car("c", 600, 1, 0), car("d", 600, 1, 0), car("e", 600, 1, 0)));
        CHECK.due(least, "share of six to cars that hold three", -1, 6, least.share());
        NoonMeals one = Check.told(text(sixHouses(), car("c", 800, 6, 0)));
        CHECK.due(one, "share of six bad ones to one car", 6, 0, one.share());
        CHECK.due("shared(5) to one car", 0, one.shared(5));
    }

    /** "the least sum of COMES of the last ones (of cars that have houses)". */
    private static void shareCountsCarsWithHouses() {
        // With the starts of empty cars both would sum up to 1,250, and the first car would be taken.
        NoonMeals x = Check.told(text(house('a', 50), car("c", 650, 1, 0), car("d", 600, 1, 0)));
        CHECK.due(x, "share to the sooner car", 0, 0, x.share());
        CHECK.due("shared(0) to the sooner car", 1, x.shared(0));
        // Two cars sum up to 1,200, one alone to 650, so the way is rather made by one.
        NoonMeals far = Check.told(text(house('a', 50), house('b', 0), car("c", 600, 2, 0), car("d", 600, 2, 0)));
        CHECK.due(far, "share to one car", 0, 0, far.share());
        CHECK.due("shared(0) to one car", 0, far.shared(0));
        CHECK.due("shared(1) to one car", 0, far.shared(1));
        // One car alone would be late at the second house, so two go though the sum is greater.
        NoonMeals late = Check.told(text(house('a', 60), house('b', 40), car("c", 690, 2, 0), car("d", 690, 2, 0)));
        CHECK.due(late, "share to two cars", 0, 0, late.share());
        CHECK.due("shared(0) to two cars", 0, late.shared(0));
        CHECK.due("shared(1) to two cars", 1, late.shared(1));
        // No plate is hot enough. The first car comes last at 800 + 50 + 120 + 30, the others together at 500 + 500:
        // alike, though more cars are empty; a minute more at the flood, and it is the others' turn.
        dueShares(60, 0, 0);
        dueShares(59, 0, 0);
        NoonMeals more = farCarOrTwo(60, "flood 1 adds 1");
        CHECK.due(more, "share of a sum one greater", 2, 0, more.share());
        CHECK.due("shared(0) to the near cars", 1, more.shared(0));
        CHECK.due("shared(1) to the near cars", 2, more.shared(1));
    }

    private static void dueShares(int adds, int... cars) {
        NoonMeals x = farCarOrTwo(adds, "flood 60 adds 1");
        CHECK.due(x, "share by a flood of " + adds, cars.length, 0, x.share());
        for (int house = 0; house < cars.length; house++) {
            CHECK.due("shared(" + house + ") by a flood of " + adds, cars[house], x.shared(house));
        }
    }

    /** Two houses where two cars of one plate each stand, and a car for both that comes over floods. */
    private static NoonMeals farCarOrTwo(int adds, String flood) {
        String far = car("f", 800, 2, 0).replace("from k", "from m");
        return Check.told(text("kitchen m at 0 hot 80", "flood 0 adds 60", "flood 0 adds " + adds, flood,
                house('a', 50, "30 0 0 1"), house('b', 50, "30 0 0 1"), far, car("c", 500, 1, 0),
                car("d", 500, 1, 0)).replace("hot 60", "hot 90"));
    }

    /** "then the first by the cars' numbers of house 0, 1, .." */
    private static void shareOfLikeOnes() {
        NoonMeals x = Check.told(text(house('a', 50), house('b', 50), house('d', 50), car("c", 600, 1, 0),
                car("e", 600, 1, 0), car("f", 600, 1, 0)));
        CHECK.due(x, "share to like cars", 0, 0, x.share());
        for (int house = 0; house < 3; house++) {
            CHECK.due("shared of like cars", house, x.shared(house));
        }
    }

    /** shared: "by the latest share() since day() that was not refused; NONE for none such". */
    private static void sharedRows() {
        NoonMeals x = Check.told(text(sixHouses(), CAR));
        CHECK.due("shared(0) ahead of share()", -1, x.shared(0));
        x.share();
        CHECK.due("shared(5)", 0, x.shared(5));
        for (int row : new int[] {LEAST, -1, 6, MOST}) {
            CHECK.due("shared(" + row + ")", -1, x.shared(row));
        }
        Check.tell(x, text(sixHouses(), car("c", 600, 5, 0)));
        CHECK.due("shared(0) of a new day", -1, x.shared(0));
        CHECK.due(x, "share() that is refused", -1, 6, x.share());
        CHECK.due("shared(0) behind it", -1, x.shared(0));
        Check.tell(x, text(house('a', 50), CAR));
        x.share();
        CHECK.due("shared(0) of one house", 0, x.shared(0));
        CHECK.due("shared(1) of one house", -1, x.shared(1));
    }

    /** "products of chance or 100 less chance, together; of 100 to the how many". */
    private static void oddsOfChances() {
        CHECK.due("odds without houses", 1, Check.told(text(house('a', 50), CAR)).odds(0));
        int[] chances = {0, 1, 50, 99, 100};
        for (int chance : chances) {
            // A tea of 60 at the first house spoils the second, which the law wants by 659.
            String houses = house('a', 50, "0 60 " + chance + " 1") + ";" + house('b', 50, "0 60 " + chance + " 1");
            NoonMeals late = driven(text(houses, CAR).replace("by 700", "by 659"), 0, 1);
            CHECK.due(late, "odds by " + chance, (100 - chance) * 100L, 0, late.odds(0));
            NoonMeals just = driven(text(houses, CAR).replace("by 700", "by 660"), 0, 1);
            CHECK.due(just, "odds just in time by " + chance, 10000, 0, just.odds(0));
            NoonMeals alone = driven(text(houses, CAR).replace("by 700", "by 600"), 0);
            CHECK.due(alone, "odds of one, whose tea delays nobody", 100, 0, alone.odds(0));
        }
        NoonMeals bad = driven(text(house('a', 50), car("c", 701, 1, 0)), 0);
        CHECK.due(bad, "odds of one that is bad anyway", 0, 0, bad.odds(0));
        NoonMeals six = driven(text(sixHouses(), CAR), 0, 1, 2, 3, 4, 5);
        CHECK.due(six, "odds of six", 1000000000000L, 0, six.odds(0));
    }

    /** odds: "-1: 1 (car)". */
    private static void oddsRefused() {
        NoonMeals x = driven(text(house('a', 50), CAR, car("d", 600, 1, 0)), 0);
        for (int row : new int[] {LEAST, -1, 2, 3, MOST}) {
            CHECK.due(x, "odds(" + row + ")", -1, 1, x.odds(row));
        }
        CHECK.due(x, "odds of the last car", 1, 0, x.odds(1));
    }

    /** "how many more are BAD of that car, as DRIVEN, if it alone is taken than if none is". */
    private static void costsOfTeas() {
        String first = house('a', 50, "0 60 0 1");
        NoonMeals late = driven(text(first, house('b', 50), house('d', 50), CAR).replace("by 700", "by 659"), 0, 1, 2);
        CHECK.due(late, "costs of a tea that spoils two", 2, 0, late.costs(0));
        CHECK.due(late, "costs of a tea of no minutes", 0, 0, late.costs(1));
        CHECK.due(late, "costs of the last one's", 0, 0, late.costs(2));
        late.tea(1);
        CHECK.due(late, "costs don't heed what is taken", 2, 0, late.costs(0));
        NoonMeals just = driven(text(first, house('b', 50), CAR).replace("by 700", "by 660"), 0, 1);
        CHECK.due(just, "costs of a tea that is just in time", 0, 0, just.costs(0));
        NoonMeals bad = driven(text(first, house('b', 50), car("c", 701, 2, 0)), 0, 1);
        CHECK.due(bad, "costs where all are bad anyway", 0, 0, bad.costs(0));
        NoonMeals six = driven(text(first, house('b', 50), house('d', 50), house('e', 50), house('f', 50),
                house('g', 50), CAR).replace("by 700", "by 600"), 0, 1, 2, 3, 4, 5);
        CHECK.due(six, "costs of a tea that spoils five", 5, 0, six.costs(0));
        NoonMeals two = Check.told(text(first, house('b', 50), CAR, car("d", 600, 1, 0)).replace("by 700", "by 600"));
        two.drive(0, 0);
        two.drive(1, 1);
        CHECK.due(two, "costs another car nothing", 0, 0, two.costs(0));
    }

    /** costs: "-1,000: 1; 6 (the house is in no ROUND)". */
    private static void costsRefused() {
        NoonMeals x = driven(text(house('a', 50), house('b', 50), CAR), 1);
        for (int row : new int[] {LEAST, -1, 2, 6, MOST}) {
            CHECK.due(x, "costs(" + row + ")", -1000, 1, x.costs(row));
        }
        CHECK.due(x, "costs in no round", -1000, 6, x.costs(0));
        CHECK.due(x, "costs of the last house", 0, 0, x.costs(1));
    }
}
