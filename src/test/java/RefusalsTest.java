import java.util.NoSuchElementException;

/**
 * Promise 38 and all that is said of refused calls: which number each tells, that nothing else is changed by
 * them, that those which aren't refused tell 0, and that those which can't be leave the number alone.
 */
public final class RefusalsTest {
    /** Two kitchens, a car that is full and one with room, one house in no round, one dish for one diet alone. */
    private static final String DAY = "law hot 60 by 700;kitchen k at 50 hot 80;kitchen m at 0 hot 60;diet n bars z;"
            + "diet o bars ab;dish x of a costs 3;dish y of c costs 5;flood 40 adds 9;"
            + "house p at 50 eats n doors 1 tea 9 chance 50 need 5;house q at 60 eats n doors 2 tea 8 chance 50 need 4;"
            + "house r at 70 eats o doors 3 tea 7 chance 50 need 3;car c from k starts 600 holds 1 cools 2;"
            + "car d from k starts 600 holds 2 cools 1;call i takes 5 chance 20;call j takes 5 chance 30;"
            + "helper e days 0,1,2 most 2;helper f days 2,3 most 7";
    /** Each call on a busy day, its answer, and the number of its trouble. */
    private static final String[] REFUSED = {
        "day -1 = -1 2", "day 41 = -1 2", "day 0 = -1 4", "day 1 = -1 4", "day 40 = -1 4",
        "drive 2 2 = -1 1", "drive 1 3 = -1 1", "drive 1 1 = -1 5", "drive 1 0 = -1 5", "drive 0 2 = -1 3",
        "unload 2 = -1 1", "unload -1 = -1 1", "tea 8 = 0 2", "tea -1 = 0 2",
        "comes 3 = -1 1", "comes 2 = -1 6", "heat 3 = -1000 1", "heat 2 = -1000 6", "bad 2 = -1 1",
        "way -1 0 = -1 2", "way 0 100 = -1 2",
        "best 2 1 = -1 1", "best 0 8 = -1 1", "best 0 3 = -1 3", "best 1 7 = -1 3",
        "bestAt 2 1 0 = -1 1", "bestAt 0 8 0 = -1 1", "bestAt 0 3 0 = -1 3", "bestAt 1 3 2 = -1 1",
        "bestAt 1 0 0 = -1 1", "odds 2 = -1 1", "costs 3 = -1000 1", "costs 2 = -1000 6",
        "fits 3 0 = -1 1", "fits 0 2 = -1 1", "breach 3 0 = -1 1", "breach 0 2 = -1 1",
        "menu 2 1 = -1 1", "menu 0 0 = -1 2", "menu 0 15 = -1 2", "menu 1 2 = -1 6",
        "dropped -1 1 = -1 2", "dropped 100000 1 = -1 2", "dropped 0 0 = -1 2", "dropped 0 15 = -1 2",
        "dropped 0 2 = -1 6", "sign 3 0 = -1 1", "sign 0 -1 = -1 2", "sign 0 100 = -1 2", "sign 1 0 = -1 3",
        "fading 3 = -1 1", "fading 2 = -1 5", "probe 2 600 0 = -1 1", "probe 0 599 0 = -1 2",
        "probe 0 1000 0 = -1 2", "probe 0 600 -1 = -1 2", "probe 0 600 100 = -1 2", "probe 0 600 0 = -1 3",
        "faulty -1 = -1 2", "faulty 100 = -1 2", "recall 2 = -1 1",
    };

    /** Calls on a busy day that aren't refused, and their answers. */
    private static final String[] TAKEN = {
        "drive 1 2 = 2", "unload 0 = 1", "unload 1 = 1", "tea 0 = 1", "tea 7 = 1", "comes 0 = 600", "heat 0 = 80",
        "bad 0 = 0", "bad 1 = 0", "way 0 99 = 108", "best 0 0 = 600", "best 1 6 = 622", "bestAt 1 6 1 = 2",
        "share = 0", "odds 0 = 100", "costs 1 = 0", "fits 2 0 = 0", "fits 2 1 = 1", "breach 2 0 = 1", "forAll = 2",
        "menu 0 2 = 8", "menu 1 1 = 5", "dropped 11 1 = 0", "dropped 10 1 = 4", "knock = 85000", "asTold = 90000",
        "fill = 4", "sign 2 0 = 1", "fading 1 = 120", "faulty 0 = 65534", "firstCold = 1", "recall 0 = 3",
        "recall 1 = 0",
    };
    private static final Check CHECK = new Check("RefusalsTest");

    private RefusalsTest() {
    }

    public static void main(String[] args) {
        for (int call = 0; call < REFUSED.length; call++) {
            refused(call);
        }
        for (int call = 0; call < TAKEN.length; call++) {
            taken(call);
        }
        for (int trouble = 0; trouble <= 6; trouble++) {
            leftAlone(trouble);
        }
        refusedByText();
        calledUpToTheLimit();
        CHECK.end();
    }

    /** A day on which nearly all has been told: so a call that shouldn't change it would be seen. */
    private static NoonMeals busy() {
        NoonMeals x = Check.told(DAY);
        x.drive(0, 0);
        x.drive(1, 1);
        x.tea(5);
        x.share();
        x.menu(0, 3);
        x.knock();
        x.fill();
        for (int i = 0; i < 10; i++) {
            x.sign(1, 4);
        }
        for (int i = 0; i < 16; i++) {
            x.probe(i & 1, 600, i == 0 ? 80 : 9);
        }
        Check.feed(x, "law hot 40 by 600;law hot 40 by 600;....");
        return x;
    }

    /** "NONE: There is none; refused": the answer, the number, and nothing that is told has changed. */
    private static void refused(int call) {
        String[] parts = REFUSED[call].split(" = ");
        long answer = Long.parseLong(parts[1].split(" ")[0]);
        int trouble = Integer.parseInt(parts[1].split(" ")[1]);
        boolean tapeGoes = trouble == 4;
        NoonMeals x = busy();
        String before = state(x);
        CHECK.due("bytes ahead of " + parts[0], 40, x.size(10));
        CHECK.due(x, parts[0], answer, trouble, ask(x, parts[0]));
        CHECK.due("where() behind " + parts[0] + " is a place", trouble == 4, x.where() >= 0);
        CHECK.due("bytes behind " + parts[0], tapeGoes ? 0 : 40, x.size(10));
        CHECK.due(parts[0] + " changes nothing", true, before.equals(state(x)));
        if (!tapeGoes) {
            CHECK.due(x, "the tape behind " + parts[0], -1, 4, x.day(40));
            CHECK.due("its fault", 3, x.fault());
            CHECK.due("its place", 18, x.where());
        }
    }

    /** "0 it wasn't": behind any call that may be refused and isn't, whatever the number was. */
    private static void taken(int call) {
        String[] parts = TAKEN[call].split(" = ");
        NoonMeals x = busy();
        x.comes(99);
        CHECK.due("trouble() ahead of " + parts[0], 1, x.trouble());
        CHECK.due(x, parts[0], Long.parseLong(parts[1]), 0, ask(x, parts[0]));
        CHECK.due("where() behind " + parts[0], -1, x.where());
        CHECK.due("the tape behind " + parts[0], 40, x.size(10));
    }

    /** "the latest call that may be refused (those of which a number is told here)". */
    private static void leftAlone(int trouble) {
        String[] calls = {"way 0 0", "comes 99", "faulty -1", "drive 0 2", "day 0", "fading 2", "comes 2"};
        NoonMeals x = busy();
        ask(x, calls[trouble]);
        CHECK.due("trouble() of " + calls[trouble], trouble, x.trouble());
        for (int i = -1; i <= 16; i++) {
            x.shared(i);
            x.menuAt(i);
            x.callAt(i);
            x.helper(i);
            x.size(i);
            led(x, i, 0);
            led(x, 0, i);
            CHECK.due("trouble() " + trouble + " stays", trouble, x.trouble());
        }
        for (int i = 0; i < 46; i++) {
            x.feed(0, 0, 0, 0, 0);
        }
        x.fault();
        CHECK.due("where() behind trouble " + trouble, trouble == 4 ? 0 : -1, x.where());
        CHECK.due("trouble() " + trouble + " stays to the end", trouble, x.trouble());
    }

    /** "4 (the DAY stays)" for a fault of each number, late in a text that would tell another day. */
    private static void refusedByText() {
        String other = "law hot 40 by 900;kitchen z at 1 hot 99;diet y bars b;dish w of b costs 9;"
                + "house v at 2 eats y doors 0 tea 0 chance 0 need 1;car u from z starts 500 holds 6 cools 0";
        String[] ends = {";", ";car t from y", ";dish v", ";flood 99", ";flood 0 adds 1;flood 0 adds 1;flood 0 adds 1;flood"};
        for (int i = 0; i < ends.length; i++) {
            dueStays(other + ends[i], i + 1);
        }
        dueStays(other.substring(0, other.indexOf(";car")), 6);
    }

    private static void dueStays(String text, int fault) {
        NoonMeals x = busy();
        x.day(0);
        String before = state(x);
        CHECK.due(x, "another day with fault " + fault, -1, 4, Check.tell(x, text));
        CHECK.due("its fault", fault, x.fault());
        CHECK.due("fault " + fault + " changes nothing", true, before.equals(state(x)));
        CHECK.due("the tape is empty", 0, x.size(10));
    }

    /** "An object is used for at most 512 calls": the last of them answers as the first. */
    private static void calledUpToTheLimit() {
        NoonMeals x = Check.told(DAY);
        int calls = (DAY.length() + 19) / 20 + 1;
        for (; calls < 512; calls++) {
            boolean even = calls % 2 == 0;
            CHECK.due("call no. " + (calls + 1), even ? 622 : 8, even ? x.best(1, 6) : x.menu(0, 2));
        }
    }

    private static long ask(NoonMeals x, String call) {
        String[] parts = call.split(" ");
        int a = parts.length > 1 ? Integer.parseInt(parts[1]) : 0;
        int b = parts.length > 2 ? Integer.parseInt(parts[2]) : 0;
        int c = parts.length > 3 ? Integer.parseInt(parts[3]) : 0;
        return switch (parts[0]) {
            case "day" -> x.day(a);
            case "drive" -> x.drive(a, b);
            case "unload" -> x.unload(a);
            case "tea" -> x.tea(a) ? 1 : 0;
            case "comes" -> x.comes(a);
            case "heat" -> x.heat(a);
            case "bad" -> x.bad(a);
            case "way" -> x.way(a, b);
            case "best" -> x.best(a, b);
            case "bestAt" -> x.bestAt(a, b, c);
            case "share" -> x.share();
            case "odds" -> x.odds(a);
            case "costs" -> x.costs(a);
            case "fits" -> x.fits(a, b);
            case "breach" -> x.breach(a, b);
            case "forAll" -> x.forAll();
            case "menu" -> x.menu(a, b);
            case "dropped" -> x.dropped(a, b);
            case "knock" -> x.knock();
            case "asTold" -> x.asTold();
            case "fill" -> x.fill();
            case "sign" -> x.sign(a, b);
            case "fading" -> x.fading(a);
            case "probe" -> x.probe(a, b, c);
            case "faulty" -> x.faulty(a);
            case "firstCold" -> x.firstCold();
            case "recall" -> x.recall(a);
            default -> throw new IllegalArgumentException(call);
        };
    }

    private static long led(NoonMeals x, int car, int i) {
        try {
            return x.led(car, i);
        } catch (NoSuchElementException e) {
            return -7;
        }
    }

    /** All that is told of an object but its tape, its latest fault and its latest trouble. */
    private static String state(NoonMeals x) {
        StringBuilder state = new StringBuilder();
        for (int what = 0; what <= 9; what++) {
            state.append(x.size(what)).append(' ');
        }
        for (int i = 0; i < 3; i++) {
            state.append(led(x, 0, i)).append(' ').append(led(x, 1, i)).append(' ').append(led(x, 2, i)).append(' ');
            state.append(x.comes(i)).append(' ').append(x.heat(i)).append(' ').append(x.bad(i)).append(' ');
            state.append(x.shared(i)).append(' ').append(x.fading(i)).append(' ').append(x.recall(i)).append(' ');
            state.append(x.menuAt(i)).append(' ').append(x.callAt(i)).append(' ').append(x.breach(i, 0)).append(' ');
        }
        for (int i = 0; i < 7; i++) {
            state.append(x.helper(i)).append(' ');
        }
        state.append(x.menuAt(3)).append(' ').append(x.faulty(0)).append(' ').append(x.faulty(70)).append(' ');
        return state.append(x.firstCold()).append(' ').append(x.way(0, 99)).append(' ').append(x.odds(1)).toString();
    }
}
