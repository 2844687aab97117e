/** Texts with the fault that is due and its place, and texts without one. */
public final class FaultsTest {
    private static final String LAW = "law hot 40 by 600";
    private static final String KITCHEN = "kitchen k at 0 hot 60";
    private static final String DIET = "diet n bars a";
    private static final String HOUSE = "house h at 0 eats n doors 0 tea 0 chance 0 need 1";
    private static final String CAR = "car c from k starts 500 holds 1 cools 0";
    private static final String DAY = LAW + ";" + KITCHEN + ";" + DIET + ";" + HOUSE + ";" + CAR;
    private static final Check CHECK = new Check("FaultsTest");

    private FaultsTest() {
    }

    public static void main(String[] args) {
        good();
        tokens();
        forms();
        names();
        toldAgain();
        bounds();
        many();
        lacks();
        firstFromTheLeft();
        CHECK.end();
    }

    private static void due(String text, int fault, int place) {
        NoonMeals x = new NoonMeals();
        CHECK.due(x, "day of " + text, -1, 4, Check.tell(x, text));
        CHECK.due("fault of " + text, fault, x.fault());
        CHECK.due("place in " + text, place, x.where());
    }

    /** The fault is at the mark, which isn't part of the text. */
    private static void dueAtMark(String marked, int fault) {
        due(marked.replace("^", ""), fault, marked.indexOf('^'));
    }

    private static void dueBehindDay(String marked, int fault) {
        dueAtMark(DAY + ";" + marked, fault);
    }

    private static void dueGood(String text) {
        NoonMeals x = new NoonMeals();
        CHECK.due("houses of " + text, 1, Math.min(1, Check.tell(x, text)));
        CHECK.due("trouble with " + text, 0, x.trouble());
        CHECK.due("fault of " + text, 0, x.fault());
    }

    private static void good() {
        dueGood(DAY);
        dueGood("  " + DAY + "   ");
        dueGood(DAY.replace(";", " ; "));
        dueGood(DAY.replace(" ", "   "));
        dueGood(DAY.replace("hot 40 by 600", "hot40by600"));
        dueGood(DAY.replace("at 0", "at 000"));
        dueGood(KITCHEN + ";" + DIET + ";" + HOUSE + ";" + CAR + ";" + LAW);
        dueGood(DAY + ";house hot at 0 eats n doors 0 tea 0 chance 0 need 1 dog");
        dueGood(DAY + ";car by from k starts 500 holds 1 cools 0 afraid");
        dueGood(DAY + ";dish most of dog costs 1;diet eightlet bars afraid");
        dueGood(DAY + ";dish x of kitchen costs 1");
        dueGood(DAY + ";flood 98 adds 60;flood 98 adds 60;flood 0 adds 1");
        dueGood(DAY + ";helper days days 0 , 6,3 most 7;helper x days 6 most 1");
        dueGood(DAY + ";call takes takes 60 chance 100;call chance takes 1 chance 0");
    }

    private static void tokens() {
        dueAtMark("^", 1);
        dueAtMark("   ^", 1);
        dueAtMark("^;", 1);
        dueAtMark("^,", 1);
        dueAtMark("^7", 1);
        dueAtMark("^Law hot 40 by 600", 1);
        dueAtMark("^\n" + LAW, 1);
        dueAtMark("law hot 40 by 600^\u00e9", 1);
        dueAtMark("law hot 40 by 600^.", 1);
        dueAtMark("law^\u0000hot 40 by 600", 1);
        dueAtMark("law ^hotter 40", 1);
        dueAtMark("law ^ho 40", 1);
        dueAtMark("law hot ^0040 by 600", 1);
        dueAtMark("law hot ^-40 by 600", 1);
        dueAtMark("kitchen ^abcdefghi at 0", 1);
        dueAtMark("kitchen abcdefgh ^0", 1);
        dueAtMark("dish x of ^abcdefghi costs 1", 1);
        dueAtMark("dish x of abcdefgh ^cost 1", 1);
        dueAtMark("^la", 1);
    }

    private static void forms() {
        dueAtMark("law^", 1);
        dueAtMark("law   ^", 1);
        dueAtMark("law hot 40 by 600;^", 1);
        dueAtMark("law hot 40 by 600;  ^", 1);
        dueAtMark("law hot 40 by 600;^;", 1);
        dueAtMark("law hot 40 by 600^, kitchen", 1);
        dueAtMark("law hot 40 by 600 ^kitchen", 1);
        dueAtMark("law hot ^by 600", 1);
        dueAtMark("law hot 40 by^;", 1);
        dueAtMark("kitchen k ^hot 60", 1);
        dueAtMark("kitchen at^", 1);
        dueAtMark("kitchen at ^0", 1);
        dueAtMark("flood ^x adds 1", 1);
        dueAtMark("flood 5 ^add 1", 1);
        dueAtMark("dish x of ^5", 1);
        dueAtMark("diet x bars ^5", 1);
        dueAtMark("diet x bars a ^b", 1);
        dueBehindDay("house x at 0 eats n doors 0 tea 0 chance 0 need 1 ^cat", 1);
        dueBehindDay("house x at 0 eats n doors 0 tea 0 chance 0 need 1 dog ^dog", 1);
        dueBehindDay("house x at 0 eats n doors 0 tea 0 chance 0 need 1 ^afraid", 1);
        dueBehindDay("house x at 0 eats n doors 0 tea 0 chance 0^", 1);
        dueBehindDay("house x at 0 eats ^dog doors", 1);
        dueBehindDay("house x at 0 eats ^5 doors", 1);
        dueBehindDay("car x from ^kitchen starts", 1);
        dueBehindDay("car x from k starts 500 holds 1 cools 0 ^dog", 1);
        dueBehindDay("car x from k starts 500 holds 1 cools 0 afraid ^afraid", 1);
        dueBehindDay("call x takes 1 ^, chance 1", 1);
        dueBehindDay("helper x days ^most 1", 1);
        dueBehindDay("helper x days 1 ^2 most 1", 1);
        dueBehindDay("helper x days 1, ^most 1", 1);
        dueBehindDay("helper x days 1,^, most 1", 1);
        dueBehindDay("helper x days 1,2^; most 1", 1);
        dueBehindDay("helper x days 0,1,2,3,4,5,6^", 1);
        dueBehindDay("helper x days 0,1,2,3,4,5,6,^", 1);
        for (String word : new String[] {"law", "kitchen", "flood", "dish", "diet", "house", "car", "call",
            "helper", "dog", "afraid"}) {
            dueBehindDay("dish ^" + word + " of a costs 1", 1);
        }
        dueAtMark("^dog", 1);
        dueAtMark("^afraid", 1);
    }

    private static void names() {
        dueAtMark("car c from ^k starts", 2);
        dueAtMark("car c from ^c starts", 2);
        dueAtMark(DIET + ";car c from ^n starts", 2);
        dueAtMark(LAW + ";house h at 0 eats ^n doors", 2);
        dueAtMark("house h at 0 eats ^h doors", 2);
        dueAtMark(KITCHEN + ";house h at 0 eats ^k doors", 2);
        dueAtMark(DIET + ";house h at 0 eats ^nn doors", 2);
        dueAtMark("house h at 0 eats ^n doors 0 tea 0 chance 0 need 1;" + DIET, 2);
    }

    private static void toldAgain() {
        dueBehindDay("^law hot 40 by 600", 3);
        dueBehindDay("^law", 3);
        for (String sort : new String[] {"kitchen", "dish", "diet", "house", "car", "call", "helper"}) {
            for (String name : new String[] {"k", "n", "h", "c", "x", "y", "z"}) {
                dueAtMark(DAY + ";dish x of a costs 1;call y takes 1 chance 0;helper z days 0 most 1;"
                        + sort + " ^" + name, 3);
            }
        }
        dueBehindDay("helper x days 1,^1 most 1", 3);
        dueBehindDay("helper x days 0,1,2,3,4,5,6,^0 most 1", 3);
        dueBehindDay("helper x days 1,^001", 3);
    }

    /** Each whole at its bounds and one beyond. */
    private static void bounds() {
        String[] lines = {"law hot #40-90 by 600", "law hot 40 by #600-900", "kitchen x at #0-99 hot 60",
            "kitchen x at 0 hot #60-99", "flood #0-98 adds 1", "flood 0 adds #1-60", "dish x of a costs #1-99",
            "house x at #0-99 eats n doors 0 tea 0 chance 0 need 1",
            "house x at 0 eats n doors #0-30 tea 0 chance 0 need 1",
            "house x at 0 eats n doors 0 tea #0-60 chance 0 need 1",
            "house x at 0 eats n doors 0 tea 0 chance #0-100 need 1",
            "house x at 0 eats n doors 0 tea 0 chance 0 need #1-9",
            "car x from k starts #500-800 holds 1 cools 0", "car x from k starts 500 holds #1-6 cools 0",
            "car x from k starts 500 holds 1 cools #0-50", "call x takes #1-60 chance 0",
            "call x takes 1 chance #0-100", "helper x days #0-6 most 1", "helper x days 0 most #1-7"};
        for (String line : lines) {
            String day = line.startsWith("law") ? DAY.substring(LAW.length() + 1) : DAY;
            String whole = line.replaceFirst(".*#([0-9]+-[0-9]+).*", "$1");
            int least = Integer.parseInt(whole.split("-")[0]);
            int most = Integer.parseInt(whole.split("-")[1]);
            dueGood(day + ";" + line.replace("#" + whole, "" + least));
            dueGood(day + ";" + line.replace("#" + whole, "" + most));
            dueAtMark(day + ";" + line.replace("#" + whole, "^" + (most + 1)), 4);
            if (least > 0) {
                dueAtMark(day + ";" + line.replace("#" + whole, "^" + (least - 1)), 4);
            }
        }
        dueBehindDay("helper x days 0,^7 most 1", 4);
    }

    private static void many() {
        String[] lines = {"kitchen # at 0 hot 60", "flood 0 adds 1", "dish # of a costs 1", "diet # bars a",
            "house # at 0 eats n doors 0 tea 0 chance 0 need 1", "car # from k starts 500 holds 1 cools 0",
            "call # takes 1 chance 0", "helper # days 0 most 1"};
        int[] rooms = {3, 3, 6, 4, 6, 3, 5, 5};
        for (int i = 0; i < lines.length; i++) {
            String sort = lines[i].split(" ")[0];
            boolean hasOne = DAY.contains(";" + sort + " ");
            StringBuilder text = new StringBuilder(DAY);
            for (int row = hasOne ? 1 : 0; row < rooms[i]; row++) {
                text.append(';').append(lines[i].replace("#", "x" + (char) ('a' + row)));
            }
            dueGood(text.toString());
            dueAtMark(text + ";^" + sort, 5);
            dueAtMark(text + "; ^" + lines[i].replace("#", "xa"), 5);
        }
    }

    private static void lacks() {
        dueAtMark(LAW + "^", 6);
        dueAtMark(LAW + "  ^", 6);
        dueAtMark(DAY.substring(LAW.length() + 1) + "^", 6);
        dueAtMark(LAW + ";" + KITCHEN + ";" + DIET + ";" + HOUSE + "^", 6);
        dueAtMark(LAW + ";" + KITCHEN + ";" + DIET + ";" + CAR + "^", 6);
        dueAtMark(LAW + ";^", 1);
    }

    private static void firstFromTheLeft() {
        dueAtMark("law hot ^39 by 600 !", 4);
        dueAtMark("law hot ^39 !", 4);
        dueAtMark("law hot 40 by ^599;law", 4);
        dueAtMark("law hot 40 by 600;^law hot 39", 3);
        dueAtMark("car c from ^k starts 499", 2);
        dueAtMark("kitchen k at ^100 hot 60;kitchen k", 4);
        dueAtMark("kitchen k at 0 hot 60;kitchen ^k at 100", 3);
        dueAtMark(DAY + ";kitchen x at 0 hot 60;kitchen y at 0 hot 60;^kitchen k", 5);
    }
}
