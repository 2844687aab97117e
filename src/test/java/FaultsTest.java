/** Texts with the fault that is due and its place, and texts without one. */
public final class FaultsTest {
    private static final String LAW = "law hot 40 by 600";
    private static final String KITCHEN = "kitchen k at 0 hot 60";
    private static final String DIET = "diet n bars a";
    private static final String HOUSE = "house h at 0 eats n doors 0 tea 0 chance 0 need 1";
    private static final String CAR = "car c from k starts 500 holds 1 cools 0";
    private static final String DAY = LAW + ";" + KITCHEN + ";" + DIET + ";" + HOUSE + ";" + CAR;
    private static final Check CHECK = new Check("FaultsTest");

    private FaultsTest() {
    }

    public static void main(String[] args) {
        good();
        tokens();
        forms();
        names();
        toldAgain();
        bounds();
        many();
        lacks();
        firstFromTheLeft();
        CHECK.end();
    }

    private static void dueBehindDay(String marked, int fault) {
        CHECK.dueFault(DAY + ";" + marked, fault);
    }

    private static void good() {
        CHECK.dueGood(DAY);
        CHECK.dueGood("  " + DAY + "   ");
        CHECK.dueGood(DAY.replace(";", " ; "));
        CHECK.dueGood(DAY.replace(" ", "   "));
        CHECK.dueGood(DAY.replace("hot 40 by 600", "hot40by600"));
        CHECK.dueGood(DAY.replace("at 0", "at 000"));
        CHECK.dueGood(KITCHEN + ";" + DIET + ";" + HOUSE + ";" + CAR + ";" + LAW);
        CHECK.dueGood(DAY + ";house hot at 0 eats n doors 0 tea 0 chance 0 need 1 dog");
        CHECK.dueGood(DAY + ";car by from k starts 500 holds 1 cools 0 afraid");
        CHECK.dueGood(DAY + ";dish most of dog costs 1;diet eightlet bars afraid");
        CHECK.dueGood(DAY + ";dish x of kitchen costs 1");
        CHECK.dueGood(DAY + ";flood 98 adds 60;flood 98 adds 60;flood 0 adds 1");
        CHECK.dueGood(DAY + ";helper days days 0 , 6,3 most 7;helper x days 6 most 1");
        CHECK.dueGood(DAY + ";call takes takes 60 chance 100;call chance takes 1 chance 0");
    }

    private static void tokens() {
        CHECK.dueFault("^", 1);
        CHECK.dueFault("   ^", 1);
        CHECK.dueFault("^;", 1);
        CHECK.dueFault("^,", 1);
        CHECK.dueFault("^7", 1);
        CHECK.dueFault("^Law hot 40 by 600", 1);
        CHECK.dueFault("^\n" + LAW, 1);
        CHECK.dueFault("law hot 40 by 600^\u00e9", 1);
        CHECK.dueFault("law hot 40 by 600^.", 1);
        CHECK.dueFault("law^\u0000hot 40 by 600", 1);
        CHECK.dueFault("law ^hotter 40", 1);
        CHECK.dueFault("law ^ho 40", 1);
        CHECK.dueFault("law hot ^0040 by 600", 1);
        CHECK.dueFault("law hot ^-40 by 600", 1);
        CHECK.dueFault("kitchen ^abcdefghi at 0", 1);
        CHECK.dueFault("kitchen abcdefgh ^0", 1);
        CHECK.dueFault("dish x of ^abcdefghi costs 1", 1);
        CHECK.dueFault("dish x of abcdefgh ^cost 1", 1);
        CHECK.dueFault("^la", 1);
    }

    private static void forms() {
        CHECK.dueFault("law^", 1);
        CHECK.dueFault("law   ^", 1);
        CHECK.dueFault("law hot 40 by 600;^", 1);
        CHECK.dueFault("law hot 40 by 600;  ^", 1);
        CHECK.dueFault("law hot 40 by 600;^;", 1);
        CHECK.dueFault("law hot 40 by 600^, kitchen", 1);
        CHECK.dueFault("law hot 40 by 600 ^kitchen", 1);
        CHECK.dueFault("law hot ^by 600", 1);
        CHECK.dueFault("law hot 40 by^;", 1);
        CHECK.dueFault("kitchen k ^hot 60", 1);
        CHECK.dueFault("kitchen at^", 1);
        CHECK.dueFault("kitchen at ^0", 1);
        CHECK.dueFault("flood ^x adds 1", 1);
        CHECK.dueFault("flood 5 ^add 1", 1);
        CHECK.dueFault("dish x of ^5", 1);
        CHECK.dueFault("diet x bars ^5", 1);
        CHECK.dueFault("diet x bars a ^b", 1);
        dueBehindDay("house x at 0 eats n doors 0 tea 0 chance 0 need 1 ^cat", 1);
        dueBehindDay("house x at 0 eats n doors 0 tea 0 chance 0 need 1 dog ^dog", 1);
        dueBehindDay("house x at 0 eats n doors 0 tea 0 chance 0 need 1 ^afraid", 1);
        dueBehindDay("house x at 0 eats n doors 0 tea 0 chance 0^", 1);
        dueBehindDay("house x at 0 eats ^dog doors", 1);
        dueBehindDay("house x at 0 eats ^5 doors", 1);
        dueBehindDay("car x from ^kitchen starts", 1);
        dueBehindDay("car x from k starts 500 holds 1 cools 0 ^dog", 1);
        dueBehindDay("car x from k starts 500 holds 1 cools 0 afraid ^afraid", 1);
        dueBehindDay("call x takes 1 ^, chance 1", 1);
        dueBehindDay("helper x days ^most 1", 1);
        dueBehindDay("helper x days 1 ^2 most 1", 1);
        dueBehindDay("helper x days 1, ^most 1", 1);
        dueBehindDay("helper x days 1,^, most 1", 1);
        dueBehindDay("helper x days 1,2^; most 1", 1);
        dueBehindDay("helper x days 0,1,2,3,4,5,6^", 1);
        dueBehindDay("helper x days 0,1,2,3,4,5,6,^", 1);
        for (String word : new String[] {"law", "kitchen", "flood", "dish", "diet", "house", "car", "call",
            "helper", "dog", "afraid"}) {
            dueBehindDay("dish ^" + word + " of a costs 1", 1);
        }
        CHECK.dueFault("^dog", 1);
        CHECK.dueFault("^afraid", 1);
    }

    private static void names() {
        CHECK.dueFault("car c from ^k starts", 2);
        CHECK.dueFault("car c from ^c starts", 2);
        CHECK.dueFault(DIET + ";car c from ^n starts", 2);
        CHECK.dueFault(LAW + ";house h at 0 eats ^n doors", 2);
        CHECK.dueFault("house h at 0 eats ^h doors", 2);
        CHECK.dueFault(KITCHEN + ";house h at 0 eats ^k doors", 2);
        CHECK.dueFault(DIET + ";house h at 0 eats ^nn doors", 2);
        CHECK.dueFault("house h at 0 eats ^n doors 0 tea 0 chance 0 need 1;" + DIET, 2);
    }

    private static void toldAgain() {
        dueBehindDay("^law hot 40 by 600", 3);
        dueBehindDay("^law", 3);
        for (String sort : new String[] {"kitchen", "dish", "diet", "house", "car", "call", "helper"}) {
            for (String name : new String[] {"k", "n", "h", "c", "x", "y", "z"}) {
                CHECK.dueFault(DAY + ";dish x of a costs 1;call y takes 1 chance 0;helper z days 0 most 1;"
                        + sort + " ^" + name, 3);
            }
        }
        dueBehindDay("helper x days 1,^1 most 1", 3);
        dueBehindDay("helper x days 0,1,2,3,4,5,6,^0 most 1", 3);
        dueBehindDay("helper x days 1,^001", 3);
    }

    /** Each whole at its bounds and one beyond. */
    private static void bounds() {
        String[] lines = {"law hot #40-90 by 600", "law hot 40 by #600-900", "kitchen x at #0-99 hot 60",
            "kitchen x at 0 hot #60-99", "flood #0-98 adds 1", "flood 0 adds #1-60", "dish x of a costs #1-99",
            "house x at #0-99 eats n doors 0 tea 0 chance 0 need 1",
            "house x at 0 eats n doors #0-30 tea 0 chance 0 need 1",
            "house x at 0 eats n doors 0 tea #0-60 chance 0 need 1",
            "house x at 0 eats n doors 0 tea 0 chance #0-100 need 1",
            "house x at 0 eats n doors 0 tea 0 chance 0 need #1-9",
            "car x from k starts #500-800 holds 1 cools 0", "car x from k starts 500 holds #1-6 cools 0",
            "car x from k starts 500 holds 1 cools #0-50", "call x takes #1-60 chance 0",
            "call x takes 1 chance #0-100", "helper x days #0-6 most 1", "helper x days 0 most #1-7"};
        for (String line : lines) {
            String day = line.startsWith("law") ? DAY.substring(LAW.length() + 1) : DAY;
            String whole = line.replaceFirst(".*#([0-9]+-[0-9]+).*", "$1");
            int least = Integer.parseInt(whole.split("-")[0]);
            int most = Integer.parseInt(whole.split("-")[1]);
            CHECK.dueGood(day + ";" + line.replace("#" + whole, "" + least));
            CHECK.dueGood(day + ";" + line.replace("#" + whole, "" + most));
            CHECK.dueFault(day + ";" + line.replace("#" + whole, "^" + (most + 1)), 4);
            if (least > 0) {
                CHECK.dueFault(day + ";" + line.replace("#" + whole, "^" + (least - 1)), 4);
            }
        }
        dueBehindDay("helper x days 0,^7 most 1", 4);
    }

    private static void many() {
        String[] lines = {"kitchen # at 0 hot 60", "flood 0 adds 1", "dish # of a costs 1", "diet # bars a",
            "house # at 0 eats n doors 0 tea 0 chance 0 need 1", "car # from k starts 500 holds 1 cools 0",
            "call # takes 1 chance 0", "helper # days 0 most 1"};
        int[] rooms = {3, 3, 6, 4, 6, 3, 5, 5};
        for (int i = 0; i < lines.length; i++) {
            String sort = lines[i].split(" ")[0];
            boolean hasOne = DAY.contains(";" + sort + " ");
            StringBuilder text = new StringBuilder(DAY);
            for (int row = hasOne ? 1 : 0; row < rooms[i]; row++) {
                text.append(';').append(lines[i].replace("#", "x" + (char) ('a' + row)));
            }
            CHECK.dueGood(text.toString());
            CHECK.dueFault(text + ";^" + sort, 5);
            CHECK.dueFault(text + "; ^" + lines[i].replace("#", "xa"), 5);
        }
    }

    private static void lacks() {
        CHECK.dueFault(LAW + "^", 6);
        CHECK.dueFault(LAW + "  ^", 6);
        CHECK.dueFault(DAY.substring(LAW.length() + 1) + "^", 6);
        CHECK.dueFault(LAW + ";" + KITCHEN + ";" + DIET + ";" + HOUSE + "^", 6);
        CHECK.dueFault(LAW + ";" + KITCHEN + ";" + DIET + ";" + CAR + "^", 6);
        CHECK.dueFault(LAW + ";^", 1);
    }

    private static void firstFromTheLeft() {
        CHECK.dueFault("law hot ^39 by 600 !", 4);
        CHECK.dueFault("law hot ^39 !", 4);
        CHECK.dueFault("law hot 40 by ^599;law", 4);
        CHECK.dueFault("law hot 40 by 600;^law hot 39", 3);
        CHECK.dueFault("car c from ^k starts 499", 2);
        CHECK.dueFault("kitchen k at ^100 hot 60;kitchen k", 4);
        CHECK.dueFault("kitchen k at 0 hot 60;kitchen ^k at 100", 3);
        CHECK.dueFault(DAY + ";kitchen x at 0 hot 60;kitchen y at 0 hot 60;^kitchen k", 5);
    }
}
