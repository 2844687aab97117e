/** Parts of small texts that tests put together; a test that extends it uses them by their bare names. */
abstract class DayText {
    /** The kitchen is in the middle, so that a house at 50 is reached at once. */
    static final String START = "law hot 60 by 700;kitchen k at 50 hot 80;diet n bars z";
    static final String CAR = "car c from k starts 600 holds 6 cools 0";
    static final int LEAST = Integer.MIN_VALUE;
    static final int MOST = Integer.MAX_VALUE;

    static String text(String... lines) {
        return START + ";" + String.join(";", lines);
    }

    /** A house by its doors, tea, chance and need. */
    static String house(char name, int at, String numbers) {
        String[] parts = numbers.split(" ");
        return "house " + name + " at " + at + " eats n doors " + parts[0] + " tea " + parts[1] + " chance " + parts[2]
                + " need " + parts[3];
    }

    static String house(char name, int at) {
        return house(name, at, "0 0 0 1");
    }

    static String sixHouses() {
        return String.join(";", house('s', 50), house('t', 51), house('u', 52), house('v', 53), house('w', 54),
                house('x', 55));
    }

    static String car(String name, int starts, int holds, int cools) {
        return "car " + name + " from k starts " + starts + " holds " + holds + " cools " + cools;
    }

    /** A day whose first car drives some houses. */
    static NoonMeals driven(String text, int... houses) {
        NoonMeals x = Check.told(text);
        for (int house : houses) {
            x.drive(0, house);
        }
        return x;
    }
}
