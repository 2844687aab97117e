import java.util.NoSuchElementException;

/** What the tests share: feeding a text, and telling which answers are not the ones due. */
final class Check {
    private final String name;
    private int asked;
    private int wrong;

    Check(String name) {
        this.name = name;
    }

    void due(String what, long want, long got) {
        asked++;
        if (want != got) {
            wrong++;
            System.out.println(name + ": " + what + " answered " + got + ", due is " + want);
        }
    }

    void due(String what, boolean want, boolean got) {
        due(what, want ? 1 : 0, got ? 1 : 0);
    }

    /** The answer, and the trouble behind it. */
    void due(NoonMeals meals, String what, long want, int trouble, long got) {
        due(what, want, got);
        due("trouble() behind " + what, trouble, meals.trouble());
    }

    void dueNoHouse(NoonMeals meals, int car, int i) {
        boolean thrown = false;
        try {
            meals.led(car, i);
        } catch (NoSuchElementException e) {
            thrown = true;
        }
        due("led(" + car + ", " + i + ") throws", true, thrown);
    }

    /** The text has a fault at the mark, which isn't part of it; behind the mark anything may stand. */
    void dueFault(String marked, int fault) {
        String text = marked.replace("^", "");
        NoonMeals meals = new NoonMeals();
        due(meals, "day of " + text, -1, 4, tell(meals, text));
        due("fault of " + text, fault, meals.fault());
        due("place in " + text, marked.indexOf('^'), meals.where());
    }

    void dueGood(String text) {
        NoonMeals meals = new NoonMeals();
        due(text + " has houses", true, tell(meals, text) > 0);
        due("trouble with " + text, 0, meals.trouble());
        due("fault of " + text, 0, meals.fault());
        due("place of no fault in " + text, -1, meals.where());
    }

    void end() {
        System.out.println(name + ": " + asked + " answers, " + wrong + " not as due");
        if (wrong != 0) {
            System.exit(1);
        }
    }

    /** Feeds a text, filled up with signs that would be a fault if they were read. */
    static void feed(NoonMeals meals, String text) {
        for (int from = 0; from < text.length(); from += 20) {
            meals.feed(four(text, from), four(text, from + 4), four(text, from + 8),
                    four(text, from + 12), four(text, from + 16));
        }
    }

    static int tell(NoonMeals meals, String text) {
        feed(meals, text);
        return meals.day(text.length());
    }

    static NoonMeals told(String text) {
        NoonMeals meals = new NoonMeals();
        if (tell(meals, text) < 1) {
            throw new IllegalStateException("fault " + meals.fault() + " at " + meals.where() + " of " + text);
        }
        return meals;
    }

    static int four(String text, int from) {
        int number = 0;
        for (int i = from; i < from + 4; i++) {
            number = number << 8 | (i < text.length() ? text.charAt(i) & 255 : '!');
        }
        return number;
    }
}
