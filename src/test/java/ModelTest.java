import java.util.NoSuchElementException;
import java.util.Random;

/** Runs of calls by chance, always the same ones: the class must answer as the plain model does. */
public final class ModelTest {
    private static final int RUNS = 400;
    private static final int CALLS = 512;
    private static final int TEXTS = 20000;
    private final Check check = new Check("ModelTest");
    private final Random random;
    private final TextMaker texts;
    private NoonMeals meals = new NoonMeals();
    private PlainModel model = new PlainModel();
    private int calls;
    private int days;

    private ModelTest(long seed) {
        random = new Random(seed);
        texts = new TextMaker(random);
    }

    public static void main(String[] args) {
        ModelTest test = new ModelTest(args.length > 0 ? Long.parseLong(args[0]) : 20261118L);
        for (int i = 0; i < TEXTS; i++) {
            test.readText();
        }
        for (int run = 0; run < RUNS; run++) {
            test.run();
        }
        test.check.due("enough days were told", true, test.days > RUNS);
        test.check.end();
    }

    private void readText() {
        meals = new NoonMeals();
        model = new PlainModel();
        String text = texts.day();
        tell(random.nextInt(8) == 0 ? text : texts.spoilt(text));
    }

    private void run() {
        meals = new NoonMeals();
        model = new PlainModel();
        calls = 0;
        while (calls < CALLS) {
            int kind = random.nextInt(150);
            if (calls > 20 && kind == 0 || kind == 1) {
                String text = texts.day();
                tell(random.nextInt(3) == 0 ? texts.spoilt(text) : text);
            } else {
                ask();
            }
        }
    }

    private void tell(String text) {
        for (int from = 0; from < text.length(); from += 20) {
            feed(Check.four(text, from), Check.four(text, from + 4), Check.four(text, from + 8),
                    Check.four(text, from + 12), Check.four(text, from + 16));
        }
        int n = text.length();
        same("day(" + n + ") of " + text, model.day(n), meals.day(n));
        days += model.trouble() == 0 ? 1 : 0;
    }

    private void feed(int a, int b, int c, int d, int e) {
        same("feed", model.feed(a, b, c, d, e), meals.feed(a, b, c, d, e));
    }

    private void same(String call, long want, long got) {
        calls++;
        check.due(call, want, got);
        check.due("trouble() behind " + call, model.trouble(), meals.trouble());
        check.due("fault() behind " + call, model.fault(), meals.fault());
        check.due("where() behind " + call, model.where(), meals.where());
    }

    private int row() {
        return random.nextInt(12) == 0 ? random.nextInt() >> random.nextInt(32) : random.nextInt(7) - 1;
    }

    private int carRow() {
        return random.nextInt(12) == 0 ? row() : random.nextInt(3);
    }

    private int bits() {
        return random.nextInt(10) == 0 ? random.nextInt() >> random.nextInt(32)
                : random.nextInt(1 << 1 + random.nextInt(6));
    }

    private int upTo(int most) {
        int kind = random.nextInt(20);
        return kind == 0 ? -1 : kind == 1 ? most + 1 : kind == 2 ? most : random.nextInt(most + 1);
    }

    private void ask() {
        int a = row();
        int b = row();
        int car = carRow();
        switch (random.nextInt(24)) {
            case 0, 1, 2:
                same("drive(" + car + ", " + a + ")", model.drive(car, a), meals.drive(car, a));
                break;
            case 3:
                if (random.nextInt(4) == 0) {
                    same("unload(" + car + ")", model.unload(car), meals.unload(car));
                } else {
                    int houses = bits();
                    same("tea(" + houses + ")", model.tea(houses) ? 1 : 0, meals.tea(houses) ? 1 : 0);
                }
                break;
            case 4:
                same("comes(" + a + ")", model.comes(a), meals.comes(a));
                break;
            case 5:
                same("heat(" + a + ")", model.heat(a), meals.heat(a));
                break;
            case 6:
                same("bad(" + car + ")", model.bad(car), meals.bad(car));
                break;
            case 7:
                int x = upTo(99);
                int y = upTo(99);
                same("way(" + x + ", " + y + ")", model.way(x, y), meals.way(x, y));
                break;
            case 8, 9:
                askBest(car, bits());
                break;
            case 10:
                if (random.nextInt(4) == 0) {
                    same("share()", model.share(), meals.share());
                }
                same("shared(" + a + ")", model.shared(a), meals.shared(a));
                break;
            case 11:
                same("odds(" + car + ")", model.odds(car), meals.odds(car));
                break;
            case 12:
                same("costs(" + a + ")", model.costs(a), meals.costs(a));
                break;
            default:
                askMore(a, b, car);
                break;
        }
    }

    private void askBest(int car, int houses) {
        int i = row();
        same("best(" + car + ", " + houses + ")", model.best(car, houses), meals.best(car, houses));
        same("bestAt(" + car + ", " + houses + ", " + i + ")", model.bestAt(car, houses, i),
                meals.bestAt(car, houses, i));
    }

    private void askMore(int a, int b, int car) {
        switch (random.nextInt(16)) {
            case 0:
                same("fits(" + a + ", " + b + ")", model.fits(a, b), meals.fits(a, b));
                same("breach(" + a + ", " + b + ")", model.breach(a, b), meals.breach(a, b));
                break;
            case 1:
                same("forAll()", model.forAll(), meals.forAll());
                break;
            case 2:
                int days = upTo(14);
                same("menu(" + a + ", " + days + ")", model.menu(a, days), meals.menu(a, days));
                break;
            case 3:
                int date = upTo(14);
                same("menuAt(" + date + ")", model.menuAt(date), meals.menuAt(date));
                break;
            case 4:
                int coin = random.nextInt(3) == 0 ? upTo(99999) : upTo(200);
                int dates = upTo(14);
                same("dropped(" + coin + ", " + dates + ")", model.dropped(coin, dates), meals.dropped(coin, dates));
                break;
            case 5:
                same("knock()", model.knock(), meals.knock());
                break;
            case 6:
                same("callAt(" + a + ")", model.callAt(a), meals.callAt(a));
                break;
            case 7:
                same("asTold()", model.asTold(), meals.asTold());
                break;
            case 8:
                same("fill()", model.fill(), meals.fill());
                break;
            case 9:
                same("helper(" + b + ")", model.helper(b), meals.helper(b));
                break;
            default:
                askSigns(a, car);
                break;
        }
    }

    private void askSigns(int a, int car) {
        int v = upTo(99);
        switch (random.nextInt(10)) {
            case 0, 1:
                int small = random.nextBoolean() ? v : v % 4;
                same("sign(" + a + ", " + small + ")", model.sign(a, small), meals.sign(a, small));
                break;
            case 2:
                same("fading(" + a + ")", model.fading(a), meals.fading(a));
                break;
            case 3, 4:
                int minute = random.nextInt(8) == 0 ? row() : 500 + upTo(500);
                same("probe(" + car + ", " + minute + ", " + v + ")", model.probe(car, minute, v),
                        meals.probe(car, minute, v));
                break;
            case 5:
                same("faulty(" + v + ")", model.faulty(v), meals.faulty(v));
                break;
            case 6:
                same("firstCold()", model.firstCold(), meals.firstCold());
                break;
            case 7:
                same("recall(" + a + ")", model.recall(a), meals.recall(a));
                break;
            case 8:
                same("led(" + car + ", " + a + ")", ledBy(true, car, a), ledBy(false, car, a));
                break;
            default:
                int what = upTo(11);
                same("size(" + what + ")", model.size(what), meals.size(what));
                break;
        }
    }

    private long ledBy(boolean plain, int car, int i) {
        try {
            return plain ? model.led(car, i) : meals.led(car, i);
        } catch (NoSuchElementException e) {
            return Long.MIN_VALUE;
        }
    }
}
