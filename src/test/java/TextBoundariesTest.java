/**
 * The boundary cases of Terms I and of promises 2 to 5: THE TAPE, TOKENS, LINES, NAMES and FAULTS. Each
 * method has the document's sentence above it.
 */
public final class TextBoundariesTest {
    private static final String LAW = "law hot 40 by 900";
    private static final String KITCHEN = "kitchen k at 0 hot 60";
    private static final String DIET = "diet n bars z";
    private static final String HOUSE = "house h at 0 eats n doors 0 tea 0 chance 0 need 1";
    private static final String CAR = "car c from k starts 500 holds 6 cools 0";
    private static final String DAY = String.join(";", LAW, KITCHEN, DIET, HOUSE, CAR);
    private static final String[] NO_NAMES = {"law", "kitchen", "flood", "dish", "diet", "house", "car", "call",
        "helper", "dog", "afraid"};
    /** The words of lines that may be names all the same. */
    private static final String[] OTHER_WORDS = {"hot", "by", "at", "adds", "of", "costs", "bars", "eats", "doors",
        "tea", "chance", "need", "from", "starts", "holds", "cools", "takes", "days", "most", "laws", "dogs", "ca"};
    /** Each sort that has names, as far as its name, and what stands behind it. */
    private static final String[][] NAMED = {{"kitchen", " at 0 hot 60"}, {"dish", " of a costs 1"},
        {"diet", " bars a"}, {"house", " at 0 eats n doors 0 tea 0 chance 0 need 1"},
        {"car", " from k starts 500 holds 1 cools 0"}, {"call", " takes 1 chance 0"}, {"helper", " days 0 most 1"}};
    /** A line of each sort, with all that may stand in it. */
    private static final String[] ALL_LINES = {LAW, KITCHEN, DIET, HOUSE + " dog", CAR + " afraid", "flood 0 adds 1",
        "dish x of a costs 1", "call x takes 1 chance 0", "helper x days 0, 1 most 1"};
    private static final int[] NO_TOKEN = {0, 9, 10, 13, 31, 33, '-', '.', '/', ':', '@', 'A', 'Z', '`', '{', 127, 128,
        160, 224, 250, 255};
    private static final Check CHECK = new Check("TextBoundariesTest");

    private TextBoundariesTest() {
    }

    public static void main(String[] args) {
        tapeFills();
        tapeKeepsWhatItHas();
        bytesOfANumber();
        lastByteOfAFullTape();
        dayOfWrongNumbers();
        dayOfNothing();
        dayOfAPart();
        dayEmptiesTheTape();
        latestFault();
        placeOfTheLatestFault();
        blanks();
        wordsOfEight();
        unlikeNames();
        wholesOfThree();
        noTokens();
        signsAlone();
        linesAndTheirEnd();
        wordsOfLines();
        wordsThatAreNoNames();
        wordsThatAreNames();
        namesOfAllSortsToldAgain();
        namesAheadOfTheirUse();
        namesOfAnotherSort();
        wholesAtTheirBounds();
        lettersCountOnce();
        perhapsBehindALine();
        nothingOfAnotherText();
        daysOfAHelper();
        fullRooms();
        oneLineMore();
        secondLaw();
        lacks();
        leastNumberOfAPlace();
        firstFromTheLeft();
        CHECK.end();
    }

    private static String behindDay(String line) {
        return DAY + ";" + line;
    }

    /** "THE TAPE has 900 bytes"; "NONE, and none comes, if there would be more than 900". */
    private static void tapeFills() {
        NoonMeals x = new NoonMeals();
        CHECK.due("an empty tape", 0, x.size(10));
        for (int bytes = 20; bytes <= 900; bytes += 20) {
            CHECK.due("feed up to " + bytes, bytes, x.feed(-1, 0, 1, Integer.MIN_VALUE, Integer.MAX_VALUE));
            CHECK.due("size(10) of " + bytes, bytes, x.size(10));
        }
        for (int i = 0; i < 3; i++) {
            CHECK.due("feed beyond 900", -1, x.feed(0, 0, 0, 0, 0));
            CHECK.due("size(10) beyond 900", 900, x.size(10));
        }
    }

    /** "and none comes": a feed that is refused changes no byte that is there. */
    private static void tapeKeepsWhatItHas() {
        NoonMeals x = new NoonMeals();
        Check.feed(x, DAY + " ".repeat(900 - DAY.length()));
        CHECK.due("feed beyond a full text", -1, x.feed(-1, -1, -1, -1, -1));
        CHECK.due(x, "the full text", 1, 0, x.day(900));
        CHECK.due("feed into the tape that is empty again", 20, x.feed(0, 0, 0, 0, 0));
    }

    /** "Twenty bytes come behind THE TAPE, of each number the highest first". */
    private static void bytesOfANumber() {
        for (int place = 0; place < 20; place++) {
            for (int sign : new int[] {'!', 128, 255}) {
                int[] numbers = new int[5];
                for (int i = 0; i < 20; i++) {
                    numbers[i / 4] = numbers[i / 4] << 8 | (i == place ? sign : ' ');
                }
                NoonMeals x = new NoonMeals();
                x.feed(numbers[0], numbers[1], numbers[2], numbers[3], numbers[4]);
                CHECK.due(x, "day of the byte " + sign, -1, 4, x.day(20));
                CHECK.due("place of the byte " + sign, place, x.where());
            }
        }
    }

    private static void lastByteOfAFullTape() {
        String blanks = " ".repeat(900 - DAY.length() - 1);
        CHECK.dueGood(DAY + blanks + " ");
        CHECK.dueFault(DAY + blanks + ";^", 1);
        CHECK.dueFault(DAY + blanks + "^!", 1);
        String text = DAY + " afraid;" + HOUSE.replace("house h", "house i");
        String dog = text + " ".repeat(897 - text.length()) + "dog";
        CHECK.due("bytes of the text", 900, dog.length());
        NoonMeals x = Check.told(dog);
        x.drive(0, 1);
        x.drive(0, 0);
        CHECK.due("comes(0) behind the house whose dog is told by the last bytes", 505, x.comes(0));
        CHECK.dueFault(dog.substring(0, 897) + "^do", 1);
        CHECK.dueGood(dog.substring(0, 897));
    }

    /** "NONE: 2 (THE TAPE stays)". */
    private static void dayOfWrongNumbers() {
        NoonMeals x = new NoonMeals();
        for (int n : new int[] {-1, 1, 20, 900, 901, Integer.MIN_VALUE, Integer.MAX_VALUE}) {
            CHECK.due(x, "day(" + n + ") of an empty tape", -1, 2, x.day(n));
        }
        Check.feed(x, DAY);
        int held = x.size(10);
        for (int n : new int[] {-1, held + 1, 900, 901, Integer.MIN_VALUE, Integer.MAX_VALUE}) {
            CHECK.due(x, "day(" + n + ") of " + held, -1, 2, x.day(n));
            CHECK.due("the tape behind day(" + n + ")", held, x.size(10));
            CHECK.due("no day behind day(" + n + ")", 0, x.size(3));
        }
        CHECK.due(x, "the day of the tape that stayed", 1, 0, x.day(DAY.length()));

        NoonMeals whole = new NoonMeals();
        Check.feed(whole, LAW + "   ");
        CHECK.due(whole, "day of all bytes", -1, 4, whole.day(20));
        CHECK.due("it reached the end", 6, whole.fault());
    }

    /** The empty text: "the end: its place". */
    private static void dayOfNothing() {
        NoonMeals x = new NoonMeals();
        CHECK.due(x, "day(0) of an empty tape", -1, 4, x.day(0));
        CHECK.due("fault of nothing", 1, x.fault());
        CHECK.due("place of nothing", 0, x.where());
        Check.feed(x, DAY);
        CHECK.due(x, "day(0) of a text", -1, 4, x.day(0));
        CHECK.due("fault of none of a text", 1, x.fault());
        CHECK.due("place of none of a text", 0, x.where());
        CHECK.due("the tape behind day(0)", 0, x.size(10));
        CHECK.dueFault(" ^", 1);
        CHECK.dueFault(" ".repeat(900) + "^", 1);
    }

    /** "The first n bytes of THE TAPE": what stands behind them isn't read, even within a token. */
    private static void dayOfAPart() {
        NoonMeals x = new NoonMeals();
        Check.feed(x, LAW);
        CHECK.due(x, "day of all but a digit", -1, 4, x.day(LAW.length() - 1));
        CHECK.due("fault of by 90", 4, x.fault());
        CHECK.due("place of by 90", 14, x.where());
        Check.feed(x, LAW);
        CHECK.due(x, "day of a word's part", -1, 4, x.day(2));
        CHECK.due("fault of la", 1, x.fault());
        CHECK.due("place of la", 0, x.where());
        Check.feed(x, DAY + "000");
        CHECK.due(x, "day of all but digits that stand behind it", 1, 0, x.day(DAY.length()));
        Check.feed(x, DAY + "abcdefghij");
        CHECK.due(x, "day of all but letters that stand behind it", 1, 0, x.day(DAY.length()));
    }

    /** "(it is empty then)": behind a day and behind a fault, and no byte of it is read again. */
    private static void dayEmptiesTheTape() {
        NoonMeals x = new NoonMeals();
        Check.feed(x, DAY + ";" + LAW);
        CHECK.due(x, "a day", 1, 0, x.day(DAY.length()));
        CHECK.due("the tape behind a day", 0, x.size(10));
        CHECK.due(x, "day(1) behind a day", -1, 2, x.day(1));
        Check.feed(x, LAW);
        CHECK.due(x, "a fault", -1, 4, x.day(LAW.length()));
        CHECK.due("the tape behind a fault", 0, x.size(10));
        CHECK.due(x, "day(1) behind a fault", -1, 2, x.day(1));
        CHECK.due("the day stays behind a fault", 1, x.size(3));
        CHECK.due("the first bytes behind a fault", 20, x.feed(0, 0, 0, 0, 0));
    }

    /** "The FAULT of the latest day() not refused by 2; 0 without one." */
    private static void latestFault() {
        NoonMeals x = new NoonMeals();
        CHECK.due("fault() without a day()", 0, x.fault());
        x.day(1);
        CHECK.due("fault() behind a first day() refused by 2", 0, x.fault());
        Check.tell(x, LAW);
        CHECK.due("fault() behind LACKS", 6, x.fault());
        x.day(-1);
        CHECK.due("fault() stays behind a day() refused by 2", 6, x.fault());
        x.way(-1, -1);
        CHECK.due("fault() stays behind another call", 6, x.fault());
        Check.tell(x, DAY);
        CHECK.due("fault() behind a day", 0, x.fault());
        x.day(-1);
        CHECK.due("fault() stays 0 behind a day() refused by 2", 0, x.fault());
    }

    /** "Its place, if the latest call that may be refused was by 4; NONE else." */
    private static void placeOfTheLatestFault() {
        NoonMeals x = new NoonMeals();
        CHECK.due("where() without a day()", -1, x.where());
        x.day(0);
        CHECK.due("where() at 0", 0, x.where());
        x.day(-1);
        CHECK.due("where() behind a day() refused by 2", -1, x.where());
        Check.tell(x, LAW);
        CHECK.due("where() behind LACKS", LAW.length(), x.where());
        x.firstCold();
        CHECK.due("where() behind a call refused by 1", -1, x.where());
        Check.tell(x, DAY);
        CHECK.due("where() behind a day", -1, x.where());
        Check.tell(x, LAW);
        CHECK.due("where() behind a fault that leaves the day", LAW.length(), x.where());
        x.firstCold();
        CHECK.due("where() behind a call that isn't refused", -1, x.where());
        Check.tell(x, "!");
        x.trouble();
        x.fault();
        x.feed(0, 0, 0, 0, 0);
        CHECK.due("where() behind calls that can't be refused", 0, x.where());
    }

    /** "blanks, 32, part TOKENS and mean nothing else". */
    private static void blanks() {
        CHECK.dueGood(" " + DAY);
        CHECK.dueGood(DAY + " ");
        CHECK.dueGood("   " + DAY.replace(" ", "  ").replace(";", "   ;  ") + "   ");
        CHECK.dueGood(DAY.replaceAll(" ?([0-9]+) ?", "$1"));
        CHECK.dueGood(behindDay("helper x days 0 , 1 ,2, 3 most 7"));
        CHECK.dueFault("^la w hot 40 by 900", 1);
        CHECK.dueFault("^lawhot 40 by 900", 1);
        CHECK.dueFault("law hot ^4 0 by 900", 4);
        CHECK.dueFault("law hot 40 ^0 by 900", 1);
    }

    /** "WORDS of 1 to 8 small letters that stand together". */
    private static void wordsOfEight() {
        for (String[] line : NAMED) {
            CHECK.dueGood(behindDay(line[0] + " x" + line[1]));
            CHECK.dueGood(behindDay(line[0] + " abcdefgh" + line[1]));
            CHECK.dueFault(behindDay(line[0] + " ^abcdefghi" + line[1]), 1);
        }
        CHECK.dueGood(behindDay("dish x of abcdefgh costs 1;diet y bars stuvwxyz"));
        CHECK.dueFault(behindDay("dish x of ^abcdefghi costs 1"), 1);
        CHECK.dueFault(behindDay("diet x bars ^aaaaaaaaa"), 1);
        CHECK.dueFault(behindDay("diet x bars ^" + "a".repeat(300)), 1);
        CHECK.dueFault("^" + "a".repeat(900), 1);
        CHECK.dueFault(behindDay("house x at 0 eats ^nnnnnnnnn"), 1);
        CHECK.dueFault(behindDay("house x at 0 eats ^nnnnnnnn"), 2);
        CHECK.dueFault(behindDay("^kitchenkk"), 1);
    }

    private static void unlikeNames() {
        CHECK.dueGood(behindDay("diet abcdefgh bars a;diet abcdefgi bars a;diet bbcdefgh bars a"));
        CHECK.dueGood(behindDay("diet a bars a;diet aa bars a;diet aaaaaaaa bars a"));
        CHECK.dueGood(behindDay("diet za bars a;diet az bars a;diet zzzzzzzz bars a"));
        CHECK.dueGood(behindDay("diet b bars a;diet bb bars a;diet bbbbbbbb bars a"));
        CHECK.dueGood(behindDay("diet ab bars a;diet bb bars a;diet b bars a"));
        CHECK.dueFault(behindDay("diet abcdefgh bars a;diet ^abcdefgh bars a"), 3);
        CHECK.dueFault(behindDay("diet zzzzzzzz bars a;diet ^zzzzzzzz bars a"), 3);
        CHECK.dueFault(behindDay("diet abcdefgh bars a;house x at 0 eats ^abcdefg"), 2);
    }

    /** "WHOLES of 1 to 3 digits that do". */
    private static void wholesOfThree() {
        for (String zero : new String[] {"0", "00", "000"}) {
            CHECK.dueGood(DAY.replace("at 0", "at " + zero));
        }
        CHECK.dueGood(DAY.replace("hot 40", "hot 040"));
        CHECK.dueFault("law hot ^0040 by 900", 1);
        CHECK.dueFault("law hot 40 by ^0900", 1);
        CHECK.dueFault("kitchen k at ^0000", 1);
        CHECK.dueFault("kitchen k at ^4294967296 hot 60", 1);
        CHECK.dueFault("kitchen k at ^" + "0".repeat(300), 1);
        CHECK.dueFault("helper x days 0,^0001", 1);
        CHECK.dueFault("^" + "9".repeat(900), 1);
    }

    /** "the first byte that begins no TOKEN". */
    private static void noTokens() {
        for (int sign : NO_TOKEN) {
            CHECK.dueFault("^" + (char) sign + DAY, 1);
            CHECK.dueFault(DAY + "^" + (char) sign, 1);
            CHECK.dueFault("law^" + (char) sign + "hot 40 by 900", 1);
            CHECK.dueFault("law hot 40^" + (char) sign + " by 900", 1);
            CHECK.dueFault("law hot ^4" + (char) sign, 4);
        }
        for (int sign : new int[] {'a', 'z'}) {
            CHECK.dueGood(behindDay("diet " + (char) sign + " bars " + (char) sign));
        }
    }

    /** "single ones of ; ,". */
    private static void signsAlone() {
        CHECK.dueFault("^;" + DAY, 1);
        CHECK.dueFault(LAW + ";^;" + KITCHEN, 1);
        CHECK.dueFault(LAW + "^,", 1);
        CHECK.dueFault(LAW + ";^,", 1);
        CHECK.dueFault("law^,", 1);
        CHECK.dueFault("law^;", 1);
        CHECK.dueFault("helper x days^,", 1);
        CHECK.dueFault("helper x days 1,^,", 1);
        CHECK.dueFault("helper x days 1,^;", 1);
        CHECK.dueFault("helper x days 1^;", 1);
    }

    /** "LINE {; LINE}"; "TOKEN with which no DAY goes on (the end: its place)". */
    private static void linesAndTheirEnd() {
        CHECK.dueFault(DAY + ";^", 1);
        CHECK.dueFault(DAY + ";   ^", 1);
        for (String line : ALL_LINES) {
            String[] tokens = line.replace(",", " ,").split(" ");
            StringBuilder part = new StringBuilder(aheadOf(line));
            for (int i = 0; i < tokens.length; i++) {
                part.append(tokens[i]);
                boolean isLine = i == tokens.length - 1 || tokens[i + 1].equals("dog") || tokens[i + 1].equals("afraid");
                CHECK.dueFault(part + "^", isLine ? 6 : 1);
                CHECK.dueFault(part + "  ^", isLine ? 6 : 1);
                CHECK.dueFault(part + " ^!", 1);
                part.append(' ');
            }
        }
    }

    /** "TOKEN with which no DAY goes on": a line's word with another first or last letter, or one more or less. */
    private static void wordsOfLines() {
        for (String line : ALL_LINES) {
            String[] tokens = line.split(" ");
            String before = aheadOf(line);
            for (int i = 0; i < tokens.length; i++) {
                String word = tokens[i];
                if (word.length() > 1 && Character.isLetter(word.charAt(0))) {
                    CHECK.dueFault(before + "^" + "q" + word.substring(1), 1);
                    CHECK.dueFault(before + "^" + word.substring(0, word.length() - 1) + "q", 1);
                    CHECK.dueFault(before + "^" + word.substring(0, word.length() - 1), 1);
                    CHECK.dueFault(before + "^" + word.substring(1), 1);
                    CHECK.dueFault(before + "^" + word + "q", 1);
                }
                before += word + " ";
            }
        }
    }

    /** The names that a line needs, told. */
    private static String aheadOf(String line) {
        return line.startsWith("house") ? DIET + ";" : line.startsWith("car") ? KITCHEN + ";" : "";
    }

    /** "NAMES are WORDS but law, kitchen, .." */
    private static void wordsThatAreNoNames() {
        for (String word : NO_NAMES) {
            for (String[] line : NAMED) {
                CHECK.dueFault(behindDay(line[0] + " ^" + word + line[1]), 1);
            }
            CHECK.dueFault(behindDay("house x at 0 eats ^" + word), 1);
            CHECK.dueFault(behindDay("car x from ^" + word), 1);
            CHECK.dueGood(behindDay("dish x of " + word + " costs 1;diet y bars " + word));
        }
    }

    private static void wordsThatAreNames() {
        for (String word : OTHER_WORDS) {
            for (String[] line : NAMED) {
                CHECK.dueGood(behindDay(line[0] + " " + word + line[1]));
            }
            CHECK.dueGood(DAY.replace("diet n", "diet " + word).replace("eats n", "eats " + word));
            CHECK.dueGood(DAY.replace("kitchen k", "kitchen " + word).replace("from k", "from " + word));
            CHECK.dueFault(behindDay("^" + word), 1);
        }
    }

    /** "each told once": "3 a NAME told again", of its own sort and of another. */
    private static void namesOfAllSortsToldAgain() {
        for (String[] first : NAMED) {
            for (String[] again : NAMED) {
                String lines = first[0] + " x" + first[1] + ";" + again[0];
                CHECK.dueFault(behindDay(lines + " ^x" + again[1]), 3);
                CHECK.dueGood(behindDay(lines + " y" + again[1]));
            }
        }
    }

    /** "ahead of its use": "2 a NAME that isn't told". */
    private static void namesAheadOfTheirUse() {
        CHECK.dueFault(String.join(";", LAW, KITCHEN, HOUSE.replace("eats n", "eats ^n"), DIET, CAR), 2);
        CHECK.dueFault(String.join(";", LAW, DIET, HOUSE, CAR.replace("from k", "from ^k"), KITCHEN), 2);
        CHECK.dueGood(String.join(";", DIET, HOUSE, KITCHEN, CAR, LAW));
        CHECK.dueFault("house h at 0 eats ^h", 2);
        CHECK.dueFault("car c from ^c", 2);
    }

    /** "or is of another sort than must stand there; at it". */
    private static void namesOfAnotherSort() {
        for (String[] line : NAMED) {
            String ahead = line[0] + " x" + line[1] + ";";
            if (!line[0].equals("diet")) {
                CHECK.dueFault(behindDay(ahead + "house y at 0 eats ^x"), 2);
            }
            if (!line[0].equals("kitchen")) {
                CHECK.dueFault(behindDay(ahead + "car y from ^x"), 2);
            }
        }
    }

    /** "4 a WHOLE out of bounds; at it", in each line, and what is right behind the last good number. */
    private static void wholesAtTheirBounds() {
        String house = "house x at # eats n doors # tea # chance # need #";
        dueBounds("law hot # by #", "40-90", "600-900");
        dueBounds("kitchen x at # hot #", "0-99", "60-99");
        dueBounds("flood # adds #", "0-98", "1-60");
        dueBounds("dish x of a costs #", "1-99");
        dueBounds(house, "0-99", "0-30", "0-60", "0-100", "1-9");
        dueBounds(house + " dog", "0-99", "0-30", "0-60", "0-100", "1-9");
        dueBounds("car x from k starts # holds # cools #", "500-800", "1-6", "0-50");
        dueBounds("call x takes # chance #", "1-60", "0-100");
        dueBounds("helper x days # most #", "0-6", "1-7");
    }

    /** All at the least, all at the most; then each one beyond, the others at the least. */
    private static void dueBounds(String line, String... bounds) {
        String day = line.startsWith("law") ? DAY.substring(LAW.length() + 1) : DAY;
        int count = bounds.length;
        String[] least = new String[count];
        String[] most = new String[count];
        for (int i = 0; i < count; i++) {
            least[i] = bounds[i].split("-")[0];
            most[i] = bounds[i].split("-")[1];
        }
        CHECK.dueGood(day + ";" + filled(line, least));
        CHECK.dueGood(day + ";" + filled(line, most));
        for (int i = 0; i < count; i++) {
            String[] numbers = least.clone();
            numbers[i] = "^" + (Integer.parseInt(most[i]) + 1);
            CHECK.dueFault(day + ";" + filled(line, numbers), 4);
            numbers[i] = "^999";
            CHECK.dueFault(day + ";" + filled(line, numbers), 4);
            if (!least[i].equals("0")) {
                numbers[i] = "^" + (Integer.parseInt(least[i]) - 1);
                CHECK.dueFault(day + ";" + filled(line, numbers), 4);
                numbers[i] = "^0";
                CHECK.dueFault(day + ";" + filled(line, numbers), 4);
            }
        }
    }

    private static String filled(String line, String[] numbers) {
        String text = line;
        for (String number : numbers) {
            text = text.replaceFirst("#", number);
        }
        return text;
    }

    /** "LETTERS: a WORD, each letter of which counts": the first and the last, and one that stands twice. */
    private static void lettersCountOnce() {
        NoonMeals x = Check.told(DAY.replace("bars z", "bars azbyza") + ";dish x of az costs 1;dish y of zz costs 1"
                + ";dish w of cdefghij costs 1;dish v of abyz costs 1");
        CHECK.due("breach of az", 1 | 1 << 25, x.breach(0, 0));
        CHECK.due("breach of zz", 1 << 25, x.breach(0, 1));
        CHECK.due("breach of none", 0, x.breach(0, 2));
        CHECK.due("breach of all", 1 | 2 | 1 << 24 | 1 << 25, x.breach(0, 3));
    }

    /** "behind it perhaps dog", "behind it perhaps afraid". */
    private static void perhapsBehindALine() {
        String house = "house x at 0 eats n doors 0 tea 0 chance 0 need 1";
        String car = "car x from k starts 500 holds 1 cools 0";
        CHECK.dueGood(behindDay(house));
        CHECK.dueGood(behindDay(house + " dog"));
        CHECK.dueGood(behindDay(house + "dog"));
        CHECK.dueGood(behindDay(car + " afraid"));
        CHECK.dueFault(behindDay(house + " dog ^dog"), 1);
        CHECK.dueFault(behindDay(house + " ^afraid"), 1);
        CHECK.dueFault(behindDay(house + " ^do"), 1);
        CHECK.dueFault(behindDay(house + " ^dogs"), 1);
        CHECK.dueFault(behindDay(car + " ^dog"), 1);
        CHECK.dueFault(behindDay(car + " afraid ^afraid"), 1);
        CHECK.dueFault(behindDay("kitchen x at 0 hot 60 ^dog"), 1);
        CHECK.dueFault(behindDay("call x takes 1 chance 0 ^afraid"), 1);
    }

    /** A text tells all of its day: names, dogs, fears and rows of texts ahead of it are gone. */
    private static void nothingOfAnotherText() {
        String calm = DAY + ";" + HOUSE.replace("house h", "house i");
        String wild = calm.replace("need 1", "need 1 dog").replace("cools 0", "cools 0 afraid") + ";flood 0 adds 1";
        NoonMeals x = new NoonMeals();
        for (String text : new String[] {wild, wild, calm, calm, wild + ";", calm, wild, calm}) {
            if (Check.tell(x, text) == 2) {
                x.drive(0, 0);
                x.drive(0, 1);
                CHECK.due("comes behind a dog, or none", text.equals(wild) ? 505 : 500, x.comes(1));
                CHECK.due("floods", text.equals(wild) ? 1 : 0, x.size(5));
            }
        }
        CHECK.due(x, "a name of the text ahead", -1, 4, Check.tell(x, LAW + ";car c from k starts 500 holds 1 cools 0"));
        CHECK.due("isn't told", 2, x.fault());
        CHECK.due(x, "the same names again", 1, 0, Check.tell(x, DAY));
    }

    /** "WHOLE {, WHOLE} .. (0 .. 6, unlike ones)"; "a day of a helper told again; at it". */
    private static void daysOfAHelper() {
        CHECK.dueGood(behindDay("helper x days 0 most 1"));
        CHECK.dueGood(behindDay("helper x days 6 most 7"));
        CHECK.dueGood(behindDay("helper x days 6,5,4,3,2,1,0 most 7"));
        CHECK.dueGood(behindDay("helper x days 0 most 1;helper y days 0 most 1"));
        CHECK.dueFault(behindDay("helper x days ^7 most 1"), 4);
        CHECK.dueFault(behindDay("helper x days 0,1,2,3,4,5,6,^7 most 1"), 4);
        for (int day = 0; day <= 6; day++) {
            CHECK.dueFault(behindDay("helper x days 0,1,2,3,4,5,6,^" + day + " most 1"), 3);
            CHECK.dueFault(behindDay("helper x days " + day + ",^00" + day + " most 1"), 3);
        }
        CHECK.dueFault(behindDay("helper x days ^most 1"), 1);
        CHECK.dueFault(behindDay("helper x days 0,1,2,3,4,5,6 ^0 most 1"), 1);
        CHECK.dueFault(behindDay("helper x days 0,1,2,3,4,5,6,^most 1"), 1);
    }

    /** "up to 3", "up to 6", ..: all rooms full in one text, and the last row of each sort is heeded. */
    private static void fullRooms() {
        StringBuilder text = new StringBuilder("law hot40by900");
        add(text, 3, ' ', "flood9#adds60");
        add(text, 6, 'a', "dish @ of q costs1#");
        add(text, 4, 'g', "diet @ bars z");
        add(text, 6, 'k', "house @ at1#eats j doors0tea0chance0need1");
        add(text, 5, 'q', "call @ takes1#chance0");
        add(text, 5, 'a', "helper h@ days#most1");
        add(text, 3, 'v', "kitchen @ at1#hot60");
        add(text, 3, 'y', "car @ from x starts500holds6cools0");
        NoonMeals x = Check.told(text.toString());
        int[] sizes = {3, 6, 4, 6, 3, 3, 5, 5};
        for (int what = 0; what < sizes.length; what++) {
            CHECK.due("size(" + what + ") of full rooms", sizes[what], x.size(what));
        }
        CHECK.due("the last flood", 61, x.way(92, 93));
        CHECK.due("the last house by the last car", 1, x.drive(2, 5));
        CHECK.due("from the last kitchen, at 12, to 15", 503, x.comes(5));
        CHECK.due("recall of the last kitchen", 32, x.recall(2));
        CHECK.due("the last dish", 1, x.fits(5, 5));
        CHECK.due("the last diet", 10, x.menu(3, 1));
        x.knock();
        CHECK.due("the last call", 4, x.callAt(4));
        CHECK.due("all helpers", 5, x.fill());
        CHECK.due("the last helper", 4, x.helper(4));
    }

    /** Adds lines with the row's digit for # and its letter for @: a to z, then aa. */
    private static void add(StringBuilder text, int count, char first, String line) {
        for (int row = 0; row < count; row++) {
            String name = first + row > 'z' ? "aa" : "" + (char) (first + row);
            text.append(';').append(line.replace("@", name).replace("#", "" + row));
        }
    }

    /** "5 MANY: a LINE more of its sort than there is room for, at its first WORD", whatever follows. */
    private static void oneLineMore() {
        String[] lines = {"kitchen @ at 0 hot 60", "flood 0 adds 1", "dish @ of a costs 1", "diet @ bars a",
            "house @ at 0 eats n doors 0 tea 0 chance 0 need 1", "car @ from k starts 500 holds 1 cools 0",
            "call @ takes 1 chance 0", "helper @ days 0 most 1"};
        int[] free = {2, 3, 6, 3, 5, 2, 5, 5};
        for (int i = 0; i < lines.length; i++) {
            String sort = lines[i].split(" ")[0];
            StringBuilder text = new StringBuilder(DAY);
            for (int row = 0; row < free[i]; row++) {
                text.append(';').append(lines[i].replace("@", "x" + (char) ('a' + row)));
            }
            CHECK.dueGood(text.toString());
            CHECK.dueFault(text + ";^" + sort, 5);
            CHECK.dueFault(text + "; ^" + sort + " !", 5);
            CHECK.dueFault(text + ";^" + lines[i].replace("@", "xz"), 5);
            CHECK.dueFault(text + ";^" + lines[i].replace("@", "xa"), 5);
            CHECK.dueFault(text + ";^" + lines[i].replace("@", "law"), 5);
            CHECK.dueFault(text + ";^" + sort + "s", 1);
        }
    }

    /** "a second law; at that WORD". */
    private static void secondLaw() {
        CHECK.dueFault(LAW + ";^" + LAW, 3);
        CHECK.dueFault(LAW + ";  ^law", 3);
        CHECK.dueFault(DAY + ";^law hot 39", 3);
        CHECK.dueFault(DAY + ";^law!", 3);
        CHECK.dueFault(DAY + ";^lawful", 1);
    }

    /** "6 LACKS, at the end: no law, no house, no car". */
    private static void lacks() {
        CHECK.dueFault(String.join(";", KITCHEN, DIET, HOUSE, CAR) + "^", 6);
        CHECK.dueFault(String.join(";", LAW, KITCHEN, DIET, CAR) + "^", 6);
        CHECK.dueFault(String.join(";", LAW, KITCHEN, DIET, HOUSE) + "^", 6);
        CHECK.dueFault(LAW + "^", 6);
        CHECK.dueFault(KITCHEN + ";" + CAR + "^", 6);
        CHECK.dueFault(DIET + ";" + HOUSE + "^", 6);
        CHECK.dueFault("flood 0 adds 1^", 6);
        CHECK.dueFault("flood 0 adds 1    ^", 6);
        CHECK.dueFault(LAW + " ".repeat(900 - LAW.length()) + "^", 6);
        CHECK.dueGood(DAY);
    }

    /** "of one place the least number". */
    private static void leastNumberOfAPlace() {
        // At the end: no line behind the semicolon, and no law.
        CHECK.dueFault(KITCHEN + ";^", 1);
        // No name, so not one that isn't told; no name, so not one that is told again.
        CHECK.dueFault("house h at 0 eats ^dog", 1);
        CHECK.dueFault("diet dogs bars a;diet ^dog bars a", 1);
        // Four digits are no whole, so none out of bounds.
        CHECK.dueFault("law hot ^1000", 1);
        CHECK.dueFault("helper x days 0,^0000", 1);
    }

    /** "the first that is met from the left". */
    private static void firstFromTheLeft() {
        CHECK.dueFault("law hot ^39 by 599", 4);
        CHECK.dueFault("law hot ^39!", 4);
        CHECK.dueFault("law hot 40^! by 599", 1);
        CHECK.dueFault("house h at ^100 eats n", 4);
        CHECK.dueFault("house h at 99 eats ^n doors 31", 2);
        CHECK.dueFault(KITCHEN + ";kitchen ^k at 100", 3);
        CHECK.dueFault(KITCHEN + ";kitchen x at ^100 hot 60;kitchen k", 4);
        CHECK.dueFault(LAW + ";^" + LAW + ";car c from k", 3);
        CHECK.dueFault("car c from ^k starts 500 holds 1 cools 0;" + LAW + ";" + LAW, 2);
        CHECK.dueFault("helper x days 1,^1,7 most 8", 3);
        CHECK.dueFault("helper x days ^7,7 most 8", 4);
    }
}
