import java.util.function.Supplier;

/**
 * Every number that a call takes: the least and the greatest that is allowed, each with its
 * answer, and the next one beyond each, with the code that is due.
 */
final class BoundsTest {
    private static final int NONE = -11;
    private static final int BAD = -12;
    private static final int REFUSED = -14;
    private static final int NOTHING = -15;

    /** A call with one number that is tried. */
    private interface Call {
        int of(FortHeralds x, int number);
    }

    private final Check check;

    private BoundsTest(Check check) {
        this.check = check;
    }

    public static void main(String[] args) {
        Check check = new Check();
        BoundsTest test = new BoundsTest(check);
        test.fortsOfRoads();
        test.fortsOfQuestions();
        test.fortsOfLetters();
        test.lastOfEight();
        test.leaguesOfRoads();
        test.waysAndBounds();
        test.whats();
        test.days();
        test.letters();
        test.places();
        test.codes();
        test.indices();
        test.numbersOfOrders();
        test.routesOf59Leagues();
        test.leapsOfEachBound();
        test.agesToFour();
        test.leapsToSixteen();
        test.waitsToThree();
        test.mostLeagues();
        check.end();
    }

    /** Each number is tried on an object of its own, so that none is in the way of another. */
    private void due(String name, Supplier<FortHeralds> make, Call call, int number, int answer) {
        check.due(name + " with " + number, call.of(make.get(), number), answer);
    }

    private void dueBeyond(String name, Supplier<FortHeralds> make, Call call, int least, int greatest, int code) {
        due(name, make, call, least - 1, code);
        due(name, make, call, greatest + 1, code);
        due(name, make, call, Integer.MIN_VALUE, code);
        due(name, make, call, Integer.MAX_VALUE, code);
        for (int bit = 5; bit < 32; bit++) {
            // A number that is in range only if its high bits are left out.
            if ((1 << bit) > greatest || (1 << bit) < 0) {
                due(name, make, call, (1 << bit) + least, code);
            }
        }
    }

    /** Three forts, of which a and b, and b and c, have a road; all is known; a letter lies in b. */
    private static FortHeralds three() {
        FortHeralds x = Check.rowOf(3, 4);
        x.day(1);
        x.letter(1, 0);
        return x;
    }

    private void dueForts(String name, Call call, int ofFirst, int ofLast) {
        due(name, BoundsTest::three, call, 0, ofFirst);
        due(name, BoundsTest::three, call, 2, ofLast);
        dueBeyond(name, BoundsTest::three, call, 0, 2, NONE);
    }

    private void fortsOfRoads() {
        dueForts("road(n, 2, 1)", (x, n) -> x.road(n, 2, 1), 3, REFUSED);
        dueForts("road(0, n, 1)", (x, n) -> x.road(0, n, 1), REFUSED, 3);
        dueForts("cut(n, 1)", (x, n) -> x.cut(n, 1), 4, 4);
        dueForts("cut(1, n)", (x, n) -> x.cut(1, n), 4, 4);
        dueForts("silence(n, true)", (x, n) -> x.silence(n, true), 1, 1);
        dueForts("silence(n, false)", (x, n) -> x.silence(n, false), REFUSED, REFUSED);
    }

    private void fortsOfQuestions() {
        for (int what = 0; what <= 3; what++) {
            int asked = what;
            int[] answers = {1, 2, 0, 0};
            dueForts("fortOf(n, " + what + ")", (x, n) -> x.fortOf(n, asked), answers[what], answers[what]);
        }
        dueForts("leagues(n, 1)", (x, n) -> x.leagues(n, 1), 4, 4);
        dueForts("leagues(1, n)", (x, n) -> x.leagues(1, n), 4, 4);
        dueForts("known(n, 0, 0)", (x, n) -> x.known(n, 0, 0), NOTHING, 8);
        dueForts("known(0, n, 0)", (x, n) -> x.known(0, n, 0), NOTHING, 8);
        dueForts("far(n, 2)", (x, n) -> x.far(n, 2), 8, 0);
        dueForts("far(0, n)", (x, n) -> x.far(0, n), 0, 8);
        dueForts("farAgain(n, 2)", (x, n) -> x.farAgain(n, 2), 8, 0);
        dueForts("farAgain(0, n)", (x, n) -> x.farAgain(0, n), 0, 8);
        dueForts("route(n, 2)", (x, n) -> x.route(n, 2), 8, 0);
        dueForts("route(0, n)", (x, n) -> x.route(0, n), 0, 8);
        dueForts("tell(n)", (x, n) -> x.tell(n), 9, 9);
    }

    private void fortsOfLetters() {
        dueForts("letter(n, 1)", (x, n) -> x.letter(n, 1), 1, 1);
        dueForts("letter(1, n)", (x, n) -> x.letter(1, n), 1, 1);
    }

    /** The eighth fort is 7, and has the letter h; there is no ninth. */
    private void lastOfEight() {
        FortHeralds x = Check.rowOf(8, 1);
        x.day(7);
        check.due("road(7, 0, 15)", x.road(7, 0, 15), 8);
        check.due("leagues(0, 7)", x.leagues(0, 7), 15);
        check.due("known(0, 7, 0)", x.known(0, 7, 0), 7);
        check.due("tell(7)", x.tell(7), 29);
        check.dueText("line of h", Check.lineOf(x), "h:a7g,b6g,c5g,d4g,e3g,f2g,g1g");
        check.due("route(7, 0)", x.route(7, 0), 7);
        check.dueText("line of the route", Check.lineOf(x), "h>g>f>e>d>c>b>a");
        check.due("mute h", Check.runText(x, "mute h"), 1);
        check.due("fortOf(7, 2)", x.fortOf(7, 2), 1);
        check.due("mute i", Check.runText(x, "mute i"), -1005);
        check.due("fortOf(8, 2)", x.fortOf(8, 2), NONE);
        check.due("letter(7, 8)", x.letter(7, 8), NONE);
        check.due("silence(8, true)", x.silence(8, true), NONE);
        check.due("far(7, 8)", x.far(7, 8), NONE);
        check.due("a country without forts", new FortHeralds().fortOf(0, 0), NONE);
    }

    private static FortHeralds two() {
        return Check.countryOf(2);
    }

    private void leaguesOfRoads() {
        Call call = (x, n) -> x.road(0, 1, n) < 0 ? x.road(0, 1, n) : x.leagues(1, 0);
        due("leagues of a road", BoundsTest::two, call, 1, 1);
        due("leagues of a road", BoundsTest::two, call, 15, 15);
        dueBeyond("leagues of a road", BoundsTest::two, call, 1, 15, BAD);
    }

    private void waysAndBounds() {
        for (int way = 0; way <= 2; way++) {
            due("way, and way(1) then", FortHeralds::new, (x, n) -> 10 * x.way(n) + x.way(1), way, way);
        }
        dueBeyond("way", FortHeralds::new, (x, n) -> x.way(n), 0, 2, BAD);
        for (int bound = 1; bound <= 8; bound++) {
            due("bound, and bound(1) then", FortHeralds::new, (x, n) -> 10 * x.bound(n) + x.bound(1), bound, 80 + bound);
        }
        dueBeyond("bound", FortHeralds::new, (x, n) -> x.bound(n), 1, 8, BAD);
    }

    private void whats() {
        dueBeyond("fortOf(1, n)", BoundsTest::three, (x, n) -> x.fortOf(1, n), 0, 3, BAD);
        due("fortOf(1, n)", BoundsTest::three, (x, n) -> x.fortOf(1, n), 0, 2);
        due("fortOf(1, n)", BoundsTest::three, (x, n) -> x.fortOf(1, n), 3, 1);
        dueBeyond("known(0, 2, n)", BoundsTest::three, (x, n) -> x.known(0, 2, n), 0, 3, BAD);
        due("known(0, 2, n)", BoundsTest::three, (x, n) -> x.known(0, 2, n), 0, 8);
        due("known(0, 2, n)", BoundsTest::three, (x, n) -> x.known(0, 2, n), 3, 0);
        dueBeyond("letterOf(0, n)", BoundsTest::three, (x, n) -> x.letterOf(0, n), 0, 4, BAD);
        due("letterOf(0, n)", BoundsTest::three, (x, n) -> x.letterOf(0, n), 0, 1);
        due("letterOf(0, n)", BoundsTest::three, (x, n) -> x.letterOf(0, n), 4, 0);
        dueBeyond("account(n)", BoundsTest::three, (x, n) -> x.account(n), 0, 15, BAD);
        due("account(n)", BoundsTest::three, (x, n) -> x.account(n), 0, 1);
        due("account(n)", BoundsTest::three, (x, n) -> x.account(n), 15, 7);
    }

    private void days() {
        Call call = (x, n) -> x.day(n) < 0 ? x.day(n) : x.account(0);
        due("day", FortHeralds::new, call, 1, 1);
        due("day", FortHeralds::new, call, 30, 30);
        dueBeyond("day", FortHeralds::new, call, 1, 30, BAD);
    }

    private static FortHeralds tenLetters() {
        FortHeralds x = Check.countryOf(3);
        for (int letter = 0; letter < 10; letter++) {
            x.letter(0, letter == 9 ? 2 : 1);
        }
        return x;
    }

    private void letters() {
        due("letterOf(n, 1), none written", BoundsTest::two, (x, n) -> x.letterOf(n, 1), 0, NONE);
        due("letterOf(n, 1)", BoundsTest::tenLetters, (x, n) -> x.letterOf(n, 1), 0, 1);
        due("letterOf(n, 1)", BoundsTest::tenLetters, (x, n) -> x.letterOf(n, 1), 9, 2);
        dueBeyond("letterOf(n, 1)", BoundsTest::tenLetters, (x, n) -> x.letterOf(n, 1), 0, 9, NONE);
        due("letterOf(n, 1), one written", BoundsTest::three, (x, n) -> x.letterOf(n, 1), 1, NONE);
    }

    private void places() {
        due("ranked, no forts", FortHeralds::new, (x, n) -> x.ranked(n), 0, NONE);
        due("ranked", BoundsTest::three, (x, n) -> x.ranked(n), 0, 1);
        due("ranked", BoundsTest::three, (x, n) -> x.ranked(n), 2, 2);
        dueBeyond("ranked", BoundsTest::three, (x, n) -> x.ranked(n), 0, 2, NONE);
        due("ranked of eight", () -> Check.countryOf(8), (x, n) -> x.ranked(n), 7, 7);
        due("ranked of eight", () -> Check.countryOf(8), (x, n) -> x.ranked(n), 8, NONE);
    }

    private void codes() {
        for (int code = 32; code <= 126; code++) {
            due("append", FortHeralds::new, (x, n) -> x.append(n), code, 1);
        }
        dueBeyond("append", FortHeralds::new, (x, n) -> x.append(n), 32, 126, BAD);
    }

    private void indices() {
        Call call = (x, n) -> x.tell(0) < 0 ? 0 : x.character(n);
        due("character", BoundsTest::three, call, 0, 'a');
        due("character", BoundsTest::three, call, 8, 'b');
        dueBeyond("character", BoundsTest::three, call, 0, 8, NONE);
        due("character of no line", FortHeralds::new, (x, n) -> x.character(n), 0, NONE);
    }

    /** In a text these numbers can be read, and cannot be carried out. */
    private void numbersOfOrders() {
        String[] done = {"road a-b 1", "road a-b 15", "road a-b 01", "way 0", "way 2", "bound 1", "bound 8", "day 1",
            "day 01", "day 30", "mute a", "mute b", "post a-b", "post b-a"};
        for (String order : done) {
            check.due(order, Check.runText(two(), order), 1);
        }
        String[] refused = {"road a-b 0", "road a-b 00", "road a-b 16", "road a-b 99", "way 3", "way 9", "bound 0",
            "bound 9", "day 0", "day 00", "day 31", "day 99", "mute c", "mute h", "open c", "post a-c", "post h-a",
            "cut a-c", "road b-c 1", "road c-b 1"};
        for (String order : refused) {
            check.due(order, Check.runText(two(), order), REFUSED);
        }
    }

    /** "A route has its leagues, from 1 to 59": 60 or more count as none. */
    private void routesOf59Leagues() {
        int[] last = {13, 14, 15};
        for (int leagues : last) {
            FortHeralds x = Check.rowOf(4, 15);
            x.fort();
            x.road(3, 4, leagues);
            x.day(8);
            int sum = 45 + leagues;
            check.due("a route of " + sum, x.known(0, 4, 0), sum < 60 ? sum : NOTHING);
            check.due("and back", x.known(4, 0, 0), sum < 60 ? sum : NOTHING);
            check.due("far is " + sum, x.far(0, 4), sum);
            check.due("wrong", x.wrong(), sum < 60 ? 0 : 2);
        }
        FortHeralds x = Check.rowOf(2, 1);
        check.due("a route of 1", x.known(0, 1, 0), 1);
    }

    /** "More leaps than the bound, which is from 1 to 8": as many as the bound are a route. */
    private void leapsOfEachBound() {
        for (int bound = 1; bound <= 8; bound++) {
            FortHeralds x = Check.rowOf(8, 1);
            x.bound(bound);
            x.day(10);
            for (int goal = 1; goal < 8; goal++) {
                check.due("bound " + bound + ": leaps to " + goal, x.known(0, goal, 2), goal <= bound ? goal : NOTHING);
                check.due("bound " + bound + ": back", x.known(7, 7 - goal, 2), goal <= bound ? goal : NOTHING);
            }
        }
    }

    /** "With the age of 4 it is none any more": 3 is its greatest. */
    private void agesToFour() {
        FortHeralds x = Check.rowOf(2, 3);
        x.silence(1, true);
        for (int age = 0; age <= 3; age++) {
            check.due("age", x.known(0, 1, 3), age);
            check.due("age of what is told", x.known(1, 0, 3), 0);
            check.due("changes", x.day(1), age == 3 ? 1 : 0);
        }
        check.due("none any more", x.known(0, 1, 3), NOTHING);
        check.due("none at all", x.fortOf(0, 1), 0);
        check.due("the other one is still told", x.known(1, 0, 3), 0);
    }

    /** "Is lost if it went 16 leaps without coming": 15 are not enough, and coming goes ahead. */
    private void leapsToSixteen() {
        FortHeralds x = fifteenLeaps();
        check.due("15 leaps: under way", x.letterOf(0, 2), 0);
        check.due("15 leaps", x.letterOf(0, 3), 15);
        FortHeralds y = fifteenLeaps();
        x.cut(x.letterOf(0, 0), 2);
        x.road(1 - x.letterOf(0, 0), 2, 1);
        x.day(1);
        check.due("16 leaps: lost", x.letterOf(0, 2), 2);
        check.due("16 leaps", x.letterOf(0, 3), 16);
        x.day(3);
        check.due("it goes no more", x.letterOf(0, 3), 16);
        y.day(1);
        check.due("16 leaps: come", y.letterOf(0, 2), 1);
        check.due("16 leaps, come", y.letterOf(0, 3), 16);
    }

    /** The road to c is laid at that one of a and b where the letter is not. */
    private static FortHeralds fifteenLeaps() {
        FortHeralds x = Check.rowOf(2, 1);
        x.fort();
        x.letter(0, 2);
        for (int leap = 0; leap < 15; leap++) {
            int at = x.letterOf(0, 0);
            x.cut(at, 2);
            x.road(1 - at, 2, 1);
            x.day(1);
        }
        x.cut(x.letterOf(0, 0), 2);
        x.road(x.letterOf(0, 0), 2, 1);
        return x;
    }

    private void waitsToThree() {
        FortHeralds x = two();
        x.letter(0, 1);
        int[] states = {0, 0, 2, 2};
        int[] waits = {1, 2, 3, 3};
        for (int day = 0; day < 4; day++) {
            x.day(1);
            check.due("how it is behind day " + day, x.letterOf(0, 2), states[day]);
            check.due("days on which it waited", x.letterOf(0, 4), waits[day]);
        }
        FortHeralds y = two();
        y.letter(0, 1);
        y.day(2);
        y.road(0, 1, 1);
        y.day(1);
        check.due("two days of waiting, then it comes", y.letterOf(0, 2), 1);
        check.due("its waits", y.letterOf(0, 4), 2);
    }

    private void mostLeagues() {
        FortHeralds x = Check.rowOf(8, 15);
        check.due("far over all forts", x.far(0, 7), 105);
        check.due("farAgain over all forts", x.farAgain(7, 0), 105);
        check.due("far of the least", Check.rowOf(2, 1).far(0, 1), 1);
        check.due("farAgain of the least", Check.rowOf(2, 1).farAgain(0, 1), 1);
    }
}
