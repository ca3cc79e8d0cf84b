/**
 * Each reason with its detail, by each method that names it; the order in which a method names
 * them; and what keeps the latest reason.
 */
final class ReasonsTest {
    private static final int REFUSED = -14;

    private final Check check;

    private ReasonsTest(Check check) {
        this.check = check;
    }

    public static void main(String[] args) {
        Check check = new Check();
        ReasonsTest test = new ReasonsTest(check);
        test.reason1();
        test.reason2();
        test.reason3();
        test.reason4();
        test.reason5();
        test.reason6();
        test.reason7();
        test.reason7InPlaceOfItsOwn();
        test.orderOfRoads();
        test.orderOfCuts();
        test.orderOfLetters();
        test.theLatest();
        test.kept();
        check.end();
    }

    private void due(String call, FortHeralds x, int answer, int reason, int detail) {
        check.due(call, answer, REFUSED);
        check.due(call + ": reason", x.reason(false), reason);
        check.due(call + ": detail", x.reason(true), detail);
    }

    /** Roads of 9 leagues: from a and b to all forts, and from c to d, e and f. */
    private static FortHeralds withSixteenRoads() {
        FortHeralds x = Check.countryOf(8);
        int roads = 0;
        for (int one = 0; one < 3; one++) {
            for (int other = one + 1; other < 8 && roads < 16; other++) {
                roads = x.road(one, other, 9);
            }
        }
        return x;
    }

    /** "1, there are 8 forts, 16 roads, or 10 letters: how many". */
    private void reason1() {
        FortHeralds x = withSixteenRoads();
        check.due("16 roads", x.account(2), 16);
        due("fort", x, x.fort(), 1, 8);
        due("road", x, x.road(5, 6, 9), 1, 16);
        for (int letter = 0; letter < 10; letter++) {
            check.due("letter", x.letter(0, 1), letter);
        }
        due("letter", x, x.letter(0, 1), 1, 10);
        x.day(1);
        due("letter, all have come", x, x.letter(1, 0), 1, 10);
        FortHeralds y = Check.countryOf(2);
        for (int letter = 0; letter < 10; letter++) {
            y.letter(0, 1);
        }
        y.day(3);
        check.due("all are lost", y.account(12), 10);
        due("letter, all are lost", y, y.letter(1, 0), 1, 10);
    }

    /** "2, both forts are one: the fort". */
    private void reason2() {
        FortHeralds x = Check.rowOf(8, 2);
        for (int fort = 0; fort < 8; fort++) {
            due("road", x, x.road(fort, fort, 5), 2, fort);
            x.fort();
            due("cut", x, x.cut(fort, fort), 2, fort);
            x.fort();
            due("letter", x, x.letter(fort, fort), 2, fort);
        }
    }

    /** "3, there is a road between them: its leagues". */
    private void reason3() {
        for (int leagues = 1; leagues <= 15; leagues++) {
            FortHeralds x = Check.rowOf(3, leagues);
            due("road", x, x.road(1, 2, 16 - leagues), 3, leagues);
            due("road, the other order", x, x.road(1, 0, leagues), 3, leagues);
            check.due("its leagues stay", x.leagues(0, 1), leagues);
            check.due("still two", x.account(2), 2);
        }
    }

    /** "4, there is none: the first fort told". */
    private void reason4() {
        FortHeralds x = Check.rowOf(4, 2);
        int[][] pairs = {{0, 2}, {2, 0}, {0, 3}, {3, 0}, {1, 3}, {3, 1}};
        for (int[] pair : pairs) {
            due("cut " + pair[0] + ", " + pair[1], x, x.cut(pair[0], pair[1]), 4, pair[0]);
        }
        x.cut(1, 0);
        due("cut already", x, x.cut(1, 0), 4, 1);
        due("cut already, the other order", x, x.cut(0, 1), 4, 0);
    }

    /** "5, it is so already: the fort". */
    private void reason5() {
        FortHeralds x = Check.countryOf(8);
        for (int fort = 7; fort >= 0; fort--) {
            due("not silent at first", x, x.silence(fort, false), 5, fort);
            check.due("silent", x.silence(fort, true), 8 - fort);
            due("silent", x, x.silence(fort, true), 5, fort);
        }
        for (int fort = 7; fort >= 0; fort--) {
            check.due("not silent", x.silence(fort, false), fort);
            due("not silent", x, x.silence(fort, false), 5, fort);
        }
    }

    /** "6, the routes are a ring: the fort at which it closes"; c and d go to e over one another. */
    private void reason6() {
        FortHeralds x = Check.countryOf(6);
        int[][] roads = {{0, 4}, {1, 4}, {0, 2}, {1, 3}, {2, 3}, {0, 5}};
        for (int[] road : roads) {
            x.road(road[0], road[1], 1);
        }
        x.day(4);
        x.cut(0, 4);
        x.cut(1, 4);
        x.day(1);
        int[] closes = {2, 3, 2, 3};
        for (int from = 0; from < 4; from++) {
            due("route from " + from, x, x.route(from, 4), 6, closes[from]);
        }
        check.due("f was told by a that there is none", x.route(5, 4), -15);
        check.due("rings: of four forts", x.rings(), 4);
        x.day(1);
        due("f follows a to the ring", x, x.route(5, 4), 6, 2);
        check.due("rings: of five forts", x.rings(), 5);
    }

    /** "7, an order cannot be carried out: its number, from 0". */
    private void reason7() {
        StringBuilder ahead = new StringBuilder();
        for (int number = 0; number <= 9; number++) {
            FortHeralds x = Check.countryOf(1);
            due("order " + number, x, Check.runText(x, ahead + "way 3"), 7, number);
            ahead.append("way ").append(number % 3).append(';');
        }
        FortHeralds y = new FortHeralds();
        due("a ninth fort", y, Check.runText(y, "fort;fort;fort;fort;fort;fort;fort;fort;fort;fort;fort;fort"), 7, 8);
        FortHeralds z = Check.countryOf(8);
        due("the last of twelve", z, Check.runText(z, "way 0;way 0;way 0;way 0;way 0;way 0;way 0;way 0;way 0;fort"), 7, 9);
    }

    /** Each of the codes and of the reasons of a call is the reason 7 in a text. */
    private void reason7InPlaceOfItsOwn() {
        FortHeralds x = withSixteenRoads();
        for (int letter = 0; letter < 10; letter++) {
            x.letter(0, 1);
        }
        String[] orders = {"fort", "road d-f 1", "road d-d 1", "road b-a 1", "cut d-d", "cut d-f", "open a", "post a-a",
            "post a-b", "road d-f 0", "way 3", "bound 9", "day 31"};
        for (String order : orders) {
            due("mute c;" + order, x, Check.runText(x, "mute c;" + order), 7, 1);
            check.due("c is not silent", x.fortOf(2, 2), 0);
        }
        FortHeralds y = Check.countryOf(2);
        String[] none = {"road a-c 1", "road c-a 1", "cut b-c", "cut c-b", "mute c", "open c", "post c-a", "post a-c"};
        for (String order : none) {
            due("way 1;" + order, y, Check.runText(y, "way 1;" + order), 7, 1);
        }
    }

    /** Of road: "the reason 2, 3 or 1". */
    private void orderOfRoads() {
        FortHeralds x = withSixteenRoads();
        due("2 goes ahead of 1", x, x.road(5, 5, 1), 2, 5);
        due("3 goes ahead of 1", x, x.road(7, 0, 1), 3, 9);
        due("1 alone", x, x.road(5, 7, 1), 1, 16);
    }

    /** Of cut: "the reason 2 or 4". */
    private void orderOfCuts() {
        FortHeralds x = Check.countryOf(4);
        due("2 goes ahead of 4", x, x.cut(3, 3), 2, 3);
        due("4 alone", x, x.cut(3, 2), 4, 3);
    }

    /** Of letter: "the reason 2 or 1". */
    private void orderOfLetters() {
        FortHeralds x = Check.countryOf(4);
        for (int letter = 0; letter < 10; letter++) {
            x.letter(2, 1);
        }
        due("2 goes ahead of 1", x, x.letter(3, 3), 2, 3);
        due("1 alone", x, x.letter(3, 2), 1, 10);
    }

    private void theLatest() {
        FortHeralds x = Check.rowOf(3, 4);
        due("first", x, x.road(0, 1, 1), 3, 4);
        due("second", x, x.cut(2, 0), 4, 2);
        due("third", x, x.silence(1, false), 5, 1);
        due("fourth", x, Check.runText(x, "way 9"), 7, 0);
        due("fifth", x, x.letter(0, 0), 2, 0);
        due("the first again", x, x.road(2, 1, 1), 3, 4);
    }

    /** "The reason and its detail are neither undone nor saved, and stay." */
    private void kept() {
        FortHeralds x = Check.rowOf(3, 4);
        check.dueText("at first", Sight.ofReason(x), "-15 -15");
        x.save();
        x.cut(2, 0);
        x.restore();
        check.dueText("restore", Sight.ofReason(x), "4 2");
        x.way(1);
        x.silence(1, false);
        x.undo();
        check.dueText("undo", Sight.ofReason(x), "5 1");
        x.fort();
        x.day(3);
        check.dueText("changes", Sight.ofReason(x), "5 1");
        x.road(0, 9, 1);
        x.day(0);
        x.append(31);
        x.known(1, 1, 0);
        check.dueText("other codes", Sight.ofReason(x), "5 1");
        Check.runText(x, "mute a;wax");
        check.dueText("a text that is wrong", Sight.ofReason(x), "5 1");
        Check.runText(x, "mute a;way 1");
        check.dueText("a text that is carried out", Sight.ofReason(x), "5 1");
        check.dueText("asked again", Sight.ofReason(x), "5 1");
    }
}
