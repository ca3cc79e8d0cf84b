/** Promises 16 to 20: routes that are followed, rings, letters, and the order of the forts. */
final class LettersTest {
    private final Check check;

    private LettersTest(Check check) {
        this.check = check;
    }

    public static void main(String[] args) {
        Check check = new Check();
        LettersTest test = new LettersTest(check);
        test.promise16Route();
        test.promise16And17Rings();
        test.promise18Letter();
        test.promise19Carried();
        test.promise19Waits();
        test.promise19Leaps();
        test.promise20Ranked();
        check.end();
    }

    private void dueRoute(FortHeralds x, int from, int to, int leagues, String line) {
        check.due("route(" + from + ", " + to + ")", x.route(from, to), leagues);
        check.dueText("line of it", Check.lineOf(x), line);
    }

    private void dueLetter(String when, FortHeralds x, int letter, int... numbers) {
        for (int what = 0; what < numbers.length; what++) {
            check.due(when + ", letterOf(" + letter + ", " + what + ")", x.letterOf(letter, what), numbers[what]);
        }
    }

    private void promise16Route() {
        FortHeralds x = Check.countryOf(4);
        x.road(0, 2, 3);
        x.road(2, 1, 4);
        x.day(2);
        dueRoute(x, 0, 1, 7, "a>c>b");
        dueRoute(x, 1, 0, 7, "b>c>a");
        dueRoute(x, 2, 1, 4, "c>b");
        dueRoute(x, 3, 3, 0, "d");
        check.due("no route", x.route(0, 3), -15);
        check.due("no such from", x.route(4, 0), -11);
        check.due("no such to", x.route(0, -1), -11);
        check.dueText("codes leave the line", Check.lineOf(x), "d");
        check.due("no reason", x.reason(false), -15);
        check.due("it is no change", x.account(15), 7);
        x.cut(2, 1);
        check.due("c on it has none", x.route(0, 1), -15);
        x.road(2, 1, 9);
        dueRoute(x, 0, 1, 12, "a>c>b");
        check.due("what a knows is less", x.known(0, 1, 0), 7);
    }

    private void promise16And17Rings() {
        FortHeralds x = Check.countryOf(5);
        x.road(0, 4, 1);
        x.road(1, 4, 1);
        x.road(0, 2, 1);
        x.road(1, 3, 1);
        x.road(2, 3, 1);
        x.day(4);
        x.cut(0, 4);
        x.cut(1, 4);
        x.day(1);
        dueRoute(x, 3, 2, 1, "d>c");
        check.due("c to e", x.route(2, 4), -14);
        check.due("reason", x.reason(false), 6);
        check.due("it closes where it began", x.reason(true), 2);
        check.due("a to e", x.route(0, 4), -14);
        check.due("it closes at c", x.reason(true), 2);
        check.due("b to e", x.route(1, 4), -14);
        check.due("it closes at d", x.reason(true), 3);
        check.dueText("codes leave the line", Check.lineOf(x), "d>c");
        check.due("rings: from a, b, c and d to e", x.rings(), 4);
    }

    private void promise18Letter() {
        FortHeralds x = Check.rowOf(3, 1);
        check.due("no such from", x.letter(3, 0), -11);
        check.due("no such to", x.letter(0, -1), -11);
        check.due("both are one", x.letter(1, 1), -14);
        check.due("reason", x.reason(false), 2);
        check.due("detail", x.reason(true), 1);
        for (int letter = 0; letter < 10; letter++) {
            check.due("letter " + letter, x.letter(letter % 2, 2), letter);
        }
        check.due("eleventh", x.letter(0, 1), -14);
        check.due("reason", x.reason(false), 1);
        check.due("detail", x.reason(true), 10);
        check.due("reason 2 ahead of 1", x.letter(2, 2), -14);
        check.due("reason", x.reason(false), 2);
        check.due("detail", x.reason(true), 2);
        x.day(5);
        check.due("letters that have come keep their numbers", x.letter(0, 1), -14);
        x.undo();
        x.undo();
        check.due("letter behind undo", x.letter(2, 0), 9);
    }

    private void promise19Carried() {
        FortHeralds x = Check.rowOf(4, 1);
        x.day(3);
        x.letter(0, 3);
        x.letter(2, 0);
        dueLetter("written", x, 0, 0, 3, 0, 0, 0);
        dueLetter("written", x, 1, 2, 0, 0, 0, 0);
        x.day(1);
        dueLetter("a day", x, 0, 1, 3, 0, 1, 0);
        dueLetter("a day", x, 1, 1, 0, 0, 1, 0);
        x.day(1);
        dueLetter("two days", x, 0, 2, 3, 0, 2, 0);
        dueLetter("two days", x, 1, 0, 0, 1, 2, 0);
        x.day(4);
        dueLetter("come", x, 0, 3, 3, 1, 3, 0);
        check.due("what 5", x.letterOf(0, 5), -12);
        check.due("what -1", x.letterOf(1, -1), -12);
        check.due("no such letter", x.letterOf(2, 0), -11);
        check.due("NONE ahead of BAD", x.letterOf(-1, 5), -11);
    }

    private void promise19Waits() {
        FortHeralds x = Check.rowOf(2, 1);
        x.fort();
        x.letter(0, 2);
        x.day(2);
        dueLetter("waits", x, 0, 0, 2, 0, 0, 2);
        x.road(1, 2, 1);
        x.day(1);
        dueLetter("goes by the route that came on this day", x, 0, 1, 2, 0, 1, 2);
        x.cut(1, 2);
        x.silence(0, true);
        x.day(1);
        dueLetter("lost on the third day in all", x, 0, 1, 2, 2, 1, 3);
        x.road(1, 2, 1);
        x.silence(0, false);
        x.day(3);
        dueLetter("lost for good", x, 0, 1, 2, 2, 1, 3);
    }

    private void promise19Leaps() {
        FortHeralds x = Check.rowOf(2, 1);
        x.fort();
        x.letter(0, 2);
        for (int leap = 1; leap <= 15; leap++) {
            moveGoalAway(x);
            x.day(1);
            dueLetter("to and fro", x, 0, leap % 2, 2, 0, leap, 0);
        }
        check.due("leaps of all letters", x.account(13), 15);
        x.save();
        moveGoalAway(x);
        x.day(1);
        dueLetter("lost by the sixteenth leap", x, 0, 0, 2, 2, 16, 0);
        x.restore();
        x.day(1);
        dueLetter("come by the sixteenth leap", x, 0, 2, 2, 1, 16, 0);
    }

    /** Of a and b, the one where the letter is not has the road to c then. */
    private void moveGoalAway(FortHeralds x) {
        int at = x.letterOf(0, 0);
        x.cut(at, 2);
        x.road(1 - at, 2, 5);
    }

    private void promise20Ranked() {
        FortHeralds x = Check.countryOf(5);
        x.road(4, 3, 2);
        x.road(3, 2, 5);
        x.road(1, 2, 5);
        int[] early = {3, 2, 4, 1, 0};
        for (int place = 0; place < 5; place++) {
            check.due("early ranked(" + place + ")", x.ranked(place), early[place]);
        }
        x.day(3);
        // b: 5, 10, 12; c: 5, 5, 7; d: 2, 5, 10; e: 2, 7, 12.
        int[] late = {2, 3, 4, 1, 0};
        for (int place = 0; place < 5; place++) {
            check.due("late ranked(" + place + ")", x.ranked(place), late[place]);
        }
        check.due("no such place", x.ranked(5), -11);
        check.due("no such place below", x.ranked(-1), -11);
    }
}
