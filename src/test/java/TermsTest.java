/** The sentences of the document's Terms on tables, days, telling, hearing, letters and following. */
final class TermsTest {
    private static final int NOTHING = -15;

    private final Check check;

    private TermsTest(Check check) {
        this.check = check;
    }

    public static void main(String[] args) {
        Check check = new Check();
        TermsTest test = new TermsTest(check);
        test.roadsAreTakenIfNone();
        test.roadsAreTakenIfShorter();
        test.roadsAreTakenByEachAlone();
        test.roadsTakenAreYoung();
        test.cutsLoseWhatLeadsOverThem();
        test.cutsLeaveAllElse();
        test.silentFortsTellNone();
        test.tablesAreToldToEachNeighbour();
        test.routesAgeAheadOfLetters();
        test.routesComeAheadOfLetters();
        test.wayZeroTellsAll();
        test.waysOneAndTwoTellOthers();
        test.whatIsLongerIsTakenFromTheFollowed();
        test.whatIsAsLongIsNotTaken();
        test.whatIsFollowedIsRenewed();
        test.sixtyLeaguesAreNone();
        test.leapsBeyondTheBoundAreNone();
        test.aWiderBoundLetsRoutesCome();
        test.lettersHaveThreeStates();
        test.lettersWaitInAll();
        test.followingEnds();
        test.ringsCloseWhereOneWas();
        test.routesToldAreNoRings();
        test.ringsAreToldToNeighbours();
        test.ranksByThree();
        test.wrongByThree();
        check.end();
    }

    /** Leagues, neighbour, leaps and age of a route. */
    private void dueRoute(String when, FortHeralds x, int fort, int goal, int... numbers) {
        for (int what = 0; what < 4; what++) {
            int due = numbers.length == 0 ? NOTHING : numbers[what];
            check.due(when + ": known(" + fort + ", " + goal + ", " + what + ")", x.known(fort, goal, what), due);
        }
    }

    private void dueLetter(String when, FortHeralds x, int letter, int... numbers) {
        for (int what = 0; what < 5; what++) {
            check.due(when + ": letterOf(" + letter + ", " + what + ")", x.letterOf(letter, what), numbers[what]);
        }
    }

    /** "If it has none": both take the road, and nothing behind it. */
    private void roadsAreTakenIfNone() {
        FortHeralds x = Check.rowOf(2, 7);
        x.fort();
        x.fort();
        x.road(2, 3, 4);
        x.road(3, 1, 5);
        dueRoute("b to d", x, 1, 3, 5, 3, 1, 0);
        dueRoute("d to b", x, 3, 1, 5, 1, 1, 0);
        dueRoute("b to c, unknown yet", x, 1, 2);
        dueRoute("d to a, unknown yet", x, 3, 0);
        dueRoute("a to d, unknown yet", x, 0, 3);
    }

    /** "Or one of more leagues": not one of as many, nor one of fewer. */
    private void roadsAreTakenIfShorter() {
        for (int leagues = 5; leagues <= 7; leagues++) {
            FortHeralds x = Check.rowOf(3, 3);
            x.day(1);
            x.road(2, 0, leagues);
            boolean isTaken = leagues < 6;
            check.due("leagues of a to c", x.known(0, 2, 0), isTaken ? leagues : 6);
            check.due("neighbour of a to c", x.known(0, 2, 1), isTaken ? 2 : 1);
            check.due("leaps of a to c", x.known(0, 2, 2), isTaken ? 1 : 2);
            check.due("neighbour of c to a", x.known(2, 0, 1), isTaken ? 0 : 1);
            check.due("leaps of c to a", x.known(2, 0, 2), isTaken ? 1 : 2);
        }
    }

    private void roadsAreTakenByEachAlone() {
        FortHeralds x = Check.rowOf(3, 3);
        x.day(1);
        x.cut(1, 2);
        x.road(0, 2, 9);
        dueRoute("a has one of fewer", x, 0, 2, 6, 1, 2, 0);
        dueRoute("c has none", x, 2, 0, 9, 0, 1, 0);
        FortHeralds y = Check.rowOf(3, 3);
        y.day(1);
        y.cut(1, 2);
        y.road(2, 0, 5);
        dueRoute("a has one of more", y, 0, 2, 5, 2, 1, 0);
        dueRoute("c has none", y, 2, 0, 5, 0, 1, 0);
    }

    private void roadsTakenAreYoung() {
        for (int leagues = 5; leagues <= 6; leagues++) {
            FortHeralds x = Check.rowOf(3, 3);
            x.day(1);
            x.silence(1, true);
            x.day(3);
            check.due("age ahead of it", x.known(0, 2, 3), 3);
            x.road(0, 2, leagues);
            check.due("age behind it", x.known(0, 2, 3), leagues == 5 ? 0 : 3);
            check.due("age of the other one", x.known(2, 0, 3), leagues == 5 ? 0 : 3);
            check.due("age of a route to b", x.known(0, 1, 3), 3);
        }
    }

    private void cutsLoseWhatLeadsOverThem() {
        FortHeralds x = Check.rowOf(5, 2);
        x.day(4);
        x.cut(3, 2);
        dueRoute("c to d", x, 2, 3);
        dueRoute("c to e", x, 2, 4);
        dueRoute("d to c", x, 3, 2);
        dueRoute("d to b", x, 3, 1);
        dueRoute("d to a", x, 3, 0);
        check.due("c knows a and b", x.fortOf(2, 1), 2);
        check.due("d knows e", x.fortOf(3, 1), 1);
    }

    /** Third forts keep theirs; so do both forts, what leads to the other one over a third. */
    private void cutsLeaveAllElse() {
        FortHeralds x = Check.countryOf(4);
        x.road(0, 1, 5);
        x.road(0, 2, 1);
        x.road(2, 1, 1);
        x.road(3, 0, 1);
        x.day(3);
        x.cut(1, 0);
        dueRoute("a to b over c", x, 0, 1, 2, 2, 2, 0);
        dueRoute("b to a over c", x, 1, 0, 2, 2, 2, 0);
        FortHeralds y = Check.rowOf(4, 2);
        y.day(3);
        y.cut(2, 3);
        dueRoute("a to d, as b knows it", y, 0, 3, 6, 1, 3, 0);
        dueRoute("b to d, as c knew it", y, 1, 3, 4, 2, 2, 0);
        dueRoute("b to a", y, 1, 0, 2, 0, 1, 0);
    }

    private void silentFortsTellNone() {
        FortHeralds x = Check.rowOf(3, 1);
        x.silence(1, true);
        check.due("no routes come", x.day(1), 0);
        check.due("a and c told b", x.account(7), 2);
        dueRoute("a to c", x, 0, 2);
        dueRoute("b to a is told by a", x, 1, 0, 1, 0, 1, 0);
        dueRoute("a to b is not told", x, 0, 1, 1, 1, 1, 1);
        x.silence(0, true);
        x.silence(2, true);
        x.day(1);
        check.due("none told", x.account(7), 2);
        dueRoute("b to a is not told", x, 1, 0, 1, 0, 1, 1);
    }

    private void tablesAreToldToEachNeighbour() {
        for (int way = 0; way <= 2; way++) {
            FortHeralds x = Check.countryOf(5);
            x.way(way);
            x.day(3);
            check.due("none without roads", x.account(7), 0);
            x.road(0, 1, 1);
            x.road(0, 2, 1);
            x.road(0, 3, 1);
            x.road(2, 3, 1);
            x.day(1);
            check.due("two for a road", x.account(7), 8);
            x.silence(0, true);
            x.day(2);
            check.due("three fewer on each day", x.account(7), 18);
            x.silence(0, false);
            x.cut(0, 1);
            x.day(1);
            check.due("two fewer for a road that is cut", x.account(7), 24);
        }
    }

    private void routesAgeAheadOfLetters() {
        FortHeralds x = Check.rowOf(2, 1);
        x.silence(1, true);
        x.day(2);
        x.letter(0, 1);
        x.day(1);
        dueLetter("the age of 3 carries it", x, 0, 1, 1, 1, 1, 0);
        x.letter(0, 1);
        x.day(1);
        dueLetter("with the age of 4 it waits", x, 1, 0, 1, 0, 0, 1);
    }

    private void routesComeAheadOfLetters() {
        FortHeralds x = Check.rowOf(3, 1);
        x.letter(0, 2);
        x.letter(2, 0);
        x.day(1);
        dueLetter("the route came on this day", x, 0, 1, 2, 0, 1, 0);
        dueLetter("and back", x, 1, 1, 0, 0, 1, 0);
        x.cut(1, 2);
        x.way(2);
        x.day(1);
        dueLetter("the route was lost ahead of this day", x, 0, 1, 2, 0, 1, 1);
        dueLetter("the other one goes on", x, 1, 0, 0, 1, 2, 0);
    }

    /** By the way 0 b hears from a of d what a has over b, and the way there becomes longer. */
    private void wayZeroTellsAll() {
        int[] leagues = {5, NOTHING, NOTHING};
        for (int way = 0; way <= 2; way++) {
            FortHeralds x = Check.rowOf(4, 1);
            x.day(3);
            x.cut(1, 2);
            x.way(way);
            x.day(1);
            check.due("way " + way + ": b to d over a", x.known(1, 3, 0), way == 0 ? 4 : NOTHING);
            check.due("way " + way + ": b to c over a", x.known(1, 2, 0), way == 0 ? 3 : NOTHING);
            x.day(1);
            check.due("way " + way + ": a to d over b", x.known(0, 3, 0), leagues[way]);
        }
    }

    /** Routes that do not lead first to the neighbour are told by each way. */
    private void waysOneAndTwoTellOthers() {
        for (int way = 0; way <= 2; way++) {
            FortHeralds x = Check.rowOf(4, 3);
            x.way(way);
            check.due("first day", x.day(1), 4);
            check.due("second day", x.day(1), 2);
            check.due("third day", x.day(1), 0);
            dueRoute("way " + way, x, 0, 3, 9, 1, 3, 0);
            dueRoute("way " + way, x, 3, 0, 9, 2, 3, 0);
            check.due("wrong", x.wrong(), 0);
            check.due("they stay", x.day(30), 0);
            dueRoute("way " + way + ", a month on", x, 1, 3, 6, 2, 2, 0);
        }
    }

    /** The road behind b becomes longer: a, which follows b, takes it, though it is longer. */
    private void whatIsLongerIsTakenFromTheFollowed() {
        FortHeralds x = Check.rowOf(3, 2);
        x.way(2);
        x.day(1);
        x.cut(1, 2);
        x.road(1, 2, 11);
        dueRoute("ahead of it", x, 0, 2, 4, 1, 2, 0);
        check.due("day", x.day(1), 2);
        dueRoute("longer", x, 0, 2, 13, 1, 2, 0);
        dueRoute("and back", x, 2, 0, 13, 1, 2, 0);
    }

    /** d can be reached over b and over c; a heard of it over b at first. */
    private void whatIsAsLongIsNotTaken() {
        for (int more = -1; more <= 1; more++) {
            FortHeralds x = Check.countryOf(4);
            x.way(2);
            x.road(0, 1, 4);
            x.road(1, 3, 5);
            x.road(0, 2, 4);
            x.day(1);
            dueRoute("over b", x, 0, 3, 9, 1, 2, 0);
            x.road(2, 3, 5 + more);
            x.day(1);
            int next = more < 0 ? 2 : 1;
            dueRoute("over c " + more + " more", x, 0, 3, Math.min(9, 9 + more), next, 2, 0);
        }
        FortHeralds y = Check.countryOf(4);
        y.road(0, 2, 4);
        y.road(2, 3, 5);
        y.road(0, 1, 4);
        y.day(1);
        y.road(1, 3, 5);
        y.day(1);
        dueRoute("over c, though b is lower", y, 0, 3, 9, 2, 2, 0);
    }

    private void whatIsFollowedIsRenewed() {
        FortHeralds x = Check.rowOf(3, 2);
        x.day(1);
        x.silence(1, true);
        x.day(3);
        dueRoute("old", x, 0, 2, 4, 1, 2, 3);
        x.silence(1, false);
        check.due("no change", x.day(1), 0);
        dueRoute("young", x, 0, 2, 4, 1, 2, 0);
    }

    /** The last road becomes longer; what b tells a is 59 or 60 leagues then. */
    private void sixtyLeaguesAreNone() {
        for (int last = 14; last <= 15; last++) {
            FortHeralds x = Check.rowOf(5, 15);
            x.cut(3, 4);
            x.road(3, 4, 1);
            x.way(2);
            x.day(4);
            dueRoute("46 leagues", x, 0, 4, 46, 1, 4, 0);
            x.cut(3, 4);
            x.road(3, 4, last);
            x.day(2);
            dueRoute("b has it", x, 1, 4, 30 + last, 2, 3, 0);
            check.due("a has 46 still", x.known(0, 4, 0), 46);
            x.day(1);
            check.due("59 are taken, 60 are none", x.known(0, 4, 0), last == 14 ? 59 : NOTHING);
            check.due("wrong, and back too", x.wrong(), last == 14 ? 0 : 2);
        }
    }

    /** What was known stays, until it is told anew. */
    private void leapsBeyondTheBoundAreNone() {
        FortHeralds x = Check.rowOf(4, 1);
        x.way(2);
        x.day(3);
        x.bound(2);
        dueRoute("three leaps stay", x, 0, 3, 3, 1, 3, 0);
        x.silence(1, true);
        x.day(1);
        dueRoute("not told, not lost", x, 0, 3, 3, 1, 3, 1);
        x.silence(1, false);
        x.day(1);
        dueRoute("told, lost", x, 0, 3);
        dueRoute("two leaps are as many as the bound", x, 1, 3, 2, 2, 2, 0);
    }

    private void aWiderBoundLetsRoutesCome() {
        FortHeralds x = Check.rowOf(4, 1);
        x.bound(1);
        check.due("bound 1: only neighbours", x.day(5), 0);
        check.due("routes", x.account(6), 6);
        x.bound(2);
        check.due("bound 2: two behind", x.day(5), 4);
        x.bound(3);
        check.due("bound 3: all", x.day(5), 2);
        check.due("routes then", x.account(6), 12);
    }

    /** "Under way, 0; has come, 1; or is lost, 2." */
    private void lettersHaveThreeStates() {
        FortHeralds x = Check.rowOf(3, 1);
        x.fort();
        x.day(1);
        x.letter(0, 2);
        x.letter(0, 1);
        x.letter(0, 3);
        dueLetter("written", x, 0, 0, 2, 0, 0, 0);
        x.day(1);
        dueLetter("under way", x, 0, 1, 2, 0, 1, 0);
        dueLetter("come", x, 1, 1, 1, 1, 1, 0);
        dueLetter("waits", x, 2, 0, 3, 0, 0, 1);
        x.day(9);
        dueLetter("come too", x, 0, 2, 2, 1, 2, 0);
        dueLetter("lost", x, 2, 0, 3, 2, 0, 3);
        check.due("letters under way", x.account(10), 0);
        check.due("letters that have come", x.account(11), 2);
        check.due("letters that are lost", x.account(12), 1);
        check.due("leaps of all", x.account(13), 3);
    }

    /** "On the third day on which it waits, whether one behind the other or not." */
    private void lettersWaitInAll() {
        FortHeralds x = Check.rowOf(4, 1);
        x.cut(0, 1);
        x.cut(1, 2);
        x.cut(2, 3);
        x.way(2);
        x.letter(0, 3);
        int[] waits = {1, 1, 2, 2, 3};
        for (int day = 0; day < 5; day++) {
            if (day == 1 || day == 3) {
                // The fort where it is has a road to the next one, which knows the goal.
                int at = x.letterOf(0, 0);
                x.road(at, at + 1, 1);
                x.road(at + 1, 3, 1);
                x.day(1);
                x.cut(at + 1, 3);
            } else {
                x.day(1);
            }
            check.due("waits behind day " + day, x.letterOf(0, 4), waits[day]);
        }
        dueLetter("lost at c", x, 0, 2, 3, 2, 2, 3);
    }

    /** Until one comes there, or a fort has no route. */
    private void followingEnds() {
        FortHeralds x = Check.rowOf(4, 3);
        x.way(2);
        x.day(3);
        check.due("route", x.route(3, 0), 9);
        check.dueText("line", Check.lineOf(x), "d>c>b>a");
        check.due("to itself", x.route(3, 3), 0);
        check.dueText("line", Check.lineOf(x), "d");
        x.cut(0, 1);
        check.due("b has none", x.route(3, 0), NOTHING);
        check.due("nor has the first fort", x.route(1, 0), NOTHING);
        check.due("d knows one still", x.known(3, 0, 0), 9);
        x.fort();
        check.due("no fort has", x.route(0, 4), NOTHING);
        check.dueText("the line stays", Check.lineOf(x), "d");
        check.due("it is no reason", x.reason(false), NOTHING);
    }

    /**
     * b goes over the silent c, which goes over d, which goes over b; e comes to this ring at d.
     * What is told, that a is none, does not reach b, and d is told by b that there is a route.
     */
    private void ringsCloseWhereOneWas() {
        FortHeralds x = fiveForts();
        check.due("no rings", x.rings(), 0);
        check.due("e to a", x.route(4, 0), 4);
        check.dueText("line", Check.lineOf(x), "e>d>b>c>a");
        x.silence(2, true);
        x.cut(2, 0);
        check.due("c has none, so it is no ring", x.route(4, 0), NOTHING);
        x.day(1);
        int[] closes = {-1, 1, 2, 3, 3};
        for (int from = 1; from < 5; from++) {
            check.due("route from " + from, x.route(from, 0), -14);
            check.due("reason", x.reason(false), 6);
            check.due("it closes", x.reason(true), closes[from]);
        }
        check.due("rings", x.rings(), 4);
        check.dueText("the line stays", Check.lineOf(x), "e>d>b>c>a");
        check.due("other routes are no rings", x.route(4, 2), 3);
        check.due("nor is the one to itself", x.route(3, 3), 0);
    }

    private FortHeralds fiveForts() {
        FortHeralds x = Check.countryOf(5);
        int[][] roads = {{0, 2, 1}, {1, 2, 1}, {1, 3, 1}, {2, 3, 5}, {3, 4, 1}};
        for (int[] road : roads) {
            x.road(road[0], road[1], road[2]);
        }
        x.way(2);
        x.day(3);
        return x;
    }

    /** "A route told is never a ring": no line of route has a fort twice, and each ring is refused. */
    private void routesToldAreNoRings() {
        FortHeralds x = fiveForts();
        x.silence(2, true);
        x.cut(2, 0);
        x.day(1);
        int refused = 0;
        int told = 0;
        for (int from = 0; from < 5; from++) {
            for (int to = 0; to < 5; to++) {
                int answer = x.route(from, to);
                refused += answer == -14 ? 1 : 0;
                told += answer >= 0 ? 1 : 0;
                String line = Check.lineOf(x).replace(">", "");
                check.due("forts of " + line, line.chars().distinct().count(), line.length());
            }
        }
        check.due("rings", refused, x.rings());
        check.due("some are told", told > 5 ? 1 : 0, 1);
    }

    /** A fort tells "of all routes" but those that its way names: it does not know which are rings. */
    private void ringsAreToldToNeighbours() {
        FortHeralds x = fiveForts();
        x.silence(2, true);
        x.cut(2, 0);
        x.day(1);
        check.due("the ring", x.rings(), 4);
        check.due("changes while it is told", x.day(1), 0);
        dueRoute("c is told by d", x, 2, 0, 8, 3, 4, 0);
        dueRoute("d is told by b", x, 3, 0, 3, 1, 3, 0);
        dueRoute("e is told by d", x, 4, 0, 4, 3, 4, 0);
        dueRoute("b is not told by the silent c", x, 1, 0, 2, 2, 2, 2);
        check.due("the ring is there still", x.rings(), 4);
        check.due("two days more, and b has none to a and c", x.day(2), 2);
        dueRoute("b to a", x, 1, 0);
        dueRoute("b to c", x, 1, 2);
    }

    /** "The most first, of several the one whose leagues together are fewer, then the lowest." */
    private void ranksByThree() {
        FortHeralds x = Check.countryOf(6);
        x.road(3, 4, 9);
        x.road(3, 5, 9);
        x.road(1, 2, 4);
        // d: two, 18; e: one, 9; f: one, 9; b: one, 4; c: one, 4; a: none.
        int[] forts = {3, 1, 2, 4, 5, 0};
        for (int place = 0; place < 6; place++) {
            check.due("ranked(" + place + ")", x.ranked(place), forts[place]);
        }
        x.road(0, 5, 15);
        // f: two, 24; a: one, 15.
        int[] then = {3, 5, 1, 2, 4, 0};
        for (int place = 0; place < 6; place++) {
            check.due("ranked(" + place + ") then", x.ranked(place), then[place]);
        }
        FortHeralds y = Check.countryOf(4);
        y.road(0, 1, 5);
        y.road(2, 3, 4);
        // One league fewer is enough, and a league more is too many.
        int[] byLeagues = {2, 3, 0, 1};
        for (int place = 0; place < 4; place++) {
            check.due("ranked(" + place + ") by leagues", y.ranked(place), byLeagues[place]);
        }
    }

    private void wrongByThree() {
        FortHeralds x = Check.rowOf(4, 5);
        check.due("six of twelve are none, though roads lead there", x.wrong(), 6);
        x.day(1);
        check.due("two of them", x.wrong(), 2);
        x.day(1);
        check.due("all are right", x.wrong(), 0);
        x.way(2);
        x.cut(2, 3);
        check.due("a and b have one to d, though none do", x.wrong(), 2);
        x.road(2, 3, 6);
        check.due("to d they are too short; from d there are none", x.wrong(), 4);
        x.road(0, 3, 1);
        // Truly: a-d 1, b-d 6, c-d 6, a-c 7; a has 10 to c, and c 10 to a; b 10 to d; d none to b.
        check.due("routes that are too long", x.wrong(), 4);
        FortHeralds y = Check.rowOf(8, 15);
        y.day(30);
        // Forts that are 60 leagues apart or more are 4 apart in the row: 4 + 3 + 2 + 1 pairs, twice.
        check.due("too far to be known", y.wrong(), 20);
    }
}
