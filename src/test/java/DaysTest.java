/** Promises 10 to 15: tables, days, and how far forts truly are. */
final class DaysTest {
    private final Check check;

    private DaysTest(Check check) {
        this.check = check;
    }

    public static void main(String[] args) {
        Check check = new Check();
        DaysTest test = new DaysTest(check);
        test.promise10Known();
        test.promise11Range();
        test.promise11Beginning();
        test.promise11Followed();
        test.promise11Several();
        test.promise11Limits();
        test.promise11Silence();
        test.promise11WayAll();
        test.promise11WayNothing();
        test.promise11WayNone();
        test.promise11Changed();
        test.promise12Settles();
        test.promise13And14Far();
        test.promise15Wrong();
        check.end();
    }

    private void dueTable(String when, FortHeralds x, int fort, String table) {
        x.tell(fort);
        check.dueText(when, Check.lineOf(x), table);
    }

    private void promise10Known() {
        FortHeralds x = Check.rowOf(3, 4);
        x.day(1);
        check.due("leagues", x.known(0, 2, 0), 8);
        check.due("neighbour", x.known(0, 2, 1), 1);
        check.due("leaps", x.known(0, 2, 2), 2);
        check.due("age", x.known(0, 2, 3), 0);
        x.silence(1, true);
        x.day(2);
        check.due("age behind two silent days", x.known(0, 2, 3), 2);
        check.due("both are one", x.known(1, 1, 0), -15);
        check.due("BAD ahead of NOTHING", x.known(1, 1, 4), -12);
        check.due("what -1", x.known(0, 1, -1), -12);
        check.due("no such fort", x.known(3, 0, 0), -11);
        check.due("no such goal", x.known(0, 3, 9), -11);
        x.fort();
        check.due("a fort built later is unknown", x.known(0, 3, 0), -15);
    }

    private void promise11Range() {
        FortHeralds x = Check.rowOf(3, 1);
        check.due("0 days", x.day(0), -12);
        check.due("31 days", x.day(31), -12);
        check.due("-1 days", x.day(-1), -12);
        check.due("no day went by", x.account(0), 0);
        check.due("30 days", x.day(30), 2);
        check.due("the day", x.account(0), 30);
        check.due("tables told: 4 a day", x.account(7), 120);
        check.due("routes changed", x.account(8), 2);
    }

    /** Tables are told as they are at the beginning of a day: one fort farther a day. */
    private void promise11Beginning() {
        FortHeralds x = Check.rowOf(4, 1);
        check.due("first day", x.day(1), 4);
        dueTable("row, day 1", x, 0, "a:b1b,c2b,d-");
        dueTable("row, day 1", x, 3, "d:a-,b2c,c1c");
        check.due("second day", x.day(1), 2);
        dueTable("row, day 2", x, 0, "a:b1b,c2b,d3b");
        check.due("third day", x.day(1), 0);
    }

    /** What the followed neighbour tells is taken even if it is longer, and at once if it is none. */
    private void promise11Followed() {
        FortHeralds x = Check.rowOf(3, 2);
        x.road(0, 2, 15);
        x.day(1);
        check.due("over b", x.known(0, 2, 0), 4);
        x.cut(1, 2);
        x.day(1);
        check.due("b told none, c told itself", x.known(0, 2, 0), 15);
        check.due("over c", x.known(0, 2, 1), 2);
        check.due("a told b the old route", x.known(1, 2, 0), 6);
        x.day(1);
        check.due("b follows a to what is longer", x.known(1, 2, 0), 17);
    }

    /** Of several that tell, the first of the shortest is taken, as each is heard in turn. */
    private void promise11Several() {
        FortHeralds x = Check.countryOf(4);
        x.road(0, 2, 3);
        x.road(0, 1, 4);
        x.road(2, 3, 3);
        x.road(1, 3, 2);
        x.day(1);
        check.due("as far over b as over c: b", x.known(0, 3, 1), 1);
        check.due("6 leagues", x.known(0, 3, 0), 6);
        x.cut(0, 1);
        x.road(0, 1, 3);
        x.day(1);
        check.due("b is heard ahead of c", x.known(0, 3, 0), 5);
        x.undo();
        x.undo();
        x.road(0, 1, 5);
        x.day(1);
        check.due("c is shorter", x.known(0, 3, 1), 2);
    }

    private void promise11Limits() {
        FortHeralds x = Check.rowOf(5, 15);
        x.day(9);
        check.due("45 leagues", x.known(0, 3, 0), 45);
        check.due("60 leagues are none", x.known(0, 4, 0), -15);
        x.cut(3, 4);
        x.road(3, 4, 14);
        x.day(9);
        check.due("59 leagues", x.known(0, 4, 0), 59);
        x.bound(3);
        x.day(1);
        check.due("4 leaps are none", x.known(0, 4, 0), -15);
        check.due("3 leaps", x.known(1, 4, 2), 3);
    }

    /** Routes over a silent fort grow older, and are none with the age of 4; it still hears. */
    private void promise11Silence() {
        FortHeralds x = Check.rowOf(3, 1);
        x.day(1);
        x.silence(1, true);
        check.due("three days", x.day(3), 0);
        check.due("tables told: a and c only", x.account(7), 4 + 6);
        check.due("age 3", x.known(0, 2, 3), 3);
        check.due("age 3 of the road", x.known(2, 1, 3), 3);
        check.due("the silent one hears", x.known(1, 2, 3), 0);
        x.silence(1, false);
        x.day(1);
        check.due("told again: age 0", x.known(0, 2, 3), 0);
        x.silence(1, true);
        check.due("fourth day: a and c lose two each", x.day(4), 4);
        check.due("none with the age of 4", x.known(0, 1, 0), -15);
        x.silence(0, true);
        x.day(3);
        check.due("the silent one's routes grow older", x.known(1, 0, 3), 3);
        check.due("of the one who tells not", x.known(1, 2, 3), 0);
    }

    /** By the way 0 a fort tells a neighbour of what leads over it too. */
    private void promise11WayAll() {
        FortHeralds x = withRing(0);
        x.day(1);
        check.due("way 0: c is told by d", x.known(2, 4, 0), 4);
        check.due("way 0: d is told by c", x.known(3, 4, 0), 4);
        check.due("way 0: leaps", x.known(3, 4, 2), 4);
        x.day(4);
        check.due("way 0: up to 8 leaps", x.known(2, 4, 2), 8);
        x.day(1);
        check.due("way 0: more than 8 are none", x.known(2, 4, 0), -15);
    }

    /** By the way 1 it tells nothing of it, and so the route there grows older. */
    private void promise11WayNothing() {
        FortHeralds x = withRing(1);
        check.due("way 1: a and b hear of it, c and d nothing", x.day(1), 2);
        check.due("way 1: grows older", x.known(2, 4, 3), 1);
        check.due("way 1: grows older too", x.known(3, 4, 3), 1);
        check.due("way 1: leagues stay", x.known(3, 4, 0), 3);
        check.due("way 1: others are told of it", x.known(0, 4, 3), 0);
        check.due("way 1: two days more", x.day(2), 0);
        check.due("way 1: age 3", x.known(2, 4, 3), 3);
        check.due("way 1: lost with the age of 4", x.day(1), 2);
        check.due("way 1: c", x.known(2, 4, 0), -15);
        check.due("way 1: d", x.known(3, 4, 0), -15);
    }

    /** By the way 2 it tells that there is none, which is none at once. */
    private void promise11WayNone() {
        FortHeralds x = withRing(2);
        check.due("way 2: c and d lose it, a and b hear of it", x.day(1), 4);
        check.due("way 2: c", x.known(2, 4, 0), -15);
        check.due("way 2: d", x.known(3, 4, 0), -15);
        check.due("way 2: a", x.known(0, 4, 1), 2);
        check.due("way 2: b", x.known(1, 4, 1), 3);
        check.due("way 2: a and b lose it", x.day(1), 2);
        check.due("way 2: a", x.known(0, 4, 0), -15);
    }

    /** c goes over d to e and d over c, as both lost their roads over a and b on one day. */
    private FortHeralds withRing(int way) {
        FortHeralds x = Check.countryOf(5);
        x.road(0, 4, 1);
        x.road(1, 4, 1);
        x.road(0, 2, 1);
        x.road(1, 3, 1);
        x.road(2, 3, 1);
        x.way(2);
        x.day(4);
        x.cut(0, 4);
        x.cut(1, 4);
        x.day(1);
        check.due("c over d", x.known(2, 4, 1), 3);
        check.due("d over c", x.known(3, 4, 1), 2);
        check.due("a has none", x.known(0, 4, 0), -15);
        x.way(way);
        return x;
    }

    private void promise11Changed() {
        FortHeralds x = Check.rowOf(2, 5);
        x.silence(0, true);
        x.silence(1, true);
        check.due("ages are no changes", x.day(3), 0);
        check.due("lost routes are changes", x.day(1), 2);
        check.due("and none then", x.day(5), 0);
    }

    private void promise12Settles() {
        FortHeralds x = Check.rowOf(5, 1);
        check.due("row of 5", x.settles(), 3);
        check.due("no day went by", x.account(0), 0);
        check.due("no table was told", x.account(7), 0);
        check.due("nothing changed", x.account(8), 0);
        check.due("no route came", x.known(0, 2, 0), -15);
        check.due("it is no change", x.account(15), 8);
        x.day(2);
        check.due("two days later", x.settles(), 1);
        x.day(1);
        check.due("settled", x.settles(), 0);
        FortHeralds y = Check.rowOf(2, 1);
        y.silence(1, true);
        check.due("a day without a change goes ahead of the loss", y.settles(), 0);
        y.day(3);
        check.due("the day of the loss", y.settles(), 1);
        check.due("the age stays", y.known(0, 1, 3), 3);
    }

    private void promise13And14Far() {
        FortHeralds x = Check.countryOf(6);
        x.road(0, 1, 15);
        x.road(0, 2, 4);
        x.road(2, 3, 4);
        x.road(3, 1, 4);
        x.road(4, 1, 2);
        x.silence(2, true);
        int[][] due = {{0, 1, 12}, {1, 0, 12}, {0, 4, 14}, {2, 4, 10}, {0, 3, 8}, {3, 3, 0}, {5, 5, 0}, {0, 5, -15},
            {5, 1, -15}, {6, 0, -11}, {0, 6, -11}, {-1, -1, -11}};
        for (int[] row : due) {
            check.due("far(" + row[0] + ", " + row[1] + ")", x.far(row[0], row[1]), row[2]);
            check.due("farAgain(" + row[0] + ", " + row[1] + ")", x.farAgain(row[0], row[1]), row[2]);
        }
        FortHeralds row = Check.rowOf(8, 15);
        check.due("far, the most", row.far(0, 7), 105);
        check.due("farAgain, the most, backward", row.farAgain(7, 0), 105);
    }

    private void promise15Wrong() {
        FortHeralds x = Check.rowOf(3, 5);
        check.due("none though roads lead there", x.wrong(), 2);
        x.day(1);
        check.due("right", x.wrong(), 0);
        x.road(0, 2, 15);
        check.due("a longer road makes nothing wrong", x.wrong(), 0);
        x.cut(0, 2);
        x.road(0, 2, 1);
        check.due("a to b and c to b are truly 5", x.wrong(), 0);
        x.cut(0, 2);
        x.day(1);
        x.cut(1, 2);
        check.due("one though none do: a to c", x.wrong(), 1);
        x.road(1, 2, 1);
        check.due("not how far it truly is", x.wrong(), 2);
    }
}
