/** Each sentence of the document's "In doubt", and what is counted as a change of a route. */
final class DoubtTest {
    private static final int NONE = -11;
    private static final int NOTHING = -15;

    private final Check check;

    private DoubtTest(Check check) {
        this.check = check;
    }

    public static void main(String[] args) {
        Check check = new Check();
        DoubtTest test = new DoubtTest(check);
        test.whatIsToldIsOfTheBeginning();
        test.silentFortsHearAndGrowOld();
        test.whatIsToldAsNoneIsNoneAtOnce();
        test.whatIsTakenGrowsNoOlder();
        test.severalAreHeardInTurn();
        test.severalAreHeardInTurnOfNone();
        test.lettersGoOneLeapADay();
        test.laterFortsAreUnknown();
        test.followedByWhatIsKnownNow();
        test.changesAreOfBeginningAndEnd();
        test.changesAreOfLeaguesOrNeighbour();
        test.changesAreOfEachDay();
        test.roadsInEitherOrder();
        test.settlesIsTheFirstDay();
        test.settlesLooksAheadOnly();
        check.end();
    }

    private void dueRoute(String when, FortHeralds x, int fort, int goal, int leagues, int next) {
        check.due(when + ": leagues", x.known(fort, goal, 0), leagues);
        check.due(when + ": neighbour", x.known(fort, goal, 1), next);
    }

    /** "Also if the fort that tells hears ahead of it": one fort a day, up the numbers and down. */
    private void whatIsToldIsOfTheBeginning() {
        FortHeralds x = Check.rowOf(8, 1);
        for (int day = 1; day <= 7; day++) {
            check.due("a knows as many", x.fortOf(0, 1), day);
            check.due("h knows as many", x.fortOf(7, 1), day);
            check.due("routes that came", x.day(1), day < 7 ? 2 * (7 - day) : 0);
        }
        FortHeralds y = Check.rowOf(4, 1);
        y.way(2);
        y.day(3);
        y.cut(2, 3);
        y.day(1);
        check.due("a still goes to d, as b had a route this morning", y.known(0, 3, 0), 3);
        check.due("b does not", y.known(1, 3, 0), NOTHING);
        FortHeralds z = Check.rowOf(4, 1);
        z.way(2);
        z.day(3);
        z.cut(0, 1);
        z.day(1);
        check.due("d still goes to a, though c heard ahead of it", z.known(3, 0, 0), 3);
        check.due("that there is none", z.known(2, 0, 0), NOTHING);
    }

    private void silentFortsHearAndGrowOld() {
        FortHeralds x = Check.rowOf(4, 1);
        x.silence(1, true);
        x.silence(2, true);
        x.day(1);
        dueRoute("the silent b hears a", x, 1, 0, 1, 0);
        check.due("which told it", x.known(1, 0, 3), 0);
        check.due("its route to c grows older", x.known(1, 2, 3), 1);
        check.due("a's route to b too", x.known(0, 1, 3), 1);
        x.day(2);
        check.due("three days", x.known(1, 2, 3), 3);
        x.day(1);
        check.due("four days", x.known(1, 2, 3), NOTHING);
        x.silence(2, false);
        check.due("it hears of c and d, and d of c", x.day(1), 3);
        dueRoute("c told b of d", x, 1, 3, 2, 2);
    }

    private void whatIsToldAsNoneIsNoneAtOnce() {
        FortHeralds x = Check.rowOf(4, 1);
        x.way(2);
        x.day(3);
        x.cut(2, 3);
        for (int day = 1; day <= 2; day++) {
            check.due("one route a day", x.day(1), 1);
            check.due("b", x.known(1, 3, 0), NOTHING);
            check.due("a", x.known(0, 3, 0), day == 1 ? 3 : NOTHING);
        }
        check.due("and none then", x.day(1), 0);
    }

    /** a's route to d over the silent b is on its last day, on which c tells of another one. */
    private void whatIsTakenGrowsNoOlder() {
        for (int more = -1; more <= 1; more++) {
            FortHeralds x = Check.countryOf(4);
            x.way(2);
            x.road(0, 1, 4);
            x.road(1, 3, 5);
            x.road(0, 2, 4);
            x.day(1);
            x.silence(1, true);
            x.day(3);
            check.due("age", x.known(0, 3, 3), 3);
            x.road(2, 3, 5 + more);
            x.day(1);
            if (more < 0) {
                dueRoute("a shorter one is taken", x, 0, 3, 8, 2);
                check.due("its age", x.known(0, 3, 3), 0);
            } else {
                dueRoute("no shorter one, and it is lost", x, 0, 3, NOTHING, NOTHING);
            }
            x.day(1);
            dueRoute("on the day behind it", x, 0, 3, 9 + more, 2);
        }
    }

    /** d lies behind b and behind c; a follows one of them, whose road to d becomes 8. */
    private static FortHeralds withTwoWays(int ofB, int ofC, int followed) {
        FortHeralds x = Check.countryOf(4);
        x.way(2);
        x.road(0, 1, 4);
        x.road(0, 2, 4);
        x.road(1, 3, ofB);
        x.road(2, 3, ofC);
        x.day(3);
        x.cut(followed, 3);
        x.road(followed, 3, 8);
        return x;
    }

    private void severalAreHeardInTurn() {
        FortHeralds x = withTwoWays(5, 6, 1);
        dueRoute("a follows b", x, 0, 3, 9, 1);
        check.due("day", x.day(1), 2);
        dueRoute("b is heard, 12, and then c", x, 0, 3, 10, 2);
        FortHeralds y = withTwoWays(6, 5, 2);
        dueRoute("a follows c", y, 0, 3, 9, 2);
        check.due("day", y.day(1), 2);
        dueRoute("b is heard, 10 are more than 9, and then c", y, 0, 3, 12, 2);
        check.due("day", y.day(1), 1);
        dueRoute("b is heard again", y, 0, 3, 10, 1);
    }

    private void severalAreHeardInTurnOfNone() {
        FortHeralds x = withTwoWays(5, 6, 1);
        x.cut(1, 3);
        check.due("b tells that there is none, and then c", x.day(1) > 0 ? x.known(0, 3, 0) : 0, 10);
        check.due("over c", x.known(0, 3, 1), 2);
        FortHeralds y = withTwoWays(6, 5, 2);
        y.cut(2, 3);
        y.day(1);
        dueRoute("b is heard, and then c tells that there is none", y, 0, 3, NOTHING, NOTHING);
        y.day(1);
        dueRoute("b is heard again", y, 0, 3, 10, 1);
    }

    private void lettersGoOneLeapADay() {
        FortHeralds x = Check.rowOf(8, 1);
        x.day(6);
        x.letter(0, 7);
        x.letter(7, 0);
        for (int day = 1; day <= 7; day++) {
            x.day(1);
            check.due("up the numbers", x.letterOf(0, 0), day);
            check.due("down the numbers", x.letterOf(1, 0), 7 - day);
            check.due("leaps", x.letterOf(0, 3), day);
            check.due("how it is", x.letterOf(0, 2), day == 7 ? 1 : 0);
            check.due("letters there", x.fortOf(day, 3), day == 7 ? 0 : 1);
        }
    }

    private void laterFortsAreUnknown() {
        FortHeralds x = Check.rowOf(3, 1);
        x.day(3);
        check.due("fort", x.fort(), 3);
        for (int fort = 0; fort < 3; fort++) {
            dueRoute("to d", x, fort, 3, NOTHING, NOTHING);
            dueRoute("from d", x, 3, fort, NOTHING, NOTHING);
        }
        check.due("days do not help", x.day(3), 0);
        x.tell(3);
        check.dueText("line", Check.lineOf(x), "d:a-,b-,c-");
        x.road(2, 3, 1);
        check.due("a road does", x.day(1), 3);
        FortHeralds y = Check.countryOf(8);
        y.road(6, 7, 1);
        y.silence(7, true);
        y.undo();
        y.undo();
        y.undo();
        check.due("h again", y.fort(), 7);
        check.due("it is as new", y.fortOf(7, 0) + y.fortOf(7, 1) + y.fortOf(7, 2), 0);
    }

    private void followedByWhatIsKnownNow() {
        FortHeralds x = Check.rowOf(4, 2);
        x.way(2);
        x.day(3);
        check.due("by known leagues", x.route(0, 3), 6);
        x.cut(2, 3);
        x.road(2, 3, 9);
        check.due("by roads", x.route(0, 3), 13);
        check.due("a does not know it yet", x.known(0, 3, 0), 6);
        x.road(1, 3, 1);
        check.due("b knows better", x.route(0, 3), 3);
        check.dueText("line", Check.lineOf(x), "a>b>d");
        x.cut(1, 3);
        check.due("b knows none", x.route(0, 3), NOTHING);
        x.day(1);
        check.due("b knows c again, and a nothing", x.route(1, 3), 11);
        check.due("a was told none", x.route(0, 3), NOTHING);
    }

    /** A route that is otherwise twice within a day changed once. */
    private void changesAreOfBeginningAndEnd() {
        FortHeralds x = withTwoWays(5, 6, 1);
        int before = x.account(8);
        check.due("a to d by b and c, d to a", x.day(1), 2);
        check.due("changes so far", x.account(8), before + 2);
        FortHeralds y = withTwoWays(5, 6, 1);
        y.cut(1, 3);
        // a to d is lost and comes over c; d has lost a and b, and hears of a alone by c, and of b.
        dueRoute("d to a", y, 3, 0, NOTHING, NOTHING);
        dueRoute("d to b", y, 3, 1, NOTHING, NOTHING);
        check.due("a to d, d to a, d to b", y.day(1), 3);
        dueRoute("d to b over c, which knew it over a", y, 3, 1, 14, 2);
    }

    private void changesAreOfLeaguesOrNeighbour() {
        FortHeralds x = withTwoWays(5, 5, 1);
        dueRoute("over b", x, 0, 3, 9, 1);
        check.due("a to d: as many leagues, another neighbour; d to a came", x.day(1), 2);
        dueRoute("over c", x, 0, 3, 9, 2);
        FortHeralds y = Check.rowOf(3, 2);
        y.way(2);
        y.day(1);
        y.cut(1, 2);
        y.road(1, 2, 3);
        check.due("a to c and back: the same neighbour, more leagues", y.day(1), 2);
        FortHeralds z = withMoreLeaps();
        check.due("leaps and an age are otherwise", z.day(1), 0);
        check.due("leaps then", z.known(0, 3, 2), 3);
        check.due("leagues then", z.known(0, 3, 0), 7);
        check.due("age then", z.known(0, 3, 3), 0);
    }

    /** While b was silent, its road to d was cut, and it heard of one as long, over c. */
    private FortHeralds withMoreLeaps() {
        FortHeralds x = Check.countryOf(4);
        x.way(2);
        x.road(0, 1, 1);
        x.road(1, 3, 6);
        x.road(1, 2, 3);
        x.road(2, 3, 3);
        x.day(2);
        x.silence(1, true);
        x.cut(1, 3);
        x.day(1);
        check.due("b goes over c", x.known(1, 3, 1), 2);
        check.due("leaps before", x.known(0, 3, 2), 2);
        check.due("age before", x.known(0, 3, 3), 1);
        x.silence(1, false);
        return x;
    }

    /** "Each as often as it did on another day." */
    private void changesAreOfEachDay() {
        FortHeralds x = Check.rowOf(4, 1);
        x.day(3);
        x.cut(2, 3);
        FortHeralds twin = Check.rowOf(4, 1);
        twin.day(3);
        twin.cut(2, 3);
        int sum = 0;
        for (int day = 0; day < 30; day++) {
            sum += twin.day(1);
        }
        check.due("b and c count up to none", x.day(30), sum);
        check.due("more often than there are routes", sum > 12 ? 1 : 0, 1);
        check.due("changes by days so far", x.account(8), 6 + sum);
        FortHeralds y = Check.rowOf(3, 1);
        y.road(0, 2, 1);
        y.cut(0, 1);
        y.cut(1, 2);
        check.due("what calls change is not counted", y.account(8), 0);
        check.due("no route changes by a day", y.day(1), 0);
    }

    private void roadsInEitherOrder() {
        FortHeralds x = Check.countryOf(3);
        x.road(2, 0, 5);
        check.due("leagues", x.leagues(0, 2), 5);
        check.due("leagues, as laid", x.leagues(2, 0), 5);
        check.due("a second one", x.road(0, 2, 6), -14);
        check.due("a to c", x.known(0, 2, 0), 5);
        check.due("c to a", x.known(2, 0, 0), 5);
        check.due("cut", x.cut(0, 2), 5);
        check.due("leagues", x.leagues(2, 0), NOTHING);
        check.due("laid the other way", x.road(0, 2, 7), 1);
        check.due("cut", x.cut(2, 0), 7);
        check.due("no such fort", x.leagues(3, 0), NONE);
    }

    /** Days that go by ahead of the first one without a change, as a twin finds them one by one. */
    private void settlesIsTheFirstDay() {
        for (int way = 0; way <= 2; way++) {
            for (int forts = 2; forts <= 8; forts++) {
                FortHeralds x = Check.rowOf(forts, 1);
                x.way(way);
                check.due("a row of " + forts, x.settles(), forts - 2);
                dueSettles("a row", x);
                x.cut(forts - 2, forts - 1);
                dueSettles("a row that is cut", x);
                x.fort();
                x.road(0, forts - 1, 15);
                dueSettles("a ring", x);
                x.silence(forts / 2, true);
                dueSettles("a ring with a silent fort", x);
                x.bound(3);
                dueSettles("a ring with a bound", x);
            }
        }
    }

    private void dueSettles(String name, FortHeralds x) {
        int settles = x.settles();
        x.save();
        int days = 0;
        while (days <= 40 && x.day(1) > 0) {
            days++;
        }
        x.restore();
        check.due(name + ": settles", settles, days);
        x.day(1);
    }

    /** A day without a change is the first one, also if routes are lost by age behind it. */
    private void settlesLooksAheadOnly() {
        FortHeralds x = Check.rowOf(3, 1);
        x.letter(0, 2);
        String before = Sight.ofCountry(x);
        check.due("settles", x.settles(), 1);
        check.dueText("nothing is otherwise", Sight.ofCountry(x), before);
        check.due("and again", x.settles(), 1);
        x.day(1);
        x.silence(1, true);
        for (int day = 0; day < 3; day++) {
            check.due("a day without a change", x.settles(), 0);
            x.day(1);
        }
        check.due("the day on which routes are lost", x.settles(), 1);
        x.day(1);
        check.due("behind it", x.settles(), 0);
    }
}
