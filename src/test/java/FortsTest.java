/** Promises 1 to 9: a new object, forts, roads, silence, the way, the bound. */
final class FortsTest {
    private final Check check;

    private FortsTest(Check check) {
        this.check = check;
    }

    public static void main(String[] args) {
        Check check = new Check();
        FortsTest test = new FortsTest(check);
        test.promise1New();
        test.promise2Fort();
        test.promise3Road();
        test.promise3Room();
        test.promise3Routes();
        test.promise4Cut();
        test.promise5Silence();
        test.promise6Way();
        test.promise7Bound();
        test.promise8FortOf();
        test.promise9Leagues();
        check.end();
    }

    private void dueReason(String call, FortHeralds x, int reason, int detail) {
        check.due(call + ", reason", x.reason(false), reason);
        check.due(call + ", detail", x.reason(true), detail);
    }

    private void promise1New() {
        FortHeralds x = new FortHeralds();
        for (int what = 0; what <= 15; what++) {
            check.due("new account(" + what + ")", x.account(what), what == 5 ? 8 : 0);
        }
        check.due("new character(0)", x.character(0), -11);
        check.due("new reason", x.reason(false), -15);
        check.due("new detail", x.reason(true), -15);
        check.due("new undo", x.undo(), -15);
        check.due("new restore", x.restore(), -15);
        check.due("new ranked(0)", x.ranked(0), -11);
        check.due("new wrong", x.wrong(), 0);
        check.due("new rings", x.rings(), 0);
        check.due("new settles", x.settles(), 0);
        check.due("new isBalanced", x.isBalanced(), 1);
        check.due("new run", x.run(), -1000);
        check.due("new day", x.day(30), 0);
        check.due("day then", x.account(0), 30);
    }

    private void promise2Fort() {
        FortHeralds x = new FortHeralds();
        for (int fort = 0; fort < 8; fort++) {
            check.due("fort " + fort, x.fort(), fort);
        }
        check.due("ninth fort", x.fort(), -14);
        dueReason("ninth fort", x, 1, 8);
        check.due("forts then", x.account(1), 8);
        x.undo();
        check.due("fort behind undo", x.fort(), 7);
    }

    private void promise3Road() {
        FortHeralds x = Check.countryOf(4);
        check.due("road", x.road(2, 0, 15), 1);
        check.due("road, lowest", x.road(1, 2, 1), 2);
        check.due("no such one", x.road(-1, 0, 5), -11);
        check.due("no such one above", x.road(4, 0, 5), -11);
        check.due("no such other", x.road(0, 4, 5), -11);
        check.due("no such other below", x.road(0, Integer.MIN_VALUE, 5), -11);
        check.due("NONE ahead of BAD", x.road(0, 4, 0), -11);
        check.due("leagues 0", x.road(0, 1, 0), -12);
        check.due("leagues 16", x.road(0, 1, 16), -12);
        check.due("leagues far off", x.road(0, 1, Integer.MAX_VALUE), -12);
        check.due("BAD ahead of REFUSED", x.road(1, 1, 16), -12);
        check.due("BAD is no reason", x.reason(false), -15);
        check.due("both are one", x.road(3, 3, 5), -14);
        dueReason("both are one", x, 2, 3);
        check.due("a road already", x.road(0, 2, 3), -14);
        dueReason("a road already", x, 3, 15);
        check.due("roads then", x.account(2), 2);
        check.due("changes then", x.account(15), 6);
    }

    private void promise3Room() {
        FortHeralds x = Check.countryOf(8);
        int roads = 0;
        for (int one = 0; one < 8 && roads < 16; one++) {
            for (int other = one + 1; other < 8 && roads < 16; other++) {
                roads++;
                check.due("road " + roads, x.road(one, other, 4), roads);
            }
        }
        check.due("seventeenth road", x.road(6, 7, 4), -14);
        dueReason("seventeenth road", x, 1, 16);
        check.due("reason 2 ahead of 1", x.road(5, 5, 4), -14);
        dueReason("reason 2 ahead of 1", x, 2, 5);
        check.due("reason 3 ahead of 1", x.road(1, 0, 7), -14);
        dueReason("reason 3 ahead of 1", x, 3, 4);
        x.cut(0, 1);
        check.due("road behind a cut", x.road(6, 7, 4), 16);
    }

    private void promise3Routes() {
        FortHeralds x = Check.rowOf(3, 3);
        x.day(1);
        check.due("route over b", x.known(0, 2, 0), 6);
        x.road(0, 2, 6);
        check.due("as long: stays", x.known(0, 2, 1), 1);
        check.due("as long: stays, leaps", x.known(2, 0, 2), 2);
        x.cut(0, 2);
        check.due("not over the road: stays", x.known(0, 2, 0), 6);
        x.road(2, 0, 5);
        check.due("shorter: taken", x.known(0, 2, 0), 5);
        check.due("shorter: taken by both", x.known(2, 0, 0), 5);
        check.due("shorter: neighbour", x.known(0, 2, 1), 2);
        check.due("shorter: leaps", x.known(2, 0, 2), 1);
        check.due("shorter: age", x.known(2, 0, 3), 0);
        check.due("others stay", x.known(0, 1, 1), 1);
    }

    private void promise4Cut() {
        FortHeralds x = Check.rowOf(4, 7);
        x.day(2);
        check.due("no such one", x.cut(4, 0), -11);
        check.due("no such other", x.cut(0, -1), -11);
        check.due("both are one", x.cut(2, 2), -14);
        dueReason("both are one", x, 2, 2);
        check.due("no road", x.cut(3, 1), -14);
        dueReason("no road", x, 4, 3);
        check.due("no road, the other order", x.cut(1, 3), -14);
        dueReason("no road, the other order", x, 4, 1);
        check.due("cut", x.cut(2, 1), 7);
        check.due("roads then", x.account(2), 2);
        check.due("c has lost a", x.known(2, 0, 0), -15);
        check.due("c has lost b", x.known(2, 1, 0), -15);
        check.due("c knows d", x.known(2, 3, 0), 7);
        check.due("b has lost c", x.known(1, 2, 0), -15);
        check.due("b has lost d", x.known(1, 3, 0), -15);
        check.due("b knows a", x.known(1, 0, 0), 7);
        check.due("a still knows d", x.known(0, 3, 0), 21);
        check.due("cut again", x.cut(2, 1), -14);
        check.due("laid again", x.road(1, 2, 2), 3);
    }

    private void promise5Silence() {
        FortHeralds x = Check.countryOf(3);
        check.due("no such fort", x.silence(3, true), -11);
        check.due("no such fort below", x.silence(-1, false), -11);
        check.due("open already", x.silence(1, false), -14);
        dueReason("open already", x, 5, 1);
        check.due("silent", x.silence(1, true), 1);
        check.due("silent too", x.silence(2, true), 2);
        check.due("silent already", x.silence(2, true), -14);
        dueReason("silent already", x, 5, 2);
        check.due("open", x.silence(1, false), 1);
        check.due("open too", x.silence(2, false), 0);
        check.due("the first fort", x.silence(0, true), 1);
    }

    private void promise6Way() {
        FortHeralds x = new FortHeralds();
        check.due("way 2", x.way(2), 0);
        check.due("way 1", x.way(1), 2);
        check.due("way 1 again", x.way(1), 1);
        check.due("way 3", x.way(3), -12);
        check.due("way -1", x.way(-1), -12);
        check.due("way then", x.account(4), 1);
        check.due("way 0", x.way(0), 1);
        check.due("changes, also by which nothing is different", x.account(15), 4);
        check.due("reason", x.reason(false), -15);
    }

    private void promise7Bound() {
        FortHeralds x = Check.rowOf(4, 1);
        x.day(3);
        check.due("bound 0", x.bound(0), -12);
        check.due("bound 9", x.bound(9), -12);
        check.due("bound 1", x.bound(1), 8);
        check.due("known stays", x.known(0, 3, 0), 3);
        x.day(1);
        check.due("two leaps too many", x.known(0, 2, 0), -15);
        check.due("one leap is not", x.known(0, 1, 0), 1);
        check.due("bound 2", x.bound(2), 1);
        x.day(4);
        check.due("two leaps", x.known(0, 2, 0), 2);
        check.due("three leaps too many", x.known(0, 3, 0), -15);
        check.due("bound 8", x.bound(8), 2);
        check.due("bound then", x.account(5), 8);
    }

    private void promise8FortOf() {
        FortHeralds x = Check.rowOf(4, 2);
        x.silence(2, true);
        x.letter(1, 3);
        x.letter(1, 0);
        check.due("neighbours of the end", x.fortOf(0, 0), 1);
        check.due("neighbours", x.fortOf(1, 0), 2);
        check.due("routes", x.fortOf(1, 1), 2);
        check.due("not silent", x.fortOf(1, 2), 0);
        check.due("silent", x.fortOf(2, 2), 1);
        check.due("letters", x.fortOf(1, 3), 2);
        check.due("no letters", x.fortOf(0, 3), 0);
        x.day(1);
        check.due("routes behind a day", x.fortOf(2, 1), 3);
        check.due("letters behind a day", x.fortOf(1, 3), 1);
        check.due("a letter that has come is not under way", x.fortOf(0, 3), 0);
        check.due("no such fort", x.fortOf(4, 0), -11);
        check.due("NONE ahead of BAD", x.fortOf(-1, 4), -11);
        check.due("what 4", x.fortOf(0, 4), -12);
        check.due("what -1", x.fortOf(0, -1), -12);
    }

    private void promise9Leagues() {
        FortHeralds x = Check.rowOf(3, 9);
        check.due("leagues", x.leagues(0, 1), 9);
        check.due("leagues, the other order", x.leagues(2, 1), 9);
        check.due("no road", x.leagues(0, 2), -15);
        check.due("both are one", x.leagues(1, 1), -15);
        check.due("no such one", x.leagues(3, 0), -11);
        check.due("no such other", x.leagues(0, 3), -11);
        check.due("no such both", x.leagues(-1, -1), -11);
    }
}
