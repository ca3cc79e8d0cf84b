/** Promises 25 to 32: reasons, accounts, undo, and the snapshot. */
final class AccountsTest {
    private final Check check;

    private AccountsTest(Check check) {
        this.check = check;
    }

    public static void main(String[] args) {
        Check check = new Check();
        AccountsTest test = new AccountsTest(check);
        test.promise25Reason();
        test.promise26Account();
        test.promise27IsBalanced();
        test.promise28MeanLeagues();
        test.promise29ComeShare();
        test.promise30Undo();
        test.promise30UndoesAll();
        test.promise30EachChange();
        test.promise31And32Snapshot();
        check.end();
    }

    private void promise25Reason() {
        FortHeralds x = Check.rowOf(2, 6);
        x.road(0, 1, 99);
        x.cut(0, 7);
        x.known(0, 0, 0);
        check.due("codes alone give no reason", x.reason(false), -15);
        check.due("nor a detail", x.reason(true), -15);
        x.road(1, 0, 2);
        check.due("reason", x.reason(false), 3);
        check.due("detail", x.reason(true), 6);
        x.way(1);
        x.cut(0, 1);
        x.undo();
        x.save();
        x.restore();
        Check.runText(x, "fort");
        check.due("it stays", x.reason(false), 3);
        check.due("its detail stays", x.reason(true), 6);
        x.silence(0, false);
        check.due("the latest", x.reason(false), 5);
        check.due("its detail", x.reason(true), 0);
    }

    private void promise26Account() {
        FortHeralds x = Check.rowOf(4, 2);
        x.silence(3, true);
        x.way(2);
        x.bound(7);
        x.letter(0, 1);
        x.letter(0, 3);
        x.day(2);
        x.letter(3, 0);
        x.fort();
        x.letter(4, 0);
        x.append('f');
        x.day(1);
        int[] due = {3, 5, 3, 1, 2, 7, 12, 15, 6, 4, 3, 1, 0, 4, 1, 8};
        for (int what = 0; what < due.length; what++) {
            check.due("account(" + what + ")", x.account(what), due[what]);
        }
        check.due("account(16)", x.account(16), -12);
        check.due("account(-1)", x.account(-1), -12);
        x.day(2);
        check.due("under way", x.account(10), 0);
        // c lost its route over the silent d on the fourth day, and so the second letter waited there.
        check.due("have come", x.account(11), 2);
        check.due("lost", x.account(12), 2);
    }

    private void promise27IsBalanced() {
        FortHeralds x = Check.rowOf(6, 11);
        check.due("early", x.isBalanced(), 1);
        x.road(0, 5, 1);
        x.day(2);
        check.due("on the way", x.isBalanced(), 1);
        x.cut(2, 3);
        x.silence(0, true);
        x.day(2);
        check.due("behind a cut", x.isBalanced(), 1);
    }

    private void promise28MeanLeagues() {
        FortHeralds x = Check.countryOf(3);
        check.dueReal("no routes", x.meanLeagues(), 0.0);
        x.road(0, 1, 3);
        check.dueReal("one road", x.meanLeagues(), 3.0);
        x.road(1, 2, 4);
        check.dueReal("two roads", x.meanLeagues(), 14.0 / 4.0);
        x.day(1);
        check.dueReal("six routes", x.meanLeagues(), 28.0 / 6.0);
    }

    private void promise29ComeShare() {
        FortHeralds x = Check.rowOf(3, 1);
        check.dueReal("no letters", x.comeShare(), 0.0f);
        x.letter(0, 1);
        check.dueReal("none has come", x.comeShare(), 0.0f);
        x.letter(0, 2);
        x.letter(2, 1);
        x.day(1);
        check.dueReal("two of three", x.comeShare(), 2.0f / 3.0f);
        x.day(1);
        check.dueReal("all", x.comeShare(), 1.0f);
    }

    private void promise30Undo() {
        FortHeralds x = new FortHeralds();
        check.due("nothing", x.undo(), -15);
        x.fort();
        check.due("one", x.undo(), 0);
        check.due("no forts", x.account(1), 0);
        check.due("nothing left", x.undo(), -15);
        for (int day = 1; day <= 12; day++) {
            x.day(day);
        }
        check.due("the latest 8", x.account(15), 8);
        for (int left = 7; left >= 0; left--) {
            check.due("undo", x.undo(), left);
            check.due("the day", x.account(0), (left + 4) * (left + 5) / 2);
        }
        check.due("no more", x.undo(), -15);
        x.day(0);
        x.way(5);
        x.road(0, 0, 1);
        check.due("what is refused is no change", x.account(15), 0);
        x.bound(8);
        check.due("what makes nothing different is one", x.account(15), 1);
    }

    private void promise30UndoesAll() {
        FortHeralds x = Check.rowOf(3, 2);
        x.letter(0, 2);
        x.day(1);
        x.append('w');
        x.silence(1, true);
        x.day(4);
        check.due("lost", x.known(0, 1, 0), -15);
        check.due("undo of the days", x.undo(), 7);
        check.due("known again", x.known(0, 2, 0), 4);
        check.due("its age", x.known(0, 2, 3), 0);
        check.due("the letter", x.letterOf(0, 0), 1);
        check.due("its leaps", x.letterOf(0, 3), 1);
        check.due("tables told", x.account(7), 4);
        check.due("changes of routes", x.account(8), 2);
        check.due("undo of the silence", x.undo(), 6);
        check.due("not silent", x.account(3), 0);
        check.due("undo of the day", x.undo(), 5);
        check.due("undo of the letter", x.undo(), 4);
        check.due("no letters", x.account(9), 0);
        check.due("undo of the road", x.undo(), 3);
        check.due("no road", x.leagues(1, 2), -15);
        check.due("no route", x.known(1, 2, 0), -15);
        check.due("the text stays", x.account(14), 1);
        x.cut(0, 1);
        x.undo();
        check.due("undo of the cut", x.leagues(0, 1), 2);
        check.due("its route", x.known(0, 1, 0), 2);
        x.way(1);
        x.bound(2);
        x.undo();
        check.due("undo of the bound", x.account(5), 8);
        x.undo();
        check.due("undo of the way", x.account(4), 0);
    }

    private static int change(FortHeralds x, int kind) {
        switch (kind) {
            case 0:
                return x.fort();
            case 1:
                return x.road(0, 2, 1);
            case 2:
                return x.cut(1, 2);
            case 3:
                return x.silence(0, true);
            case 4:
                return x.way(2);
            case 5:
                return x.bound(2);
            case 6:
                return x.day(2);
            case 7:
                return x.letter(3, 1);
            default:
                return Check.runText(x, "way 1;day 3;fort;post a-c;cut a-b");
        }
    }

    private void promise30EachChange() {
        for (int kind = 0; kind <= 8; kind++) {
            FortHeralds x = Check.rowOf(4, 6);
            x.fort();
            x.letter(0, 3);
            x.letter(1, 4);
            x.silence(1, true);
            x.day(2);
            String before = Sight.ofCountry(x);
            x.save();
            check.due("change " + kind + " is made", change(x, kind) >= 0 ? 1 : 0, 1);
            check.due("change " + kind + " can be seen", Sight.ofCountry(x).equals(before) ? 0 : 1, 1);
            x.undo();
            check.dueText("undo of change " + kind, Sight.ofCountry(x), before);
            change(x, kind);
            x.restore();
            check.dueText("restore behind change " + kind, Sight.ofCountry(x), before);
        }
    }

    private void promise31And32Snapshot() {
        FortHeralds x = Check.rowOf(3, 2);
        check.due("no snapshot", x.restore(), -15);
        check.due("and nothing forgotten", x.account(15), 5);
        x.day(2);
        x.letter(0, 2);
        check.due("save", x.save(), 2);
        check.due("it is no change", x.account(15), 7);
        x.day(1);
        x.fort();
        x.cut(0, 1);
        x.way(1);
        check.due("restore", x.restore(), 2);
        check.due("nothing can be undone", x.undo(), -15);
        check.due("nothing at all", x.account(15), 0);
        check.due("the day", x.account(0), 2);
        check.due("forts", x.account(1), 3);
        check.due("roads", x.account(2), 2);
        check.due("way", x.account(4), 0);
        check.due("letter", x.letterOf(0, 0), 0);
        x.day(9);
        check.due("undo then", x.undo(), 0);
        x.day(9);
        check.due("it stays", x.restore(), 2);
        x.day(3);
        check.due("in place of the earlier", x.save(), 5);
        x.undo();
        check.due("undone", x.account(0), 2);
        check.due("undo leaves the snapshot", x.restore(), 5);
        x.append('f');
        x.tell(1);
        x.restore();
        check.due("the text stays", x.account(14), 1);
        check.due("the line stays", x.character(0), 'b');
    }
}
