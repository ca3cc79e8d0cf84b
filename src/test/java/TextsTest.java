/** Promises 21 to 24: the text, orders, and the line. */
final class TextsTest {
    private final Check check;

    private TextsTest(Check check) {
        this.check = check;
    }

    public static void main(String[] args) {
        Check check = new Check();
        TextsTest test = new TextsTest(check);
        test.promise21Append();
        test.promise22Orders();
        test.promise22Faults();
        test.promise22Refused();
        test.promise22AllOrNone();
        test.promise23Tell();
        test.promise24Character();
        check.end();
    }

    private void dueRun(FortHeralds x, String text, int want) {
        check.due("run of \"" + text + "\"", Check.runText(x, text), want);
        check.due("characters then", x.account(14), 0);
    }

    private void promise21Append() {
        FortHeralds x = new FortHeralds();
        check.due("31", x.append(31), -12);
        check.due("127", x.append(127), -12);
        check.due("-1", x.append(-1), -12);
        check.due("65536 + 100", x.append(65636), -12);
        check.due("lowest", x.append(32), 1);
        check.due("highest", x.append(126), 2);
        for (int length = 3; length <= 60; length++) {
            check.due("character " + length, x.append('f'), length);
        }
        check.due("one more", x.append('f'), -13);
        check.due("BAD ahead of FULL", x.append(31), -12);
        check.due("characters", x.account(14), 60);
        check.due("it is no change", x.account(15), 0);
        check.due("a blank ahead", x.run(), -1000);
        check.due("empty then", x.append('f'), 1);
    }

    private void promise22Orders() {
        FortHeralds x = new FortHeralds();
        dueRun(x, "fort;fort;fort", 3);
        check.due("forts", x.account(1), 3);
        dueRun(x, "road a-b 9;road c-b 15", 2);
        check.due("one digit", x.leagues(0, 1), 9);
        check.due("two digits", x.leagues(1, 2), 15);
        dueRun(x, "cut b-a", 1);
        check.due("cut", x.leagues(0, 1), -15);
        dueRun(x, "road a-b 04", 1);
        check.due("a digit 0 ahead", x.leagues(0, 1), 4);
        dueRun(x, "mute c", 1);
        check.due("silent", x.fortOf(2, 2), 1);
        dueRun(x, "open c", 1);
        check.due("not silent", x.fortOf(2, 2), 0);
        dueRun(x, "way 2", 1);
        check.due("way", x.account(4), 2);
        dueRun(x, "bound 5", 1);
        check.due("bound", x.account(5), 5);
        dueRun(x, "day 1", 1);
        dueRun(x, "day 30", 1);
        dueRun(x, "day 07", 1);
        check.due("days", x.account(0), 38);
        dueRun(x, "post c-a", 1);
        check.due("from", x.letterOf(0, 0), 2);
        check.due("to", x.letterOf(0, 1), 0);
        FortHeralds y = new FortHeralds();
        dueRun(y, "fort;fort;fort;fort;fort;fort;fort;fort;way 1;way 2;way 0", 11);
        check.due("it is one change", y.account(15), 1);
        dueRun(y, "road g-h 1;mute h;mute g;post h-a", 4);
        check.due("no reason", y.reason(false), -15);
    }

    private void promise22Faults() {
        FortHeralds x = Check.rowOf(2, 1);
        Object[][] rows = {
            {"", 0}, {"f", 1}, {"for", 3}, {"fort;", 5}, {"fort ", 4}, {"fort;;fort", 5}, {";fort", 0}, {"forts", 4},
            {"Fort", 0}, {" fort", 0}, {"x", 0}, {"fort; way 1", 5}, {"boat", 2}, {"cat a-b", 1}, {"mule a", 2},
            {"posh a-b", 3}, {"road", 4}, {"road ", 5}, {"road i-a 1", 5}, {"road A-b 1", 5}, {"road a", 6},
            {"road a b 1", 6}, {"road a-", 7}, {"road a-i 1", 7}, {"road a-b", 8}, {"road a-b1", 8}, {"road a-b ", 9},
            {"road a-b x", 9}, {"road a-b ;fort", 9}, {"road a-b 123", 11}, {"road a-b 1 ", 10}, {"road a-b -1", 9},
            {"cut a-b 1", 7}, {"cut a-", 6}, {"mute", 4}, {"mute ab", 6}, {"mute 1", 5}, {"open", 4}, {"open  a", 5},
            {"way a", 4}, {"way 12", 5}, {"way ", 4}, {"bound 10", 7}, {"bound ", 6}, {"day ", 4}, {"day 100", 6},
            {"day 1x", 5}, {"post a", 6}, {"post a-b-c", 8}, {"way 1;way 2;wat", 14}, {"fort;fort;road a-b 1;dax", 23},
            {"road ~-b 1", 5}, {"road `-b 1", 5}, {"day :", 4}, {"day /", 4},
        };
        for (Object[] row : rows) {
            dueRun(x, (String) row[0], -1000 - (Integer) row[1]);
        }
        check.due("nothing was done", x.account(1), 2);
        check.due("no reason", x.reason(false), -15);
        check.due("changes", x.account(15), 3);
    }

    private void promise22Refused() {
        String[] orders = {"road a-b 3", "road a-c 3", "road a-c 0", "road b-c 16", "road a-a 1", "road a-h 1",
            "cut a-a", "cut a-c", "cut h-a", "mute a", "mute h", "open b", "open h", "way 3", "way 9", "bound 0",
            "bound 9", "day 0", "day 00", "day 31", "day 99", "post b-b", "post h-b"};
        for (int index = 0; index < orders.length; index++) {
            FortHeralds x = Check.countryOf(3);
            x.road(0, 1, 1);
            x.road(0, 2, 1);
            x.cut(0, 2);
            x.silence(0, true);
            boolean isDone = orders[index].equals("road a-c 3");
            dueRun(x, orders[index], isDone ? 1 : -14);
            check.due("reason of " + orders[index], x.reason(false), isDone ? -15 : 7);
            check.due("detail of " + orders[index], x.reason(true), isDone ? -15 : 0);
        }
        FortHeralds full = Check.countryOf(8);
        dueRun(full, "way 1;fort", -14);
        check.due("its number", full.reason(true), 1);
        check.due("the way stays", full.account(4), 0);
    }

    private void promise22AllOrNone() {
        FortHeralds x = Check.rowOf(3, 1);
        x.day(1);
        x.letter(0, 2);
        for (int change = 0; change < 4; change++) {
            x.way(2);
        }
        dueRun(x, "fort;road d-a 5;cut a-b;mute a;way 0;bound 3;day 9;post b-b", -14);
        check.due("reason", x.reason(false), 7);
        check.due("its number", x.reason(true), 7);
        check.due("forts", x.account(1), 3);
        check.due("roads", x.account(2), 2);
        check.due("silent", x.account(3), 0);
        check.due("way", x.account(4), 2);
        check.due("bound", x.account(5), 8);
        check.due("day", x.account(0), 1);
        check.due("tables told", x.account(7), 4);
        check.due("changes of routes", x.account(8), 2);
        check.due("route", x.known(0, 2, 0), 2);
        check.due("letter", x.letterOf(0, 0), 0);
        check.due("letters", x.account(9), 1);
        check.due("changes that can be undone", x.account(15), 8);
        for (int left = 7; left >= 0; left--) {
            check.due("undo", x.undo(), left);
        }
        check.due("the eighth was the first road", x.account(2), 0);
        check.due("the forts were ahead of it", x.account(1), 3);
        FortHeralds y = Check.rowOf(3, 1);
        dueRun(y, "day 1;post a-c;day 2;mute b;way 2", 5);
        check.due("undo all at once", y.undo(), 5);
        check.due("day", y.account(0), 0);
        check.due("letters", y.account(9), 0);
        check.due("way", y.account(4), 0);
    }

    private void dueLine(FortHeralds x, int fort, String line) {
        check.due("tell(" + fort + ")", x.tell(fort), line.length());
        check.dueText("line of " + fort, Check.lineOf(x), line);
    }

    private void promise23Tell() {
        FortHeralds x = new FortHeralds();
        check.due("no fort", x.tell(0), -11);
        x.fort();
        dueLine(x, 0, "a:");
        x.fort();
        x.fort();
        x.fort();
        dueLine(x, 1, "b:a-,c-,d-");
        x.road(0, 1, 3);
        x.road(1, 3, 14);
        x.silence(3, true);
        dueLine(x, 0, "a:b3b,c-,d-");
        x.day(1);
        // d is silent, but b knew d by the road, and d hears.
        dueLine(x, 0, "a:b3b,c-,d17b");
        dueLine(x, 3, "d!:a17b,b14b,c-");
        x.silence(3, false);
        x.day(1);
        dueLine(x, 0, "a:b3b,c-,d17b");
        dueLine(x, 3, "d:a17b,b14b,c-");
        check.due("no such fort", x.tell(4), -11);
        check.due("no such fort below", x.tell(-1), -11);
        check.dueText("codes leave the line", Check.lineOf(x), "d:a17b,b14b,c-");
        x.undo();
        x.save();
        x.restore();
        check.dueText("the line is not undone", Check.lineOf(x), "d:a17b,b14b,c-");
        FortHeralds y = Check.rowOf(8, 8);
        y.silence(0, true);
        y.day(8);
        dueLine(y, 0, "a!:b8b,c16b,d24b,e32b,f40b,g48b,h56b");
    }

    private void promise24Character() {
        FortHeralds x = Check.rowOf(2, 1);
        check.due("empty at first", x.character(0), -11);
        x.tell(0);
        check.due("first", x.character(0), 'a');
        check.due("digit", x.character(3), '1');
        check.due("last", x.character(4), 'b');
        check.due("behind the last", x.character(5), -11);
        check.due("below", x.character(-1), -11);
        check.due("far below", x.character(Integer.MIN_VALUE), -11);
        x.route(1, 0);
        check.due("the line of a route is in its place", x.character(1), '>');
        check.due("and shorter", x.character(3), -11);
        Check.runText(x, "fort");
        check.due("a run leaves the line", x.character(0), 'b');
    }
}
