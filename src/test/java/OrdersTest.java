import java.util.regex.Matcher;
import java.util.regex.Pattern;

/**
 * Texts: every order, cut off at every place, and with every character at every place; the fault
 * position due is found by a regular expression that tells whether a beginning can go on.
 */
final class OrdersTest {
    private static final int REFUSED = -14;
    private static final String TWO = "[a-h]-[a-h]";
    private static final String ORDER = "(?:fort|road " + TWO + " [0-9]{1,2}|cut " + TWO + "|mute [a-h]|open [a-h]"
            + "|way [0-9]|bound [0-9]|day [0-9]{1,2}|post " + TWO + ")";
    private static final Pattern TEXT = Pattern.compile(ORDER + "(?:;" + ORDER + ")*");
    private static final String[] ORDERS = {"fort", "road a-h 7", "road g-b 15", "cut b-a", "mute c", "open h",
        "way 0", "bound 8", "day 9", "day 30", "post d-e"};

    private final Check check;

    private OrdersTest(Check check) {
        this.check = check;
    }

    public static void main(String[] args) {
        Check check = new Check();
        OrdersTest test = new OrdersTest(check);
        test.endsTooEarly();
        test.everyCharacterInEveryPlace();
        test.everyCharacterPutIn();
        test.everyCharacterLeftOut();
        test.faultsByHand();
        test.fortsOfOrders();
        test.digitsOfOrders();
        test.eachOrderIsItsCall();
        test.oneAfterTheOther();
        test.allOrNone();
        test.mostOrders();
        check.end();
    }

    /** The index of the first character with which no text can go on, or the length; -1 if it is right. */
    private static int faultOf(String text) {
        for (int length = 1; length <= text.length(); length++) {
            Matcher matcher = TEXT.matcher(text.substring(0, length));
            if (!matcher.matches() && !matcher.hitEnd()) {
                return length - 1;
            }
        }
        return TEXT.matcher(text).matches() ? -1 : text.length();
    }

    private void dueFault(String text) {
        FortHeralds x = new FortHeralds();
        int answer = Check.runText(x, text);
        int fault = faultOf(text);
        if (fault >= 0) {
            check.due("\"" + text + "\"", answer, -1000 - fault);
            check.due("\"" + text + "\": no forts", x.account(1), 0);
        } else {
            check.due("\"" + text + "\" can be read", answer > 0 || answer == REFUSED ? 1 : 0, 1);
        }
    }

    private void endsTooEarly() {
        for (String first : ORDERS) {
            for (String second : ORDERS) {
                String text = first + ";" + second;
                for (int length = 0; length <= text.length(); length++) {
                    dueFault(text.substring(0, length));
                }
            }
        }
    }

    private void everyCharacterInEveryPlace() {
        for (String order : ORDERS) {
            String text = order + ";way 1";
            for (int place = 0; place < text.length(); place++) {
                for (char code = 32; code <= 126; code++) {
                    dueFault(text.substring(0, place) + code + text.substring(place + 1));
                }
            }
        }
    }

    private void everyCharacterPutIn() {
        for (String order : ORDERS) {
            String text = "way 1;" + order;
            for (int place = 0; place <= text.length(); place++) {
                for (char code = 32; code <= 126; code++) {
                    dueFault(text.substring(0, place) + code + text.substring(place));
                }
            }
        }
    }

    private void everyCharacterLeftOut() {
        for (String order : ORDERS) {
            String text = order + ";" + order;
            for (int place = 0; place < text.length(); place++) {
                dueFault(text.substring(0, place) + text.substring(place + 1));
                dueFault(text.substring(0, place) + text.charAt(place) + text.substring(place));
            }
        }
    }

    /** Some of the same by hand, so that not all hangs on the regular expression. */
    private void faultsByHand() {
        Object[][] rows = {{"", 0}, {";", 0}, {"fort;", 5}, {"fort;;", 5}, {"fort,fort", 4}, {"fork", 3}, {"roar", 3},
            {"b", 1}, {"bo", 2}, {"bounds", 5}, {"bound", 5}, {"bound ", 6}, {"bound a", 6}, {"bound 33", 7}, {"way 33", 5},
            {"road a-b 123", 11}, {"road a-b 1;", 11}, {"road a-b  1", 9}, {"road a-i 1", 7}, {"road i-a 1", 5},
            {"road A-B 1", 5}, {"day", 3}, {"day 123", 6}, {"day 12 ", 6}, {"dey", 1}, {"d", 1}, {"mute a-b", 6}, {"mutea", 4},
            {"post a-b 1", 8}, {"post ab", 6}, {"cut a", 5}, {"cut a-", 6}, {"open", 4}, {"oper", 3}, {"p", 1}, {"q", 0}};
        for (Object[] row : rows) {
            check.due("\"" + row[0] + "\"", Check.runText(new FortHeralds(), (String) row[0]), -1000 - (Integer) row[1]);
        }
    }

    /** "Forts are letters from a to h": each is read as its number, in the first place and in the second. */
    private void fortsOfOrders() {
        for (int one = 0; one < 8; one++) {
            for (int other = 0; other < 8; other++) {
                FortHeralds x = Check.countryOf(8);
                String two = (char) ('a' + one) + "-" + (char) ('a' + other);
                int answer = one == other ? REFUSED : 1;
                check.due("road " + two, Check.runText(x, "road " + two + " 3"), answer);
                check.due("its leagues", x.leagues(one, other), one == other ? -15 : 3);
                check.due("post " + two, Check.runText(x, "post " + two), answer);
                check.due("from", x.letterOf(0, 0), one == other ? -11 : one);
                check.due("to", x.letterOf(0, 1), one == other ? -11 : other);
                check.due("cut " + two, Check.runText(x, "cut " + two), answer);
                check.due("cut", x.leagues(one, other), -15);
            }
            FortHeralds x = Check.countryOf(8);
            char letter = (char) ('a' + one);
            check.due("mute " + letter, Check.runText(x, "mute " + letter), 1);
            check.due("silent", x.fortOf(one, 2), 1);
            check.due("open " + letter, Check.runText(x, "open " + letter), 1);
            check.due("not silent", x.fortOf(one, 2), 0);
        }
    }

    /** "Leagues and days have one or two digits, all else one." */
    private void digitsOfOrders() {
        for (int number = 0; number < 100; number++) {
            String two = number / 10 + "" + number % 10;
            String[] forms = number < 10 ? new String[] {two, "" + number} : new String[] {two};
            for (String digits : forms) {
                FortHeralds x = Check.countryOf(2);
                boolean isRoad = number >= 1 && number <= 15;
                check.due("road a-b " + digits, Check.runText(x, "road a-b " + digits), isRoad ? 1 : REFUSED);
                check.due("its leagues", x.leagues(0, 1), isRoad ? number : -15);
                boolean isDays = number >= 1 && number <= 30;
                check.due("day " + digits, Check.runText(x, "day " + digits), isDays ? 1 : REFUSED);
                check.due("the day", x.account(0), isDays ? number : 0);
            }
        }
        for (int number = 0; number < 10; number++) {
            FortHeralds x = new FortHeralds();
            check.due("way " + number, Check.runText(x, "way " + number), number <= 2 ? 1 : REFUSED);
            check.due("the way", x.account(4), number <= 2 ? number : 0);
            boolean isBound = number >= 1 && number <= 8;
            check.due("bound " + number, Check.runText(x, "bound " + number), isBound ? 1 : REFUSED);
            check.due("the bound", x.account(5), isBound ? number : 8);
        }
    }

    private static FortHeralds row() {
        FortHeralds x = Check.rowOf(4, 6);
        x.silence(2, true);
        x.letter(0, 3);
        x.day(1);
        return x;
    }

    private static int call(FortHeralds x, int order) {
        switch (order) {
            case 0:
                return x.fort();
            case 1:
                return x.road(3, 0, 2);
            case 2:
                return x.cut(2, 1);
            case 3:
                return x.silence(1, true);
            case 4:
                return x.silence(2, false);
            case 5:
                return x.way(2);
            case 6:
                return x.bound(3);
            case 7:
                return x.day(12);
            default:
                return x.letter(3, 1);
        }
    }

    private void eachOrderIsItsCall() {
        String[] orders = {"fort", "road d-a 2", "cut c-b", "mute b", "open c", "way 2", "bound 3", "day 12", "post d-b"};
        for (int order = 0; order < orders.length; order++) {
            FortHeralds x = row();
            FortHeralds twin = row();
            check.due(orders[order], Check.runText(x, orders[order]), 1);
            check.due(orders[order] + " as a call", call(twin, order) >= 0 ? 1 : 0, 1);
            check.dueText(orders[order] + " and its call", Sight.ofDepths(x), Sight.ofDepths(twin));
        }
    }

    /** Each order finds what those ahead of it have left. */
    private void oneAfterTheOther() {
        FortHeralds x = new FortHeralds();
        check.due("forts, a road, days, a letter", Check.runText(x, "fort;fort;fort;road a-b 1;road b-c 2;day 1;post a-c;day 2"), 8);
        check.due("it has come", x.letterOf(0, 2), 1);
        check.due("the day", x.account(0), 3);
        check.due("cut and laid again", Check.runText(x, "cut a-b;road b-a 9;mute a;open a;mute a"), 5);
        check.due("its leagues", x.leagues(0, 1), 9);
        check.due("silent", x.fortOf(0, 2), 1);
        check.due("laid and laid again", Check.runText(x, "road a-c 1;road a-c 1"), REFUSED);
        check.due("the second", x.reason(true), 1);
        check.due("a letter ahead of its fort", Check.runText(x, "post a-d;fort"), REFUSED);
        check.due("the first", x.reason(true), 0);
        check.due("a letter behind its fort", Check.runText(x, "fort;post a-d"), 2);
    }

    /** "All or none": of a text whose last order is refused, nothing is left. */
    private void allOrNone() {
        String[] orders = {"fort", "road d-a 2", "cut c-b", "mute b", "open c", "way 2", "bound 3", "day 12", "post d-b"};
        StringBuilder all = new StringBuilder();
        for (String order : orders) {
            String[] refused = {order + ";day 0", all + order + ";way 3"};
            for (String text : refused) {
                if (text.length() <= 60) {
                    FortHeralds x = row();
                    check.due(text, Check.runText(x, text), REFUSED);
                    check.dueText(text + ": nothing is left", Sight.ofDepths(x), Sight.ofDepths(row()));
                }
            }
            all.append(order).append(';');
        }
    }

    private void mostOrders() {
        FortHeralds x = new FortHeralds();
        check.due("eleven orders", Check.runText(x, "fort;fort;fort;fort;fort;fort;fort;fort;day 1;day 20;way 2"), 11);
        check.due("forts", x.account(1), 8);
        check.due("the day", x.account(0), 21);
        check.due("one change", x.account(15), 1);
        check.due("undone at once", x.undo(), 0);
        check.due("forts then", x.account(1), 0);
        check.due("the day then", x.account(0), 0);
    }
}
