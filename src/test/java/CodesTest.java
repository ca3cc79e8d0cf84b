import java.util.function.ToIntFunction;

/**
 * Codes: each call with each code that it can return; which one goes ahead if several apply; and
 * that a call with a code leaves everything unchanged, but for the text of run, and the reasons.
 */
final class CodesTest {
    private static final int NONE = -11;
    private static final int BAD = -12;
    private static final int FULL = -13;
    private static final int REFUSED = -14;
    private static final int NOTHING = -15;

    private final Check check;

    private CodesTest(Check check) {
        this.check = check;
    }

    public static void main(String[] args) {
        Check check = new Check();
        CodesTest test = new CodesTest(check);
        test.constants();
        test.noneOfRoads();
        test.noneOfQuestions();
        test.bad();
        test.refused();
        test.nothing();
        test.nothingAtFirst();
        test.full();
        test.texts();
        test.noneGoesAhead();
        test.badGoesAhead();
        test.faultGoesAhead();
        test.questionsChangeNothing();
        check.end();
    }

    private void constants() {
        check.due("NONE", FortHeralds.NONE, NONE);
        check.due("BAD", FortHeralds.BAD, BAD);
        check.due("FULL", FortHeralds.FULL, FULL);
        check.due("REFUSED", FortHeralds.REFUSED, REFUSED);
        check.due("NOTHING", FortHeralds.NOTHING, NOTHING);
    }

    /**
     * A country in which much can be refused: eight forts, sixteen roads, ten letters, a silent
     * fort, rings, a snapshot, changes that can be undone, a line, a text, and a reason.
     */
    private static FortHeralds busy() {
        FortHeralds x = Check.countryOf(8);
        int[][] roads = {{0, 4, 1}, {1, 4, 1}, {0, 2, 1}, {1, 3, 1}, {2, 3, 1}, {0, 5, 9}, {0, 6, 9}, {1, 5, 9},
            {1, 6, 9}, {2, 5, 9}, {2, 6, 9}, {3, 5, 9}, {3, 6, 9}, {5, 6, 9}, {0, 3, 15}, {1, 2, 15}};
        for (int[] road : roads) {
            x.road(road[0], road[1], road[2]);
        }
        x.letter(0, 4);
        x.letter(0, 7);
        x.letter(5, 4);
        x.day(4);
        x.save();
        for (int letter = 3; letter < 10; letter++) {
            x.letter(letter - 3, 7);
        }
        x.silence(6, true);
        x.cut(0, 4);
        x.cut(1, 4);
        x.day(1);
        x.road(0, 1, 15);
        x.road(7, 0, 15);
        x.cut(0, 7);
        x.road(7, 1, 3);
        x.silence(6, true);
        x.tell(6);
        type(x, "way 1;da");
        return x;
    }

    private static void type(FortHeralds x, String text) {
        for (int index = 0; index < text.length(); index++) {
            x.append(text.charAt(index));
        }
    }

    /** The call is made in one of two like countries, and all but the reason is compared. */
    private void dueCode(String name, ToIntFunction<FortHeralds> call, int code) {
        FortHeralds x = busy();
        FortHeralds twin = busy();
        check.due(name, call.applyAsInt(x), code);
        if (code != REFUSED) {
            check.dueText(name + ": the reason is kept", Sight.ofReason(x), Sight.ofReason(twin));
        }
        dueAlike(name, x, twin);
    }

    private void dueAlike(String name, FortHeralds x, FortHeralds twin) {
        type(x, "y 3;fort");
        type(twin, "y 3;fort");
        check.due(name + ": and a text is refused alike", x.run(), REFUSED);
        check.due(name + ": and its twin's", twin.run(), REFUSED);
        check.dueText(name + ": number of the order", Sight.ofReason(x), "7 2");
        check.dueText(name + ": all is unchanged", Sight.ofDepths(x), Sight.ofDepths(twin));
    }

    private void noneOfRoads() {
        int[] beyond = {-1, 8};
        for (int fort : beyond) {
            dueCode("road from " + fort, x -> x.road(fort, 0, 1), NONE);
            dueCode("road to " + fort, x -> x.road(0, fort, 1), NONE);
            dueCode("cut from " + fort, x -> x.cut(fort, 0), NONE);
            dueCode("cut to " + fort, x -> x.cut(0, fort), NONE);
            dueCode("silence true of " + fort, x -> x.silence(fort, true), NONE);
            dueCode("silence false of " + fort, x -> x.silence(fort, false), NONE);
            dueCode("letter from " + fort, x -> x.letter(fort, 0), NONE);
            dueCode("letter to " + fort, x -> x.letter(0, fort), NONE);
        }
    }

    private void noneOfQuestions() {
        int[] beyond = {-1, 8};
        for (int fort : beyond) {
            dueCode("fortOf " + fort, x -> x.fortOf(fort, 0), NONE);
            dueCode("leagues from " + fort, x -> x.leagues(fort, 0), NONE);
            dueCode("leagues to " + fort, x -> x.leagues(0, fort), NONE);
            dueCode("known by " + fort, x -> x.known(fort, 0, 0), NONE);
            dueCode("known to " + fort, x -> x.known(0, fort, 0), NONE);
            dueCode("far from " + fort, x -> x.far(fort, 0), NONE);
            dueCode("far to " + fort, x -> x.far(0, fort), NONE);
            dueCode("farAgain from " + fort, x -> x.farAgain(fort, 0), NONE);
            dueCode("farAgain to " + fort, x -> x.farAgain(0, fort), NONE);
            dueCode("route from " + fort, x -> x.route(fort, 0), NONE);
            dueCode("route to " + fort, x -> x.route(0, fort), NONE);
            dueCode("ranked " + fort, x -> x.ranked(fort), NONE);
            dueCode("tell " + fort, x -> x.tell(fort), NONE);
        }
        dueCode("letterOf -1", x -> x.letterOf(-1, 0), NONE);
        dueCode("letterOf 10", x -> x.letterOf(10, 0), NONE);
        dueCode("character -1", x -> x.character(-1), NONE);
        dueCode("character behind the line", x -> x.character(Check.lineOf(x).length()), NONE);
    }

    private void bad() {
        dueCode("road of 0", x -> x.road(4, 7, 0), BAD);
        dueCode("road of 16", x -> x.road(4, 7, 16), BAD);
        dueCode("way -1", x -> x.way(-1), BAD);
        dueCode("way 3", x -> x.way(3), BAD);
        dueCode("bound 0", x -> x.bound(0), BAD);
        dueCode("bound 9", x -> x.bound(9), BAD);
        dueCode("fortOf, -1", x -> x.fortOf(0, -1), BAD);
        dueCode("fortOf, 4", x -> x.fortOf(0, 4), BAD);
        dueCode("known, -1", x -> x.known(0, 1, -1), BAD);
        dueCode("known, 4", x -> x.known(0, 1, 4), BAD);
        dueCode("day 0", x -> x.day(0), BAD);
        dueCode("day 31", x -> x.day(31), BAD);
        dueCode("letterOf, -1", x -> x.letterOf(0, -1), BAD);
        dueCode("letterOf, 5", x -> x.letterOf(0, 5), BAD);
        dueCode("append 31", x -> x.append(31), BAD);
        dueCode("append 127", x -> x.append(127), BAD);
        dueCode("account -1", x -> x.account(-1), BAD);
        dueCode("account 16", x -> x.account(16), BAD);
    }

    private void refused() {
        dueCode("a ninth fort", x -> x.fort(), REFUSED);
        dueCode("a seventeenth road", x -> x.road(4, 7, 1), REFUSED);
        dueCode("a road to the same fort", x -> x.road(4, 4, 1), REFUSED);
        dueCode("a second road", x -> x.road(3, 2, 1), REFUSED);
        dueCode("a cut to the same fort", x -> x.cut(4, 4), REFUSED);
        dueCode("a cut without a road", x -> x.cut(4, 0), REFUSED);
        dueCode("silent already", x -> x.silence(6, true), REFUSED);
        dueCode("not silent already", x -> x.silence(5, false), REFUSED);
        dueCode("a ring", x -> x.route(2, 4), REFUSED);
        dueCode("a letter to the same fort", x -> x.letter(4, 4), REFUSED);
        dueCode("an eleventh letter", x -> x.letter(4, 0), REFUSED);
    }

    private void nothing() {
        dueCode("leagues of no road", x -> x.leagues(4, 0), NOTHING);
        dueCode("leagues of one fort", x -> x.leagues(4, 4), NOTHING);
        dueCode("known by one fort", x -> x.known(4, 4, 0), NOTHING);
        dueCode("known of no route", x -> x.known(4, 0, 3), NOTHING);
        dueCode("far without roads", x -> x.far(0, 4), NOTHING);
        dueCode("farAgain without roads", x -> x.farAgain(0, 4), NOTHING);
        dueCode("a route of a fort that has none", x -> x.route(4, 0), NOTHING);
    }

    /** These codes are of a country without forts, and leave it as it is. */
    private void nothingAtFirst() {
        FortHeralds x = new FortHeralds();
        check.due("undo", x.undo(), NOTHING);
        check.due("restore", x.restore(), NOTHING);
        check.due("reason", x.reason(false), NOTHING);
        check.due("detail", x.reason(true), NOTHING);
        check.dueText("all is unchanged", Sight.ofDepths(x), Sight.ofDepths(new FortHeralds()));
        FortHeralds y = Check.rowOf(3, 2);
        check.due("restore, nothing saved", y.restore(), NOTHING);
        check.dueText("nothing is forgotten", Sight.ofDepths(y), Sight.ofDepths(Check.rowOf(3, 2)));
        FortHeralds z = Check.rowOf(3, 2);
        FortHeralds twin = Check.rowOf(3, 2);
        for (int left = 5; left > 0; left--) {
            z.undo();
            twin.undo();
        }
        z.save();
        twin.save();
        check.due("undo, all undone", z.undo(), NOTHING);
        check.dueText("nothing is undone", Sight.ofDepths(z), Sight.ofDepths(twin));
    }

    private void full() {
        FortHeralds x = new FortHeralds();
        type(x, "fort;fort;road a-b 15;day 30;mute a;mute b;post a-b;day 030");
        check.due("59 characters", x.account(14), 59);
        x.append(';');
        check.due("FULL", x.append('x'), FULL);
        check.due("FULL again", x.append(' '), FULL);
        check.due("60 characters", x.account(14), 60);
        check.due("the text is as it was", x.run(), -1058);
        type(x, "fort;fort;road a-b 15;day 30;mute a;mute b;post a-b;day 03");
        x.append(';');
        x.append('f');
        check.due("FULL, other text", x.append('o'), FULL);
        check.due("it ends too early", x.run(), -1060);
        type(x, "fort;fort;road a-b 15;day 30;mute a;mute b;post a-b;bound 07");
        check.due("60 characters then", x.account(14), 60);
        check.due("a second digit of a bound", x.run(), -1059);
        check.due("nothing was done", x.account(1), 0);
    }

    /** A text that is wrong or refused leaves all but itself, and the reason, as it is. */
    private void texts() {
        dueText("z", -1000);
        dueText("fort;", -1005);
        dueText("way 1;day 3;way 12", -1017);
        dueText("fort", REFUSED);
        dueText("way 1;bound 3;day 3;mute a;open g;cut a-c;post a-a", REFUSED);
        dueText("cut b-h;road b-e 1;undo", -1019);
        dueText("cut b-h;road b-e 1;day 31", REFUSED);
    }

    private void dueText(String text, int code) {
        FortHeralds x = busy();
        FortHeralds twin = busy();
        check.due("the text before", x.run(), -1008);
        check.due("its twin", twin.run(), -1008);
        type(x, text);
        check.due(text, x.run(), code);
        check.due(text + ": the text is empty", x.account(14), 0);
        if (code != REFUSED) {
            check.dueText(text + ": the reason is kept", Sight.ofReason(x), Sight.ofReason(twin));
        }
        type(x, "way 1;da");
        type(twin, "way 1;da");
        dueAlike(text, x, twin);
    }

    private void noneGoesAhead() {
        FortHeralds x = busy();
        check.due("road: of BAD", x.road(0, 8, 0), NONE);
        check.due("road: of reason 2", x.road(8, 8, 1), NONE);
        check.due("road: of reason 1", x.road(4, 8, 1), NONE);
        check.due("cut: of reason 2", x.cut(-1, -1), NONE);
        check.due("cut: of reason 4", x.cut(4, 8), NONE);
        check.due("fortOf: of BAD", x.fortOf(8, 4), NONE);
        check.due("leagues: of NOTHING", x.leagues(8, 8), NONE);
        check.due("known: of BAD", x.known(8, 0, 4), NONE);
        check.due("known, goal: of BAD", x.known(0, 8, -1), NONE);
        check.due("known: of NOTHING", x.known(8, 8, 0), NONE);
        check.due("far: both are one", x.far(8, 8), NONE);
        check.due("farAgain: both are one", x.farAgain(8, 8), NONE);
        check.due("route: both are one", x.route(8, 8), NONE);
        check.due("letter: of reason 2", x.letter(8, 8), NONE);
        check.due("letter: of reason 1", x.letter(0, 8), NONE);
        check.due("letterOf: of BAD", x.letterOf(10, 5), NONE);
        check.dueText("none is a reason", Sight.ofReason(x), "5 6");
    }

    private void badGoesAhead() {
        FortHeralds x = busy();
        check.due("road: of reason 2", x.road(4, 4, 0), BAD);
        check.due("road: of reason 3", x.road(2, 3, 16), BAD);
        check.due("road: of reason 1", x.road(4, 7, 16), BAD);
        check.due("known: of NOTHING, no route", x.known(4, 0, 4), BAD);
        check.due("known: of NOTHING, both are one", x.known(4, 4, -1), BAD);
        while (x.account(14) < 60) {
            x.append('x');
        }
        check.due("append: of FULL", x.append(31), BAD);
        check.due("append: of FULL, above", x.append(127), BAD);
        check.dueText("none is a reason", Sight.ofReason(x), "5 6");
    }

    /** A text is read whole before its first order is carried out. */
    private void faultGoesAhead() {
        FortHeralds x = Check.countryOf(8);
        check.due("of an order refused ahead of it", Check.runText(x, "fort;day 1;day"), -1014);
        check.dueText("is no reason", Sight.ofReason(x), "-15 -15");
        check.due("of two faults the first", Check.runText(x, "way 1;dax 1;wax 1"), -1008);
        check.due("of two refused orders the first", Check.runText(x, "way 1;mute a;mute a;fort;fort"), REFUSED);
        check.dueText("its number", Sight.ofReason(x), "7 2");
    }

    /** What asks, tells or saves is no change: it cannot be undone, and changes no country. */
    private void questionsChangeNothing() {
        FortHeralds x = busy();
        FortHeralds twin = busy();
        x.settles();
        x.wrong();
        x.rings();
        x.isBalanced();
        x.meanLeagues();
        x.comeShare();
        for (int fort = 0; fort < 8; fort++) {
            x.ranked(fort);
            x.tell(fort);
            for (int other = 0; other < 8; other++) {
                x.far(fort, other);
                x.farAgain(fort, other);
                x.route(fort, other);
            }
        }
        x.tell(6);
        x.silence(6, true);
        dueAlike("questions", x, twin);
    }
}
