/**
 * The empty and the full: forts, roads, letters, the text, the line, the changes that can be
 * undone, and the snapshot.
 */
final class FullTest {
    private static final int NONE = -11;
    private static final int FULL = -13;
    private static final int REFUSED = -14;
    private static final int NOTHING = -15;

    private final Check check;

    private FullTest(Check check) {
        this.check = check;
    }

    public static void main(String[] args) {
        Check check = new Check();
        FullTest test = new FullTest(check);
        test.noForts();
        test.oneFort();
        test.eightForts();
        test.noRoads();
        test.sixteenRoads();
        test.noLetters();
        test.tenLetters();
        test.theTextFills();
        test.theTextEmpties();
        test.theLine();
        test.noChanges();
        test.eightChanges();
        test.moreThanEightChanges();
        test.changesAndUndosByTurns();
        test.changesOfAllKinds();
        test.changesThatChangeNothing();
        test.theSnapshot();
        test.numbersThatAreGivenAgain();
        check.end();
    }

    /** "Creates a country without forts, on the day 0." */
    private void noForts() {
        FortHeralds x = new FortHeralds();
        int[] accounts = {0, 0, 0, 0, 0, 8, 0, 0, 0, 0, 0, 0, 0, 0, 0, 0};
        for (int what = 0; what < 16; what++) {
            check.due("account " + what, x.account(what), accounts[what]);
        }
        check.due("settles", x.settles(), 0);
        check.due("wrong", x.wrong(), 0);
        check.due("rings", x.rings(), 0);
        check.due("isBalanced", x.isBalanced(), 1);
        check.dueReal("meanLeagues", x.meanLeagues(), 0.0);
        check.dueReal("comeShare", x.comeShare(), 0.0f);
        check.due("ranked", x.ranked(0), NONE);
        check.due("tell", x.tell(0), NONE);
        check.due("route", x.route(0, 0), NONE);
        check.due("save", x.save(), 0);
        check.due("day", x.day(5), 0);
        check.due("tables told", x.account(7), 0);
        check.due("restore", x.restore(), 0);
    }

    private void oneFort() {
        FortHeralds x = Check.countryOf(1);
        check.due("tell", x.tell(0), 2);
        check.dueText("line", Check.lineOf(x), "a:");
        check.due("route", x.route(0, 0), 0);
        check.dueText("line", Check.lineOf(x), "a");
        check.due("far", x.far(0, 0), 0);
        check.due("farAgain", x.farAgain(0, 0), 0);
        check.due("leagues", x.leagues(0, 0), NOTHING);
        check.due("known", x.known(0, 0, 0), NOTHING);
        check.due("ranked(0)", x.ranked(0), 0);
        check.due("ranked(1)", x.ranked(1), NONE);
        check.due("day", x.day(1), 0);
        check.due("wrong", x.wrong(), 0);
        x.silence(0, true);
        check.due("tell", x.tell(0), 3);
        check.dueText("line", Check.lineOf(x), "a!:");
    }

    private void eightForts() {
        FortHeralds x = new FortHeralds();
        for (int fort = 0; fort < 8; fort++) {
            check.due("forts", x.account(1), fort);
            check.due("fort", x.fort(), fort);
        }
        for (int more = 0; more < 3; more++) {
            check.due("one more", x.fort(), REFUSED);
            check.due("forts", x.account(1), 8);
        }
        x.undo();
        check.due("seven", x.account(1), 7);
        check.due("h is gone", x.fortOf(7, 0), NONE);
        check.due("h again", x.fort(), 7);
        check.due("full again", x.fort(), REFUSED);
        x.tell(7);
        check.dueText("line", Check.lineOf(x), "h:a-,b-,c-,d-,e-,f-,g-");
        check.due("wrong: no roads, no routes", x.wrong(), 0);
    }

    private void noRoads() {
        FortHeralds x = Check.countryOf(8);
        check.due("day", x.day(30), 0);
        check.due("tables told", x.account(7), 0);
        check.due("far", x.far(0, 7), NOTHING);
        check.due("farAgain", x.farAgain(0, 7), NOTHING);
        check.due("route", x.route(0, 7), NOTHING);
        check.due("fortOf", x.fortOf(3, 0), 0);
        check.dueReal("meanLeagues", x.meanLeagues(), 0.0);
        for (int place = 0; place < 8; place++) {
            check.due("ranked", x.ranked(place), place);
        }
    }

    private void sixteenRoads() {
        FortHeralds x = Check.countryOf(8);
        int laid = 0;
        for (int one = 0; one < 7; one++) {
            for (int other = 7; other > one; other--) {
                laid++;
                check.due("road " + laid, x.road(other, one, 1), laid <= 16 ? laid : REFUSED);
                check.due("roads", x.account(2), Math.min(laid, 16));
            }
        }
        check.due("all told", x.day(1) >= 0 ? x.account(7) : 0, 32);
        check.due("a cut makes room", x.cut(0, 7), 1);
        check.due("fifteen", x.account(2), 15);
        check.due("road", x.road(5, 6, 2), 16);
        check.due("full again", x.road(0, 7, 1), REFUSED);
        x.undo();
        check.due("an undo makes room", x.road(0, 7, 1), 16);
    }

    private void noLetters() {
        FortHeralds x = Check.rowOf(2, 1);
        check.dueReal("comeShare", x.comeShare(), 0.0f);
        for (int what = 9; what <= 13; what++) {
            check.due("account " + what, x.account(what), 0);
        }
        check.due("letterOf", x.letterOf(0, 0), NONE);
        check.due("fortOf", x.fortOf(0, 3), 0);
    }

    private void tenLetters() {
        FortHeralds x = Check.rowOf(4, 1);
        x.day(2);
        for (int letter = 0; letter < 10; letter++) {
            check.due("letter", x.letter(0, 1 + letter % 3), letter);
            check.due("letters", x.account(9), letter + 1);
            check.due("at a", x.fortOf(0, 3), letter + 1);
        }
        check.due("one more", x.letter(0, 1), REFUSED);
        check.due("letters", x.account(9), 10);
        x.day(1);
        check.due("under way", x.account(10), 6);
        check.due("come", x.account(11), 4);
        check.due("leaps", x.account(13), 10);
        check.dueReal("share", x.comeShare(), 4.0f / 10.0f);
        x.day(2);
        check.due("all have come", x.account(11), 10);
        check.due("leaps of all", x.account(13), 4 + 6 + 9);
        check.dueReal("share of all", x.comeShare(), 1.0f);
        check.due("still full", x.letter(0, 1), REFUSED);
    }

    private void theTextFills() {
        FortHeralds x = new FortHeralds();
        for (int length = 1; length <= 60; length++) {
            check.due("append", x.append(length == 60 ? '1' : length % 6 == 0 ? ';' : "way 1".charAt(length % 6 - 1)), length);
            check.due("characters", x.account(14), length);
        }
        check.due("one more", x.append('2'), FULL);
        check.due("a code below, of a full text", x.append(31), -12);
        check.due("characters", x.account(14), 60);
        check.due("its sixtieth character counts", x.run(), -1059);
        for (int order = 0; order < 9; order++) {
            for (int index = 0; index < 6; index++) {
                x.append("way 1;".charAt(index));
            }
        }
        check.due("54 characters", x.account(14), 54);
        check.due("sixty characters that are right", Check.runText(x, "day 15"), 10);
        check.due("the day", x.account(0), 15);
        check.due("the way", x.account(4), 1);
    }

    /** "Run empties the text", whatever it returns. */
    private void theTextEmpties() {
        FortHeralds x = new FortHeralds();
        check.due("an empty text", x.run(), -1000);
        check.due("characters", x.account(14), 0);
        check.due("carried out", Check.runText(x, "fort"), 1);
        check.due("characters", x.account(14), 0);
        check.due("refused", Check.runText(x, "mute b"), REFUSED);
        check.due("characters", x.account(14), 0);
        check.due("wrong", Check.runText(x, "mute !"), -1005);
        check.due("characters", x.account(14), 0);
        check.due("empty again", x.run(), -1000);
        check.due("from the first place", x.append('f'), 1);
        x.way(1);
        x.undo();
        x.save();
        x.restore();
        check.due("not undone, nor restored", x.account(14), 1);
        check.due("and still f", x.run(), -1001);
    }

    private void theLine() {
        FortHeralds x = new FortHeralds();
        check.due("empty at first", x.character(0), NONE);
        x.fort();
        x.fort();
        x.tell(5);
        x.route(0, 1);
        check.due("empty behind codes", x.character(0), NONE);
        x.tell(1);
        check.dueText("line", Check.lineOf(x), "b:a-");
        x.undo();
        check.dueText("not undone", Check.lineOf(x), "b:a-");
        x.save();
        x.tell(0);
        x.restore();
        check.dueText("not restored", Check.lineOf(x), "a:");
        FortHeralds y = Check.rowOf(8, 8);
        y.silence(7, true);
        y.day(7);
        check.due("the longest line", y.tell(7), 36);
        check.dueText("line", Check.lineOf(y), "h!:a56g,b48g,c40g,d32g,e24g,f16g,g8g");
        check.due("its last character", y.character(35), 'g');
        check.due("behind it", y.character(36), NONE);
        y.route(1, 0);
        check.due("nothing of the longer line is left", y.character(3), NONE);
    }

    private void noChanges() {
        FortHeralds x = new FortHeralds();
        check.due("undo", x.undo(), NOTHING);
        x.fort();
        check.due("undo", x.undo(), 0);
        check.due("undo, none left", x.undo(), NOTHING);
        check.due("and again", x.undo(), NOTHING);
        check.due("account", x.account(15), 0);
    }

    private void eightChanges() {
        FortHeralds x = new FortHeralds();
        for (int change = 1; change <= 8; change++) {
            x.day(1);
            check.due("changes", x.account(15), change);
        }
        for (int left = 7; left >= 0; left--) {
            check.due("undo", x.undo(), left);
            check.due("day", x.account(0), left);
            check.due("changes", x.account(15), left);
        }
        check.due("none left", x.undo(), NOTHING);
        check.due("day", x.account(0), 0);
    }

    private void moreThanEightChanges() {
        for (int more = 1; more <= 20; more++) {
            FortHeralds x = new FortHeralds();
            for (int change = 1; change <= 8 + more; change++) {
                x.day(1);
            }
            check.due("changes", x.account(15), 8);
            for (int left = 7; left >= 0; left--) {
                check.due("undo", x.undo(), left);
                check.due("day", x.account(0), left + more);
            }
            check.due("none left", x.undo(), NOTHING);
            check.due("day", x.account(0), more);
        }
    }

    private void changesAndUndosByTurns() {
        FortHeralds x = new FortHeralds();
        int day = 0;
        for (int round = 1; round <= 30; round++) {
            int days = 1 + round % 3;
            x.day(days);
            x.day(7);
            x.undo();
            day += days;
            check.due("day", x.account(0), day);
            check.due("changes", x.account(15), Math.min(round, 7));
        }
        for (int left = 6; left >= 0; left--) {
            check.due("undo", x.undo(), left);
        }
        check.due("none left", x.undo(), NOTHING);
    }

    /** Fort, road, cut, silence, way, bound, day, letter and run, and nothing else. */
    private void changesOfAllKinds() {
        FortHeralds x = new FortHeralds();
        x.fort();
        x.fort();
        check.due("fort", x.account(15), 2);
        x.road(0, 1, 3);
        check.due("road", x.account(15), 3);
        x.cut(0, 1);
        check.due("cut", x.account(15), 4);
        x.silence(1, true);
        check.due("silence", x.account(15), 5);
        x.way(1);
        check.due("way", x.account(15), 6);
        x.undo();
        x.bound(1);
        check.due("bound", x.account(15), 6);
        x.undo();
        x.day(1);
        check.due("day", x.account(15), 6);
        x.letter(0, 1);
        check.due("letter", x.account(15), 7);
        Check.runText(x, "way 1;way 2;way 1");
        check.due("run is one", x.account(15), 8);
        x.undo();
        Check.runText(x, "way 1;way 9");
        Check.runText(x, "way 1;way");
        x.save();
        x.append('f');
        x.tell(0);
        x.route(0, 0);
        x.settles();
        check.due("what is none", x.account(15), 7);
    }

    /** "The successful calls [..], also those by which nothing is different." */
    private void changesThatChangeNothing() {
        FortHeralds x = new FortHeralds();
        check.due("way", x.way(0), 0);
        check.due("bound", x.bound(8), 8);
        check.due("run", Check.runText(x, "way 0;bound 8"), 2);
        check.due("changes", x.account(15), 3);
        x.fort();
        check.due("undo of the fort", x.undo(), 3);
        check.due("undo of the run", x.undo(), 2);
        check.due("undo of the bound", x.undo(), 1);
        check.due("undo of the way", x.undo(), 0);
        check.due("none left", x.undo(), NOTHING);
    }

    private void theSnapshot() {
        FortHeralds x = new FortHeralds();
        check.due("none yet", x.restore(), NOTHING);
        check.due("save of an empty country", x.save(), 0);
        x.fort();
        x.day(3);
        check.due("restore of it", x.restore(), 0);
        check.due("no forts", x.account(1), 0);
        check.due("nothing can be undone", x.undo(), NOTHING);
        x.day(4);
        check.due("save in place of it", x.save(), 4);
        x.day(5);
        check.due("restore", x.restore(), 4);
        check.due("restore again", x.restore(), 4);
        x.day(6);
        check.due("it stays", x.restore(), 4);
        x.day(7);
        check.due("undo behind it", x.undo(), 0);
        check.due("the day of it", x.account(0), 4);
        x.day(8);
        x.save();
        check.due("what was changed ahead of a save can be undone", x.undo(), 0);
        check.due("the day then", x.account(0), 4);
        check.due("and is in the snapshot", x.restore(), 12);
    }

    /** What an undo took away, its number is given again, and the snapshot has still the first one. */
    private void numbersThatAreGivenAgain() {
        FortHeralds x = Check.rowOf(3, 2);
        x.letter(0, 2);
        x.save();
        x.undo();
        check.due("the number again", x.letter(1, 0), 0);
        check.due("from", x.letterOf(0, 0), 1);
        check.due("goal", x.letterOf(0, 1), 0);
        x.restore();
        check.due("from, restored", x.letterOf(0, 0), 0);
        check.due("goal, restored", x.letterOf(0, 1), 2);
        FortHeralds y = Check.rowOf(3, 2);
        y.undo();
        y.road(1, 2, 9);
        check.due("the leagues of the road laid again", y.leagues(2, 1), 9);
        check.due("its route", y.known(2, 1, 0), 9);
        y.undo();
        y.undo();
        y.undo();
        check.due("the fort again", y.fort(), 2);
        check.due("without neighbours", y.fortOf(2, 0), 0);
        check.due("without routes", y.fortOf(2, 1), 0);
    }
}
