/**
 * Long runs of calls, drawn by numbers that are the same each time, on the class and on the
 * model: every answer of the one is due from the other.
 */
final class ModelTest {
    private static final int RUNS = 3000;
    private static final int CALLS = 512;
    private static final int[] STRANGE = {-1, 8, 9, 16, 31, 60, 127, 1000, Integer.MAX_VALUE, Integer.MIN_VALUE};
    private static final String[] WORDS = {"fort", "road a-b 1", "road c-d 12", "road b-e 07", "road f-b 3", "cut a-b",
        "cut c-d", "mute a", "mute c", "open a", "open c", "way 0", "way 1", "way 2", "way 3", "bound 2", "bound 8",
        "bound 9", "day 1", "day 3", "day 30", "day 00", "day 31", "post a-b", "post b-d", "post c-c", "mute h"};

    private final Check check;
    private long state;
    private FortHeralds real;
    private Model model;
    private int run;
    private int unsettled = 0;
    private int ringed = 0;
    private int ranOrders = 0;

    private ModelTest(Check check) {
        this.check = check;
    }

    public static void main(String[] args) {
        Check check = new Check();
        ModelTest test = new ModelTest(check);
        for (int run = 0; run < RUNS; run++) {
            test.go(run);
        }
        System.out.println(test.ringed + " rings, " + test.unsettled + " times unsettled, "
                + test.ranOrders + " texts carried out");
        check.end();
    }

    private int draw(int below) {
        state = state * 6364136223846793005L + 1442695040888963407L;
        return (int) ((state >>> 33) % below);
    }

    private int drawFort() {
        return draw(30) == 0 ? STRANGE[draw(STRANGE.length)] : draw(Math.max(1, Math.min(8, model.account(1) + draw(15) / 14)));
    }

    private int drawNumber(int below) {
        return draw(20) == 0 ? STRANGE[draw(STRANGE.length)] : draw(below);
    }

    private void due(String call, long got, long want) {
        check.due("run " + run + ": " + call, got, want);
    }

    private void go(int number) {
        run = number;
        state = 77 + number;
        real = new FortHeralds();
        model = new Model();
        int forts = 2 + draw(7);
        int most = 1 + draw(15);
        for (int fort = 0; fort < forts; fort++) {
            due("fort", real.fort(), model.fort());
        }
        for (int call = forts; call < CALLS; call++) {
            int kind = draw(100);
            if (call < forts + 14 && draw(3) > 0 || kind < 12) {
                callRoad(most);
            } else if (kind < 40) {
                callChange(draw(12));
            } else if (kind < 75) {
                callQuestion(draw(14));
            } else if (kind < 92) {
                callAccount(draw(8));
            } else {
                callText();
            }
        }
        compareAll();
    }

    private void callRoad(int most) {
        int one = drawFort();
        int other = drawFort();
        int leagues = draw(20) == 0 ? drawNumber(17) : 1 + draw(most);
        due("road(" + one + ", " + other + ", " + leagues + ")", real.road(one, other, leagues),
                model.road(one, other, leagues));
    }

    private void callChange(int kind) {
        int one = drawFort();
        int other = drawFort();
        switch (kind) {
            case 0, 1 -> due("cut(" + one + ", " + other + ")", real.cut(one, other), model.cut(one, other));
            case 2 -> {
                boolean isSilent = draw(3) == 0;
                due("silence(" + one + ", " + isSilent + ")", real.silence(one, isSilent), model.silence(one, isSilent));
            }
            case 3 -> {
                int way = drawNumber(3);
                due("way(" + way + ")", real.way(way), model.way(way));
            }
            case 4 -> {
                int bound = draw(3) > 0 ? 8 : drawNumber(10);
                due("bound(" + bound + ")", real.bound(bound), model.bound(bound));
            }
            case 5, 6, 7 -> {
                int days = draw(8) == 0 ? drawNumber(33) : 1 + draw(3);
                due("day(" + days + ")", real.day(days), model.day(days));
            }
            case 8, 9 -> due("letter(" + one + ", " + other + ")", real.letter(one, other), model.letter(one, other));
            case 10 -> due("undo()", real.undo(), model.undo());
            default -> {
                if (draw(2) == 0) {
                    due("save()", real.save(), model.save());
                } else if (draw(3) == 0) {
                    due("restore()", real.restore(), model.restore());
                } else if (draw(3) == 0) {
                    due("fort()", real.fort(), model.fort());
                }
            }
        }
    }

    private void callQuestion(int kind) {
        int one = drawFort();
        int other = drawFort();
        int what = drawNumber(5);
        String two = "(" + one + ", " + other + ")";
        switch (kind) {
            case 0 -> due("fortOf(" + one + ", " + what + ")", real.fortOf(one, what), model.fortOf(one, what));
            case 1 -> due("leagues" + two, real.leagues(one, other), model.leagues(one, other));
            case 2, 3 -> due("known" + two + what, real.known(one, other, what), model.known(one, other, what));
            case 4 -> {
                int want = model.settles();
                unsettled += want < 0 ? 1 : 0;
                due("settles()", real.settles(), want);
            }
            case 5 -> due("far" + two, real.far(one, other), model.far(one, other));
            case 6 -> due("farAgain" + two, real.farAgain(one, other), model.far(one, other));
            case 7 -> due("wrong()", real.wrong(), model.wrong());
            case 8, 9 -> {
                int want = model.route(one, other);
                ringed += want == Model.REFUSED ? 1 : 0;
                due("route" + two, real.route(one, other), want);
                compareLines();
            }
            case 10 -> due("rings()", real.rings(), model.rings());
            case 11 -> {
                int letter = drawNumber(11);
                due("letterOf(" + letter + ", " + what + ")", real.letterOf(letter, what), model.letterOf(letter, what));
            }
            case 12 -> due("ranked(" + one + ")", real.ranked(one), model.ranked(one));
            default -> {
                due("tell(" + one + ")", real.tell(one), model.tell(one));
                compareLines();
            }
        }
    }

    private void callAccount(int kind) {
        int what = drawNumber(17);
        switch (kind) {
            case 0, 1, 2 -> due("account(" + what + ")", real.account(what), model.account(what));
            case 3 -> due("isBalanced()", real.isBalanced(), 1);
            case 4 -> check.dueReal("meanLeagues()", real.meanLeagues(), model.meanLeagues());
            case 5 -> check.dueReal("comeShare()", real.comeShare(), model.comeShare());
            case 6 -> compareReasons();
            default -> due("character(" + what + ")", real.character(what), model.character(what));
        }
    }

    /** A text of orders, some with a character that is put in, left out or changed. */
    private void callText() {
        StringBuilder text = new StringBuilder(WORDS[draw(WORDS.length)]);
        for (int more = draw(5); more > 0; more--) {
            text.append(';').append(WORDS[draw(WORDS.length)]);
        }
        int place = draw(text.length());
        switch (draw(9)) {
            case 0 -> text.setCharAt(place, (char) (32 + draw(95)));
            case 1 -> text.deleteCharAt(place);
            case 2 -> text.insert(place, WORDS[draw(WORDS.length)].charAt(0));
            case 3 -> text.setLength(place);
            default -> text.append("");
        }
        for (int index = 0; index < text.length(); index++) {
            int code = draw(200) == 0 ? 31 + 96 * draw(2) : text.charAt(index);
            due("append(" + code + ")", real.append(code), model.append(code));
        }
        int want = model.run();
        ranOrders += want > 0 ? 1 : 0;
        due("run() of " + text, real.run(), want);
        compareReasons();
    }

    private void compareReasons() {
        due("reason(false)", real.reason(false), model.reason(false));
        due("reason(true)", real.reason(true), model.reason(true));
    }

    private void compareLines() {
        for (int index = -1; index < 40; index++) {
            due("character(" + index + ")", real.character(index), model.character(index));
        }
    }

    private void compareAll() {
        for (int one = -1; one < 9; one++) {
            for (int other = -1; other < 9; other++) {
                due("leagues", real.leagues(one, other), model.leagues(one, other));
                for (int what = -1; what < 5; what++) {
                    due("known", real.known(one, other, what), model.known(one, other, what));
                }
                due("route", real.route(one, other), model.route(one, other));
                compareReasons();
            }
            due("ranked", real.ranked(one), model.ranked(one));
            due("tell", real.tell(one), model.tell(one));
            compareLines();
        }
        for (int what = -1; what < 17; what++) {
            due("account(" + what + ")", real.account(what), model.account(what));
        }
    }
}
