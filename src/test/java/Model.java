import java.util.ArrayDeque;
import java.util.ArrayList;
import java.util.Arrays;
import java.util.Deque;
import java.util.HashMap;
import java.util.HashSet;
import java.util.List;
import java.util.Map;
import java.util.Set;
import java.util.TreeSet;
import java.util.regex.Matcher;
import java.util.regex.Pattern;

/**
 * The document a second time, written another way than the class: with maps and copies,
 * a regular expression for texts, and the distances of all pairs at once.
 */
final class Model {
    static final int NONE = -11;
    static final int BAD = -12;
    static final int FULL = -13;
    static final int REFUSED = -14;
    static final int NOTHING = -15;

    record Route(int leagues, int first, int leaps, int age) {
    }

    record Told(int teller, int goal, Route route) {
    }

    static final class State {
        int day;
        int forts;
        int way;
        int bound = 8;
        int tellings;
        int changes;
        Set<Integer> silent = new TreeSet<>();
        Map<List<Integer>, Integer> roads = new HashMap<>();
        Map<List<Integer>, Route> routes = new HashMap<>();
        List<int[]> letters = new ArrayList<>();

        State copy() {
            State other = new State();
            other.day = day;
            other.forts = forts;
            other.way = way;
            other.bound = bound;
            other.tellings = tellings;
            other.changes = changes;
            other.silent.addAll(silent);
            other.roads.putAll(roads);
            other.routes.putAll(routes);
            letters.forEach(letter -> other.letters.add(letter.clone()));
            return other;
        }

        boolean lacks(int fort) {
            return fort < 0 || fort >= forts;
        }

        Integer road(int one, int other) {
            return roads.get(List.of(Math.min(one, other), Math.max(one, other)));
        }

        List<Integer> neighbours(int fort) {
            List<Integer> all = new ArrayList<>();
            for (int other = 0; other < forts; other++) {
                if (road(fort, other) != null) {
                    all.add(other);
                }
            }
            return all;
        }
    }

    private static final String FORTS = "[a-h]-[a-h]";
    private static final String ORDER = "(?:fort|road " + FORTS + " [0-9][0-9]?|cut " + FORTS
            + "|mute [a-h]|open [a-h]|way [0-9]|bound [0-9]|day [0-9][0-9]?|post " + FORTS + ")";
    private static final Pattern TEXT = Pattern.compile(ORDER + "(?:;" + ORDER + ")*");

    private State now = new State();
    private State saved = null;
    private final Deque<State> before = new ArrayDeque<>();
    private String text = "";
    private String line = "";
    private int reason = NOTHING;
    private int detail = NOTHING;

    private int refuse(int why, int what) {
        reason = why;
        detail = what;
        return REFUSED;
    }

    private int change(State was, int answer) {
        if (answer >= 0) {
            before.addLast(was);
            if (before.size() > 8) {
                before.removeFirst();
            }
        }
        return answer;
    }

    int fort() {
        return change(now.copy(), doFort());
    }

    private int doFort() {
        return now.forts == 8 ? refuse(1, 8) : now.forts++;
    }

    int road(int one, int other, int leagues) {
        return change(now.copy(), doRoad(one, other, leagues));
    }

    private int doRoad(int one, int other, int leagues) {
        if (now.lacks(one) || now.lacks(other)) {
            return NONE;
        }
        if (leagues < 1 || leagues > 15) {
            return BAD;
        }
        if (one == other) {
            return refuse(2, one);
        }
        if (now.road(one, other) != null) {
            return refuse(3, now.road(one, other));
        }
        if (now.roads.size() == 16) {
            return refuse(1, 16);
        }
        now.roads.put(List.of(Math.min(one, other), Math.max(one, other)), leagues);
        for (List<Integer> pair : List.of(List.of(one, other), List.of(other, one))) {
            Route known = now.routes.get(pair);
            if (known == null || known.leagues() > leagues) {
                now.routes.put(pair, new Route(leagues, pair.get(1), 1, 0));
            }
        }
        return now.roads.size();
    }

    int cut(int one, int other) {
        return change(now.copy(), doCut(one, other));
    }

    private int doCut(int one, int other) {
        if (now.lacks(one) || now.lacks(other)) {
            return NONE;
        }
        if (one == other) {
            return refuse(2, one);
        }
        if (now.road(one, other) == null) {
            return refuse(4, one);
        }
        now.routes.entrySet().removeIf(entry -> entry.getKey().get(0) == one && entry.getValue().first() == other
                || entry.getKey().get(0) == other && entry.getValue().first() == one);
        return now.roads.remove(List.of(Math.min(one, other), Math.max(one, other)));
    }

    int silence(int fort, boolean isSilent) {
        return change(now.copy(), doSilence(fort, isSilent));
    }

    private int doSilence(int fort, boolean isSilent) {
        if (now.lacks(fort)) {
            return NONE;
        }
        if (!(isSilent ? now.silent.add(fort) : now.silent.remove(fort))) {
            return refuse(5, fort);
        }
        return now.silent.size();
    }

    int way(int way) {
        return change(now.copy(), doWay(way));
    }

    private int doWay(int way) {
        if (way < 0 || way > 2) {
            return BAD;
        }
        int was = now.way;
        now.way = way;
        return was;
    }

    int bound(int bound) {
        return change(now.copy(), doBound(bound));
    }

    private int doBound(int bound) {
        if (bound < 1 || bound > 8) {
            return BAD;
        }
        int was = now.bound;
        now.bound = bound;
        return was;
    }

    int fortOf(int fort, int what) {
        if (now.lacks(fort)) {
            return NONE;
        }
        return switch (what) {
            case 0 -> now.neighbours(fort).size();
            case 1 -> (int) now.routes.keySet().stream().filter(pair -> pair.get(0) == fort).count();
            case 2 -> now.silent.contains(fort) ? 1 : 0;
            case 3 -> (int) now.letters.stream().filter(letter -> letter[2] == 0 && letter[0] == fort).count();
            default -> BAD;
        };
    }

    int leagues(int one, int other) {
        if (now.lacks(one) || now.lacks(other)) {
            return NONE;
        }
        return now.road(one, other) == null ? NOTHING : now.road(one, other);
    }

    int known(int fort, int goal, int what) {
        if (now.lacks(fort) || now.lacks(goal)) {
            return NONE;
        }
        if (what < 0 || what > 3) {
            return BAD;
        }
        Route route = now.routes.get(List.of(fort, goal));
        if (route == null) {
            return NOTHING;
        }
        return List.of(route.leagues(), route.first(), route.leaps(), route.age()).get(what);
    }

    int day(int days) {
        return change(now.copy(), doDay(days));
    }

    private int doDay(int days) {
        if (days < 1 || days > 30) {
            return BAD;
        }
        int changed = 0;
        for (int gone = 0; gone < days; gone++) {
            changed += passDay(now);
        }
        return changed;
    }

    private static int passDay(State state) {
        Map<List<Integer>, Route> morning = new HashMap<>(state.routes);
        Set<List<Integer>> fresh = new HashSet<>();
        List<List<Told>> heard = new ArrayList<>();
        for (int fort = 0; fort < state.forts; fort++) {
            heard.add(new ArrayList<>());
        }
        for (int teller = 0; teller < state.forts; teller++) {
            if (!state.silent.contains(teller)) {
                for (int hearer : state.neighbours(teller)) {
                    state.tellings++;
                    heard.get(hearer).addAll(toldBy(state, morning, teller, hearer));
                }
            }
        }
        for (int hearer = 0; hearer < state.forts; hearer++) {
            for (Told told : heard.get(hearer)) {
                fresh.add(List.of(told.teller(), hearer, told.goal()));
                hear(state, hearer, told);
            }
        }
        for (List<Integer> pair : new ArrayList<>(state.routes.keySet())) {
            Route route = state.routes.get(pair);
            if (!fresh.contains(List.of(route.first(), pair.get(0), pair.get(1)))) {
                if (route.age() == 3) {
                    state.routes.remove(pair);
                } else {
                    state.routes.put(pair, new Route(route.leagues(), route.first(), route.leaps(), route.age() + 1));
                }
            }
        }
        state.letters.forEach(letter -> carry(state, letter));
        state.day++;
        int changed = countChanged(morning, state.routes);
        state.changes += changed;
        return changed;
    }

    private static List<Told> toldBy(State state, Map<List<Integer>, Route> morning, int teller, int hearer) {
        List<Told> all = new ArrayList<>();
        for (int goal = 0; goal < state.forts; goal++) {
            Route route = goal == teller ? new Route(0, teller, 0, 0) : morning.get(List.of(teller, goal));
            boolean isBack = goal != teller && route != null && route.first() == hearer;
            if (goal == hearer || isBack && state.way == 1) {
                continue;
            }
            all.add(new Told(teller, goal, isBack && state.way == 2 ? null : route));
        }
        return all;
    }

    private static void hear(State state, int hearer, Told told) {
        Route over = null;
        if (told.route() != null) {
            int leagues = told.route().leagues() + state.road(told.teller(), hearer);
            int leaps = told.route().leaps() + 1;
            if (leagues < 60 && leaps <= state.bound) {
                over = new Route(leagues, told.teller(), leaps, 0);
            }
        }
        List<Integer> pair = List.of(hearer, told.goal());
        Route has = state.routes.get(pair);
        if (has != null && has.first() == told.teller()) {
            state.routes.remove(pair);
            has = null;
        }
        if (over != null && (has == null || over.leagues() < has.leagues())) {
            state.routes.put(pair, over);
        }
    }

    private static void carry(State state, int[] letter) {
        if (letter[2] != 0) {
            return;
        }
        Route route = state.routes.get(List.of(letter[0], letter[1]));
        if (route == null) {
            letter[4]++;
            letter[2] = letter[4] == 3 ? 2 : 0;
            return;
        }
        letter[0] = route.first();
        letter[3]++;
        letter[2] = letter[0] == letter[1] ? 1 : letter[3] == 16 ? 2 : 0;
    }

    private static int countChanged(Map<List<Integer>, Route> was, Map<List<Integer>, Route> is) {
        Set<List<Integer>> pairs = new HashSet<>(was.keySet());
        pairs.addAll(is.keySet());
        int changed = 0;
        for (List<Integer> pair : pairs) {
            Route one = was.get(pair);
            Route other = is.get(pair);
            if (one == null || other == null || one.leagues() != other.leagues() || one.first() != other.first()) {
                changed++;
            }
        }
        return changed;
    }

    int settles() {
        State ahead = now.copy();
        int days = 0;
        while (days <= 40 && passDay(ahead) > 0) {
            days++;
        }
        return days <= 40 ? days : NOTHING;
    }

    private int[][] allDistances() {
        int[][] far = new int[now.forts][now.forts];
        for (int one = 0; one < now.forts; one++) {
            Arrays.fill(far[one], 9999);
            far[one][one] = 0;
            for (int other : now.neighbours(one)) {
                far[one][other] = now.road(one, other);
            }
        }
        for (int over = 0; over < now.forts; over++) {
            for (int one = 0; one < now.forts; one++) {
                for (int other = 0; other < now.forts; other++) {
                    far[one][other] = Math.min(far[one][other], far[one][over] + far[over][other]);
                }
            }
        }
        return far;
    }

    int far(int one, int other) {
        if (now.lacks(one) || now.lacks(other)) {
            return NONE;
        }
        int far = allDistances()[one][other];
        return far >= 9999 ? NOTHING : far;
    }

    int wrong() {
        int[][] far = allDistances();
        int wrong = 0;
        for (int one = 0; one < now.forts; one++) {
            for (int other = 0; other < now.forts; other++) {
                Route route = now.routes.get(List.of(one, other));
                boolean isReached = far[one][other] < 9999;
                if (one != other && (isReached != (route != null)
                        || isReached && route.leagues() != far[one][other])) {
                    wrong++;
                }
            }
        }
        return wrong;
    }

    /** The forts that are come to; the last one stands twice in it if it is a ring. */
    private List<Integer> follow(int from, int to) {
        List<Integer> path = new ArrayList<>(List.of(from));
        int at = from;
        while (at != to && now.routes.containsKey(List.of(at, to))) {
            at = now.routes.get(List.of(at, to)).first();
            boolean isRing = path.contains(at);
            path.add(at);
            if (isRing) {
                break;
            }
        }
        return path;
    }

    private static boolean isRing(List<Integer> path) {
        return new HashSet<>(path).size() < path.size();
    }

    int route(int from, int to) {
        if (now.lacks(from) || now.lacks(to)) {
            return NONE;
        }
        List<Integer> path = follow(from, to);
        int last = path.get(path.size() - 1);
        if (isRing(path)) {
            return refuse(6, last);
        }
        if (last != to) {
            return NOTHING;
        }
        int leagues = 0;
        List<String> names = new ArrayList<>();
        for (int step = 0; step < path.size(); step++) {
            names.add(name(path.get(step)));
            leagues += step == 0 ? 0 : now.road(path.get(step - 1), path.get(step));
        }
        line = String.join(">", names);
        return leagues;
    }

    private static String name(int fort) {
        return "abcdefgh".substring(fort, fort + 1);
    }

    int rings() {
        int rings = 0;
        for (int from = 0; from < now.forts; from++) {
            for (int to = 0; to < now.forts; to++) {
                rings += from != to && isRing(follow(from, to)) ? 1 : 0;
            }
        }
        return rings;
    }

    int letter(int from, int to) {
        return change(now.copy(), doLetter(from, to));
    }

    private int doLetter(int from, int to) {
        if (now.lacks(from) || now.lacks(to)) {
            return NONE;
        }
        if (from == to) {
            return refuse(2, from);
        }
        if (now.letters.size() == 10) {
            return refuse(1, 10);
        }
        now.letters.add(new int[] {from, to, 0, 0, 0});
        return now.letters.size() - 1;
    }

    int letterOf(int letter, int what) {
        if (letter < 0 || letter >= now.letters.size()) {
            return NONE;
        }
        return what < 0 || what > 4 ? BAD : now.letters.get(letter)[what];
    }

    private int sumOf(int fort) {
        return now.routes.entrySet().stream().filter(entry -> entry.getKey().get(0) == fort)
                .mapToInt(entry -> entry.getValue().leagues()).sum();
    }

    int ranked(int place) {
        List<Integer> order = new ArrayList<>();
        for (int fort = 0; fort < now.forts; fort++) {
            order.add(fort);
        }
        order.sort((one, other) -> {
            int more = Integer.compare(fortOf(other, 1), fortOf(one, 1));
            return more != 0 ? more : Integer.compare(sumOf(one), sumOf(other));
        });
        return place < 0 || place >= order.size() ? NONE : order.get(place);
    }

    int append(int code) {
        if (code < 32 || code > 126) {
            return BAD;
        }
        if (text.length() == 60) {
            return FULL;
        }
        text += (char) code;
        return text.length();
    }

    /** A prefix can be continued to a text if the expression would go on to match behind its end. */
    private static int faultOf(String text) {
        for (int end = 1; end <= text.length(); end++) {
            Matcher matcher = TEXT.matcher(text.substring(0, end));
            if (!matcher.matches() && !matcher.hitEnd()) {
                return end - 1;
            }
        }
        return text.length();
    }

    int run() {
        String given = text;
        text = "";
        if (!TEXT.matcher(given).matches()) {
            return -1000 - faultOf(given);
        }
        State was = now.copy();
        String[] orders = given.split(";");
        for (int order = 0; order < orders.length; order++) {
            if (carryOut(orders[order].split("[ -]")) < 0) {
                now = was;
                return refuse(7, order);
            }
        }
        return change(was, orders.length);
    }

    private int carryOut(String[] words) {
        int[] values = new int[4];
        for (int index = 1; index < words.length; index++) {
            char first = words[index].charAt(0);
            values[index] = Character.isDigit(first) ? Integer.parseInt(words[index]) : first - 'a';
        }
        return switch (words[0]) {
            case "fort" -> doFort();
            case "road" -> doRoad(values[1], values[2], values[3]);
            case "cut" -> doCut(values[1], values[2]);
            case "mute" -> doSilence(values[1], true);
            case "open" -> doSilence(values[1], false);
            case "way" -> doWay(values[1]);
            case "bound" -> doBound(values[1]);
            case "day" -> doDay(values[1]);
            default -> doLetter(values[1], values[2]);
        };
    }

    int tell(int fort) {
        if (now.lacks(fort)) {
            return NONE;
        }
        List<String> parts = new ArrayList<>();
        for (int goal = 0; goal < now.forts; goal++) {
            Route route = now.routes.get(List.of(fort, goal));
            if (goal != fort) {
                parts.add(name(goal) + (route == null ? "-" : route.leagues() + name(route.first())));
            }
        }
        line = name(fort) + (now.silent.contains(fort) ? "!" : "") + ":" + String.join(",", parts);
        return line.length();
    }

    int character(int index) {
        return index < 0 || index >= line.length() ? NONE : line.charAt(index);
    }

    int reason(boolean isDetail) {
        return isDetail ? detail : reason;
    }

    int account(int what) {
        return switch (what) {
            case 0 -> now.day;
            case 1 -> now.forts;
            case 2 -> now.roads.size();
            case 3 -> now.silent.size();
            case 4 -> now.way;
            case 5 -> now.bound;
            case 6 -> now.routes.size();
            case 7 -> now.tellings;
            case 8 -> now.changes;
            case 9 -> now.letters.size();
            case 10, 11, 12 -> (int) now.letters.stream().filter(letter -> letter[2] == what - 10).count();
            case 13 -> now.letters.stream().mapToInt(letter -> letter[3]).sum();
            case 14 -> text.length();
            case 15 -> before.size();
            default -> BAD;
        };
    }

    double meanLeagues() {
        int sum = now.routes.values().stream().mapToInt(Route::leagues).sum();
        return now.routes.isEmpty() ? 0.0 : (double) sum / (double) now.routes.size();
    }

    float comeShare() {
        return now.letters.isEmpty() ? 0.0f : (float) account(11) / (float) now.letters.size();
    }

    int undo() {
        if (before.isEmpty()) {
            return NOTHING;
        }
        now = before.removeLast();
        return before.size();
    }

    int save() {
        saved = now.copy();
        return now.day;
    }

    int restore() {
        if (saved == null) {
            return NOTHING;
        }
        now = saved.copy();
        before.clear();
        return now.day;
    }
}
