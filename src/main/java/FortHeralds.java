/**
 * Hill forts that tell each other by heralds how far away all forts are.
 * What it does is written in ../shared/DOC.md, as numbered promises.
 */
public final class FortHeralds {
    public static final int NONE = -11;
    public static final int BAD = -12;
    public static final int FULL = -13;
    public static final int REFUSED = -14;
    public static final int NOTHING = -15;

    private static final int MOST_FORTS = 8;
    private static final int MOST_ROADS = 16;
    private static final int MOST_LETTERS = 10;
    private static final int MOST_ROAD_LEAGUES = 15;
    private static final int MOST_ROUTE_LEAGUES = 59;
    private static final int MOST_BOUND = 8;
    private static final int MOST_DAYS = 30;
    private static final int MOST_DAYS_AHEAD = 40;
    private static final int MOST_CHARACTERS = 60;
    private static final int MOST_UNDONE = 8;
    private static final int LOWEST_CODE = 32;
    private static final int HIGHEST_CODE = 126;
    private static final int AGE_OF_LOSS = 4;
    private static final int LEAPS_OF_LOSS = 16;
    private static final int WAITS_OF_LOSS = 3;
    private static final int FAULT = -1000;

    private static final int TELL_NOTHING_BACK = 1;
    private static final int TELL_NONE_BACK = 2;

    private static final int UNDER_WAY = 0;
    private static final int COME = 1;
    private static final int LOST = 2;

    private static final int NO_ROOM = 1;
    private static final int ONE_FORT = 2;
    private static final int IS_ROAD = 3;
    private static final int NO_ROAD = 4;
    private static final int IS_SO = 5;
    private static final int IS_RING = 6;
    private static final int WRONG_ORDER = 7;

    private final Works works = new Works();
    private final Country country = works.country;
    private final Country trial = new Country();
    private final Country snapshot = new Country();
    private final Past past = new Past();
    private final Distances distances = new Distances();
    private final Trail trail = new Trail();
    private final Reader reader = new Reader();
    private final StringBuilder text = reader.text;
    private final StringBuilder line = new StringBuilder();
    private boolean hasSnapshot = false;

    public FortHeralds() {
    }

    // ---- forts, roads

    public int fort() {
        past.note(country);
        return kept(works.buildFort());
    }

    public int road(int one, int other, int leagues) {
        past.note(country);
        return kept(works.layRoad(one, other, leagues));
    }

    public int cut(int one, int other) {
        past.note(country);
        return kept(works.cutRoad(one, other));
    }

    public int silence(int fort, boolean isSilent) {
        past.note(country);
        return kept(works.setSilence(fort, isSilent));
    }

    public int way(int way) {
        past.note(country);
        return kept(works.setWay(way));
    }

    public int bound(int bound) {
        past.note(country);
        return kept(works.setBound(bound));
    }

    public int fortOf(int fort, int what) {
        if (!country.hasFort(fort)) {
            return NONE;
        }
        switch (what) {
            case 0:
                return country.roads.countAt(fort);
            case 1:
                return country.routes.countOf(fort);
            case 2:
                return country.isSilent[fort] ? 1 : 0;
            case 3:
                return country.letters.countUnderWayAt(fort);
            default:
                return BAD;
        }
    }

    public int leagues(int one, int other) {
        if (!country.hasForts(one, other)) {
            return NONE;
        }
        return country.roads.areJoined(one, other) ? country.roads.between(one, other) : NOTHING;
    }

    // ---- tables, days

    public int known(int fort, int goal, int what) {
        if (!country.hasForts(fort, goal)) {
            return NONE;
        }
        if (what < 0 || what > 3) {
            return BAD;
        }
        if (!country.routes.isKnown(fort, goal)) {
            return NOTHING;
        }
        return country.routes.numberOf(fort, goal, what);
    }

    public int day(int days) {
        past.note(country);
        return kept(works.passDays(days));
    }

    public int settles() {
        trial.copyFrom(country);
        for (int ahead = 0; ahead <= MOST_DAYS_AHEAD; ahead++) {
            if (works.heralds.passDay(trial) == 0) {
                return ahead;
            }
        }
        return NOTHING;
    }

    public int far(int one, int other) {
        if (!country.hasForts(one, other)) {
            return NONE;
        }
        distances.measureFromNearest(country, one);
        return leaguesOrNothing(distances.fromNearest[other]);
    }

    public int farAgain(int one, int other) {
        if (!country.hasForts(one, other)) {
            return NONE;
        }
        distances.measureRoadByRoad(country, one);
        return leaguesOrNothing(distances.roadByRoad[other]);
    }

    public int wrong() {
        int pairs = 0;
        for (int fort = 0; fort < country.forts; fort++) {
            distances.measureFromNearest(country, fort);
            for (int goal = 0; goal < country.forts; goal++) {
                if (goal != fort && leaguesKnown(fort, goal) != distances.fromNearest[goal]) {
                    pairs++;
                }
            }
        }
        return pairs;
    }

    // ---- routes, letters

    public int route(int from, int to) {
        if (!country.hasForts(from, to)) {
            return NONE;
        }
        trail.follow(country, from, to);
        if (trail.isRing) {
            return works.refuse(IS_RING, trail.last);
        }
        if (trail.last != to) {
            return NOTHING;
        }
        writeTrail();
        return trail.leagues;
    }

    public int rings() {
        int pairs = 0;
        for (int from = 0; from < country.forts; from++) {
            for (int to = 0; to < country.forts; to++) {
                trail.follow(country, from, to);
                if (trail.isRing) {
                    pairs++;
                }
            }
        }
        return pairs;
    }

    public int letter(int from, int to) {
        past.note(country);
        return kept(works.writeLetter(from, to));
    }

    public int letterOf(int letter, int what) {
        if (letter < 0 || letter >= country.letters.count) {
            return NONE;
        }
        if (what < 0 || what > 4) {
            return BAD;
        }
        return country.letters.numberOf(letter, what);
    }

    public int ranked(int place) {
        for (int fort = 0; fort < country.forts; fort++) {
            if (placeOf(fort) == place) {
                return fort;
            }
        }
        return NONE;
    }

    // ---- texts, lines

    public int append(int code) {
        if (code < LOWEST_CODE || code > HIGHEST_CODE) {
            return BAD;
        }
        if (text.length() >= MOST_CHARACTERS) {
            return FULL;
        }
        text.append((char) code);
        return text.length();
    }

    public int run() {
        int orders = reader.countOrders();
        int answer = orders == Reader.FAULTY ? FAULT - reader.at : carryOutAll(orders);
        text.setLength(0);
        return answer;
    }

    public int tell(int fort) {
        if (!country.hasFort(fort)) {
            return NONE;
        }
        line.setLength(0);
        line.append(letterOfFort(fort));
        if (country.isSilent[fort]) {
            line.append('!');
        }
        line.append(':');
        boolean isFirst = true;
        for (int goal = 0; goal < country.forts; goal++) {
            if (goal != fort) {
                if (!isFirst) {
                    line.append(',');
                }
                isFirst = false;
                writeKnown(fort, goal);
            }
        }
        return line.length();
    }

    public int character(int index) {
        return index >= 0 && index < line.length() ? line.charAt(index) : NONE;
    }

    // ---- reasons, accounts, undo and the snapshot

    public int reason(boolean isDetail) {
        return isDetail ? works.latestDetail : works.latestReason;
    }

    public int account(int what) {
        switch (what) {
            case 0:
                return country.day;
            case 1:
                return country.forts;
            case 2:
                return country.roads.count;
            case 3:
                return country.countSilent();
            case 4:
                return country.way;
            case 5:
                return country.bound;
            case 6:
                return country.countRoutes();
            case 7:
                return country.tellings;
            case 8:
                return country.changes;
            case 9:
                return country.letters.count;
            case 10:
            case 11:
            case 12:
                return country.letters.countThatAre(what - 10);
            case 13:
                return country.letters.sumOfLeaps();
            case 14:
                return text.length();
            case 15:
                return past.count;
            default:
                return BAD;
        }
    }

    public int isBalanced() {
        for (int fort = 0; fort < country.forts; fort++) {
            if (!hasSoundRoutes(fort) || !isMeasuredAlike(fort)) {
                return 0;
            }
        }
        return 1;
    }

    public double meanLeagues() {
        int routes = country.countRoutes();
        if (routes == 0) {
            return 0.0;
        }
        int sum = 0;
        for (int fort = 0; fort < country.forts; fort++) {
            sum += country.routes.sumOfLeagues(fort);
        }
        return (double) sum / (double) routes;
    }

    public float comeShare() {
        int letters = country.letters.count;
        if (letters == 0) {
            return 0.0f;
        }
        return (float) country.letters.countThatAre(COME) / (float) letters;
    }

    public int undo() {
        if (past.count == 0) {
            return NOTHING;
        }
        past.takeBackLatest(country);
        return past.count;
    }

    public int save() {
        snapshot.copyFrom(country);
        hasSnapshot = true;
        return country.day;
    }

    public int restore() {
        if (!hasSnapshot) {
            return NOTHING;
        }
        country.copyFrom(snapshot);
        past.forgetAll();
        return country.day;
    }

    // ---- what the calls share

    /** Keeps what was noted ahead of a change if the change was made: only codes are below 0. */
    private int kept(int answer) {
        if (answer >= 0) {
            past.keepNoted();
        }
        return answer;
    }

    private int carryOutAll(int orders) {
        past.note(country);
        reader.at = 0;
        for (int order = 0; order < orders; order++) {
            reader.readOrder();
            if (works.carryOut(reader) < 0) {
                past.takeBackNoted(country);
                return works.refuse(WRONG_ORDER, order);
            }
            reader.skipSemicolon();
        }
        return kept(orders);
    }

    private static int leaguesOrNothing(int leagues) {
        return leagues == Distances.UNREACHED ? NOTHING : leagues;
    }

    private int leaguesKnown(int fort, int goal) {
        return country.routes.isKnown(fort, goal)
                ? country.routes.leagues[fort][goal] : Distances.UNREACHED;
    }

    private int placeOf(int fort) {
        int ahead = 0;
        for (int other = 0; other < country.forts; other++) {
            if (isAhead(other, fort)) {
                ahead++;
            }
        }
        return ahead;
    }

    private boolean isAhead(int one, int other) {
        int more = country.routes.countOf(one) - country.routes.countOf(other);
        if (more != 0) {
            return more > 0;
        }
        int farther = country.routes.sumOfLeagues(one) - country.routes.sumOfLeagues(other);
        return farther != 0 ? farther < 0 : one < other;
    }

    private static char letterOfFort(int fort) {
        return (char) ('a' + fort);
    }

    private void writeTrail() {
        line.setLength(0);
        for (int step = 0; step < trail.length; step++) {
            if (step > 0) {
                line.append('>');
            }
            line.append(letterOfFort(trail.forts[step]));
        }
    }

    private void writeKnown(int fort, int goal) {
        line.append(letterOfFort(goal));
        if (country.routes.isKnown(fort, goal)) {
            line.append(country.routes.leagues[fort][goal]);
            line.append(letterOfFort(country.routes.next[fort][goal]));
        } else {
            line.append('-');
        }
    }

    private boolean hasSoundRoutes(int fort) {
        for (int goal = 0; goal < country.forts; goal++) {
            if (country.routes.isKnown(fort, goal)) {
                int next = country.routes.next[fort][goal];
                if (!country.roads.areJoined(fort, next)
                        || country.routes.leagues[fort][goal] < country.roads.between(fort, next)) {
                    return false;
                }
            }
        }
        return true;
    }

    private boolean isMeasuredAlike(int fort) {
        distances.measureFromNearest(country, fort);
        distances.measureRoadByRoad(country, fort);
        for (int goal = 0; goal < country.forts; goal++) {
            if (distances.fromNearest[goal] != distances.roadByRoad[goal]) {
                return false;
            }
        }
        return true;
    }

    private static void copyRows(int[][] from, int[][] to) {
        for (int row = 0; row < MOST_FORTS; row++) {
            System.arraycopy(from[row], 0, to[row], 0, MOST_FORTS);
        }
    }

    /** All that changes can change, and so all that is undone and saved. */
    private static final class Country {
        final boolean[] isSilent = new boolean[MOST_FORTS];
        final Roads roads = new Roads();
        final Routes routes = new Routes();
        final Letters letters = new Letters();
        int forts = 0;
        int way = 0;
        int bound = MOST_BOUND;
        int day = 0;
        int tellings = 0;
        int changes = 0;

        void copyFrom(Country other) {
            for (int fort = 0; fort < MOST_FORTS; fort++) {
                isSilent[fort] = other.isSilent[fort];
            }
            roads.copyFrom(other.roads);
            routes.copyFrom(other.routes);
            letters.copyFrom(other.letters);
            forts = other.forts;
            way = other.way;
            bound = other.bound;
            day = other.day;
            tellings = other.tellings;
            changes = other.changes;
        }

        boolean hasFort(int fort) {
            return fort >= 0 && fort < forts;
        }

        boolean hasForts(int one, int other) {
            return hasFort(one) && hasFort(other);
        }

        boolean sendsHerald(int teller, int hearer) {
            return !isSilent[teller] && roads.areJoined(teller, hearer);
        }

        int countSilent() {
            int silent = 0;
            for (int fort = 0; fort < forts; fort++) {
                if (isSilent[fort]) {
                    silent++;
                }
            }
            return silent;
        }

        int countRoutes() {
            int known = 0;
            for (int fort = 0; fort < forts; fort++) {
                known += routes.countOf(fort);
            }
            return known;
        }
    }

    /** The roads, each held in both directions; 0 leagues stand for none. */
    private static final class Roads {
        private final int[][] leagues = new int[MOST_FORTS][MOST_FORTS];
        int count = 0;

        void copyFrom(Roads other) {
            copyRows(other.leagues, leagues);
            count = other.count;
        }

        int between(int one, int other) {
            return leagues[one][other];
        }

        boolean areJoined(int one, int other) {
            return leagues[one][other] > 0;
        }

        void join(int one, int other, int length) {
            leagues[one][other] = length;
            leagues[other][one] = length;
            count++;
        }

        void part(int one, int other) {
            leagues[one][other] = 0;
            leagues[other][one] = 0;
            count--;
        }

        int countAt(int fort) {
            int neighbours = 0;
            for (int other = 0; other < MOST_FORTS; other++) {
                if (areJoined(fort, other)) {
                    neighbours++;
                }
            }
            return neighbours;
        }
    }

    /** The tables of all forts, each by fort and goal; 0 leagues stand for no route. */
    private static final class Routes {
        final int[][] leagues = new int[MOST_FORTS][MOST_FORTS];
        final int[][] next = new int[MOST_FORTS][MOST_FORTS];
        final int[][] leaps = new int[MOST_FORTS][MOST_FORTS];
        final int[][] age = new int[MOST_FORTS][MOST_FORTS];

        void copyFrom(Routes other) {
            copyRows(other.leagues, leagues);
            copyRows(other.next, next);
            copyRows(other.leaps, leaps);
            copyRows(other.age, age);
        }

        boolean isKnown(int fort, int goal) {
            return leagues[fort][goal] > 0;
        }

        boolean isOver(int fort, int goal, int neighbour) {
            return leagues[fort][goal] > 0 && next[fort][goal] == neighbour;
        }

        boolean isNoneOrLonger(int fort, int goal, int length) {
            return leagues[fort][goal] == 0 || leagues[fort][goal] > length;
        }

        void take(int fort, int goal, int neighbour, int length, int steps) {
            leagues[fort][goal] = length;
            next[fort][goal] = neighbour;
            leaps[fort][goal] = steps;
            age[fort][goal] = 0;
        }

        /** All numbers go to 0, so that two tables without a route are the same there. */
        void lose(int fort, int goal) {
            leagues[fort][goal] = 0;
            next[fort][goal] = 0;
            leaps[fort][goal] = 0;
            age[fort][goal] = 0;
        }

        void loseAllOver(int fort, int neighbour) {
            for (int goal = 0; goal < MOST_FORTS; goal++) {
                if (isOver(fort, goal, neighbour)) {
                    lose(fort, goal);
                }
            }
        }

        int numberOf(int fort, int goal, int what) {
            switch (what) {
                case 0:
                    return leagues[fort][goal];
                case 1:
                    return next[fort][goal];
                case 2:
                    return leaps[fort][goal];
                default:
                    return age[fort][goal];
            }
        }

        int countOf(int fort) {
            int known = 0;
            for (int goal = 0; goal < MOST_FORTS; goal++) {
                if (isKnown(fort, goal)) {
                    known++;
                }
            }
            return known;
        }

        /** Routes that are none have 0 leagues, and so add nothing. */
        int sumOfLeagues(int fort) {
            int sum = 0;
            for (int goal = 0; goal < MOST_FORTS; goal++) {
                sum += leagues[fort][goal];
            }
            return sum;
        }

        /** Leaps and ages may differ without a change: the document asks of leagues and neighbour. */
        int countChangedSince(Routes earlier) {
            int changed = 0;
            for (int fort = 0; fort < MOST_FORTS; fort++) {
                for (int goal = 0; goal < MOST_FORTS; goal++) {
                    if (leagues[fort][goal] != earlier.leagues[fort][goal]
                            || next[fort][goal] != earlier.next[fort][goal]) {
                        changed++;
                    }
                }
            }
            return changed;
        }
    }

    /** The letters, by their numbers. */
    private static final class Letters {
        private final int[] at = new int[MOST_LETTERS];
        private final int[] goal = new int[MOST_LETTERS];
        private final int[] how = new int[MOST_LETTERS];
        private final int[] leaps = new int[MOST_LETTERS];
        private final int[] waits = new int[MOST_LETTERS];
        int count = 0;

        void copyFrom(Letters other) {
            System.arraycopy(other.at, 0, at, 0, MOST_LETTERS);
            System.arraycopy(other.goal, 0, goal, 0, MOST_LETTERS);
            System.arraycopy(other.how, 0, how, 0, MOST_LETTERS);
            System.arraycopy(other.leaps, 0, leaps, 0, MOST_LETTERS);
            System.arraycopy(other.waits, 0, waits, 0, MOST_LETTERS);
            count = other.count;
        }

        boolean isFull() {
            return count >= MOST_LETTERS;
        }

        /** Is called only if there is room. */
        int add(int from, int to) {
            int letter = count;
            at[letter] = from;
            goal[letter] = to;
            how[letter] = UNDER_WAY;
            leaps[letter] = 0;
            waits[letter] = 0;
            count++;
            return letter;
        }

        void goOn(Routes routes) {
            for (int letter = 0; letter < count; letter++) {
                if (how[letter] == UNDER_WAY) {
                    if (routes.isKnown(at[letter], goal[letter])) {
                        leap(letter, routes.next[at[letter]][goal[letter]]);
                    } else {
                        waitHere(letter);
                    }
                }
            }
        }

        private void leap(int letter, int fort) {
            at[letter] = fort;
            leaps[letter]++;
            if (fort == goal[letter]) {
                how[letter] = COME;
            } else if (leaps[letter] >= LEAPS_OF_LOSS) {
                how[letter] = LOST;
            }
        }

        private void waitHere(int letter) {
            waits[letter]++;
            if (waits[letter] >= WAITS_OF_LOSS) {
                how[letter] = LOST;
            }
        }

        int numberOf(int letter, int what) {
            switch (what) {
                case 0:
                    return at[letter];
                case 1:
                    return goal[letter];
                case 2:
                    return how[letter];
                case 3:
                    return leaps[letter];
                default:
                    return waits[letter];
            }
        }

        int countUnderWayAt(int fort) {
            int there = 0;
            for (int letter = 0; letter < count; letter++) {
                if (how[letter] == UNDER_WAY && at[letter] == fort) {
                    there++;
                }
            }
            return there;
        }

        int countThatAre(int state) {
            int such = 0;
            for (int letter = 0; letter < count; letter++) {
                if (how[letter] == state) {
                    such++;
                }
            }
            return such;
        }

        int sumOfLeaps() {
            int sum = 0;
            for (int letter = 0; letter < count; letter++) {
                sum += leaps[letter];
            }
            return sum;
        }
    }

    /** Lets a day go by in a country. */
    private static final class Heralds {
        /** What is told on a day is of its beginning, whatever the tellers hear meanwhile. */
        private final Routes morning = new Routes();

        /** Returns how many routes changed on the day. */
        int passDay(Country country) {
            morning.copyFrom(country.routes);
            for (int hearer = 0; hearer < country.forts; hearer++) {
                for (int teller = 0; teller < country.forts; teller++) {
                    if (country.sendsHerald(teller, hearer)) {
                        country.tellings++;
                        hear(country, teller, hearer);
                    }
                }
            }
            for (int fort = 0; fort < country.forts; fort++) {
                ageUntold(country, fort);
            }
            country.letters.goOn(country.routes);
            country.day++;
            int changed = country.routes.countChangedSince(morning);
            country.changes += changed;
            return changed;
        }

        private void hear(Country country, int teller, int hearer) {
            Routes routes = country.routes;
            for (int goal = 0; goal < country.forts; goal++) {
                boolean isBack = morning.isOver(teller, goal, hearer);
                if (goal != hearer && !(isBack && country.way == TELL_NOTHING_BACK)) {
                    // Of itself a fort tells 0, which is what its own row has for itself.
                    int length = country.roads.between(teller, hearer) + morning.leagues[teller][goal];
                    int steps = 1 + morning.leaps[teller][goal];
                    boolean isNone = (goal != teller && !morning.isKnown(teller, goal))
                            || (isBack && country.way == TELL_NONE_BACK)
                            || length > MOST_ROUTE_LEAGUES || steps > country.bound;
                    boolean isFollowed = routes.isOver(hearer, goal, teller);
                    if (isNone && isFollowed) {
                        routes.lose(hearer, goal);
                    } else if (!isNone && (isFollowed || routes.isNoneOrLonger(hearer, goal, length))) {
                        routes.take(hearer, goal, teller, length, steps);
                    }
                }
            }
        }

        private void ageUntold(Country country, int fort) {
            Routes routes = country.routes;
            for (int goal = 0; goal < country.forts; goal++) {
                int teller = routes.next[fort][goal];
                boolean isUntold = country.isSilent[teller]
                        || (country.way == TELL_NOTHING_BACK && morning.isOver(teller, goal, fort));
                if (isUntold && routes.isKnown(fort, goal)) {
                    routes.age[fort][goal]++;
                    if (routes.age[fort][goal] >= AGE_OF_LOSS) {
                        routes.lose(fort, goal);
                    }
                }
            }
        }
    }

    /** Makes the changes, or refuses them, and knows the latest reason. */
    private static final class Works {
        final Country country = new Country();
        final Heralds heralds = new Heralds();
        int latestReason = NOTHING;
        int latestDetail = NOTHING;

        int refuse(int reason, int detail) {
            latestReason = reason;
            latestDetail = detail;
            return REFUSED;
        }

        int carryOut(Reader order) {
            switch (order.kind) {
                case FORT:
                    return buildFort();
                case ROAD:
                    return layRoad(order.one, order.other, order.number);
                case CUT:
                    return cutRoad(order.one, order.other);
                case MUTE:
                    return setSilence(order.one, true);
                case OPEN:
                    return setSilence(order.one, false);
                case WAY:
                    return setWay(order.number);
                case BOUND:
                    return setBound(order.number);
                case DAY:
                    return passDays(order.number);
                default:
                    return writeLetter(order.one, order.other);
            }
        }

        int buildFort() {
            if (country.forts >= MOST_FORTS) {
                return refuse(NO_ROOM, country.forts);
            }
            int fort = country.forts;
            country.forts++;
            return fort;
        }

        int layRoad(int one, int other, int leagues) {
            if (!country.hasForts(one, other)) {
                return NONE;
            }
            if (leagues < 1 || leagues > MOST_ROAD_LEAGUES) {
                return BAD;
            }
            if (one == other) {
                return refuse(ONE_FORT, one);
            }
            if (country.roads.areJoined(one, other)) {
                return refuse(IS_ROAD, country.roads.between(one, other));
            }
            if (country.roads.count >= MOST_ROADS) {
                return refuse(NO_ROOM, country.roads.count);
            }
            country.roads.join(one, other, leagues);
            takeRoad(one, other, leagues);
            takeRoad(other, one, leagues);
            return country.roads.count;
        }

        private void takeRoad(int fort, int neighbour, int leagues) {
            if (country.routes.isNoneOrLonger(fort, neighbour, leagues)) {
                country.routes.take(fort, neighbour, neighbour, leagues, 1);
            }
        }

        int cutRoad(int one, int other) {
            if (!country.hasForts(one, other)) {
                return NONE;
            }
            if (one == other) {
                return refuse(ONE_FORT, one);
            }
            if (!country.roads.areJoined(one, other)) {
                return refuse(NO_ROAD, one);
            }
            int leagues = country.roads.between(one, other);
            country.roads.part(one, other);
            country.routes.loseAllOver(one, other);
            country.routes.loseAllOver(other, one);
            return leagues;
        }

        int setSilence(int fort, boolean isSilent) {
            if (!country.hasFort(fort)) {
                return NONE;
            }
            if (country.isSilent[fort] == isSilent) {
                return refuse(IS_SO, fort);
            }
            country.isSilent[fort] = isSilent;
            return country.countSilent();
        }

        int setWay(int way) {
            if (way < 0 || way > TELL_NONE_BACK) {
                return BAD;
            }
            int before = country.way;
            country.way = way;
            return before;
        }

        int setBound(int bound) {
            if (bound < 1 || bound > MOST_BOUND) {
                return BAD;
            }
            int before = country.bound;
            country.bound = bound;
            return before;
        }

        int passDays(int days) {
            if (days < 1 || days > MOST_DAYS) {
                return BAD;
            }
            int changed = 0;
            for (int passed = 0; passed < days; passed++) {
                changed += heralds.passDay(country);
            }
            return changed;
        }

        int writeLetter(int from, int to) {
            if (!country.hasForts(from, to)) {
                return NONE;
            }
            if (from == to) {
                return refuse(ONE_FORT, from);
            }
            if (country.letters.isFull()) {
                return refuse(NO_ROOM, country.letters.count);
            }
            return country.letters.add(from, to);
        }
    }

    /** How far forts truly are from one of them, in two ways that share nothing. */
    private static final class Distances {
        /** Is above all leagues that roads can have together. */
        static final int UNREACHED = 1000;
        final int[] fromNearest = new int[MOST_FORTS];
        final int[] roadByRoad = new int[MOST_FORTS];
        private final boolean[] isDone = new boolean[MOST_FORTS];

        void measureFromNearest(Country country, int from) {
            for (int fort = 0; fort < MOST_FORTS; fort++) {
                fromNearest[fort] = fort == from ? 0 : UNREACHED;
                isDone[fort] = false;
            }
            for (int done = 0; done < country.forts; done++) {
                int near = findNearest(country.forts);
                isDone[near] = true;
                for (int fort = 0; fort < country.forts; fort++) {
                    if (country.roads.areJoined(near, fort)) {
                        int leagues = fromNearest[near] + country.roads.between(near, fort);
                        fromNearest[fort] = Math.min(fromNearest[fort], leagues);
                    }
                }
            }
        }

        /** Answers a fort in any case, so that its answer is always an index. */
        private int findNearest(int forts) {
            int near = 0;
            for (int fort = 1; fort < forts; fort++) {
                if (isDone[near] || (!isDone[fort] && fromNearest[fort] < fromNearest[near])) {
                    near = fort;
                }
            }
            return near;
        }

        void measureRoadByRoad(Country country, int from) {
            for (int fort = 0; fort < MOST_FORTS; fort++) {
                roadByRoad[fort] = fort == from ? 0 : UNREACHED;
            }
            boolean isLess = true;
            for (int round = 0; isLess && round < MOST_FORTS; round++) {
                isLess = lessenOnce(country);
            }
        }

        private boolean lessenOnce(Country country) {
            boolean isLess = false;
            for (int one = 0; one < country.forts; one++) {
                for (int other = 0; other < country.forts; other++) {
                    int leagues = roadByRoad[one] + country.roads.between(one, other);
                    if (country.roads.areJoined(one, other) && leagues < roadByRoad[other]) {
                        roadByRoad[other] = leagues;
                        isLess = true;
                    }
                }
            }
            return isLess;
        }
    }

    /** The forts to which one comes by routes that are followed. */
    private static final class Trail {
        final int[] forts = new int[MOST_FORTS];
        private final boolean[] isPassed = new boolean[MOST_FORTS];
        int length = 0;
        int leagues = 0;
        /** The goal, a fort without a route, or the fort at which a ring closes. */
        int last = 0;
        boolean isRing = false;

        void follow(Country country, int from, int to) {
            start(from);
            while (length < MOST_FORTS && !isPassed[last]) {
                forts[length] = last;
                length++;
                isPassed[last] = true;
                if (last == to || !country.routes.isKnown(last, to)) {
                    return;
                }
                int next = country.routes.next[last][to];
                leagues += country.roads.between(last, next);
                last = next;
            }
            isRing = true;
        }

        private void start(int from) {
            for (int fort = 0; fort < MOST_FORTS; fort++) {
                isPassed[fort] = false;
            }
            length = 0;
            leagues = 0;
            last = from;
            isRing = false;
        }
    }

    /** What the country was ahead of the latest changes. */
    private static final class Past {
        /** One row more than changes can be undone: it takes what is not yet kept. */
        private static final int ROWS = MOST_UNDONE + 1;
        private final Country[] rows = new Country[ROWS];
        private int free = 0;
        int count = 0;

        Past() {
            for (int row = 0; row < ROWS; row++) {
                rows[row] = new Country();
            }
        }

        void note(Country country) {
            rows[free].copyFrom(country);
        }

        void keepNoted() {
            free = (free + 1) % ROWS;
            count = Math.min(count + 1, MOST_UNDONE);
        }

        void takeBackNoted(Country country) {
            country.copyFrom(rows[free]);
        }

        /** Is called only if there is one. */
        void takeBackLatest(Country country) {
            free = (free + ROWS - 1) % ROWS;
            count--;
            country.copyFrom(rows[free]);
        }

        void forgetAll() {
            count = 0;
        }
    }

    /**
     * The kinds of orders with their forms, in which F stands for a fort, D for a digit, and ?
     * for one that need not be there; they differ in their first characters.
     */
    private enum Kind {
        FORT("fort"),
        ROAD("road F-F D?"),
        CUT("cut F-F"),
        MUTE("mute F"),
        OPEN("open F"),
        WAY("way D"),
        BOUND("bound D"),
        DAY("day D?"),
        POST("post F-F");

        final String form;

        Kind(String form) {
            this.form = form;
        }
    }

    /** Reads the orders of a text one after the other. */
    private static final class Reader {
        static final int FAULTY = -1;
        private static final Kind[] KINDS = Kind.values();
        final StringBuilder text = new StringBuilder();
        /** The index of the next character, and so of the fault if one is found. */
        int at = 0;
        Kind kind = Kind.FORT;
        int one = 0;
        int other = 0;
        int number = 0;
        private boolean hasOne = false;

        int countOrders() {
            at = 0;
            for (int orders = 1; orders <= MOST_CHARACTERS; orders++) {
                if (!readOrder()) {
                    return FAULTY;
                }
                if (at == text.length()) {
                    return orders;
                }
                if (!skipSemicolon()) {
                    return FAULTY;
                }
            }
            return FAULTY;
        }

        boolean skipSemicolon() {
            return skip(';');
        }

        boolean readOrder() {
            if (!findKind()) {
                return false;
            }
            hasOne = false;
            number = 0;
            for (int index = 0; index < kind.form.length(); index++) {
                if (!readPart(kind.form.charAt(index))) {
                    return false;
                }
            }
            return true;
        }

        private boolean findKind() {
            for (int index = 0; index < KINDS.length; index++) {
                if (isIn(KINDS[index].form.charAt(0), KINDS[index].form.charAt(0))) {
                    kind = KINDS[index];
                    return true;
                }
            }
            return false;
        }

        private boolean readPart(char part) {
            if (part == 'F') {
                return readFort();
            }
            if (part == 'D') {
                return readDigit();
            }
            if (part == '?') {
                readDigit();
                return true;
            }
            return skip(part);
        }

        private boolean readFort() {
            if (!isIn('a', 'h')) {
                return false;
            }
            int fort = text.charAt(at) - 'a';
            if (hasOne) {
                other = fort;
            } else {
                one = fort;
            }
            hasOne = true;
            at++;
            return true;
        }

        private boolean readDigit() {
            if (!isIn('0', '9')) {
                return false;
            }
            number = 10 * number + text.charAt(at) - '0';
            at++;
            return true;
        }

        private boolean skip(char sign) {
            if (!isIn(sign, sign)) {
                return false;
            }
            at++;
            return true;
        }

        private boolean isIn(char lowest, char highest) {
            return at < text.length() && text.charAt(at) >= lowest && text.charAt(at) <= highest;
        }
    }
}
