/**
 * Guides of a valley: its net of places and steps, its weather, its guides and the statute they go by,
 * ropes of strangers, a day of ropes, grades from hours, and a purse. What each call answers is told in
 * the document by numbered promises; every call answers with a number and none ever throws.
 *
 * All rows are made once, with the object: no call makes anything new.
 */
public final class ValleyGuides {
    public static final int BAD = -1, STATE = -2, FULL = -3, NONE = -4, BARRED = -5;

    private static final int PLACES = 12, STEPS = 20, ROUTES = 6, ROUTE_STEPS = 6, MOST_BEDS = 9;
    private static final int MOST_LENGTH = 9, MOST_HARD = 5, MOST_STRENGTH = 9;
    private static final int HOURS_A_DAY = 24, AN_HOUR = 4, QUARTERS = 96, NOON = 48;
    private static final int SHEETS = 4, CELLS = 24, NO_NUMBER = 2000000000;
    private static final int GUIDES = 8, MOST_GRADE = 5, LAST_DAY = 999;
    private static final int TAPE = 240, LINES = 12, OPEN_AT_ONCE = 6;
    private static final int PEOPLE = 9, MOST_WISH = 9, MOST_LEAST = 30;
    private static final int ROPES = 8, MOST_IN_ROPE = 9, ON_STEP = 100;
    private static final int ENTRIES = 14;
    private static final int MOST_GIVEN = 100000, MOST_IN_PURSE = 1000000000, MOST_SUM = 1000000;

    private static final int PATH = 0, ICE = 1, ROCK = 2, SNOW = 3, RIDGE = 4;
    private static final int FAULT_NULL = 1, FAULT_INDEX = 2, FAULT_CAST = 3, FAULT_SIZE = 4;

    private static final int BAD_WISH = -100, BAD_ROPING = -1000, NO_ROPING = -1004;
    private static final long BAD_GRADE = -1000000000000L, NO_GRADE = -1000000000004L;

    private final Net net = new Net();
    private final Sky sky = new Sky();
    private final Walks walks = new Walks(net, sky);
    private final Guild guild = new Guild();
    private final Reader reader = new Reader();
    private final Judge judge = new Judge(net, sky, guild.now);
    private final Strangers strangers = new Strangers();
    private final March march = new March(net, walks, judge);
    private final Hours hours = new Hours();

    public ValleyGuides() {
    }

    private static boolean within(int number, int least, int most) {
        return number >= least && number <= most;
    }

    private static int held(int number, int least, int most) {
        return Math.max(least, Math.min(most, number));
    }

    private static boolean isStrength(int number) {
        return within(number, 0, MOST_STRENGTH);
    }

    private static boolean isQuarter(int number) {
        return within(number, 0, QUARTERS - 1);
    }

    // ---- the net, weather

    public int place(int beds) {
        if (!within(beds, 0, MOST_BEDS)) {
            return BAD;
        }
        if (net.places >= PLACES) {
            return FULL;
        }
        return net.addPlace(beds);
    }

    public int step(int from, int to, int sort, int length, int hard, boolean narrow) {
        if (!net.hasPlace(from) || !net.hasPlace(to) || from == to) {
            return BAD;
        }
        if (!within(sort, PATH, RIDGE) || !within(length, 1, MOST_LENGTH) || !within(hard, 0, MOST_HARD)) {
            return BAD;
        }
        if (net.steps >= STEPS) {
            return FULL;
        }
        int number = net.addStep(from, to, narrow);
        net.sort[number] = sort;
        net.length[number] = length;
        net.hard[number] = hard;
        return number;
    }

    public int stepOf(int k, int what) {
        if (!net.hasStep(k)) {
            return BAD;
        }
        switch (what) {
            case 0: return net.from[k];
            case 1: return net.to[k];
            case 2: return net.sort[k];
            case 3: return net.length[k];
            case 4: return net.hard[k];
            case 5: return net.narrow[k] ? 1 : 0;
            default: return BAD;
        }
    }

    public int route(int step) {
        if (!net.hasStep(step)) {
            return BAD;
        }
        if (net.routes >= ROUTES) {
            return FULL;
        }
        return net.addRoute(step);
    }

    public int on(int route, int step) {
        if (!net.hasRoute(route) || !net.hasStep(step)) {
            return BAD;
        }
        if (net.from[step] != net.endOf(route)) {
            return STATE;
        }
        if (net.stepsIn[route] >= ROUTE_STEPS) {
            return FULL;
        }
        return net.lengthen(route, step);
    }

    public int routeOf(int r, int what) {
        if (!net.hasRoute(r)) {
            return BAD;
        }
        switch (what) {
            case 0: return net.stepsIn[r];
            case 1: return net.beginOf(r);
            case 2: return net.endOf(r);
            case 3: return net.greatestHard(r);
            case 4: return net.sumOfHard(r);
            case 5: return net.sumOfLength(r);
            default: return within(what, 10, 9 + net.stepsIn[r]) ? net.rows[r][what - 10] : BAD;
        }
    }

    public int sheet(int k, int lane, int n) {
        if (!within(k, 0, SHEETS - 1) || !within(lane, Sky.FLOATS, Sky.BYTES) || n > CELLS) {
            return BAD;
        }
        if (n < 0) {
            return -10 - FAULT_SIZE;
        }
        sky.renew(k, lane, n);
        return 1;
    }

    public int lay(int k, int i, int v) {
        if (!within(k, 0, SHEETS - 1)) {
            return BAD;
        }
        if (sky.lane[k] == Sky.NOTHING) {
            return -10 - FAULT_NULL;
        }
        if (!within(i, 0, sky.size[k] - 1)) {
            return -10 - FAULT_INDEX;
        }
        sky.setCell(k, i, v);
        return 1;
    }

    public int tear(int k) {
        if (!within(k, 0, SHEETS - 1)) {
            return BAD;
        }
        int was = sky.lane[k] == Sky.NOTHING ? 0 : 1;
        sky.lane[k] = Sky.NOTHING;
        return was;
    }

    public int weather(int hour, int what) {
        if (!within(hour, 0, HOURS_A_DAY - 1) || !within(what, Sky.WIND, Sky.SNOW_FALLEN)) {
            return BAD;
        }
        return sky.valueAt(hour, what);
    }

    public int unknown(int hour, int what) {
        if (!within(hour, 0, HOURS_A_DAY - 1) || !within(what, Sky.WIND, Sky.SNOW_FALLEN)) {
            return BAD;
        }
        return sky.faultAt(hour, what);
    }

    public int takes(int step, int strength, int quarter) {
        if (!net.hasStep(step) || !isStrength(strength) || !isQuarter(quarter)) {
            return BAD;
        }
        return walks.stepTime(step, strength, quarter);
    }

    public int hour(int route, int strength, int quarter) {
        if (!net.hasRoute(route) || !isStrength(strength) || !isQuarter(quarter)) {
            return BAD;
        }
        return walks.routeEnd(route, strength, quarter);
    }

    public int late(int route, int strength, int end) {
        if (!net.hasRoute(route) || !isStrength(strength) || !isQuarter(end)) {
            return BAD;
        }
        return walks.lastBegin(route, strength, end);
    }

    public int way(int from, int to, int strength, int quarter) {
        if (!net.hasPlace(from) || !net.hasPlace(to) || !isStrength(strength) || !isQuarter(quarter)) {
            return BAD;
        }
        return walks.arrival(from, to, strength, quarter);
    }

    // ---- guides, statutes

    public int guide(int grade, int strength, int papers) {
        if (!within(grade, 0, MOST_GRADE) || !isStrength(strength) || !within(papers, 0, LAST_DAY)) {
            return BAD;
        }
        if (guild.now.guides >= GUIDES) {
            return FULL;
        }
        return guild.join(grade, strength, papers);
    }

    public int papers(int g, int day) {
        if (!guild.has(g) || !within(day, 0, LAST_DAY)) {
            return BAD;
        }
        int before = guild.papersTo[g];
        guild.papersTo[g] = day;
        return before;
    }

    public int told(int g, int what) {
        if (!guild.has(g)) {
            return BAD;
        }
        switch (what) {
            case 0: return guild.grades[g];
            case 1: return guild.strength[g];
            case 2: return guild.papersTo[g];
            case 3: return guild.now.placeOf(g);
            case 4: return guild.now.isOut(g) ? 1 : 0;
            case 5: return guild.now.paid[g];
            case 6: return guild.now.shared[g];
            default: return BAD;
        }
    }

    public int list(int i) {
        return guild.has(i) ? guild.now.order[i] : BAD;
    }

    public int day(int d) {
        if (!within(d, guild.now.date, LAST_DAY)) {
            return BAD;
        }
        int before = guild.now.date;
        guild.now.date = d;
        guild.now.out = 0;
        return before;
    }

    public int feed(long v) {
        if (reader.used > TAPE - 8) {
            return FULL;
        }
        reader.append(v);
        return reader.used;
    }

    public int end(int n) {
        if (!within(n, 0, reader.used)) {
            return BAD;
        }
        int before = reader.used;
        reader.used = n;
        return before;
    }

    public int text() {
        reader.readAll();
        reader.used = 0;
        if (reader.fault != 0) {
            return -10 - reader.start;
        }
        judge.adopt(reader);
        return judge.lines;
    }

    public int fault() {
        return reader.fault;
    }

    public int why(int route, int quarter, int people) {
        if (!isCase(route, quarter, people)) {
            return BAD;
        }
        judge.hear(route, quarter, people);
        return judge.firstHolding(Reader.BAR);
    }

    public int pay(int route, int quarter, int people) {
        if (!isCase(route, quarter, people)) {
            return BAD;
        }
        judge.hear(route, quarter, people);
        return judge.sumPaid();
    }

    public int asked(int route, int quarter, int people) {
        if (!isCase(route, quarter, people)) {
            return BAD;
        }
        judge.hear(route, quarter, people);
        return judge.guidesAsked();
    }

    public int turn(int route, int quarter, int people, int i) {
        if (!isCase(route, quarter, people) || i < 0) {
            return BAD;
        }
        judge.hear(route, quarter, people);
        int asked = judge.guidesAsked();
        if (judge.firstHolding(Reader.BAR) != NONE || !guild.findTurn(asked, net.greatestHard(route))) {
            return NONE;
        }
        return i < asked ? guild.turns[i] : NONE;
    }

    public int go(int route, int quarter, int people) {
        if (!isCase(route, quarter, people)) {
            return BAD;
        }
        judge.hear(route, quarter, people);
        if (judge.firstHolding(Reader.BAR) != NONE) {
            return STATE;
        }
        if (!guild.findTurn(judge.guidesAsked(), net.greatestHard(route))) {
            return NONE;
        }
        guild.sendTurn(judge.sumPaid());
        return guild.turning;
    }

    private boolean isCase(int route, int quarter, int people) {
        return net.hasRoute(route) && isQuarter(quarter) && within(people, 1, MOST_IN_ROPE);
    }

    // ---- strangers

    public int person(int strength) {
        if (!isStrength(strength)) {
            return BAD;
        }
        if (strangers.people >= PEOPLE) {
            return FULL;
        }
        return strangers.add(strength);
    }

    public int wish(int a, int b, int v) {
        if (!strangers.has(a) || !strangers.has(b) || a == b || !within(v, -MOST_WISH, MOST_WISH)) {
            return BAD_WISH;
        }
        int before = strangers.wishes[a][b];
        strangers.wishes[a][b] = v;
        return before;
    }

    public int roping(int least, int what) {
        boolean ofPerson = what >= 10 && strangers.has(what - 10);
        if (!within(least, 0, MOST_LEAST) || !(ofPerson || within(what, 0, 1))) {
            return BAD_ROPING;
        }
        if (!strangers.findRoping(least)) {
            return NO_ROPING;
        }
        if (ofPerson) {
            return strangers.ropeWith(what - 10);
        }
        return what == 0 ? strangers.bestWorth() : strangers.ropesInBest();
    }

    // ---- a day

    public int rope(int route, int strength, int start, int people) {
        if (!net.hasRoute(route) || !isStrength(strength) || !isQuarter(start)) {
            return BAD;
        }
        if (!within(people, 1, MOST_IN_ROPE)) {
            return BAD;
        }
        if (march.count >= ROPES) {
            return FULL;
        }
        return march.add(route, strength, start, people);
    }

    public int unrope() {
        if (march.count <= 0) {
            return NONE;
        }
        march.count--;
        return march.count;
    }

    public int went(int rope, int what) {
        if (!march.has(rope)) {
            return BAD;
        }
        march.stepDay();
        Rope walked = march.ropes[rope];
        switch (what) {
            case 0: return walked.doneIn == NONE ? BARRED : walked.spot;
            case 1: return walked.doneIn == NONE ? BARRED : walked.doneIn;
            case 2: return walked.turned ? 1 : 0;
            case 3: return walked.waited;
            case 4: return walked.bedded;
            case 5: return walked.behind;
            case 6: return walked.spot;
            default: return BAD;
        }
    }

    public int stayed(int place, int what) {
        if (!net.hasPlace(place)) {
            return BAD;
        }
        march.stepDay();
        switch (what) {
            case 0: return march.bedsTaken[place];
            case 1: return march.lyingOut[place];
            case 2: return march.arrivals[place];
            default: return BAD;
        }
    }

    public int at(int rope, int quarter) {
        if (!march.has(rope) || !isQuarter(quarter)) {
            return BAD;
        }
        march.stepDay();
        return march.ropes[rope].seen[quarter];
    }

    public int near(int place, int quarter, int what) {
        if (!net.hasPlace(place) || !isQuarter(quarter) || !within(what, 0, 1)) {
            return BAD;
        }
        march.stepDay();
        int least = QUARTERS;
        int who = NONE;
        for (int i = 0; i < guild.now.guides + march.count; i++) {
            boolean isGuide = i < guild.now.guides;
            int rope = i - guild.now.guides;
            int there = isGuide ? guideAt(i, place, quarter) : ropeAt(rope, place, quarter);
            if (there != NONE && there < least) {
                least = there;
                who = isGuide ? i : ON_STEP + rope;
            }
        }
        return what == 0 && who != NONE ? least : who;
    }

    private int guideAt(int g, int place, int quarter) {
        return guild.now.isOut(g) ? NONE : walks.arrival(0, place, guild.strength[g], quarter);
    }

    private int ropeAt(int rope, int place, int quarter) {
        int from = march.ropes[rope].seen[quarter];
        return net.hasPlace(from) ? walks.arrival(from, place, march.ropes[rope].strength, quarter) : NONE;
    }

    // ---- hours, grades

    public int entry(int route, int guide, int quarters) {
        if (!net.hasRoute(route) || !guild.has(guide) || !within(quarters, 1, QUARTERS - 1)) {
            return BAD;
        }
        if (hours.count >= ENTRIES) {
            return FULL;
        }
        return hours.add(route, guide, quarters);
    }

    public long grade(int sort, int k, int what) {
        boolean known = (sort == 0 && net.hasRoute(k)) || (sort == 1 && guild.has(k));
        if (!known || !within(what, 0, 1)) {
            return BAD_GRADE;
        }
        int node = sort == 0 ? k : ROUTES + k;
        hours.solve();
        if (hours.piece[node] == NONE) {
            return NO_GRADE;
        }
        return hours.partOf(hours.top[node], what);
    }

    public long over(int entry, int what) {
        if (!within(entry, 0, hours.count - 1) || !within(what, 0, 1)) {
            return BAD_GRADE;
        }
        hours.solve();
        return hours.partOf(hours.topOver(entry), what);
    }

    public int pieces() {
        hours.findPieces();
        return hours.countPieces();
    }

    // ---- the purse

    public int give(int pence) {
        if (!within(pence, 1, MOST_GIVEN)) {
            return BAD;
        }
        if (guild.now.purse > MOST_IN_PURSE - pence) {
            return FULL;
        }
        guild.now.purse += pence;
        return guild.now.purse;
    }

    public int share(int some) {
        int heads = Integer.bitCount(some);
        if (heads == 0 || !within(some, 1, (1 << guild.now.guides) - 1)) {
            return BAD;
        }
        int each = guild.now.purse / heads;
        if (each == 0) {
            return STATE;
        }
        guild.now.shareOut(some, each);
        return each;
    }

    // ---- images

    public int image() {
        guild.takeImage();
        return 1;
    }

    public int back() {
        if (!guild.imaged) {
            return NONE;
        }
        guild.goBack();
        return guild.image.guides;
    }

    public int count(int what) {
        switch (what) {
            case 0: return net.places;
            case 1: return net.steps;
            case 2: return net.routes;
            case 3: return guild.now.guides;
            case 4: return judge.lines;
            case 5: return strangers.people;
            case 6: return march.count;
            case 7: return hours.count;
            case 8: return guild.now.purse;
            case 9: return guild.now.date;
            case 10: return Integer.bitCount(guild.now.out);
            case 11:
                march.stepDay();
                return march.countTurned();
            case 12: return reader.used;
            default: return BAD;
        }
    }

    /** Places, steps and routes: none of them ever goes, so a number once given stays good. */
    private static final class Net {
        int places;
        final int[] beds = new int[PLACES];
        int steps;
        final int[] from = new int[STEPS];
        final int[] to = new int[STEPS];
        final int[] sort = new int[STEPS];
        final int[] length = new int[STEPS];
        final int[] hard = new int[STEPS];
        final boolean[] narrow = new boolean[STEPS];
        int routes;
        final int[] stepsIn = new int[ROUTES];
        final int[][] rows = new int[ROUTES][ROUTE_STEPS];

        boolean hasPlace(int number) {
            return within(number, 0, places - 1);
        }

        boolean hasStep(int number) {
            return within(number, 0, steps - 1);
        }

        boolean hasRoute(int number) {
            return within(number, 0, routes - 1);
        }

        int addPlace(int bedsThere) {
            beds[places] = bedsThere;
            places++;
            return places - 1;
        }

        int addStep(int begin, int goal, boolean bearsOne) {
            from[steps] = begin;
            to[steps] = goal;
            narrow[steps] = bearsOne;
            steps++;
            return steps - 1;
        }

        int addRoute(int step) {
            rows[routes][0] = step;
            stepsIn[routes] = 1;
            routes++;
            return routes - 1;
        }

        int lengthen(int route, int step) {
            rows[route][stepsIn[route]] = step;
            stepsIn[route]++;
            return stepsIn[route];
        }

        int beginOf(int route) {
            return from[rows[route][0]];
        }

        int endOf(int route) {
            return to[rows[route][stepsIn[route] - 1]];
        }

        int greatestHard(int route) {
            int greatest = 0;
            for (int i = 0; i < stepsIn[route]; i++) {
                greatest = Math.max(greatest, hard[rows[route][i]]);
            }
            return greatest;
        }

        int sumOfHard(int route) {
            int sum = 0;
            for (int i = 0; i < stepsIn[route]; i++) {
                sum += hard[rows[route][i]];
            }
            return sum;
        }

        int sumOfLength(int route) {
            int sum = 0;
            for (int i = 0; i < stepsIn[route]; i++) {
                sum += length[rows[route][i]];
            }
            return sum;
        }
    }

    /** The sheets, and the weather that is read off them. */
    private static final class Sky {
        static final int NOTHING = -1, FLOATS = 0, SHORTS = 1, BYTES = 2;
        static final int WIND = 0, RAIN = 1, SNOW_FALLEN = 2;
        static final int MOST_WIND = 200, MOST_FALL = 99;

        final int[] lane = new int[SHEETS];
        final int[] size = new int[SHEETS];
        // A cell of floats is held in hundredths, as it was laid: so no float that is no number is ever needed.
        final int[][] cells = new int[SHEETS][CELLS];

        Sky() {
            for (int k = 0; k < SHEETS; k++) {
                lane[k] = NOTHING;
            }
        }

        void renew(int k, int newLane, int n) {
            lane[k] = newLane;
            size[k] = n;
            for (int i = 0; i < CELLS; i++) {
                cells[k][i] = 0;
            }
        }

        void setCell(int k, int i, int v) {
            if (lane[k] == SHORTS) {
                cells[k][i] = (short) v;
            } else if (lane[k] == BYTES) {
                cells[k][i] = (byte) v;
            } else {
                cells[k][i] = v;
            }
        }

        /** Wind is of sheet 0 and lane 0, rain of 1 and 1, snow of 2 and 2: what is the number of all three. */
        int faultAt(int hour, int what) {
            if (lane[what] == NOTHING) {
                return FAULT_NULL;
            }
            if (lane[what] != what) {
                return FAULT_CAST;
            }
            return hour >= size[what] ? FAULT_INDEX : 0;
        }

        int valueAt(int hour, int what) {
            int most = what == WIND ? MOST_WIND : MOST_FALL;
            if (faultAt(hour, what) != 0) {
                return most;
            }
            int cell = cells[what][hour];
            if (what != WIND) {
                return held(cell, 0, most);
            }
            return cell == NO_NUMBER ? most : held(cell / 100, 0, most);
        }
    }

    /** How long steps and routes take, and the ways between places. */
    private static final class Walks {
        private static final int MOST_SNOW = 60, MOST_RIDGE_WIND = 100;

        final Net net;
        final Sky sky;
        final int[] reached = new int[PLACES];
        final boolean[] left = new boolean[PLACES];

        Walks(Net net, Sky sky) {
            this.net = net;
            this.sky = sky;
        }

        /** The quarters that a step takes, or BARRED. */
        int stepTime(int step, int strength, int quarter) {
            int hour = quarter / AN_HOUR;
            int wind = sky.valueAt(hour, Sky.WIND);
            int rain = sky.valueAt(hour, Sky.RAIN);
            int snow = sky.valueAt(hour, Sky.SNOW_FALLEN);
            int hard = net.hard[step];
            int path = net.length[step] + (MOST_STRENGTH - strength) / 3;
            int ice = quarter >= NOON ? 2 * path : path;
            int climb = hard * (10 - strength) / 4;
            int rock = rain > 0 ? path + 2 * climb : path + climb;
            switch (net.sort[step]) {
                case PATH: return path;
                case ICE: return ice;
                case ROCK: return rock;
                case SNOW: return snow + 2 * hard > MOST_SNOW ? BARRED : ice + snow / 10;
                default: return wind > MOST_RIDGE_WIND - 10 * hard ? BARRED : rock + wind / 40;
            }
        }

        /** The quarter in which a route ends, or -100 less the place of its step that is barred. */
        int routeEnd(int route, int strength, int quarter) {
            int now = quarter;
            for (int i = 0; i < net.stepsIn[route]; i++) {
                int time = now < QUARTERS ? stepTime(net.rows[route][i], strength, now) : BARRED;
                if (time == BARRED) {
                    return -100 - i;
                }
                now += time;
            }
            return now;
        }

        int lastBegin(int route, int strength, int end) {
            for (int quarter = end; quarter >= 0; quarter--) {
                int ended = routeEnd(route, strength, quarter);
                if (ended >= 0 && ended <= end) {
                    return quarter;
                }
            }
            return NONE;
        }

        /** The least quarter in which one can be there, or NONE. */
        int arrival(int begin, int goal, int strength, int quarter) {
            for (int p = 0; p < net.places; p++) {
                reached[p] = QUARTERS;
                left[p] = false;
            }
            reached[begin] = quarter;
            for (int turn = 0; turn < net.places; turn++) {
                int next = nearestNotLeft();
                if (next == NONE || next == goal) {
                    break;
                }
                leave(next, strength);
            }
            return reached[goal] < QUARTERS ? reached[goal] : NONE;
        }

        int nearestNotLeft() {
            int nearest = NONE;
            int least = QUARTERS;
            for (int p = 0; p < net.places; p++) {
                if (!left[p] && reached[p] < least) {
                    least = reached[p];
                    nearest = p;
                }
            }
            return nearest;
        }

        void leave(int place, int strength) {
            left[place] = true;
            for (int k = 0; k < net.steps; k++) {
                if (net.from[k] == place) {
                    int time = stepTime(k, strength, reached[place]);
                    if (time != BARRED) {
                        reached[net.to[k]] = Math.min(reached[net.to[k]], reached[place] + time);
                    }
                }
            }
        }
    }

    /** What an image keeps: the list, the day, who is out, the pence. */
    private static final class Standing {
        int guides;
        final int[] order = new int[GUIDES];
        int date;
        int out;
        final int[] paid = new int[GUIDES];
        final int[] shared = new int[GUIDES];
        int purse;

        boolean isOut(int g) {
            return (out >> g & 1) == 1;
        }

        int placeOf(int g) {
            for (int i = 0; i < guides; i++) {
                if (order[i] == g) {
                    return i;
                }
            }
            return NONE;
        }

        int addLast() {
            int number = guides;
            order[number] = number;
            paid[number] = 0;
            shared[number] = 0;
            guides++;
            return number;
        }

        void shareOut(int some, int each) {
            for (int g = 0; g < guides; g++) {
                if ((some >> g & 1) == 1) {
                    shared[g] += each;
                    purse -= each;
                }
            }
        }

        void copyFrom(Standing other) {
            guides = other.guides;
            date = other.date;
            out = other.out;
            purse = other.purse;
            System.arraycopy(other.order, 0, order, 0, GUIDES);
            System.arraycopy(other.paid, 0, paid, 0, GUIDES);
            System.arraycopy(other.shared, 0, shared, 0, GUIDES);
        }
    }

    /** The guides, whose turn it is, and the image. */
    private static final class Guild {
        final int[] grades = new int[GUIDES];
        final int[] strength = new int[GUIDES];
        final int[] papersTo = new int[GUIDES];
        final Standing now = new Standing();
        final Standing image = new Standing();
        boolean imaged;
        final int[] turns = new int[GUIDES];
        int turning;

        boolean has(int g) {
            return within(g, 0, now.guides - 1);
        }

        int join(int newGrade, int newStrength, int newPapers) {
            int number = now.addLast();
            grades[number] = newGrade;
            strength[number] = newStrength;
            papersTo[number] = newPapers;
            return number;
        }

        /** Finds the first of the list that may go: whether there are as many as asked. */
        boolean findTurn(int asked, int leastGrade) {
            turning = 0;
            for (int i = 0; i < now.guides && turning < asked; i++) {
                int g = now.order[i];
                if (!now.isOut(g) && papersTo[g] >= now.date && grades[g] >= leastGrade) {
                    turns[turning] = g;
                    turning++;
                }
            }
            return turning == asked;
        }

        void sendTurn(int pay) {
            int part = turning > 0 ? pay / turning : 0;
            for (int i = 0; i < turning; i++) {
                int g = turns[i];
                now.out |= 1 << g;
                now.paid[g] += part - part / 10;
                now.purse += part / 10;
            }
            moveTurnBehind();
        }

        void moveTurnBehind() {
            int next = 0;
            int kept = 0;
            for (int i = 0; i < now.guides; i++) {
                int g = now.order[i];
                // The turn is in the order of the list, so one look at the next of it is enough.
                if (next < turning && turns[next] == g) {
                    next++;
                } else {
                    now.order[kept] = g;
                    kept++;
                }
            }
            for (int i = 0; i < turning && kept < now.guides; i++) {
                now.order[kept] = turns[i];
                kept++;
            }
        }

        void takeImage() {
            image.copyFrom(now);
            imaged = true;
        }

        void goBack() {
            int all = now.guides;
            now.copyFrom(image);
            for (int g = image.guides; g < all; g++) {
                now.addLast();
            }
        }
    }

    /**
     * The tape, and the draft of a statute that is read off it. Each test and sum becomes a row of words, values
     * ahead of the sign that joins them: so neither reading nor judging calls itself.
     */
    private static final class Reader {
        static final int BAR = 0, PAY = 1, ASK = 2, BACK = 3, OR = 4, AND = 5, NOT = 6;
        static final int FIRST_VARIABLE = 7, LAST_VARIABLE = 15;
        static final int OPEN = 16, CLOSE = 17, PLUS = 18, MINUS = 19, TIMES = 20;
        static final int LESS = 21, MORE = 22, SAME = 23, STOP = 24;
        static final int NUMBER = 25, END = 26, WRONG = 27;
        /** A number's word is this and the number; all other words are below it. */
        static final int FIGURES = 100;

        private static final String SIGNS = "()+-*<>=;";
        private static final int MOST_FIGURES = 4;
        /** The names in the order of their tokens, a blank behind each. */
        private static final String NAMES =
                "bar pay ask back or and not wind rain snow quarter grade people hard length day ";
        /** How fast a sign binds, by its token. */
        private static final int[] BINDS = {0, 0, 0, 0, 1, 2, 3, 0, 0, 0, 0, 0, 0, 0, 0, 0, 0, 0, 5, 5, 6, 4, 4, 4, 0, 0, 0, 0};

        private static final int AT_LINE = 0, AT_VALUE = 1, AFTER_VALUE = 2;
        private static final int PLAIN = 0, LEFT = 1, RIGHT = 2;
        private static final int NO_TOKEN = 1, OUT_OF_PLACE = 2, TOO_DEEP = 3, TOO_MANY = 4;

        final int[] tape = new int[TAPE];
        int used;
        int next;
        int start;
        int token;
        int number;
        int fault;

        final int[] code = new int[TAPE];
        int coded;
        final int[] kind = new int[LINES];
        final int[] ends = new int[LINES];
        int lines;

        final int[] waiting = new int[TAPE];
        int waits;
        int state;
        int side;
        int open;
        boolean notMayStand;

        void append(long v) {
            for (int shift = 56; shift >= 0 && used < TAPE; shift -= 8) {
                tape[used] = (int) (v >> shift & 255);
                used++;
            }
        }

        void readAll() {
            next = 0;
            coded = 0;
            lines = 0;
            waits = 0;
            open = 0;
            fault = 0;
            state = AT_LINE;
            boolean more = true;
            for (int taken = 0; taken <= TAPE && more; taken++) {
                readToken();
                fault = take();
                more = fault == 0 && token != END;
            }
        }

        void readToken() {
            while (next < used && tape[next] == ' ') {
                next++;
            }
            start = next;
            int first = next < used ? tape[next] : 0;
            if (next >= used) {
                token = END;
            } else if (within(first, 'a', 'z')) {
                readName();
            } else if (within(first, '0', '9')) {
                readNumber();
            } else {
                int sign = SIGNS.indexOf((char) first);
                token = sign >= 0 ? OPEN + sign : WRONG;
                next++;
            }
        }

        void readName() {
            while (next < used && within(tape[next], 'a', 'z')) {
                next++;
            }
            token = WRONG;
            int name = 0;
            int from = 0;
            for (int i = 0; i < NAMES.length(); i++) {
                if (NAMES.charAt(i) == ' ') {
                    if (isName(from, i)) {
                        token = name;
                    }
                    name++;
                    from = i + 1;
                }
            }
        }

        /** Whether that which was read is the name that stands from one place up to another. */
        boolean isName(int from, int to) {
            if (to - from != next - start) {
                return false;
            }
            for (int i = from; i < to; i++) {
                if (NAMES.charAt(i) != tape[start + i - from]) {
                    return false;
                }
            }
            return true;
        }

        void readNumber() {
            number = 0;
            while (next < used && within(tape[next], '0', '9')) {
                // A number that is too long is refused: held, so that it can't run over meanwhile.
                number = Math.min(number * 10 + tape[next] - '0', MOST_SUM);
                next++;
            }
            token = next - start > MOST_FIGURES ? WRONG : NUMBER;
        }

        /** Takes the token: 0, or its fault. */
        int take() {
            if (token == WRONG) {
                return NO_TOKEN;
            }
            if (state == AT_LINE) {
                return takeName();
            }
            return state == AT_VALUE ? takeValue() : takeSign();
        }

        int takeName() {
            if (token == END) {
                return 0;
            }
            if (token > BACK) {
                return OUT_OF_PLACE;
            }
            if (lines >= LINES) {
                return TOO_MANY;
            }
            kind[lines] = token;
            notMayStand = token == BAR || token == BACK;
            side = notMayStand ? LEFT : PLAIN;
            state = AT_VALUE;
            return 0;
        }

        int takeValue() {
            if (token == NOT && notMayStand) {
                putOff(NOT);
                return 0;
            }
            notMayStand = false;
            if (token == OPEN) {
                if (open >= OPEN_AT_ONCE) {
                    return TOO_DEEP;
                }
                open++;
                putOff(OPEN);
                return 0;
            }
            if (token != NUMBER && !within(token, FIRST_VARIABLE, LAST_VARIABLE)) {
                return OUT_OF_PLACE;
            }
            write(token == NUMBER ? FIGURES + number : token);
            state = AFTER_VALUE;
            return 0;
        }

        int takeSign() {
            if (within(token, PLUS, TIMES)) {
                join();
                return 0;
            }
            if (open > 0) {
                return takeClose();
            }
            if (within(token, LESS, SAME) && side == LEFT) {
                side = RIGHT;
                join();
                return 0;
            }
            if ((token == OR || token == AND) && side == RIGHT) {
                side = LEFT;
                notMayStand = true;
                join();
                return 0;
            }
            if (token == STOP && side != LEFT) {
                endLine();
                return 0;
            }
            return OUT_OF_PLACE;
        }

        int takeClose() {
            if (token != CLOSE) {
                return OUT_OF_PLACE;
            }
            writeWaiting(1);
            waits--;
            open--;
            return 0;
        }

        void join() {
            writeWaiting(BINDS[token]);
            putOff(token);
            state = AT_VALUE;
        }

        void endLine() {
            writeWaiting(1);
            ends[lines] = coded;
            lines++;
            state = AT_LINE;
        }

        /** Writes the signs that wait, from the latest, as long as they bind as fast as that or faster. */
        void writeWaiting(int binding) {
            while (waits > 0 && BINDS[waiting[waits - 1]] >= binding) {
                waits--;
                write(waiting[waits]);
            }
        }

        void putOff(int sign) {
            if (waits < TAPE) {
                waiting[waits] = sign;
                waits++;
            }
        }

        void write(int word) {
            if (coded < TAPE) {
                code[coded] = word;
                coded++;
            }
        }
    }

    /** The statute that is told, and the case that it is asked about. */
    private static final class Judge {
        final Net net;
        final Sky sky;
        final Standing standing;
        final int[] code = new int[TAPE];
        final int[] kind = new int[LINES];
        final int[] ends = new int[LINES];
        int lines;
        final int[] variables = new int[Reader.LAST_VARIABLE - Reader.FIRST_VARIABLE + 1];
        final int[] stack = new int[TAPE];

        Judge(Net net, Sky sky, Standing standing) {
            this.net = net;
            this.sky = sky;
            this.standing = standing;
        }

        void adopt(Reader draft) {
            lines = draft.lines;
            System.arraycopy(draft.code, 0, code, 0, TAPE);
            System.arraycopy(draft.kind, 0, kind, 0, LINES);
            System.arraycopy(draft.ends, 0, ends, 0, LINES);
        }

        /** Sets the variables, in the order of the reader's names. */
        void hear(int route, int quarter, int people) {
            int hour = quarter / AN_HOUR;
            variables[0] = sky.valueAt(hour, Sky.WIND);
            variables[1] = sky.valueAt(hour, Sky.RAIN);
            variables[2] = sky.valueAt(hour, Sky.SNOW_FALLEN);
            variables[3] = quarter;
            variables[4] = net.greatestHard(route);
            variables[5] = people;
            variables[6] = net.sumOfHard(route);
            variables[7] = net.sumOfLength(route);
            variables[8] = standing.date;
        }

        /** The first line of a kind whose test holds, or NONE. */
        int firstHolding(int ofKind) {
            for (int line = 0; line < lines; line++) {
                if (kind[line] == ofKind && worked(line) == 1) {
                    return line;
                }
            }
            return NONE;
        }

        int sumPaid() {
            int sum = 0;
            for (int line = 0; line < lines; line++) {
                if (kind[line] == Reader.PAY) {
                    sum += worked(line);
                }
            }
            return held(sum, 0, MOST_SUM);
        }

        int guidesAsked() {
            int greatest = 1;
            for (int line = 0; line < lines; line++) {
                if (kind[line] == Reader.ASK) {
                    greatest = Math.max(greatest, worked(line));
                }
            }
            return Math.min(greatest, GUIDES);
        }

        /** What a line's sum comes to; of a test 1 (it holds) or 0. */
        int worked(int line) {
            int top = 0;
            for (int i = line == 0 ? 0 : ends[line - 1]; i < ends[line]; i++) {
                int word = code[i];
                if (word >= Reader.FIGURES) {
                    stack[top] = word - Reader.FIGURES;
                    top++;
                } else if (within(word, Reader.FIRST_VARIABLE, Reader.LAST_VARIABLE)) {
                    stack[top] = variables[word - Reader.FIRST_VARIABLE];
                    top++;
                } else if (word == Reader.NOT && top >= 1) {
                    stack[top - 1] = 1 - stack[top - 1];
                } else if (top >= 2) {
                    top--;
                    long whole = joined(word, stack[top - 1], stack[top]);
                    stack[top - 1] = (int) Math.max(-MOST_SUM, Math.min(MOST_SUM, whole));
                }
            }
            return stack[0];
        }

        long joined(int sign, long a, long b) {
            switch (sign) {
                case Reader.PLUS: return a + b;
                case Reader.MINUS: return a - b;
                case Reader.TIMES: return a * b;
                case Reader.LESS: return a < b ? 1 : 0;
                case Reader.MORE: return a > b ? 1 : 0;
                case Reader.SAME: return a == b ? 1 : 0;
                case Reader.AND: return a & b;
                default: return a | b;
            }
        }
    }

    /** People, what they wish, and the best roping of every lot of them. */
    private static final class Strangers {
        private static final int IMPOSSIBLE = -1000000;

        int people;
        final int[] strength = new int[PEOPLE];
        final int[][] wishes = new int[PEOPLE][PEOPLE];
        // By the bits of those who are left: the best worth, and the rope of the least of them in it.
        final int[] worth = new int[1 << PEOPLE];
        final int[] firstRope = new int[1 << PEOPLE];

        boolean has(int p) {
            return within(p, 0, people - 1);
        }

        int add(int newStrength) {
            strength[people] = newStrength;
            people++;
            return people - 1;
        }

        int all() {
            return (1 << people) - 1;
        }

        /** Lots are taken by their bits, so what a rope leaves over was worked out ahead of it. */
        boolean findRoping(int least) {
            worth[0] = 0;
            for (int left = 1; left <= all(); left++) {
                worth[left] = IMPOSSIBLE;
                firstRope[left] = 0;
                tryRopes(left, least);
            }
            return worth[all()] != IMPOSSIBLE;
        }

        /** Tries the ropes of the least one left by their bits: of equal ones the first stays. */
        void tryRopes(int left, int least) {
            int first = Integer.bitCount((left & -left) - 1);
            for (int high = first + 1; high < people; high++) {
                if ((left >> high & 1) == 1) {
                    if (strength[first] + strength[high] >= least) {
                        tryRope(left, 1 << first | 1 << high, bond(first, high));
                    }
                    tryThrees(left, first, high, least);
                }
            }
        }

        void tryThrees(int left, int first, int high, int least) {
            for (int middle = first + 1; middle < high; middle++) {
                boolean strong = strength[first] + strength[middle] + strength[high] >= least;
                if ((left >> middle & 1) == 1 && strong) {
                    int bonds = bond(first, middle) + bond(first, high) + bond(middle, high);
                    tryRope(left, 1 << first | 1 << middle | 1 << high, bonds);
                }
            }
        }

        void tryRope(int left, int rope, int bonds) {
            int rest = worth[left & ~rope];
            if (rest != IMPOSSIBLE && rest + bonds > worth[left]) {
                worth[left] = rest + bonds;
                firstRope[left] = rope;
            }
        }

        int bond(int a, int b) {
            return wishes[a][b] + wishes[b][a];
        }

        int bestWorth() {
            return worth[all()];
        }

        int ropesInBest() {
            int ropes = 0;
            for (int left = all(); left != 0 && ropes < PEOPLE; left &= ~firstRope[left]) {
                ropes++;
            }
            return ropes;
        }

        int ropeWith(int p) {
            int left = all();
            for (int ropes = 0; ropes < PEOPLE && (firstRope[left] >> p & 1) == 0; ropes++) {
                left &= ~firstRope[left];
            }
            return firstRope[left];
        }
    }

    /** A rope: how it sets out, and how it fared in the day that was stepped last. */
    private static final class Rope {
        int route;
        int strength;
        int start;
        int people;

        int step;
        int until;
        int spot;
        int behind;
        int doneIn;
        boolean turned;
        int waited;
        int bedded;
        final int[] seen = new int[QUARTERS];

        void reset() {
            step = NONE;
            until = NONE;
            spot = NONE;
            behind = 0;
            doneIn = NONE;
            turned = false;
            waited = 0;
            bedded = 0;
        }
    }

    /** The day of all ropes. It is stepped anew for each question: so it is always as all is now. */
    private static final class March {
        final Net net;
        final Walks walks;
        final Judge judge;
        int count;
        final Rope[] ropes = new Rope[ROPES];
        final int[] bedsTaken = new int[PLACES];
        final int[] lyingOut = new int[PLACES];
        final int[] arrivals = new int[PLACES];
        // Those at a place and not done. They are put in as they come, by numbers: so they stand in their order.
        final int[] queue = new int[ROPES];
        int queued;

        March(Net net, Walks walks, Judge judge) {
            this.net = net;
            this.walks = walks;
            this.judge = judge;
            for (int r = 0; r < ROPES; r++) {
                ropes[r] = new Rope();
            }
        }

        boolean has(int r) {
            return within(r, 0, count - 1);
        }

        int add(int route, int strength, int start, int people) {
            Rope rope = ropes[count];
            rope.route = route;
            rope.strength = strength;
            rope.start = start;
            rope.people = people;
            count++;
            return count - 1;
        }

        int countTurned() {
            int turned = 0;
            for (int r = 0; r < count; r++) {
                if (ropes[r].turned) {
                    turned++;
                }
            }
            return turned;
        }

        void stepDay() {
            for (int p = 0; p < PLACES; p++) {
                bedsTaken[p] = 0;
                lyingOut[p] = 0;
                arrivals[p] = 0;
            }
            queued = 0;
            for (int r = 0; r < count; r++) {
                ropes[r].reset();
            }
            for (int quarter = 0; quarter < QUARTERS; quarter++) {
                letCome(quarter);
                letGo(quarter);
                look(quarter);
            }
        }

        void letCome(int quarter) {
            for (int r = 0; r < count; r++) {
                Rope rope = ropes[r];
                if (rope.start == quarter) {
                    come(r, net.beginOf(rope.route));
                } else if (rope.step != NONE && rope.until == quarter) {
                    rope.behind++;
                    come(r, net.to[rope.step]);
                }
            }
        }

        void come(int r, int place) {
            ropes[r].step = NONE;
            ropes[r].spot = place;
            arrivals[place]++;
            if (queued < ROPES) {
                queue[queued] = r;
                queued++;
            }
        }

        void letGo(int quarter) {
            int kept = 0;
            for (int i = 0; i < queued; i++) {
                if (waits(ropes[queue[i]], quarter)) {
                    queue[kept] = queue[i];
                    kept++;
                }
            }
            queued = kept;
        }

        /** Settles what a rope at a place does: whether it waits there. */
        boolean waits(Rope rope, int quarter) {
            if (rope.behind >= net.stepsIn[rope.route]) {
                finish(rope, quarter);
                return false;
            }
            int step = net.rows[rope.route][rope.behind];
            int time = walks.stepTime(step, rope.strength, quarter);
            judge.hear(rope.route, quarter, rope.people);
            if (time == BARRED || judge.firstHolding(Reader.BACK) != NONE) {
                rope.turned = true;
                finish(rope, quarter);
                return false;
            }
            if (net.narrow[step] && isBearing(step)) {
                rope.waited++;
                return true;
            }
            rope.step = step;
            rope.until = quarter + time;
            return false;
        }

        boolean isBearing(int step) {
            for (int r = 0; r < count; r++) {
                if (ropes[r].step == step) {
                    return true;
                }
            }
            return false;
        }

        void finish(Rope rope, int quarter) {
            rope.doneIn = quarter;
            rope.bedded = Math.min(rope.people, net.beds[rope.spot] - bedsTaken[rope.spot]);
            bedsTaken[rope.spot] += rope.bedded;
            lyingOut[rope.spot] += rope.people - rope.bedded;
        }

        void look(int quarter) {
            for (int r = 0; r < count; r++) {
                Rope rope = ropes[r];
                rope.seen[quarter] = rope.step == NONE ? rope.spot : ON_STEP + rope.step;
            }
        }
    }

    /** Entries, and the grades that fit them with the least squares, as fractions over one divisor. */
    private static final class Hours {
        private static final int NODES = ROUTES + GUIDES;
        private static final int MOST_DIVISIONS = 100;

        int count;
        final int[] route = new int[ENTRIES];
        final int[] guide = new int[ENTRIES];
        final int[] quarters = new int[ENTRIES];

        // Nodes are the routes, then the guides. A piece bears the node of its least guide.
        final int[] piece = new int[NODES];
        final int[] column = new int[NODES];
        int columns;
        final long[][] rows = new long[NODES][NODES + 1];
        final long[] top = new long[NODES];
        long bottom;

        int add(int ofRoute, int ofGuide, int took) {
            route[count] = ofRoute;
            guide[count] = ROUTES + ofGuide;
            quarters[count] = took;
            count++;
            return count - 1;
        }

        void findPieces() {
            for (int node = 0; node < NODES; node++) {
                piece[node] = NONE;
            }
            for (int e = 0; e < count; e++) {
                piece[guide[e]] = guide[e];
                piece[route[e]] = NODES;
            }
            // Each round carries a least guide one entry further, and no piece is longer than all nodes.
            for (int round = 0; round < NODES; round++) {
                for (int e = 0; e < count; e++) {
                    int least = Math.min(piece[route[e]], piece[guide[e]]);
                    piece[route[e]] = least;
                    piece[guide[e]] = least;
                }
            }
        }

        int countPieces() {
            int pieces = 0;
            for (int node = ROUTES; node < NODES; node++) {
                if (piece[node] == node) {
                    pieces++;
                }
            }
            return pieces;
        }

        /** Works out every grade as top by bottom, by whole numbers alone. */
        void solve() {
            findPieces();
            setColumns();
            setRows();
            bottom = 1;
            for (int k = 0; k < columns; k++) {
                clearColumn(k);
            }
            for (int node = 0; node < NODES; node++) {
                top[node] = column[node] == NONE ? 0 : rows[column[node]][columns];
            }
        }

        /** A piece's least guide has no column: it is 0 and not sought. */
        void setColumns() {
            columns = 0;
            for (int node = 0; node < NODES; node++) {
                column[node] = NONE;
                if (piece[node] != NONE && piece[node] != node) {
                    column[node] = columns;
                    columns++;
                }
            }
        }

        void setRows() {
            for (int i = 0; i < columns; i++) {
                for (int j = 0; j <= columns; j++) {
                    rows[i][j] = 0;
                }
            }
            for (int e = 0; e < count; e++) {
                int x = column[route[e]];
                int y = column[guide[e]];
                addTo(x, x, 1);
                addTo(y, y, 1);
                addTo(x, y, 1);
                addTo(y, x, 1);
                addTo(x, columns, quarters[e]);
                addTo(y, columns, quarters[e]);
            }
        }

        void addTo(int row, int place, int much) {
            if (row != NONE && place != NONE) {
                rows[row][place] += much;
            }
        }

        /**
         * One round of elimination without fractions: every number stays a determinant of the entries, so the
         * divisions leave nothing over and the numbers stay small. The pivot is above 0, as the squares have one
         * least sum in the columns up to here.
         */
        void clearColumn(int k) {
            long pivot = rows[k][k];
            for (int i = 0; i < columns; i++) {
                if (i != k) {
                    clearCell(i, k, pivot);
                }
            }
            bottom = pivot;
        }

        void clearCell(int i, int k, long pivot) {
            long factor = rows[i][k];
            for (int j = 0; j <= columns && bottom != 0; j++) {
                rows[i][j] = (pivot * rows[i][j] - factor * rows[k][j]) / bottom;
            }
        }

        long topOver(int e) {
            return quarters[e] * bottom - top[route[e]] - top[guide[e]];
        }

        /** The numerator (0) or the denominator (1) of a top by bottom, in lowest terms. */
        long partOf(long above, int what) {
            long common = commonOf(Math.abs(above), Math.abs(bottom));
            long part = what == 0 ? above : bottom;
            return common == 0 ? part : part / common;
        }

        long commonOf(long a, long b) {
            long greater = a;
            long rest = b;
            for (int i = 0; i < MOST_DIVISIONS && rest != 0; i++) {
                long next = greater % rest;
                greater = rest;
                rest = next;
            }
            return greater;
        }
    }
}
