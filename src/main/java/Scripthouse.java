/** A film house: scenes and their plan of days, the money that is paid, and what comes in. */
public final class Scripthouse {
    public static final int NONE = -1;
    public static final int ANY = 0, DAY = 1, NIGHT = 2;

    private static final int MAX_SCENES = 8, MAX_SCENES_BY_ALL = 6, MAX_LOANS = 10, MAX_PARTS = 12;
    private static final int PLACES = 4, PEOPLE = 6, ALL_PEOPLE = 63, LINES = 4;
    private static final int SHOOTING_LINE = 0, COVER_LINE = 1;
    private static final int MAX_HOURS = 6, MAX_RATE = 1000, MAX_AMOUNT = 100000, MAX_INCOME = 1000000;
    private static final int ALL_PERCENT = 100, LAST_DAY = 1000;
    private static final int DAY_HOURS = 24, MORNING = 8, EVENING = 18, REST = 11, CHILD_HOURS = 6;

    private final Scenes scenes;
    private final Planner planner;
    private final Budget budget;
    private final Layers layers;
    private int rate;
    private int cover;
    private boolean isCovered;

    public Scripthouse() {
        planner = new Planner();
        scenes = planner.scenes;
        budget = new Budget();
        layers = new Layers();
        rate = 100;
        cover = 50;
    }

    // ---- scenes, places, players

    public int addScene(int hours, int place, int players, int light, int ahead)
            throws IllegalArgumentException, IllegalStateException {
        if (!isWithin(hours, 1, MAX_HOURS) || !isWithin(place, 0, PLACES - 1)
                || !isWithin(players, 0, ALL_PEOPLE) || !isWithin(light, ANY, NIGHT)
                || (ahead & ~scenes.everyScene()) != 0) {
            throw new IllegalArgumentException();
        }
        if (scenes.count >= MAX_SCENES) {
            throw new IllegalStateException();
        }
        planner.forget();
        return scenes.append(hours, place, players, light, ahead);
    }

    public boolean setOut(int place, boolean isOut) throws IndexOutOfBoundsException {
        if (!isWithin(place, 0, PLACES - 1)) {
            throw new IndexOutOfBoundsException();
        }
        boolean was = isIn(scenes.outdoors, place);
        scenes.outdoors = with(scenes.outdoors, place, isOut);
        return was;
    }

    public boolean setChild(int player, boolean isChild) throws IndexOutOfBoundsException {
        if (!isWithin(player, 0, PEOPLE - 1)) {
            throw new IndexOutOfBoundsException();
        }
        boolean was = isIn(scenes.children, player);
        if (was != isChild) {
            planner.forget();
            scenes.children = with(scenes.children, player, isChild);
        }
        return was;
    }

    public int setRates(int rate, int cover) throws IllegalArgumentException {
        if (!isWithin(rate, 0, MAX_RATE) || !isWithin(cover, 0, MAX_RATE)) {
            throw new IllegalArgumentException();
        }
        int was = this.rate;
        this.rate = rate;
        this.cover = cover;
        return was;
    }

    public boolean hold(boolean isHeld) {
        boolean was = isCovered;
        isCovered = isHeld;
        return was;
    }

    public int shoot(boolean isRain) throws IllegalStateException {
        planner.makePlan();
        int shootable = planner.shootable(isRain && !isCovered);
        int wages = scenes.hoursOf(shootable) * rate;
        int shelter = isCovered ? cover : 0;
        int lack = budget.lackOf(SHOOTING_LINE, wages) + budget.lackOf(COVER_LINE, shelter);
        if (lack > budget.fee || planner.today >= LAST_DAY) {
            throw new IllegalStateException();
        }
        budget.pay(SHOOTING_LINE, wages);
        budget.pay(COVER_LINE, shelter);
        planner.endDay(shootable);
        return Integer.bitCount(shootable);
    }

    // ---- money

    public int approve(int line, int amount) throws IndexOutOfBoundsException, IllegalArgumentException {
        if (!isWithin(line, 0, LINES - 1)) {
            throw new IndexOutOfBoundsException();
        }
        if (!isWithin(amount, 1, MAX_AMOUNT)) {
            throw new IllegalArgumentException();
        }
        add(budget.lines, line, amount);
        return at(budget.lines, line);
    }

    public int grant(int amount) throws IllegalArgumentException {
        if (!isWithin(amount, 1, MAX_AMOUNT)) {
            throw new IllegalArgumentException();
        }
        budget.fee += amount;
        return budget.fee;
    }

    public int bill(int line, int amount)
            throws IndexOutOfBoundsException, IllegalArgumentException, IllegalStateException {
        if (!isWithin(line, 0, LINES - 1)) {
            throw new IndexOutOfBoundsException();
        }
        if (!isWithin(amount, 1, MAX_AMOUNT)) {
            throw new IllegalArgumentException();
        }
        if (budget.lackOf(line, amount) > budget.fee) {
            throw new IllegalStateException();
        }
        return budget.pay(line, amount);
    }

    public int loan(int person, int amount)
            throws IndexOutOfBoundsException, IllegalArgumentException, IllegalStateException {
        if (!isWithin(person, 0, PEOPLE - 1)) {
            throw new IndexOutOfBoundsException();
        }
        if (!isWithin(amount, 1, MAX_AMOUNT)) {
            throw new IllegalArgumentException();
        }
        if (layers.loans >= MAX_LOANS) {
            throw new IllegalStateException();
        }
        return layers.appendLoan(person, amount);
    }

    public int part(int of, int person, int percent)
            throws IndexOutOfBoundsException, IllegalArgumentException, IllegalStateException {
        if (!isWithin(of, NONE, layers.parts - 1) || !isWithin(person, 0, PEOPLE - 1)) {
            throw new IndexOutOfBoundsException();
        }
        if (!isWithin(percent, 1, ALL_PERCENT)) {
            throw new IllegalArgumentException();
        }
        if (layers.parts >= MAX_PARTS || layers.percentOf(of) + percent > ALL_PERCENT) {
            throw new IllegalStateException();
        }
        return layers.appendPart(of, person, percent);
    }

    public int income(int amount) throws IllegalArgumentException {
        if (!isWithin(amount, 1, MAX_INCOME)) {
            throw new IllegalArgumentException();
        }
        int rest = layers.payBackLoans(budget.payBack(amount));
        layers.share(rest);
        return rest;
    }

    // ---- what is asked: plans

    public int today() {
        return planner.today;
    }

    public int shot() {
        return scenes.done;
    }

    public int days() {
        planner.makePlan();
        return planner.bestDays;
    }

    public int daysByAll() throws IllegalStateException {
        if (scenes.countOpen() > MAX_SCENES_BY_ALL) {
            throw new IllegalStateException();
        }
        return planner.fewestDays();
    }

    public int planned(int place) throws IndexOutOfBoundsException {
        if (!isWithin(place, 0, scenes.countOpen() - 1)) {
            throw new IndexOutOfBoundsException();
        }
        planner.makePlan();
        return at(planner.bestOrder, place);
    }

    public int begins(int scene) throws IndexOutOfBoundsException {
        if (!isWithin(scene, 0, scenes.count - 1)) {
            throw new IndexOutOfBoundsException();
        }
        planner.makePlan();
        return at(planner.bestBegin, scene);
    }

    // ---- what is asked: money

    public int left(int line) throws IndexOutOfBoundsException {
        if (!isWithin(line, 0, LINES - 1)) {
            throw new IndexOutOfBoundsException();
        }
        return at(budget.lines, line);
    }

    public int fee() {
        return budget.fee;
    }

    public int costs() {
        return budget.costs;
    }

    public int open() {
        return budget.unreturned;
    }

    public int openOf(int loan) throws IndexOutOfBoundsException {
        if (!isWithin(loan, 0, layers.loans - 1)) {
            throw new IndexOutOfBoundsException();
        }
        return at(layers.loanOpen, loan);
    }

    public int got(int person) throws IndexOutOfBoundsException {
        if (!isWithin(person, 0, PEOPLE - 1)) {
            throw new IndexOutOfBoundsException();
        }
        return at(layers.gains, person);
    }

    public int house() {
        return layers.houseGain;
    }

    // ---- rows and sets of numbers

    private static boolean isWithin(int number, int least, int most) {
        return number >= least && number <= most;
    }

    private static int at(int[] row, int index) {
        return index >= 0 && index < row.length ? row[index] : 0;
    }

    private static void put(int[] row, int index, int number) {
        if (index >= 0 && index < row.length) {
            row[index] = number;
        }
    }

    private static void add(int[] row, int index, int number) {
        put(row, index, at(row, index) + number);
    }

    private static boolean isIn(int set, int number) {
        return (set >> number & 1) != 0;
    }

    private static int with(int set, int number, boolean isMember) {
        return isMember ? set | 1 << number : set & ~(1 << number);
    }

    /** What was told of scenes, places and players, and which scenes were shot. */
    private static final class Scenes {
        final int[] hours = new int[MAX_SCENES];
        final int[] places = new int[MAX_SCENES];
        final int[] players = new int[MAX_SCENES];
        final int[] lights = new int[MAX_SCENES];
        final int[] aheads = new int[MAX_SCENES];
        int count;
        int done;
        int outdoors;
        int children;

        int append(int hour, int place, int cast, int light, int ahead) {
            put(hours, count, hour);
            put(places, count, place);
            put(players, count, cast);
            put(lights, count, light);
            put(aheads, count, ahead);
            count++;
            return count - 1;
        }

        int everyScene() {
            return (1 << count) - 1;
        }

        int countOpen() {
            return count - Integer.bitCount(done);
        }

        int hoursOf(int set) {
            int sum = 0;
            for (int scene = 0; scene < count; scene++) {
                if (isIn(set, scene)) {
                    sum += at(hours, scene);
                }
            }
            return sum;
        }

        /** Whether all that must be ahead of a scene is in a set of scenes. */
        boolean isFree(int scene, int set) {
            return (at(aheads, scene) & ~set) == 0;
        }

        boolean canFollow(int scene, int placed) {
            return !isIn(placed, scene) && isFree(scene, placed);
        }

        boolean isOutdoors(int scene) {
            return isIn(outdoors, at(places, scene));
        }
    }

    /**
     * Packs orders of the open scenes and keeps the best one. Everywhere in it a set "placed" has the
     * scenes that were shot and those that the order has up to now; hours are counted from day 0 on.
     */
    private static final class Planner {
        final Scenes scenes = new Scenes();
        final int[] order = new int[MAX_SCENES];
        final int[] begin = new int[MAX_SCENES];
        final int[] bestOrder = new int[MAX_SCENES];
        final int[] bestBegin = new int[MAX_SCENES];
        int bestDays;
        int today;
        boolean isMade;

        void forget() {
            isMade = false;
        }

        void makePlan() {
            if (!isMade) {
                // No day of an order is without a scene, so that every order is better than this.
                bestDays = MAX_SCENES + 1;
                tryOrders(this, 0, scenes.done);
                isMade = true;
            }
        }

        int fewestDays() {
            return fewestOfAll(this, 0, scenes.done);
        }

        /** The scenes of the plan, which is made, that are shot today, as a set. */
        int shootable(boolean isWet) {
            int set = 0;
            for (int place = 0; place < scenes.countOpen(); place++) {
                int scene = at(bestOrder, place);
                if (dayOf(at(bestBegin, scene)) == today && !(isWet && scenes.isOutdoors(scene))
                        && scenes.isFree(scene, scenes.done | set)) {
                    set = with(set, scene, true);
                }
            }
            return set;
        }

        void endDay(int set) {
            for (int scene = 0; scene < scenes.count; scene++) {
                if (isIn(set, scene)) {
                    put(begin, scene, at(bestBegin, scene));
                }
            }
            scenes.done |= set;
            today++;
            forget();
        }

        /** Goes by rising rows of numbers and takes only what is better, so that the first of the best stays. */
        private static void tryOrders(Planner planner, int depth, int placed) {
            if (placed == planner.scenes.everyScene() || depth >= MAX_SCENES) {
                planner.keepIfBetter(depth);
                return;
            }
            for (int scene = 0; scene < planner.scenes.count; scene++) {
                if (planner.scenes.canFollow(scene, placed)) {
                    planner.place(scene, depth, placed);
                    int next = with(placed, scene, true);
                    if (planner.canBeBetter(depth + 1, next)) {
                        tryOrders(planner, depth + 1, next);
                    }
                }
            }
        }

        private static int fewestOfAll(Planner planner, int depth, int placed) {
            if (placed == planner.scenes.everyScene() || depth >= MAX_SCENES) {
                return planner.daysUpTo(depth);
            }
            int fewest = MAX_SCENES + 1;
            for (int scene = 0; scene < planner.scenes.count; scene++) {
                if (planner.scenes.canFollow(scene, placed)) {
                    planner.place(scene, depth, placed);
                    fewest = Math.min(fewest, fewestOfAll(planner, depth + 1, with(placed, scene, true)));
                }
            }
            return fewest;
        }

        void keepIfBetter(int depth) {
            if (daysUpTo(depth) >= bestDays) {
                return;
            }
            bestDays = daysUpTo(depth);
            for (int number = 0; number < MAX_SCENES; number++) {
                put(bestOrder, number, at(order, number));
                put(bestBegin, number, at(begin, number));
            }
        }

        int daysUpTo(int depth) {
            return depth == 0 ? 0 : dayOf(at(begin, at(order, depth - 1))) - today + 1;
        }

        /** Leaves out only orders that need as many days as the best one by the hours of their scenes alone. */
        boolean canBeBetter(int depth, int placed) {
            int spare = bestDays - 1 - daysUpTo(depth);
            int last = at(order, depth - 1);
            int rest = scenes.everyScene() & ~placed;
            return spare >= 0 && hasRoom(rest, last, spare) && hasRoomForChildren(rest, placed, last, spare);
        }

        /** Whether scenes can have their hours on the day of the last one, and on so many days behind it. */
        boolean hasRoom(int rest, int last, int spare) {
            int end = endOf(last) - DAY_HOURS * dayOf(at(begin, last));
            return scenes.hoursOf(rest) <= DAY_HOURS - end + spare * (DAY_HOURS - MORNING)
                    && hoursIn(rest, DAY) <= Math.max(0, EVENING - end) + spare * (EVENING - MORNING)
                    && hoursIn(rest, NIGHT) <= DAY_HOURS - Math.max(EVENING, end) + spare * (DAY_HOURS - EVENING);
        }

        boolean hasRoomForChildren(int rest, int placed, int last, int spare) {
            int day = dayOf(at(begin, last));
            for (int player = 0; player < PEOPLE; player++) {
                if (isIn(scenes.children, player) && hoursFor(player, rest)
                        > CHILD_HOURS * (spare + 1) - hoursFor(player, placedOn(day, placed))) {
                    return false;
                }
            }
            return true;
        }

        int hoursIn(int set, int light) {
            int sum = 0;
            for (int scene = 0; scene < scenes.count; scene++) {
                if (isIn(set, scene) && at(scenes.lights, scene) == light) {
                    sum += at(scenes.hours, scene);
                }
            }
            return sum;
        }

        void place(int scene, int depth, int placed) {
            int day = today;
            int hour = startOf(day);
            if (depth > 0) {
                int last = at(order, depth - 1);
                day = dayOf(at(begin, last));
                hour = endOf(last) + (at(scenes.places, last) == at(scenes.places, scene) ? 0 : 1);
            }
            hour = beginFrom(hour, scene, day, placed);
            if (!endsInTime(scene, hour, day) || !isFitForChildren(scene, day, placed)) {
                // A day without scenes has room for any: rests end by 11, and no scene has more than 6 hours.
                day++;
                hour = beginFrom(startOf(day), scene, day, placed);
            }
            put(order, depth, scene);
            put(begin, scene, hour);
        }

        boolean endsInTime(int scene, int hour, int day) {
            int close = at(scenes.lights, scene) == DAY ? EVENING : DAY_HOURS;
            return hour + at(scenes.hours, scene) <= DAY_HOURS * day + close;
        }

        int beginFrom(int hour, int scene, int day, int placed) {
            int dawn = DAY_HOURS * day + (at(scenes.lights, scene) == NIGHT ? EVENING : MORNING);
            int earliest = Math.max(hour, dawn);
            // The last scene with a player has the latest end, so the rests behind all of them may be asked.
            for (int other = 0; other < scenes.count; other++) {
                if (isIn(placed, other) && (at(scenes.players, other) & at(scenes.players, scene)) != 0
                        && dayOf(at(begin, other)) < day) {
                    earliest = Math.max(earliest, endOf(other) + REST);
                }
            }
            return earliest;
        }

        boolean isFitForChildren(int scene, int day, int placed) {
            int children = scenes.children & at(scenes.players, scene);
            for (int player = 0; player < PEOPLE; player++) {
                if (isIn(children, player)
                        && hoursFor(player, placedOn(day, placed)) + at(scenes.hours, scene) > CHILD_HOURS) {
                    return false;
                }
            }
            return true;
        }

        int hoursFor(int player, int set) {
            int sum = 0;
            for (int scene = 0; scene < scenes.count; scene++) {
                if (isIn(set, scene) && isIn(at(scenes.players, scene), player)) {
                    sum += at(scenes.hours, scene);
                }
            }
            return sum;
        }

        int placedOn(int day, int placed) {
            int set = 0;
            for (int scene = 0; scene < scenes.count; scene++) {
                if (isIn(placed, scene) && dayOf(at(begin, scene)) == day) {
                    set = with(set, scene, true);
                }
            }
            return set;
        }

        int endOf(int scene) {
            return at(begin, scene) + at(scenes.hours, scene);
        }

        static int dayOf(int hour) {
            return hour / DAY_HOURS;
        }

        static int startOf(int day) {
            return DAY_HOURS * day + MORNING;
        }
    }

    /** What the lines and the fee have, what was paid of it, and what of that did not come back. */
    private static final class Budget {
        final int[] lines = new int[LINES];
        int fee;
        int costs;
        int unreturned;

        int lackOf(int line, int amount) {
            return Math.max(0, amount - at(lines, line));
        }

        /** Pays what can be paid, and returns what of it is taken from the fee. */
        int pay(int line, int amount) {
            int lack = lackOf(line, amount);
            add(lines, line, lack - amount);
            fee -= lack;
            costs += amount;
            unreturned += amount;
            return lack;
        }

        /** Lets costs come back, and returns what is left then. */
        int payBack(int amount) {
            int back = Math.min(amount, unreturned);
            unreturned -= back;
            return amount - back;
        }
    }

    /** The loans and parts through which goes what comes in behind the costs, and what everybody got. */
    private static final class Layers {
        final int[] lenders = new int[MAX_LOANS];
        final int[] loanOpen = new int[MAX_LOANS];
        final int[] wholes = new int[MAX_PARTS];
        final int[] holders = new int[MAX_PARTS];
        final int[] percents = new int[MAX_PARTS];
        final int[] shares = new int[MAX_PARTS];
        final int[] gains = new int[PEOPLE];
        int loans;
        int parts;
        int houseGain;

        int appendLoan(int person, int amount) {
            put(lenders, loans, person);
            put(loanOpen, loans, amount);
            loans++;
            return loans - 1;
        }

        int appendPart(int of, int person, int percent) {
            put(wholes, parts, of);
            put(holders, parts, person);
            put(percents, parts, percent);
            parts++;
            return parts - 1;
        }

        int percentOf(int whole) {
            int sum = 0;
            for (int part = 0; part < parts; part++) {
                if (at(wholes, part) == whole) {
                    sum += at(percents, part);
                }
            }
            return sum;
        }

        /** Lets loans come back by rising numbers, and returns what is left then. */
        int payBackLoans(int amount) {
            int rest = amount;
            for (int loan = 0; loan < loans; loan++) {
                int back = Math.min(rest, at(loanOpen, loan));
                add(loanOpen, loan, -back);
                add(gains, at(lenders, loan), back);
                rest -= back;
            }
            return rest;
        }

        /** A part has a greater number than the one it is of, so that one has its share when it is asked. */
        void share(int amount) {
            int rest = amount;
            for (int part = 0; part < parts; part++) {
                int whole = at(wholes, part);
                int share = (whole == NONE ? amount : at(shares, whole)) * at(percents, part) / ALL_PERCENT;
                put(shares, part, share);
                add(gains, at(holders, part), share);
                if (whole == NONE) {
                    rest -= share;
                } else {
                    add(gains, at(holders, whole), -share);
                }
            }
            houseGain += rest;
        }
    }
}
