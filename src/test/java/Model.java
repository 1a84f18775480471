import java.util.ArrayList;
import java.util.List;

/** The document once more, as plainly as it can be written: every order is packed as a whole, player by player. */
final class Model {
    private static final class Scene {
        int hours, place, players, light, ahead;
        boolean isShot;
        int day, hour;
    }

    private static final class Part {
        int of, person, percent;
    }

    private final List<Scene> scenes = new ArrayList<>();
    private final boolean[] out = new boolean[4];
    private final boolean[] child = new boolean[6];
    private int rate = 100, cover = 50, today = 0;
    private boolean held;
    private final int[] left = new int[4];
    private int fee, costs, back;
    private final List<int[]> loans = new ArrayList<>();
    private final List<Part> parts = new ArrayList<>();
    private final int[] got = new int[6];
    private int house;

    private int[] plan, planDay, planHour;
    private int planDays;
    private boolean isFresh;

    long addScene(int hours, int place, int players, int light, int ahead) {
        if (hours < 1 || hours > 6 || place < 0 || place > 3 || players < 0 || players > 63 || light < 0 || light > 2) {
            return Checks.IAE;
        }
        for (int i = 0; i < 32; i++) {
            if ((ahead >>> i & 1) == 1 && i >= scenes.size()) {
                return Checks.IAE;
            }
        }
        if (scenes.size() == 8) {
            return Checks.ISE;
        }
        Scene s = new Scene();
        s.hours = hours;
        s.place = place;
        s.players = players;
        s.light = light;
        s.ahead = ahead;
        scenes.add(s);
        isFresh = false;
        return scenes.size() - 1;
    }

    long setOut(int place, boolean isOut) {
        if (place < 0 || place > 3) {
            return Checks.IOOBE;
        }
        boolean was = out[place];
        out[place] = isOut;
        return was ? 1 : 0;
    }

    long setChild(int player, boolean isChild) {
        if (player < 0 || player > 5) {
            return Checks.IOOBE;
        }
        boolean was = child[player];
        child[player] = isChild;
        isFresh = isFresh && was == isChild;
        return was ? 1 : 0;
    }

    long setRates(int newRate, int newCover) {
        if (newRate < 0 || newRate > 1000 || newCover < 0 || newCover > 1000) {
            return Checks.IAE;
        }
        int was = rate;
        rate = newRate;
        cover = newCover;
        return was;
    }

    long hold(boolean isHeld) {
        boolean was = held;
        held = isHeld;
        return was ? 1 : 0;
    }

    long shoot(boolean isRain) {
        makePlan();
        List<Integer> now = new ArrayList<>();
        int cost = 0;
        for (int i = 0; i < plan.length; i++) {
            int n = plan[i];
            Scene s = scenes.get(n);
            boolean isFree = true;
            for (int a = 0; a < scenes.size(); a++) {
                isFree = isFree && ((s.ahead >> a & 1) == 0 || scenes.get(a).isShot || now.contains(a));
            }
            if (planDay[i] == today && isFree && !(isRain && out[s.place] && !held)) {
                now.add(n);
                cost += s.hours * rate;
            }
        }
        int[] lines = left.clone();
        int newFee = fee;
        int newCosts = costs;
        int[] pays = {cost, held ? cover : 0};
        for (int line = 0; line < 2; line++) {
            int fromLine = Math.min(lines[line], pays[line]);
            lines[line] -= fromLine;
            newFee -= pays[line] - fromLine;
            newCosts += pays[line];
        }
        if (newFee < 0 || today == 1000) {
            return Checks.ISE;
        }
        System.arraycopy(lines, 0, left, 0, 4);
        fee = newFee;
        costs = newCosts;
        for (int i = 0; i < plan.length; i++) {
            if (now.contains(plan[i])) {
                Scene s = scenes.get(plan[i]);
                s.isShot = true;
                s.day = planDay[i];
                s.hour = planHour[i];
            }
        }
        today++;
        isFresh = false;
        return now.size();
    }

    private int openCount() {
        int n = 0;
        for (Scene s : scenes) {
            n += s.isShot ? 0 : 1;
        }
        return n;
    }

    private void makePlan() {
        if (isFresh) {
            return;
        }
        plan = null;
        planDays = Integer.MAX_VALUE;
        permute(new int[openCount()], 0, false);
        isFresh = true;
    }

    private int fewest;

    private void permute(int[] order, int n, boolean isCounted) {
        if (n == order.length) {
            int[] day = new int[n];
            int[] hour = new int[n];
            int days = pack(order, day, hour);
            if (isCounted) {
                fewest = Math.min(fewest, days);
            } else if (days < planDays) {
                planDays = days;
                plan = order.clone();
                planDay = day;
                planHour = hour;
            }
            return;
        }
        for (int s = 0; s < scenes.size(); s++) {
            boolean isLegal = !scenes.get(s).isShot;
            int ahead = scenes.get(s).ahead;
            for (int i = 0; i < n; i++) {
                isLegal = isLegal && order[i] != s;
                ahead &= ~(1 << order[i]);
            }
            for (int a = 0; a < scenes.size(); a++) {
                isLegal = isLegal && ((ahead >> a & 1) == 0 || scenes.get(a).isShot);
            }
            if (isLegal) {
                order[n] = s;
                permute(order, n + 1, isCounted);
            }
        }
    }

    /** Packs an order into days and hours, and returns how many days it has. */
    private int pack(int[] order, int[] day, int[] hour) {
        for (int i = 0; i < order.length; i++) {
            Scene s = scenes.get(order[i]);
            for (int d = i == 0 ? today : day[i - 1];; d++) {
                int h = 8;
                if (i > 0 && day[i - 1] == d) {
                    Scene before = scenes.get(order[i - 1]);
                    h = hour[i - 1] + before.hours;
                    if (before.place != s.place) {
                        h++;
                    }
                }
                if (s.light == 2) {
                    h = Math.max(h, 18);
                }
                for (int p = 0; p < 6; p++) {
                    if ((s.players >> p & 1) == 1) {
                        h = Math.max(h, lastEnd(p, d, order, i, day, hour) + 11 - 24 * d);
                    }
                }
                if (h + s.hours <= (s.light == 1 ? 18 : 24) && isForChildren(s, d, order, i, day)) {
                    day[i] = d;
                    hour[i] = h;
                    break;
                }
            }
        }
        return order.length == 0 ? 0 : day[order.length - 1] - today + 1;
    }

    private int lastEnd(int player, int day, int[] order, int n, int[] days, int[] hours) {
        for (int i = n - 1; i >= 0; i--) {
            Scene s = scenes.get(order[i]);
            if (days[i] < day && (s.players >> player & 1) == 1) {
                return 24 * days[i] + hours[i] + s.hours;
            }
        }
        int last = -1000;
        for (Scene s : scenes) {
            if (s.isShot && s.day < day && (s.players >> player & 1) == 1) {
                last = Math.max(last, 24 * s.day + s.hour + s.hours);
            }
        }
        return last;
    }

    private boolean isForChildren(Scene scene, int day, int[] order, int n, int[] days) {
        for (int p = 0; p < 6; p++) {
            if (child[p] && (scene.players >> p & 1) == 1) {
                int sum = scene.hours;
                for (int i = 0; i < n; i++) {
                    Scene s = scenes.get(order[i]);
                    sum += days[i] == day && (s.players >> p & 1) == 1 ? s.hours : 0;
                }
                if (sum > 6) {
                    return false;
                }
            }
        }
        return true;
    }

    long approve(int line, int amount) {
        if (line < 0 || line > 3) {
            return Checks.IOOBE;
        }
        if (amount < 1 || amount > 100000) {
            return Checks.IAE;
        }
        left[line] += amount;
        return left[line];
    }

    long grant(int amount) {
        if (amount < 1 || amount > 100000) {
            return Checks.IAE;
        }
        fee += amount;
        return fee;
    }

    long bill(int line, int amount) {
        if (line < 0 || line > 3) {
            return Checks.IOOBE;
        }
        if (amount < 1 || amount > 100000) {
            return Checks.IAE;
        }
        int fromLine = Math.min(amount, left[line]);
        if (amount - fromLine > fee) {
            return Checks.ISE;
        }
        left[line] -= fromLine;
        fee -= amount - fromLine;
        costs += amount;
        return amount - fromLine;
    }

    long loan(int person, int amount) {
        if (person < 0 || person > 5) {
            return Checks.IOOBE;
        }
        if (amount < 1 || amount > 100000) {
            return Checks.IAE;
        }
        if (loans.size() == 10) {
            return Checks.ISE;
        }
        loans.add(new int[] {person, amount});
        return loans.size() - 1;
    }

    long part(int of, int person, int percent) {
        if (of != -1 && (of < 0 || of >= parts.size()) || person < 0 || person > 5) {
            return Checks.IOOBE;
        }
        if (percent < 1 || percent > 100) {
            return Checks.IAE;
        }
        int sum = percent;
        for (Part p : parts) {
            sum += p.of == of ? p.percent : 0;
        }
        if (parts.size() == 12 || sum > 100) {
            return Checks.ISE;
        }
        Part p = new Part();
        p.of = of;
        p.person = person;
        p.percent = percent;
        parts.add(p);
        return parts.size() - 1;
    }

    long income(int amount) {
        if (amount < 1 || amount > 1000000) {
            return Checks.IAE;
        }
        int rest = amount;
        while (rest > 0 && back < costs) {
            int some = Math.min(rest, costs - back);
            back += some;
            rest -= some;
        }
        for (int[] loan : loans) {
            int some = Math.min(rest, loan[1]);
            loan[1] -= some;
            rest -= some;
            got[loan[0]] += some;
        }
        house += rest - share(-1, rest);
        return rest;
    }

    /** Gives to the parts of one, or of all, what they have of an amount, and returns it together. */
    private int share(int of, int amount) {
        int sum = 0;
        for (int i = 0; i < parts.size(); i++) {
            Part p = parts.get(i);
            if (p.of == of) {
                int has = (int) Math.floorDiv((long) amount * p.percent, 100L);
                int given = share(i, has);
                got[p.person] += has - given;
                sum += has;
            }
        }
        return sum;
    }

    long today() {
        return today;
    }

    long shot() {
        int set = 0;
        for (int i = 0; i < scenes.size(); i++) {
            set += scenes.get(i).isShot ? 1 << i : 0;
        }
        return set;
    }

    long days() {
        makePlan();
        return planDays;
    }

    long daysByAll() {
        if (openCount() > 6) {
            return Checks.ISE;
        }
        fewest = Integer.MAX_VALUE;
        permute(new int[openCount()], 0, true);
        return fewest;
    }

    long planned(int place) {
        makePlan();
        return place < 0 || place >= plan.length ? Checks.IOOBE : plan[place];
    }

    long begins(int scene) {
        if (scene < 0 || scene >= scenes.size()) {
            return Checks.IOOBE;
        }
        Scene s = scenes.get(scene);
        if (s.isShot) {
            return 24 * s.day + s.hour;
        }
        makePlan();
        for (int i = 0; i < plan.length; i++) {
            if (plan[i] == scene) {
                return 24 * planDay[i] + planHour[i];
            }
        }
        return -1;
    }

    long left(int line) {
        return line < 0 || line > 3 ? Checks.IOOBE : left[line];
    }

    long fee() {
        return fee;
    }

    long costs() {
        return costs;
    }

    long open() {
        return costs - back;
    }

    long openOf(int loan) {
        return loan < 0 || loan >= loans.size() ? Checks.IOOBE : loans.get(loan)[1];
    }

    long got(int person) {
        return person < 0 || person > 5 ? Checks.IOOBE : got[person];
    }

    long house() {
        return house;
    }
}
