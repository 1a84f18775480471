import java.util.Random;

/** Long runs of all calls beside the model; the numbers come from fixed seeds, so that each run is always the same. */
public final class RandomRunsTest {
    /** The calls for which an object is used. */
    private static final int CALLS = 512;

    private final Random random;
    private final int maxScenes;
    private final Scripthouse x = new Scripthouse();
    private final Model m = new Model();
    private final int seed;
    private int scenes = 0;

    private RandomRunsTest(int seed, int maxScenes) {
        this.seed = seed;
        this.maxScenes = maxScenes;
        random = new Random(seed);
    }

    public static void main(String[] args) {
        for (int seed = 0; seed < 1500; seed++) {
            new RandomRunsTest(seed, 5).run();
        }
        for (int seed = 1500; seed < 1800; seed++) {
            new RandomRunsTest(seed, 6).run();
        }
        for (int seed = 1800; seed < 1840; seed++) {
            new RandomRunsTest(seed, 8).run();
        }
        Checks.end("RandomRunsTest");
    }

    private void run() {
        for (int call = 0; call < CALLS; call++) {
            int kind = random.nextInt(26);
            if (kind < 12) {
                tell(kind);
            } else {
                ask(kind);
            }
        }
    }

    private void due(String call, long want, long got) {
        Checks.due("seed " + seed + ": " + call, want, got);
    }

    /** Mostly a number from least to most, sometimes one that is next to it or far off. */
    private int number(int least, int most) {
        int odd = random.nextInt(60);
        if (odd == 0) {
            return least - 1;
        }
        if (odd == 1) {
            return most + 1;
        }
        if (odd == 2) {
            return random.nextBoolean() ? Integer.MAX_VALUE : Integer.MIN_VALUE;
        }
        if (odd == 3) {
            return random.nextInt();
        }
        return least + random.nextInt(most - least + 1);
    }

    private int sets(int size) {
        int set = 0;
        for (int i = 0; i < size; i++) {
            set |= random.nextInt(4) == 0 ? 1 << i : 0;
        }
        return random.nextInt(60) == 0 ? random.nextInt() : set;
    }

    private int amount(int most) {
        return number(1, random.nextInt(3) == 0 ? most : 1000);
    }

    private void tell(int kind) {
        boolean is = random.nextBoolean();
        switch (kind) {
            case 0:
                if (scenes < maxScenes || random.nextInt(10) == 0 && maxScenes == 8) {
                    addScene();
                }
                break;
            case 1:
                int place = number(0, 3);
                due("setOut", m.setOut(place, is), Checks.answer(() -> x.setOut(place, is) ? 1 : 0));
                break;
            case 2:
                int player = number(0, 5);
                boolean isChild = random.nextInt(3) == 0;
                due("setChild", m.setChild(player, isChild), Checks.answer(() -> x.setChild(player, isChild) ? 1 : 0));
                break;
            case 3:
                int rate = number(0, 1000);
                int cover = number(0, 1000);
                due("setRates", m.setRates(rate, cover), Checks.answer(() -> x.setRates(rate, cover)));
                break;
            case 4:
                due("hold", m.hold(is), Checks.answer(() -> x.hold(is) ? 1 : 0));
                break;
            case 5:
                if (random.nextInt(3) == 0) {
                    due("shoot", m.shoot(is), Checks.answer(() -> x.shoot(is)));
                }
                break;
            default:
                money(kind);
        }
    }

    private void addScene() {
        int hours = number(1, 6);
        int place = number(0, 3);
        int players = sets(6);
        int light = number(0, 2);
        int ahead = sets(scenes);
        long want = m.addScene(hours, place, players, light, ahead);
        due("addScene", want, Checks.answer(() -> x.addScene(hours, place, players, light, ahead)));
        scenes = want >= 0 ? (int) want + 1 : scenes;
    }

    private void money(int kind) {
        int line = number(0, 3);
        int person = number(0, 5);
        int amount = amount(100000);
        switch (kind) {
            case 6:
                due("approve", m.approve(line, amount), Checks.answer(() -> x.approve(line, amount)));
                break;
            case 7:
                due("grant", m.grant(amount), Checks.answer(() -> x.grant(amount)));
                break;
            case 8:
                due("bill", m.bill(line, amount), Checks.answer(() -> x.bill(line, amount)));
                break;
            case 9:
                due("loan", m.loan(person, amount), Checks.answer(() -> x.loan(person, amount)));
                break;
            case 10:
                int of = number(-1, 5);
                int percent = number(1, random.nextBoolean() ? 100 : 30);
                due("part", m.part(of, person, percent), Checks.answer(() -> x.part(of, person, percent)));
                break;
            default:
                int income = amount(1000000);
                due("income", m.income(income), Checks.answer(() -> x.income(income)));
        }
    }

    private void ask(int kind) {
        switch (kind) {
            case 12:
                due("today", m.today(), x.today());
                break;
            case 13:
                due("shot", m.shot(), x.shot());
                break;
            case 14:
                due("days", m.days(), x.days());
                break;
            case 15:
                due("daysByAll", m.daysByAll(), Checks.answer(() -> x.daysByAll()));
                break;
            case 16:
            case 17:
                int place = number(0, 7);
                due("planned", m.planned(place), Checks.answer(() -> x.planned(place)));
                break;
            case 18:
            case 19:
                int scene = number(0, 7);
                due("begins", m.begins(scene), Checks.answer(() -> x.begins(scene)));
                break;
            case 20:
                int line = number(0, 3);
                due("left", m.left(line), Checks.answer(() -> x.left(line)));
                break;
            case 21:
                due("fee", m.fee(), x.fee());
                break;
            case 22:
                due("costs", m.costs(), x.costs());
                due("open", m.open(), x.open());
                break;
            case 23:
                int loan = number(0, 9);
                due("openOf", m.openOf(loan), Checks.answer(() -> x.openOf(loan)));
                break;
            case 24:
                int person = number(0, 5);
                due("got", m.got(person), Checks.answer(() -> x.got(person)));
                break;
            default:
                due("house", m.house(), x.house());
        }
    }
}
