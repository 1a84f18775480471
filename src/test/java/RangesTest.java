import java.util.function.IntFunction;
import java.util.function.Supplier;
import java.util.function.ToLongFunction;

/**
 * Promises 2 to 13, 18 to 20, 24 and 25: the least and the greatest of each argument, the one beyond each, and which
 * exception comes first; each call that is refused is made on a new object, on a used one and on a full one.
 */
public final class RangesTest {
    private static final int NONE = Scripthouse.NONE, ANY = Scripthouse.ANY, NIGHT = Scripthouse.NIGHT;
    private static final long IOOBE = Checks.IOOBE, IAE = Checks.IAE, ISE = Checks.ISE;
    private static final int MIN = Integer.MIN_VALUE, MAX = Integer.MAX_VALUE;

    public static void main(String[] args) {
        sceneArguments();
        sceneAhead();
        placesAndPlayers();
        rates();
        budgets();
        bills();
        loans();
        partArguments();
        partsOfParts();
        incomes();
        whatIsAsked();
        whenFull();
        firstOfSeveral();
        Checks.end("RangesTest");
    }

    // ---- objects

    private static Scripthouse fresh() {
        return new Scripthouse();
    }

    /** Something of everything: one scene shot and two open, the second one rained out. */
    private static Scripthouse used() {
        Scripthouse x = new Scripthouse();
        x.setOut(1, true);
        x.setChild(4, true);
        x.setRates(70, 30);
        x.approve(0, 500);
        x.approve(2, 40);
        x.grant(300);
        x.addScene(3, 0, 17, ANY, 0);
        x.addScene(2, 1, 16, ANY, 0);
        x.addScene(4, 2, 1, NIGHT, 2);
        x.shoot(true);
        x.bill(2, 50);
        x.loan(3, 400);
        x.loan(0, 70);
        x.part(NONE, 1, 60);
        x.part(0, 2, 45);
        x.income(500);
        x.hold(true);
        return x;
    }

    /** All there may be: 8 scenes, 10 loans, 12 parts, and 100 percent of all. */
    private static Scripthouse full() {
        Scripthouse x = new Scripthouse();
        for (int i = 0; i < 8; i++) {
            x.addScene(1 + i % 6, i % 4, 7 * i, i % 3, i == 0 ? 0 : 1 << i - 1);
        }
        for (int i = 0; i < 10; i++) {
            x.loan(i % 6, 1000 + i);
        }
        x.part(NONE, 0, 99);
        x.part(NONE, 5, 1);
        for (int i = 2; i < 12; i++) {
            x.part(i - 2, i % 6, 100);
        }
        return x;
    }

    private static void refused(String what, long want, ToLongFunction<Scripthouse> call) {
        Checks.refused(what + " on a new object", want, RangesTest::fresh, call);
        Checks.refused(what + " on a used object", want, RangesTest::used, call);
        Checks.refused(what + " on a full object", want, RangesTest::full, call);
    }

    /** Both beyond an argument's range, and those far beyond. */
    private static void refusedBeyond(String what, int least, int most, long want,
            IntFunction<ToLongFunction<Scripthouse>> call) {
        for (int wrong : new int[] {least - 1, most + 1, MIN, MAX}) {
            refused(what + " " + wrong, want, call.apply(wrong));
        }
    }

    private static void allowed(String what, long want, Supplier<Scripthouse> maker,
            ToLongFunction<Scripthouse> call) {
        Scripthouse x = maker.get();
        Checks.due(what, want, () -> call.applyAsLong(x));
    }

    private static void allowed(String what, long onFresh, long onUsed, ToLongFunction<Scripthouse> call) {
        allowed(what + " on a new object", onFresh, RangesTest::fresh, call);
        allowed(what + " on a used object", onUsed, RangesTest::used, call);
    }

    // ---- promise 2

    private static void sceneArguments() {
        refusedBeyond("hours", 1, 6, IAE, n -> x -> x.addScene(n, 0, 0, ANY, 0));
        refusedBeyond("place", 0, 3, IAE, n -> x -> x.addScene(1, n, 0, ANY, 0));
        refusedBeyond("players", 0, 63, IAE, n -> x -> x.addScene(1, 0, n, ANY, 0));
        refusedBeyond("light", 0, 2, IAE, n -> x -> x.addScene(1, 0, 0, n, 0));
        allowed("the least hours", 0, 3, x -> x.addScene(1, 1, 1, ANY, 0));
        allowed("the greatest hours", 0, 3, x -> x.addScene(6, 1, 1, ANY, 0));
        allowed("the least place", 0, 3, x -> x.addScene(2, 0, 1, ANY, 0));
        allowed("the greatest place", 0, 3, x -> x.addScene(2, 3, 1, ANY, 0));
        allowed("no players", 0, 3, x -> x.addScene(2, 1, 0, ANY, 0));
        allowed("all players", 0, 3, x -> x.addScene(2, 1, 63, ANY, 0));
        allowed("player 5 alone", 0, 3, x -> x.addScene(2, 1, 32, ANY, 0));
        allowed("the least light", 0, 3, x -> x.addScene(2, 1, 1, 0, 0));
        allowed("the greatest light", 0, 3, x -> x.addScene(2, 1, 1, 2, 0));
    }

    private static void sceneAhead() {
        for (int wrong : new int[] {1, 2, 128, -1, MIN, MAX}) {
            Checks.refused("ahead " + wrong + " without scenes", IAE, RangesTest::fresh,
                    x -> x.addScene(1, 0, 0, ANY, wrong));
        }
        for (int wrong : new int[] {8, 15, 16, -1, -8, MIN, MIN + 7, 1 << 30, MAX}) {
            Checks.refused("ahead " + wrong + " with 3 scenes", IAE, RangesTest::used,
                    x -> x.addScene(1, 0, 0, ANY, wrong));
        }
        allowed("nothing ahead", 0, 3, x -> x.addScene(1, 0, 0, ANY, 0));
        allowed("all ahead, shot and open", 3, RangesTest::used, x -> x.addScene(1, 0, 0, ANY, 7));
        Scripthouse x = fresh();
        for (int i = 0; i < 8; i++) {
            int itself = 1 << i;
            Checks.refused("scene " + i + " ahead of itself", x, IAE, () -> x.addScene(1, 0, 0, ANY, itself));
            Checks.due("all lesser ones ahead of scene " + i, i, () -> x.addScene(1, 0, 0, ANY, itself - 1));
        }
    }

    // ---- promises 3 to 5

    private static void placesAndPlayers() {
        refusedBeyond("setOut", 0, 3, IOOBE, n -> x -> x.setOut(n, true) ? 1 : 0);
        refusedBeyond("setOut no more", 0, 3, IOOBE, n -> x -> x.setOut(n, false) ? 1 : 0);
        refusedBeyond("setChild", 0, 5, IOOBE, n -> x -> x.setChild(n, true) ? 1 : 0);
        refusedBeyond("setChild no more", 0, 5, IOOBE, n -> x -> x.setChild(n, false) ? 1 : 0);
        for (int place = 0; place < 4; place++) {
            int p = place;
            allowed("place " + p, 0, p == 1 ? 1 : 0, x -> x.setOut(p, true) ? 1 : 0);
        }
        for (int player = 0; player < 6; player++) {
            int p = player;
            allowed("player " + p, 0, p == 4 ? 1 : 0, x -> x.setChild(p, true) ? 1 : 0);
        }
    }

    private static void rates() {
        refusedBeyond("rate", 0, 1000, IAE, n -> x -> x.setRates(n, 5));
        refusedBeyond("cover", 0, 1000, IAE, n -> x -> x.setRates(5, n));
        refusedBeyond("rate and cover", 0, 1000, IAE, n -> x -> x.setRates(n, n));
        allowed("the least rates", 100, 70, x -> x.setRates(0, 0));
        allowed("the greatest rates", 100, 70, x -> x.setRates(1000, 1000));
        allowed("the least rate", 100, 70, x -> x.setRates(0, 1000));
        allowed("the least cover", 100, 70, x -> x.setRates(1000, 0));
    }

    // ---- promises 8 to 10

    private static void budgets() {
        refusedBeyond("approve on line", 0, 3, IOOBE, n -> x -> x.approve(n, 1));
        refusedBeyond("approve", 1, 100000, IAE, n -> x -> x.approve(3, n));
        refusedBeyond("grant", 1, 100000, IAE, n -> x -> x.grant(n));
        allowed("the least budget of the least line", 1, 291, x -> x.approve(0, 1));
        allowed("the least budget of the greatest line", 1, 1, x -> x.approve(3, 1));
        allowed("the greatest budget of the greatest line", 100000, 100000, x -> x.approve(3, 100000));
        allowed("the least fee", 1, 291, x -> x.grant(1));
        allowed("the greatest fee", 100000, 100290, x -> x.grant(100000));
    }

    private static void bills() {
        refusedBeyond("bill on line", 0, 3, IOOBE, n -> x -> x.bill(n, 1));
        refusedBeyond("bill", 1, 100000, IAE, n -> x -> x.bill(1, n));
        for (int line = 0; line < 4; line++) {
            int n = line;
            Checks.refused("a bill without money on line " + n, ISE, RangesTest::fresh, x -> x.bill(n, 1));
            Checks.refused("the greatest bill on line " + n, ISE, RangesTest::used, x -> x.bill(n, 100000));
        }
        Scripthouse x = fresh();
        x.grant(100000);
        x.grant(1);
        x.approve(3, 1);
        Checks.due("the least bill", 0, x.bill(3, 1));
        Checks.due("the greatest bill", 100000, x.bill(0, 100000));
        Checks.due("the least bill of the fee", 1, x.bill(3, 1));
    }

    // ---- promises 11 to 13

    private static void loans() {
        refusedBeyond("loan of person", 0, 5, IOOBE, n -> x -> x.loan(n, 1));
        refusedBeyond("loan", 1, 100000, IAE, n -> x -> x.loan(0, n));
        allowed("the least loan of the least person", 0, 2, x -> x.loan(0, 1));
        allowed("the greatest loan of the greatest person", 0, 2, x -> x.loan(5, 100000));
        Scripthouse x = fresh();
        for (int i = 0; i < 10; i++) {
            int loan = i;
            Checks.refused("no loan " + i + " yet", x, IOOBE, () -> x.openOf(loan));
            Checks.due("loan " + i, i, x.loan(5 - i % 6, 100000 - i));
            Checks.due("open of it", 100000 - i, x.openOf(i));
        }
        Checks.refused("an eleventh loan", x, ISE, () -> x.loan(0, 1));
        Checks.refused("no loan 10", x, IOOBE, () -> x.openOf(10));
    }

    private static void partArguments() {
        refusedBeyond("part of person", 0, 5, IOOBE, n -> x -> x.part(NONE, n, 1));
        refusedBeyond("part of percent", 1, 100, IAE, n -> x -> x.part(NONE, 0, n));
        refusedBeyond("part of a part that is never", -1, 11, IOOBE, n -> x -> x.part(n, 0, 1));
        Checks.refused("a part of part 0 without parts", IOOBE, RangesTest::fresh, x -> x.part(0, 0, 1));
        Checks.refused("a part of the next part", IOOBE, RangesTest::used, x -> x.part(2, 0, 1));
        Checks.refused("a percent above 100 of a part", IAE, RangesTest::used, x -> x.part(1, 0, 101));
        Checks.refused("no percent of a part", IAE, RangesTest::used, x -> x.part(1, 0, 0));
        allowed("the least part of all", 0, 2, x -> x.part(NONE, 0, 1));
        allowed("the greatest person", 0, 2, x -> x.part(NONE, 5, 40));
        allowed("the greatest part of all", 0, RangesTest::fresh, x -> x.part(NONE, 5, 100));
        allowed("the greatest part of a part", 2, RangesTest::used, x -> x.part(1, 5, 100));
        allowed("the least part of a part", 2, RangesTest::used, x -> x.part(0, 5, 1));
    }

    private static void partsOfParts() {
        Checks.refused("41 behind 60 percent of all", ISE, RangesTest::used, x -> x.part(NONE, 0, 41));
        allowed("40 behind 60 percent of all", 2, RangesTest::used, x -> x.part(NONE, 0, 40));
        Checks.refused("56 behind 45 percent of a part", ISE, RangesTest::used, x -> x.part(0, 0, 56));
        allowed("55 behind 45 percent of a part", 2, RangesTest::used, x -> x.part(0, 0, 55));
        Checks.refused("one behind 100 percent of all", ISE, () -> {
            Scripthouse x = used();
            x.part(NONE, 4, 40);
            return x;
        }, x -> x.part(NONE, 0, 1));
        Checks.refused("one behind 100 percent of a part", ISE, () -> {
            Scripthouse x = used();
            x.part(1, 4, 99);
            x.part(1, 4, 1);
            return x;
        }, x -> x.part(1, 0, 1));
        Scripthouse x = fresh();
        for (int i = 0; i < 11; i++) {
            Checks.due("part " + i, i, x.part(NONE, i % 6, 9));
        }
        Checks.refused("108 percent by the twelfth part", x, ISE, () -> x.part(NONE, 5, 9));
        Checks.due("100 percent by the twelfth part", 11, x.part(NONE, 5, 1));
        Checks.refused("a thirteenth part of an empty one", x, ISE, () -> x.part(11, 0, 1));
    }

    private static void incomes() {
        refusedBeyond("income", 1, 1000000, IAE, n -> x -> x.income(n));
        allowed("the least income", 1, 0, x -> x.income(1));
        allowed("the greatest income", 1000000, 1000000 - 230, x -> x.income(1000000));
    }

    // ---- promises 18 to 20, 24 and 25

    private static void whatIsAsked() {
        refusedBeyond("left", 0, 3, IOOBE, n -> x -> x.left(n));
        refusedBeyond("got", 0, 5, IOOBE, n -> x -> x.got(n));
        refusedBeyond("openOf", 0, 9, IOOBE, n -> x -> x.openOf(n));
        refusedBeyond("planned", 0, 7, IOOBE, n -> x -> x.planned(n));
        refusedBeyond("begins", 0, 7, IOOBE, n -> x -> x.begins(n));
        Checks.refused("no first loan", IOOBE, RangesTest::fresh, x -> x.openOf(0));
        Checks.refused("no third loan", IOOBE, RangesTest::used, x -> x.openOf(2));
        Checks.refused("no first open scene", IOOBE, RangesTest::fresh, x -> x.planned(0));
        Checks.refused("no third open scene", IOOBE, RangesTest::used, x -> x.planned(2));
        Checks.refused("no first scene", IOOBE, RangesTest::fresh, x -> x.begins(0));
        Checks.refused("no fourth scene", IOOBE, RangesTest::used, x -> x.begins(3));
        allowed("the first loan", 160, RangesTest::used, x -> x.openOf(0));
        allowed("the last loan", 70, RangesTest::used, x -> x.openOf(1));
        allowed("the greatest loan", 1009, RangesTest::full, x -> x.openOf(9));
        allowed("the first open scene", 1, RangesTest::used, x -> x.planned(0));
        allowed("the last open scene", 2, RangesTest::used, x -> x.planned(1));
        allowed("the greatest place of a plan", 7, RangesTest::full, x -> x.planned(7));
        allowed("the least scene, shot", 8, RangesTest::used, x -> x.begins(0));
        allowed("the last scene, open", 24 + 18, RangesTest::used, x -> x.begins(2));
        allowed("the least line", 0, 290, x -> x.left(0));
        allowed("the greatest line", 0, 0, x -> x.left(3));
        allowed("the least person", 0, 0, x -> x.got(0));
        allowed("the person of a loan", 0, 240, x -> x.got(3));
        allowed("the greatest person", 0, 0, x -> x.got(5));
    }

    // ---- what may be no more

    private static void whenFull() {
        Checks.refused("a ninth scene", ISE, RangesTest::full, x -> x.addScene(1, 0, 0, ANY, 0));
        Checks.refused("a ninth scene behind all", ISE, RangesTest::full, x -> x.addScene(6, 3, 63, NIGHT, 255));
        Checks.refused("an eleventh loan", ISE, RangesTest::full, x -> x.loan(0, 1));
        Checks.refused("the greatest eleventh loan", ISE, RangesTest::full, x -> x.loan(5, 100000));
        Checks.refused("a thirteenth part", ISE, RangesTest::full, x -> x.part(11, 0, 1));
        Checks.refused("a thirteenth part, above 100 percent", ISE, RangesTest::full, x -> x.part(NONE, 0, 1));
        Checks.refused("all orders of 8 scenes", ISE, RangesTest::full, x -> x.daysByAll());
        Checks.refused("a day without money", ISE, RangesTest::full, x -> x.shoot(false));
        Checks.refused("a ninth scene behind 8 shot ones", ISE, () -> {
            Scripthouse x = full();
            x.setRates(0, 0);
            for (int day = 0; day < 8; day++) {
                x.shoot(false);
            }
            Checks.due("all are shot", 255, x.shot());
            return x;
        }, x -> x.addScene(1, 0, 0, ANY, 0));
        Checks.refused("an eleventh loan behind 10 that came back", ISE, () -> {
            Scripthouse x = full();
            Checks.due("all came back", 1000000 - 10045, x.income(1000000));
            return x;
        }, x -> x.loan(0, 1));
    }

    private static void firstOfSeveral() {
        Supplier<Scripthouse> full = RangesTest::full;
        Checks.refused("hours, and 8 scenes", IAE, full, x -> x.addScene(0, 0, 0, ANY, 0));
        Checks.refused("too many hours, and 8 scenes", IAE, full, x -> x.addScene(7, 0, 0, ANY, 0));
        Checks.refused("place, and 8 scenes", IAE, full, x -> x.addScene(1, 4, 0, ANY, 0));
        Checks.refused("players, and 8 scenes", IAE, full, x -> x.addScene(1, 0, 64, ANY, 0));
        Checks.refused("light, and 8 scenes", IAE, full, x -> x.addScene(1, 0, 0, 3, 0));
        Checks.refused("ahead, and 8 scenes", IAE, full, x -> x.addScene(1, 0, 0, ANY, 256));
        Checks.refused("a negative ahead, and 8 scenes", IAE, full, x -> x.addScene(1, 0, 0, ANY, -1));
        refused("line, and amount of a budget", IOOBE, x -> x.approve(4, 0));
        refused("line, and amount of a budget below", IOOBE, x -> x.approve(-1, 100001));
        refused("line, and amount of a bill", IOOBE, x -> x.bill(4, 0));
        refused("line, amount, and no money", IOOBE, x -> x.bill(-1, 100001));
        refused("line, and no money", IOOBE, x -> x.bill(4, 100000));
        refused("amount, and no money", IAE, x -> x.bill(0, 100001));
        refused("person, and amount of a loan", IOOBE, x -> x.loan(6, 0));
        Checks.refused("person, and 10 loans", IOOBE, full, x -> x.loan(-1, 1));
        Checks.refused("person, amount, and 10 loans", IOOBE, full, x -> x.loan(6, 100001));
        Checks.refused("amount, and 10 loans", IAE, full, x -> x.loan(0, 0));
        Checks.refused("too great an amount, and 10 loans", IAE, full, x -> x.loan(0, 100001));
        refused("person, and percent", IOOBE, x -> x.part(NONE, 6, 101));
        refused("no such part, and percent", IOOBE, x -> x.part(12, 0, 0));
        refused("no such part, and person", IOOBE, x -> x.part(-2, -1, 1));
        Checks.refused("no such part, and 12 parts", IOOBE, full, x -> x.part(12, 0, 1));
        Checks.refused("person, and 12 parts", IOOBE, full, x -> x.part(11, 6, 1));
        Checks.refused("person, and above 100 percent", IOOBE, full, x -> x.part(NONE, -1, 100));
        Checks.refused("person, percent, and 12 parts", IOOBE, full, x -> x.part(NONE, 6, 0));
        Checks.refused("percent, and 12 parts", IAE, full, x -> x.part(11, 0, 0));
        Checks.refused("percent, 12 parts, and above 100 percent", IAE, full, x -> x.part(NONE, 0, 101));
        Checks.refused("percent, and above 100 percent", IAE, RangesTest::used, x -> x.part(NONE, 0, 101));
    }
}
