/** Promises 5 to 7, and what 14 to 22 ask when days were shot. */
public final class ShootTest {
    private static final int ANY = Scripthouse.ANY, DAY = Scripthouse.DAY, NIGHT = Scripthouse.NIGHT;

    public static void main(String[] args) {
        rates();
        holdAnswers();
        emptyDays();
        wages();
        coverCosts();
        cannotBePaid();
        rain();
        rainHoldsBackWhatIsBehind();
        restBehindShot();
        planAfterShooting();
        skippedSceneLeavesItsHour();
        dayThousand();
        Checks.end("ShootTest");
    }

    private static void rates() {
        Scripthouse x = new Scripthouse();
        Checks.due("the rate at first", 100, x.setRates(0, 0));
        Checks.due("the rate then", 0, x.setRates(1000, 1000));
        int[][] wrongs = {{-1, 0}, {1001, 0}, {0, -1}, {0, 1001}, {Integer.MIN_VALUE, 5}, {5, Integer.MAX_VALUE}};
        for (int[] w : wrongs) {
            Checks.refused("setRates " + w[0] + " " + w[1], x, Checks.IAE, () -> x.setRates(w[0], w[1]));
        }
        Checks.due("a wrong call changed no rate", 1000, x.setRates(7, 7));
    }

    private static void holdAnswers() {
        Scripthouse x = new Scripthouse();
        Checks.due("it was not held", false, x.hold(true));
        Checks.due("it was held", true, x.hold(true));
        Checks.due("it was held still", true, x.hold(false));
        Checks.due("it was let go", false, x.hold(false));
    }

    private static void emptyDays() {
        Scripthouse x = new Scripthouse();
        for (int day = 0; day < 400; day++) {
            Checks.due("today", day, x.today());
            Checks.due("nothing to shoot", 0, x.shoot(day % 2 == 0));
        }
        Checks.due("empty days cost nothing", 0, x.costs());
        x.addScene(2, 0, 0, ANY, 0);
        Checks.due("the plan begins today", 400 * 24 + 8, x.begins(0));
        Checks.due("days are counted from today", 1, x.days());
    }

    private static void wages() {
        Scripthouse x = new Scripthouse();
        x.addScene(3, 0, 0, DAY, 0);
        x.addScene(4, 0, 0, NIGHT, 0);
        x.approve(0, 450);
        x.grant(1000);
        Checks.due("two scenes", 2, x.shoot(false));
        Checks.due("both are shot", 3, x.shot());
        Checks.due("the line is empty", 0, x.left(0));
        Checks.due("the fee pays what lacks", 750, x.fee());
        Checks.due("7 hours at 100", 700, x.costs());
        Checks.due("nothing came back", 700, x.open());
        Checks.due("as it was shot", 8, x.begins(0));
        Checks.due("as it was shot", 18, x.begins(1));
        Checks.due("the next day", 1, x.today());
    }

    private static void coverCosts() {
        Scripthouse x = new Scripthouse();
        x.hold(true);
        x.approve(1, 60);
        x.grant(40);
        Checks.due("a day without scenes", 0, x.shoot(false));
        Checks.due("its cover is paid by line 1", 10, x.left(1));
        Checks.due("not by the fee", 40, x.fee());
        x.shoot(true);
        Checks.due("the line is empty", 0, x.left(1));
        Checks.due("the fee paid 40", 0, x.fee());
        Checks.due("two covers", 100, x.costs());
        Checks.refused("a third cover", x, Checks.ISE, () -> x.shoot(false));
        x.hold(false);
        Checks.due("no cover is free", 0, x.shoot(false));
        x.setRates(100, 0);
        x.hold(true);
        Checks.due("a cover for nothing", 0, x.shoot(false));
        Checks.due("costs stay", 100, x.costs());
        Checks.due("today", 4, x.today());
    }

    private static void cannotBePaid() {
        Scripthouse x = new Scripthouse();
        x.addScene(2, 0, 0, ANY, 0);
        x.approve(0, 100);
        x.approve(2, 500);
        x.approve(3, 500);
        x.hold(true);
        x.grant(149);
        Checks.refused("one lacks", x, Checks.ISE, () -> x.shoot(false));
        x.grant(1);
        Checks.due("wages and cover share the fee", 1, x.shoot(false));
        Checks.due("the fee is empty", 0, x.fee());
        Checks.due("other lines stay", 1000, x.left(2) + x.left(3));
        Checks.due("costs", 250, x.costs());
    }

    private static void rain() {
        Scripthouse x = new Scripthouse();
        x.grant(100000);
        x.addScene(2, 0, 0, ANY, 0);
        x.addScene(2, 1, 0, ANY, 0);
        x.setOut(0, true);
        Checks.due("only indoors", 1, x.shoot(true));
        Checks.due("the scene indoors", 2, x.shot());
        Checks.due("its hour is as planned", 11, x.begins(1));
        Checks.due("only what is shot costs", 200, x.costs());
        Checks.due("the other one is planned for the next day", 24 + 8, x.begins(0));
        Checks.due("rain again", 0, x.shoot(true));
        x.hold(true);
        Checks.due("under the cover", 1, x.shoot(true));
        Checks.due("as it was shot", 48 + 8, x.begins(0));
        Checks.due("its wages and the cover", 450, x.costs());
        Scripthouse y = new Scripthouse();
        y.grant(1000);
        y.setOut(2, true);
        y.addScene(1, 2, 0, ANY, 0);
        Checks.due("without rain no cover is needed", 1, y.shoot(false));
    }

    private static void rainHoldsBackWhatIsBehind() {
        Scripthouse x = new Scripthouse();
        x.grant(100000);
        x.setOut(3, true);
        x.addScene(1, 3, 0, ANY, 0);
        x.addScene(1, 0, 0, ANY, 1);
        x.addScene(1, 0, 0, ANY, 2);
        x.addScene(1, 0, 0, ANY, 0);
        x.addScene(1, 0, 0, ANY, 8);
        Checks.due("only those with nothing open ahead", 2, x.shoot(true));
        Checks.due("scene 3, and 4 behind it on the same day", 8 + 16, x.shot());
        Checks.due("the others then", 3, x.shoot(false));
        Checks.due("all", 31, x.shot());
    }

    private static void restBehindShot() {
        Scripthouse x = new Scripthouse();
        x.grant(100000);
        x.addScene(6, 0, 1, NIGHT, 0);
        x.shoot(false);
        x.addScene(2, 0, 1, ANY, 0);
        x.addScene(3, 0, 2, ANY, 0);
        Checks.due("the rest behind a shot scene", 24 + 11, x.begins(1));
        Checks.due("the next one", 24 + 13, x.begins(2));
        x.setRates(0, 0);
        x.shoot(false);
        x.addScene(6, 0, 1, DAY, 0);
        Checks.due("a rest that is over", 48 + 8, x.begins(3));
    }

    private static void planAfterShooting() {
        Scripthouse x = new Scripthouse();
        x.grant(100000);
        x.addScene(6, 0, 0, NIGHT, 0);
        x.addScene(6, 0, 0, NIGHT, 1);
        x.addScene(6, 0, 0, NIGHT, 2);
        Checks.due("three nights", 3, x.days());
        x.shoot(false);
        Checks.due("two nights", 2, x.days());
        Checks.due("two nights by all", 2, x.daysByAll());
        Checks.due("the plan has the open ones", 1, x.planned(0));
        Checks.refused("not so many", x, Checks.IOOBE, () -> x.planned(2));
        Checks.due("a shot scene may be ahead", 3, x.addScene(1, 0, 0, DAY, 1));
        Checks.due("it is free", 24 + 18, x.begins(1));
        x.shoot(false);
        x.shoot(false);
        Checks.due("all are shot", 15, x.shot());
        Checks.due("no plan", 0, x.days());
        Checks.due("no plan by all", 0, x.daysByAll());
        Checks.due("begins stays", 48 + 18, x.begins(2));
    }

    private static void skippedSceneLeavesItsHour() {
        Scripthouse x = new Scripthouse();
        x.grant(100000);
        x.setOut(1, true);
        x.addScene(4, 1, 1, ANY, 0);
        x.addScene(6, 1, 3, ANY, 0);
        x.addScene(5, 0, 2, ANY, 0);
        x.shoot(true);
        Checks.due("the last one was shot", 4, x.shot());
        Checks.due("in its hours", 19, x.begins(2));
        Checks.due("player 0 needs no rest", 24 + 8, x.begins(0));
        Checks.due("player 1 has it", 24 + 12, x.begins(1));
        x.setChild(0, true);
        Checks.due("children's hours change the plan", 48 + 8, x.begins(1));
    }

    /** This is behind the 512 calls for which an object is used, so it is our own word, not the document's. */
    private static void dayThousand() {
        Scripthouse x = new Scripthouse();
        for (int day = 0; day < 1000; day++) {
            x.shoot(false);
        }
        Checks.refused("the day 1000", x, Checks.ISE, () -> x.shoot(false));
        Checks.due("today", 1000, x.today());
    }
}
