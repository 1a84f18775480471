/** Terms on shooting, sentence by sentence: each at its edge, with what is next to it (promises 5 to 7). */
public final class ShootEdgesTest {
    private static final int ANY = Scripthouse.ANY, DAY = Scripthouse.DAY, NIGHT = Scripthouse.NIGHT;

    public static void main(String[] args) {
        noSceneYet();
        noSceneToday();
        onlyToday();
        allOfADay();
        rainOutOfDoorsWithoutCover();
        everyPlaceHasItsOwnRain();
        nothingBehindAnOpenScene();
        inTheirOrder();
        inThePlansHours();
        ratesAtFirst();
        leastAndGreatestRates();
        wagesFromTheLine();
        wagesFromTheFee();
        coverAlone();
        coverOfEmptyDays();
        wagesAndCoverFromOneFee();
        onlyWhatIsShotIsPaid();
        ratesFromNowOn();
        otherLinesPayNothing();
        refusedDays();
        Checks.end("ShootEdgesTest");
    }

    private static Scripthouse withScene(int hours) {
        Scripthouse x = new Scripthouse();
        x.addScene(hours, 0, 0, ANY, 0);
        return x;
    }

    private static Scripthouse free() {
        Scripthouse x = new Scripthouse();
        x.setRates(0, 0);
        return x;
    }

    // ---- which scenes are shot

    private static void noSceneYet() {
        for (int rain = 0; rain < 2; rain++) {
            Scripthouse x = new Scripthouse();
            Checks.due("no scene", 0, x.shoot(rain == 1));
            Checks.due("today grows by 1", 1, x.today());
            Checks.due("no costs", 0, x.costs());
            Checks.due("none was shot", 0, x.shot());
        }
    }

    private static void noSceneToday() {
        Scripthouse x = free();
        x.setOut(0, true);
        x.addScene(2, 0, 0, ANY, 0);
        Checks.due("all of the day is rained out", 0, x.shoot(true));
        Checks.due("today grows by 1", 1, x.today());
        Checks.due("none was shot", 0, x.shot());
        Checks.due("it is open still", 0, x.planned(0));
        Checks.due("for today", 24 + 8, x.begins(0));
        Checks.due("it is shot", 1, x.shoot(false));
        Checks.due("no open scene", 0, x.shoot(false));
        Checks.due("today", 3, x.today());
    }

    private static void onlyToday() {
        Scripthouse x = free();
        x.addScene(6, 0, 0, ANY, 0);
        x.addScene(6, 0, 0, ANY, 1);
        x.addScene(4, 0, 0, ANY, 3);
        x.addScene(1, 0, 0, ANY, 7);
        Checks.due("those up to 24", 3, x.shoot(false));
        Checks.due("not the next day's", 7, x.shot());
        Checks.due("the next day's", 1, x.shoot(false));
        Checks.due("all", 15, x.shot());
    }

    private static void allOfADay() {
        Scripthouse x = new Scripthouse();
        for (int i = 0; i < 8; i++) {
            x.addScene(2, 0, 63, i == 7 ? NIGHT : i == 0 ? DAY : ANY, 0);
        }
        x.setRates(1000, 1000);
        x.hold(true);
        x.approve(0, 16000);
        x.approve(1, 1000);
        Checks.due("8 scenes on one day", 8, x.shoot(true));
        Checks.due("all", 255, x.shot());
        Checks.due("16 hours and the cover", 17000, x.costs());
        for (int i = 0; i < 8; i++) {
            Checks.due("in their hours", 8 + 2 * i, x.begins(i));
        }
    }

    private static void rainOutOfDoorsWithoutCover() {
        for (int bits = 0; bits < 8; bits++) {
            boolean isRain = (bits & 1) != 0;
            boolean isOut = (bits & 2) != 0;
            boolean isHeld = (bits & 4) != 0;
            Scripthouse x = withScene(1);
            x.grant(1000);
            x.setOut(0, isOut);
            x.hold(isHeld);
            int due = bits == 3 ? 0 : 1;
            String what = "rain " + isRain + ", out " + isOut + ", held " + isHeld;
            Checks.due(what, due, x.shoot(isRain));
            Checks.due(what + ": shot", due, x.shot());
            Checks.due(what + ": costs", 100 * due + (isHeld ? 50 : 0), x.costs());
            Checks.due(what + ": begins", due == 1 ? 8 : 24 + 8, x.begins(0));
        }
    }

    private static void everyPlaceHasItsOwnRain() {
        for (int place = 0; place < 4; place++) {
            Scripthouse x = free();
            for (int i = 0; i < 4; i++) {
                x.addScene(1, i, 0, ANY, 0);
            }
            x.setOut(place, true);
            Checks.due("three are indoors", 3, x.shoot(true));
            Checks.due("place " + place + " is out of doors", 15 - (1 << place), x.shot());
            x.setOut(place, false);
            Checks.due("indoors again", 1, x.shoot(true));
        }
    }

    private static void nothingBehindAnOpenScene() {
        Scripthouse x = free();
        x.setOut(0, true);
        x.addScene(1, 0, 0, ANY, 0);
        for (int i = 1; i < 8; i++) {
            x.addScene(1, 1, 0, ANY, 1 << i - 1);
        }
        Checks.due("a chain behind the first one", 0, x.shoot(true));
        Checks.due("the chain without rain", 8, x.shoot(false));
        Scripthouse y = free();
        y.setOut(0, true);
        y.addScene(1, 1, 0, ANY, 0);
        y.addScene(1, 0, 0, ANY, 1);
        y.addScene(1, 1, 0, ANY, 1);
        y.addScene(1, 1, 0, ANY, 3);
        y.addScene(1, 1, 0, ANY, 4);
        y.addScene(1, 1, 0, ANY, 8);
        Checks.due("those behind the rain wait", 3, y.shoot(true));
        Checks.due("0, 2 and 4", 1 + 4 + 16, y.shot());
        Checks.due("rain again", 0, y.shoot(true));
        Checks.due("1, 3 and 5", 3, y.shoot(false));
        Scripthouse z = free();
        z.addScene(1, 0, 0, ANY, 0);
        z.shoot(false);
        z.setOut(0, true);
        z.addScene(1, 1, 0, ANY, 1);
        Checks.due("one ahead that was shot on a day before", 1, z.shoot(true));
    }

    private static void inTheirOrder() {
        Scripthouse x = free();
        x.addScene(6, 0, 0, NIGHT, 0);
        x.addScene(1, 0, 0, DAY, 0);
        x.addScene(1, 0, 0, DAY, 2);
        Checks.due("1 and 2 ahead of 0", 3, x.shoot(false));
        Checks.due("the night", 18, x.begins(0));
        Checks.due("the first", 8, x.begins(1));
        Checks.due("the second", 9, x.begins(2));
    }

    private static void inThePlansHours() {
        Scripthouse x = free();
        x.setOut(2, true);
        x.addScene(3, 2, 1, ANY, 0);
        x.addScene(3, 1, 1, ANY, 0);
        Checks.due("the second alone", 1, x.shoot(true));
        Checks.due("behind the hours of the first and a move", 12, x.begins(1));
        Checks.due("the first is planned again", 24 + 8, x.begins(0));
        x.setChild(0, true);
        x.setOut(1, true);
        x.addScene(6, 1, 63, NIGHT, 0);
        Checks.due("as it was shot, whatever is told then", 12, x.begins(1));
        Scripthouse y = free();
        y.addScene(6, 1, 0, ANY, 0);
        y.addScene(6, 0, 0, ANY, 0);
        y.addScene(4, 1, 0, ANY, 0);
        Checks.due("two days", 2, y.days());
        Checks.due("two of them today", 2, y.shoot(false));
        Checks.due("the plan's first, not as in orders that were tried behind it", 8, y.begins(0));
        Checks.due("the plan's second", 15, y.begins(1));
    }

    // ---- what a day costs

    private static void ratesAtFirst() {
        Scripthouse x = withScene(1);
        x.hold(true);
        x.grant(1000);
        x.shoot(false);
        Checks.due("100 and 50 at first", 150, x.costs());
        Checks.due("the rate at first", 100, x.setRates(0, 0));
    }

    private static void leastAndGreatestRates() {
        Scripthouse x = withScene(6);
        x.setRates(0, 0);
        x.hold(true);
        Checks.due("rates of 0 need no money", 1, x.shoot(true));
        Checks.due("they are no costs", 0, x.costs());
        Scripthouse y = withScene(6);
        y.setRates(1000, 1000);
        y.hold(true);
        y.grant(6999);
        Checks.refused("the greatest rates: one lacks", y, Checks.ISE, () -> y.shoot(true));
        y.grant(1);
        Checks.due("the greatest rates", 1, y.shoot(true));
        Checks.due("6 hours and the cover", 7000, y.costs());
        Checks.due("nothing is left", 0, y.fee());
    }

    private static void wagesFromTheLine() {
        Scripthouse x = withScene(1);
        x.approve(0, 99);
        Checks.refused("one lacks on the line", x, Checks.ISE, () -> x.shoot(false));
        x.approve(0, 1);
        x.grant(1);
        Checks.due("the line has just enough", 1, x.shoot(false));
        Checks.due("the line is empty", 0, x.left(0));
        Checks.due("the fee stays", 1, x.fee());
        Checks.due("costs", 100, x.costs());
        Checks.due("open", 100, x.open());
        Scripthouse y = withScene(1);
        y.approve(0, 101);
        y.shoot(false);
        Checks.due("one is left", 1, y.left(0));
    }

    private static void wagesFromTheFee() {
        Scripthouse x = withScene(1);
        x.grant(99);
        Checks.refused("one lacks in the fee", x, Checks.ISE, () -> x.shoot(false));
        x.grant(1);
        Checks.due("the fee has just enough", 1, x.shoot(false));
        Checks.due("the fee is empty", 0, x.fee());
        Checks.due("costs", 100, x.costs());
        Scripthouse y = withScene(2);
        y.approve(0, 150);
        y.grant(49);
        Checks.refused("one lacks in both", y, Checks.ISE, () -> y.shoot(false));
        y.grant(1);
        Checks.due("both have just enough", 1, y.shoot(false));
        Checks.due("the line is empty", 0, y.left(0));
        Checks.due("the fee is empty", 0, y.fee());
        Checks.due("costs of both", 200, y.costs());
        Checks.due("open of both", 200, y.open());
    }

    private static void coverAlone() {
        Scripthouse x = new Scripthouse();
        x.hold(true);
        x.approve(1, 49);
        Checks.refused("one lacks for the cover", x, Checks.ISE, () -> x.shoot(true));
        x.grant(1);
        Checks.due("just enough for the cover", 0, x.shoot(true));
        Checks.due("the line is empty", 0, x.left(1));
        Checks.due("the fee is empty", 0, x.fee());
        Checks.due("the cover is costs", 50, x.costs());
        Checks.refused("nothing for the next day", x, Checks.ISE, () -> x.shoot(false));
        x.hold(false);
        Checks.due("a cover that is not held costs nothing", 0, x.shoot(true));
        Checks.due("costs stay", 50, x.costs());
    }

    private static void coverOfEmptyDays() {
        Scripthouse x = new Scripthouse();
        x.hold(true);
        x.grant(1000);
        for (int day = 1; day <= 20; day++) {
            Checks.due("no scene on day " + day, 0, x.shoot(day % 2 == 0));
            Checks.due("its cover", 50 * day, x.costs());
        }
        Checks.refused("day 21", x, Checks.ISE, () -> x.shoot(false));
        Checks.due("today", 20, x.today());
    }

    private static void wagesAndCoverFromOneFee() {
        Scripthouse x = withScene(1);
        x.hold(true);
        x.grant(149);
        Checks.refused("enough for each, not for both", x, Checks.ISE, () -> x.shoot(false));
        x.grant(1);
        Checks.due("enough for both", 1, x.shoot(false));
        Checks.due("nothing is left", 0, x.fee());
        Scripthouse y = withScene(1);
        y.hold(true);
        y.approve(0, 100);
        Checks.refused("wages, but no cover", y, Checks.ISE, () -> y.shoot(false));
        y.approve(1, 50);
        Checks.due("each line pays its own", 1, y.shoot(false));
        Checks.due("both lines are empty", 0, y.left(0) + y.left(1));
        Scripthouse z = withScene(1);
        z.hold(true);
        z.approve(1, 150);
        Checks.refused("the cover, but no wages", z, Checks.ISE, () -> z.shoot(false));
        Scripthouse w = withScene(1);
        w.hold(true);
        w.approve(0, 150);
        Checks.refused("the line 0 pays no cover", w, Checks.ISE, () -> w.shoot(false));
    }

    private static void onlyWhatIsShotIsPaid() {
        Scripthouse x = new Scripthouse();
        x.setOut(0, true);
        x.addScene(6, 0, 0, ANY, 0);
        x.addScene(6, 1, 0, ANY, 1);
        x.addScene(1, 1, 0, ANY, 0);
        x.approve(0, 100);
        Checks.due("only the third", 1, x.shoot(true));
        Checks.due("100 is enough", 0, x.left(0));
        Checks.refused("without rain it is not", x, Checks.ISE, () -> x.shoot(false));
        Checks.due("with rain nothing is shot, for nothing", 0, x.shoot(true));
    }

    private static void ratesFromNowOn() {
        Scripthouse x = withScene(1);
        x.grant(1000);
        x.shoot(false);
        x.setRates(7, 3);
        Checks.due("what was paid stays", 100, x.costs());
        x.addScene(1, 0, 0, ANY, 0);
        x.hold(true);
        x.shoot(false);
        Checks.due("the new rates", 110, x.costs());
    }

    private static void otherLinesPayNothing() {
        Scripthouse x = withScene(1);
        x.hold(true);
        x.approve(2, 1000);
        x.approve(3, 1000);
        Checks.refused("the lines 2 and 3 pay nothing", x, Checks.ISE, () -> x.shoot(false));
        x.grant(200);
        x.shoot(false);
        Checks.due("the line 2", 1000, x.left(2));
        Checks.due("the line 3", 1000, x.left(3));
        Checks.due("the fee", 50, x.fee());
    }

    private static void refusedDays() {
        Checks.refused("a day without money", Checks.ISE, () -> withScene(1), x -> x.shoot(false));
        Checks.refused("a wet day without money", Checks.ISE, () -> withScene(1), x -> x.shoot(true));
        Checks.refused("a cover without money", Checks.ISE, () -> {
            Scripthouse x = new Scripthouse();
            x.hold(true);
            return x;
        }, x -> x.shoot(true));
        Checks.refused("a day that some of the money pays", Checks.ISE, () -> {
            Scripthouse x = withScene(6);
            x.addScene(6, 1, 5, DAY, 0);
            x.setChild(2, true);
            x.hold(true);
            x.approve(0, 500);
            x.approve(1, 20);
            x.grant(329);
            return x;
        }, x -> x.shoot(false));
    }
}
