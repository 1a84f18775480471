/** Terms on scenes and plans, sentence by sentence: each at its edge, with the hours next to it (promises 14 to 19). */
public final class PlanEdgesTest {
    private static final int ANY = Scripthouse.ANY, DAY = Scripthouse.DAY, NIGHT = Scripthouse.NIGHT;

    public static void main(String[] args) {
        noSceneYet();
        oneScene();
        beginsWhereTheOneAheadEnds();
        laterWithAMove();
        noMoveOnTheNextDay();
        nextDayIsFoundLikewise();
        restsBehindPlanned();
        restsBehindShot();
        restIsOnlyOfTheLastScene();
        restIsEachPlayersOwn();
        noRestOnTheSameDay();
        restMayMoveASceneOnceMore();
        childrensHours();
        childrensHoursAreByDay();
        childrensHoursAreByChild();
        startsToday();
        orderKeepsAheads();
        shotOnesNeedNotBeAhead();
        fewestDaysFirst();
        lesserNumberAtTheFirstDifference();
        lesserRowAtTheLastPlaces();
        fullDays();
        greatestPlan();
        openScenesAlone();
        tryingAllOrders();
        askingChangesNothing();
        Checks.end("PlanEdgesTest");
    }

    // ---- makers

    private static int next(Scripthouse x, int hours, int place, int players, int light, int number) {
        return x.addScene(hours, place, players, light, (1 << number) - 1);
    }

    /** Scenes at place 0 that have so many hours together, each behind all the others; returns how many scenes there are. */
    private static int fill(Scripthouse x, int hours, int players, int scenes) {
        int count = scenes;
        for (int rest = hours; rest > 0; rest -= 6) {
            next(x, Math.min(rest, 6), 0, players, ANY, count);
            count++;
        }
        return count;
    }

    private static int dawn(int light) {
        return light == NIGHT ? 18 : 8;
    }

    private static int close(int light) {
        return light == DAY ? 18 : 24;
    }

    /** 24 times the day and the hour of a scene that could begin in an hour of day 0, or else on day 1. */
    private static int due(int hour, int hours, int light) {
        int begin = Math.max(hour, dawn(light));
        return begin + hours <= close(light) ? begin : 24 + dawn(light);
    }

    // ---- nothing there yet

    private static void noSceneYet() {
        Scripthouse x = new Scripthouse();
        Checks.due("no scene: no day", 0, x.days());
        Checks.due("no scene: no day by all", 0, x.daysByAll());
        Checks.due("no scene is shot", 0, x.shot());
        Checks.refused("no scene is planned", x, Checks.IOOBE, () -> x.planned(0));
        Checks.refused("no scene begins", x, Checks.IOOBE, () -> x.begins(0));
        x.shoot(false);
        Checks.due("no scene on day 1: no day", 0, x.days());
        Checks.due("no scene on day 1: no day by all", 0, x.daysByAll());
    }

    private static void oneScene() {
        for (int light = 0; light < 3; light++) {
            for (int hours = 1; hours <= 6; hours++) {
                Scripthouse x = new Scripthouse();
                x.addScene(hours, 3, 63, light, 0);
                String what = "one scene of light " + light + " and " + hours + " hours";
                Checks.due(what + ": one day", 1, x.days());
                Checks.due(what + ": one day by all", 1, x.daysByAll());
                Checks.due(what + ": planned", 0, x.planned(0));
                Checks.due(what + ": begins", dawn(light), x.begins(0));
            }
        }
    }

    // ---- the hour on a day

    private static void beginsWhereTheOneAheadEnds() {
        for (int end = 9; end <= 24; end++) {
            for (int light = 0; light < 3; light++) {
                for (int hours = 1; hours <= 6; hours++) {
                    Scripthouse x = new Scripthouse();
                    int scene = fill(x, end - 8, 0, 0);
                    next(x, hours, 0, 0, light, scene);
                    Checks.due("light " + light + ", " + hours + " hours behind an end at " + end,
                            due(end, hours, light), x.begins(scene));
                }
            }
        }
    }

    private static void laterWithAMove() {
        for (int end = 9; end <= 24; end++) {
            for (int light = 0; light < 3; light++) {
                for (int hours = 1; hours <= 6; hours++) {
                    Scripthouse x = new Scripthouse();
                    int scene = fill(x, end - 8, 0, 0);
                    next(x, hours, 1 + hours % 3, 0, light, scene);
                    Checks.due("light " + light + ", " + hours + " hours with a move behind an end at " + end,
                            due(end + 1, hours, light), x.begins(scene));
                }
            }
        }
    }

    private static void noMoveOnTheNextDay() {
        Scripthouse x = new Scripthouse();
        int scene = fill(x, 16, 0, 0);
        next(x, 1, 3, 0, ANY, scene);
        Checks.due("another place is no hour on the next day", 24 + 8, x.begins(scene));
        next(x, 1, 2, 0, ANY, scene + 1);
        Checks.due("it is one behind it", 24 + 10, x.begins(scene + 1));
        Scripthouse y = new Scripthouse();
        y.addScene(1, 3, 0, ANY, 0);
        Checks.due("the first scene has no move", 8, y.begins(0));
        y.grant(1000);
        y.shoot(false);
        y.addScene(1, 1, 0, ANY, 0);
        Checks.due("no move from a scene that was shot", 24 + 8, y.begins(1));
    }

    private static void nextDayIsFoundLikewise() {
        for (int light = 0; light < 3; light++) {
            for (int hours = 1; hours <= 6; hours++) {
                Scripthouse x = new Scripthouse();
                int scene = fill(x, 16, 2, 0);
                next(x, hours, 0, 2, light, scene);
                int begin = light == NIGHT ? 18 : 11;
                Checks.due("light " + light + ", " + hours + " hours on the day behind an end at 24", 24 + begin,
                        x.begins(scene));
                Checks.due("the day of it counts", 2, x.days());
            }
        }
    }

    // ---- rests

    /** A scene of player 0 that ends in an hour of day 0, which is full. */
    private static int dayWithAnEnd(Scripthouse x, int end) {
        int count = fill(x, end - 9, 2, 0);
        next(x, 1, 0, 1, ANY, count);
        return fill(x, 24 - end, 2, count + 1);
    }

    private static void restsBehindPlanned() {
        for (int end = 9; end <= 24; end++) {
            for (int light = 0; light < 3; light++) {
                Scripthouse x = new Scripthouse();
                int scene = dayWithAnEnd(x, end);
                next(x, 6, 0, 1, light, scene);
                Checks.due("light " + light + ", a rest behind a planned end at " + end,
                        24 + Math.max(dawn(light), end - 13), x.begins(scene));
            }
        }
    }

    private static void restsBehindShot() {
        for (int end = 9; end <= 24; end++) {
            for (int light = 0; light < 3; light++) {
                Scripthouse x = new Scripthouse();
                x.setRates(0, 0);
                int scene = dayWithAnEnd(x, end);
                x.shoot(false);
                x.addScene(6, 0, 1, light, 0);
                Checks.due("light " + light + ", a rest behind a shot end at " + end,
                        24 + Math.max(dawn(light), end - 13), x.begins(scene));
            }
        }
    }

    private static void restIsOnlyOfTheLastScene() {
        Scripthouse x = new Scripthouse();
        x.addScene(6, 0, 1, NIGHT, 0);
        x.addScene(6, 0, 2, NIGHT, 1);
        x.addScene(1, 0, 1, ANY, 3);
        Checks.due("an end at 24 two days ago is no rest", 48 + 8, x.begins(2));
        x.setRates(0, 0);
        x.shoot(false);
        x.shoot(false);
        Checks.due("nor behind days that were shot", 48 + 8, x.begins(2));
        Scripthouse y = new Scripthouse();
        y.addScene(1, 0, 1, ANY, 0);
        y.addScene(6, 0, 1, NIGHT, 1);
        y.addScene(1, 0, 1, ANY, 3);
        Checks.due("the last of two on the day ahead counts", 24 + 11, y.begins(2));
    }

    private static void restIsEachPlayersOwn() {
        Scripthouse x = new Scripthouse();
        x.addScene(4, 0, 1, NIGHT, 0);
        x.addScene(1, 0, 2, NIGHT, 1);
        x.addScene(1, 0, 4, NIGHT, 3);
        x.addScene(1, 0, 0, DAY, 7);
        x.addScene(1, 0, 1, ANY, 15);
        x.addScene(1, 0, 3, ANY, 31);
        x.addScene(1, 0, 39, ANY, 63);
        Checks.due("nobody rests", 24 + 8, x.begins(3));
        Checks.due("an end at 22", 24 + 9, x.begins(4));
        Checks.due("an end at 23 of the second of two", 24 + 10, x.begins(5));
        Checks.due("an end at 24 of one of four", 24 + 11, x.begins(6));
        Scripthouse y = new Scripthouse();
        y.addScene(6, 0, 32, NIGHT, 0);
        y.addScene(1, 0, 31, ANY, 1);
        Checks.due("the other players do not rest", 24 + 8, y.begins(1));
        y.addScene(1, 0, 63, ANY, 3);
        Checks.due("player 5", 24 + 11, y.begins(2));
    }

    private static void noRestOnTheSameDay() {
        Scripthouse x = new Scripthouse();
        x.addScene(1, 0, 63, ANY, 0);
        x.addScene(6, 0, 63, ANY, 1);
        x.addScene(6, 0, 63, ANY, 3);
        x.addScene(3, 0, 63, NIGHT, 7);
        Checks.due("a player has no rest on a day", 9, x.begins(1));
        Checks.due("nor later on it", 15, x.begins(2));
        Checks.due("nor at night", 21, x.begins(3));
        Checks.due("one day", 1, x.days());
    }

    /** A scene goes on a day only with its rest; without it, it would end in time. */
    private static void restMayMoveASceneOnceMore() {
        Scripthouse x = new Scripthouse();
        x.addScene(6, 0, 1, NIGHT, 0);
        x.addScene(1, 0, 0, DAY, 1);
        x.addScene(6, 0, 1, DAY, 3);
        Checks.due("11 and 6 are 17", 24 + 11, x.begins(2));
        x.addScene(1, 0, 1, DAY, 7);
        Checks.due("17 and 1 are 18", 24 + 17, x.begins(3));
        Scripthouse y = new Scripthouse();
        y.addScene(6, 0, 1, NIGHT, 0);
        y.addScene(5, 0, 0, DAY, 1);
        y.addScene(6, 0, 1, DAY, 3);
        Checks.due("13 and 6 are 19", 48 + 8, y.begins(2));
        y.addScene(6, 0, 1, DAY, 7);
        Checks.due("14 and 6 are 20", 72 + 8, y.begins(3));
    }

    // ---- children

    private static void childrensHours() {
        for (int player = 0; player < 6; player++) {
            for (int first = 1; first <= 6; first++) {
                for (int second = 1; second <= 6; second++) {
                    Scripthouse x = new Scripthouse();
                    x.addScene(first, 0, 1 << player, ANY, 0);
                    x.addScene(second, 0, 1 << player, ANY, 1);
                    String what = first + " and " + second + " hours of player " + player;
                    Checks.due(what + ", grown", 8 + first, x.begins(1));
                    x.setChild(player, true);
                    Checks.due(what + ", a child", first + second <= 6 ? 8 + first : 24 + 8, x.begins(1));
                    Checks.due(what + ", days", first + second <= 6 ? 1 : 2, x.days());
                    x.setChild(player, false);
                    Checks.due(what + ", a child no more", 8 + first, x.begins(1));
                }
            }
        }
    }

    private static void childrensHoursAreByDay() {
        Scripthouse x = new Scripthouse();
        x.setChild(0, true);
        x.addScene(6, 0, 1, ANY, 0);
        x.addScene(6, 0, 1, ANY, 1);
        x.addScene(6, 0, 1, ANY, 3);
        Checks.due("6 hours on each day", 3, x.days());
        Checks.due("the second day", 24 + 8, x.begins(1));
        Checks.due("the third day", 48 + 8, x.begins(2));
        x.setRates(0, 0);
        x.shoot(false);
        Checks.due("hours of a shot day count no more", 2, x.days());
        Checks.due("the second day stays", 24 + 8, x.begins(1));
        Scripthouse y = new Scripthouse();
        y.setChild(0, true);
        y.addScene(3, 0, 1, ANY, 0);
        y.addScene(4, 0, 0, ANY, 1);
        y.addScene(3, 0, 1, ANY, 3);
        y.addScene(1, 0, 2, ANY, 7);
        Checks.due("hours of others between count not", 15, y.begins(2));
        Checks.due("a scene without children", 18, y.begins(3));
        y.addScene(1, 0, 3, ANY, 15);
        Checks.due("a seventh hour behind others", 24 + 8, y.begins(4));
    }

    private static void childrensHoursAreByChild() {
        Scripthouse x = new Scripthouse();
        x.setChild(1, true);
        x.setChild(5, true);
        x.addScene(6, 0, 2, ANY, 0);
        x.addScene(6, 0, 32, ANY, 1);
        Checks.due("6 hours of each of two children", 1, x.days());
        x.addScene(1, 0, 4, ANY, 3);
        Checks.due("the grown go on", 20, x.begins(2));
        x.addScene(1, 0, 36, ANY, 7);
        Checks.due("one child of two players is enough", 24 + 8, x.begins(3));
        Scripthouse y = new Scripthouse();
        y.setChild(1, true);
        y.setChild(5, true);
        y.addScene(3, 0, 34, ANY, 0);
        y.addScene(3, 0, 2, ANY, 1);
        y.addScene(3, 0, 32, ANY, 3);
        Checks.due("hours together count for both", 1, y.days());
        y.addScene(1, 0, 32, ANY, 7);
        Checks.due("the other one's seventh hour", 24 + 8, y.begins(3));
    }

    // ---- orders

    private static void startsToday() {
        for (int today = 0; today < 4; today++) {
            Scripthouse x = new Scripthouse();
            for (int day = 0; day < today; day++) {
                x.shoot(false);
            }
            x.addScene(6, 0, 0, NIGHT, 0);
            Checks.due("the plan begins today", 24 * today + 18, x.begins(0));
            Checks.due("today is its first day", 1, x.days());
            x.addScene(1, 0, 0, NIGHT, 1);
            Checks.due("tomorrow is its second day", 2, x.days());
            Checks.due("by all too", 2, x.daysByAll());
            Checks.due("tomorrow", 24 * today + 24 + 18, x.begins(1));
        }
    }

    private static void orderKeepsAheads() {
        Scripthouse x = new Scripthouse();
        x.addScene(6, 0, 0, NIGHT, 0);
        x.addScene(6, 0, 0, ANY, 1);
        x.addScene(4, 0, 0, ANY, 1);
        Checks.due("fewer days would break what must be ahead", 2, x.days());
        Checks.due("by all too", 2, x.daysByAll());
        Checks.due("the night is first", 0, x.planned(0));
        Scripthouse y = new Scripthouse();
        for (int i = 0; i < 8; i++) {
            next(y, 2, 0, 0, ANY, i);
        }
        for (int i = 0; i < 8; i++) {
            Checks.due("a chain of 8", i, y.planned(i));
            Checks.due("its hours", 8 + 2 * i, y.begins(i));
        }
        Scripthouse z = new Scripthouse();
        z.addScene(6, 0, 0, NIGHT, 0);
        z.addScene(6, 0, 0, DAY, 0);
        z.addScene(6, 0, 0, DAY, 1);
        // 0 1 2 and 0 2 1 have three days, 1 0 2 has two
        Checks.due("the one without others ahead of it", 1, z.planned(0));
        Checks.due("then what must be ahead", 0, z.planned(1));
        Checks.due("then what is behind it", 2, z.planned(2));
        Checks.due("two days", 2, z.days());
    }

    private static void shotOnesNeedNotBeAhead() {
        Scripthouse x = new Scripthouse();
        x.setRates(0, 0);
        x.addScene(6, 0, 0, NIGHT, 0);
        x.addScene(6, 0, 0, NIGHT, 0);
        x.shoot(false);
        x.addScene(6, 0, 0, DAY, 1);
        Checks.due("the one ahead of it was shot", 2, x.planned(0));
        Checks.due("the other one behind it", 1, x.planned(1));
        Checks.due("one day", 1, x.days());
        x.addScene(1, 0, 0, DAY, 3);
        Checks.due("one ahead of the last is open: two days", 2, x.days());
        Checks.due("it is the first then", 1, x.planned(0));
        Checks.due("the least row of two days", 2, x.planned(1));
        Checks.due("the last", 3, x.planned(2));
    }

    private static void fewestDaysFirst() {
        Scripthouse x = new Scripthouse();
        x.addScene(2, 0, 0, ANY, 0);
        x.addScene(6, 0, 0, NIGHT, 0);
        x.addScene(6, 0, 0, DAY, 0);
        x.addScene(2, 0, 0, ANY, 0);
        Checks.due("one day", 1, x.days());
        Checks.due("0 may be first", 0, x.planned(0));
        Checks.due("1 may not be ahead of the day's", 2, x.planned(1));
        Checks.due("nor of 3", 3, x.planned(2));
        Checks.due("the night is last", 1, x.planned(3));
        Checks.due("in its hours", 18, x.begins(1));
        x.addScene(1, 0, 0, ANY, 0);
        Checks.due("one hour more is two days", 2, x.days());
        Checks.due("with the least row", 0, x.planned(0));
        Checks.due("of two days", 1, x.planned(1));
        Checks.due("at place 2", 2, x.planned(2));
        Checks.due("at place 3", 3, x.planned(3));
        Checks.due("at place 4", 4, x.planned(4));
        Checks.due("the day's scene on the second day", 24 + 8, x.begins(2));
    }

    private static void lesserNumberAtTheFirstDifference() {
        Scripthouse x = new Scripthouse();
        x.addScene(1, 0, 0, NIGHT, 0);
        x.addScene(5, 0, 0, DAY, 0);
        x.addScene(5, 0, 0, DAY, 0);
        // 1 2 0 and 2 1 0 have one day, 0 1 2 has two
        Checks.due("the lesser of two at place 0", 1, x.planned(0));
        Checks.due("at place 1", 2, x.planned(1));
        Checks.due("at place 2", 0, x.planned(2));
        Checks.due("one day", 1, x.days());
        Scripthouse y = new Scripthouse();
        y.addScene(6, 1, 0, ANY, 0);
        y.addScene(6, 0, 0, ANY, 0);
        y.addScene(4, 1, 0, ANY, 0);
        // 16 hours and one move at least: all orders have two days
        Checks.due("one move is too much", 2, y.days());
        Checks.due("the least row of all", 0, y.planned(0));
        Checks.due("at place 1", 1, y.planned(1));
        Checks.due("at place 2", 2, y.planned(2));
    }

    private static void lesserRowAtTheLastPlaces() {
        Scripthouse x = new Scripthouse();
        for (int i = 0; i < 8; i++) {
            x.addScene(2, 0, 0, ANY, 0);
        }
        for (int i = 0; i < 8; i++) {
            Checks.due("8 alike in their order", i, x.planned(i));
        }
        Checks.due("one day", 1, x.days());
        Scripthouse y = new Scripthouse();
        for (int i = 0; i < 6; i++) {
            y.addScene(2, 0, 0, ANY, 0);
        }
        y.addScene(2, 0, 0, NIGHT, 0);
        y.addScene(1, 0, 0, ANY, 0);
        // the night begins at 20 behind 12 hours, and 1 fits behind it: the row of all numbers in their order
        Checks.due("the seventh", 6, y.planned(6));
        Checks.due("the eighth", 7, y.planned(7));
        Checks.due("one day", 1, y.days());
        Scripthouse z = new Scripthouse();
        for (int i = 0; i < 6; i++) {
            z.addScene(1, 0, 0, ANY, 0);
        }
        z.addScene(6, 0, 0, NIGHT, 0);
        z.addScene(1, 0, 0, ANY, 0);
        Checks.due("the last two are the other way round", 7, z.planned(6));
        Checks.due("the night is last", 6, z.planned(7));
        Checks.due("one day", 1, z.days());
    }

    /** Days that are full to the last hour, in an order that is not the first one with as few scenes a day. */
    private static void fullDays() {
        for (int days = 2; days <= 4; days++) {
            int[] row = new int[2 * days];
            for (int i = 0; i < row.length; i++) {
                row[i] = i % 2 == 0 ? i / 2 : days + i / 2;
            }
            fullOf("10 hours by day", days, 6, 4, DAY, 0, row);
            fullOf("6 hours at night", days, 4, 2, NIGHT, 0, row);
            fullOf("6 hours of a child", days, 4, 2, ANY, 1, row);
            fullOf("6 hours of a child by day", days, 5, 1, DAY, 1, row);
        }
        Scripthouse x = new Scripthouse();
        for (int i = 0; i < 6; i++) {
            x.addScene(i < 2 ? 6 : 5, 0, 0, ANY, 0);
        }
        Checks.due("16 hours on each of two days", 2, x.days());
        Checks.due("by all too", 2, x.daysByAll());
        int[] row = {0, 2, 3, 1, 4, 5};
        for (int i = 0; i < 6; i++) {
            Checks.due("16 hours on each day, at place " + i, row[i], x.planned(i));
        }
    }

    /** So many scenes of more hours, then as many of fewer; a scene of each kind makes a day full. */
    private static void fullOf(String what, int days, int more, int fewer, int light, int players, int[] row) {
        Scripthouse x = new Scripthouse();
        x.setChild(0, true);
        for (int i = 0; i < 2 * days; i++) {
            x.addScene(i < days ? more : fewer, 0, players, light, 0);
        }
        Checks.due(what + " on each of " + days + " days", days, x.days());
        for (int i = 0; i < row.length; i++) {
            Checks.due(what + ", at place " + i, row[i], x.planned(i));
        }
        if (days <= 3) {
            Checks.due(what + ", by all", days, x.daysByAll());
        }
        if (days <= 3) {
            x.addScene(1, 0, players, light, 0);
            Checks.due(what + ", and one hour more", days + 1, x.days());
        }
    }

    private static void greatestPlan() {
        Scripthouse x = new Scripthouse();
        x.setChild(0, true);
        for (int i = 0; i < 8; i++) {
            x.addScene(6, i % 4, 1, NIGHT, 0);
        }
        Checks.due("8 days", 8, x.days());
        for (int i = 0; i < 8; i++) {
            Checks.due("the row of all numbers", i, x.planned(i));
            Checks.due("one each night", 24 * i + 18, x.begins(i));
        }
        Checks.refused("no ninth place", x, Checks.IOOBE, () -> x.planned(8));
    }

    private static void openScenesAlone() {
        Scripthouse x = new Scripthouse();
        x.setRates(0, 0);
        for (int i = 0; i < 8; i++) {
            x.addScene(6, 0, 0, NIGHT, 0);
        }
        for (int day = 0; day < 8; day++) {
            Checks.due("days that are left", 8 - day, x.days());
            Checks.due("the first open one", day, x.planned(0));
            Checks.due("the last open one", 7, x.planned(7 - day));
            int open = 8 - day;
            Checks.refused("not so many are open", x, Checks.IOOBE, () -> x.planned(open));
            Checks.due("one is shot", 1, x.shoot(false));
            Checks.due("those that were shot", (2 << day) - 1, x.shot());
            Checks.due("as it was shot", 24 * day + 18, x.begins(day));
        }
        Checks.due("no open scene: no day", 0, x.days());
        Checks.due("no open scene: no day by all", 0, x.daysByAll());
        Checks.refused("no open scene is planned", x, Checks.IOOBE, () -> x.planned(0));
        for (int i = 0; i < 8; i++) {
            Checks.due("a shot scene begins as it was shot", 24 * i + 18, x.begins(i));
        }
        Checks.refused("no ninth scene", x, Checks.IOOBE, () -> x.begins(8));
    }

    private static void tryingAllOrders() {
        for (int count = 1; count <= 8; count++) {
            Scripthouse x = new Scripthouse();
            x.setRates(0, 0);
            for (int i = 0; i < count; i++) {
                x.addScene(5, 0, 0, NIGHT, 0);
            }
            if (count <= 6) {
                Checks.due("all orders of " + count, count, x.daysByAll());
            } else {
                Checks.refused("all orders of " + count, x, Checks.ISE, () -> x.daysByAll());
            }
        }
        Scripthouse y = new Scripthouse();
        y.setRates(0, 0);
        for (int i = 0; i < 8; i++) {
            y.addScene(i < 2 ? 5 : 6, 0, 0, i < 2 ? DAY : NIGHT, 0);
        }
        Checks.refused("8 are open", y, Checks.ISE, () -> y.daysByAll());
        Checks.due("two by day and one at night", 3, y.shoot(false));
        Checks.due("5 are open", 5, y.daysByAll());
        Checks.due("the same", 5, y.days());
        Scripthouse z = new Scripthouse();
        z.addScene(6, 0, 0, NIGHT, 0);
        z.addScene(6, 0, 0, DAY, 0);
        z.addScene(4, 0, 0, DAY, 0);
        Checks.due("the fewest of all orders, not the first order's", 1, z.daysByAll());
    }

    private static void askingChangesNothing() {
        Scripthouse x = new Scripthouse();
        x.setRates(0, 0);
        x.addScene(6, 0, 1, NIGHT, 0);
        x.addScene(6, 1, 3, DAY, 0);
        x.addScene(6, 0, 2, ANY, 2);
        x.shoot(false);
        String first = Checks.state(x);
        for (int i = 0; i < 3; i++) {
            x.daysByAll();
            Checks.due("asked once more", true, first.equals(Checks.state(x)));
        }
    }
}
