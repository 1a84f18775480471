/** Promises 1 to 4 and 14 to 19: scenes, players, places, and the plan without a day shot. */
public final class PlanTest {
    private static final int ANY = Scripthouse.ANY, DAY = Scripthouse.DAY, NIGHT = Scripthouse.NIGHT;

    public static void main(String[] args) {
        newObject();
        addSceneAnswers();
        addSceneRefuses();
        ranges();
        hoursOfADay();
        lights();
        moves();
        rests();
        children();
        aheads();
        firstOfTheBest();
        asked();
        eightDays();
        tooManyForAll();
        Checks.end("PlanTest");
    }

    private static void newObject() {
        Scripthouse x = new Scripthouse();
        Checks.due("a new object has no day shot", 0, x.today());
        Checks.due("a new object has no scene shot", 0, x.shot());
        Checks.due("a new object has no plan", 0, x.days());
        Checks.due("a new object has no plan by all", 0, x.daysByAll());
        Checks.due("a new object has no scenes", Checks.IOOBE, () -> x.begins(0));
        Checks.due("a new object plans no scene", Checks.IOOBE, () -> x.planned(0));
        Checks.due("a new object has no fee", 0, x.fee() + x.costs() + x.open() + x.house());
        for (int i = 0; i < 6; i++) {
            Checks.due("nobody got money", 0, x.got(i));
            Checks.due("no player is a child", false, x.setChild(i, false));
        }
        for (int i = 0; i < 4; i++) {
            Checks.due("no line has money", 0, x.left(i));
            Checks.due("all places are indoors", false, x.setOut(i, false));
        }
        Checks.due("no loans", Checks.IOOBE, () -> x.openOf(0));
        Checks.due("no parts", Checks.IOOBE, () -> x.part(0, 0, 1));
        Checks.due("the cover is not held", false, x.hold(false));
    }

    private static void addSceneAnswers() {
        Scripthouse x = new Scripthouse();
        for (int i = 0; i < 8; i++) {
            Checks.due("number of the scene", i, x.addScene(1 + i % 6, i % 4, i * 9, i % 3, (1 << i) - 1));
        }
        Checks.refused("a ninth scene", x, Checks.ISE, () -> x.addScene(1, 0, 0, ANY, 255));
        Checks.refused("a ninth scene with wrong hours", x, Checks.IAE, () -> x.addScene(0, 0, 0, ANY, 0));
        Checks.refused("a ninth scene with a wrong ahead", x, Checks.IAE, () -> x.addScene(1, 0, 0, ANY, 256));
    }

    private static void addSceneRefuses() {
        Scripthouse x = new Scripthouse();
        x.addScene(2, 0, 1, ANY, 0);
        x.addScene(2, 0, 2, ANY, 1);
        int[][] wrongs = {
            {0, 0, 0, 0, 0}, {7, 0, 0, 0, 0}, {-1, 0, 0, 0, 0}, {Integer.MAX_VALUE, 0, 0, 0, 0},
            {1, -1, 0, 0, 0}, {1, 4, 0, 0, 0}, {1, Integer.MIN_VALUE, 0, 0, 0},
            {1, 0, -1, 0, 0}, {1, 0, 64, 0, 0}, {1, 0, Integer.MAX_VALUE, 0, 0},
            {1, 0, 0, -1, 0}, {1, 0, 0, 3, 0},
            {1, 0, 0, 0, 4}, {1, 0, 0, 0, 7}, {1, 0, 0, 0, -1}, {1, 0, 0, 0, Integer.MIN_VALUE},
        };
        for (int[] w : wrongs) {
            Checks.refused("addScene " + java.util.Arrays.toString(w), x, Checks.IAE,
                    () -> x.addScene(w[0], w[1], w[2], w[3], w[4]));
        }
        Checks.due("the greatest of all", 2, x.addScene(6, 3, 63, NIGHT, 3));
    }

    private static void ranges() {
        Scripthouse x = new Scripthouse();
        for (int wrong : new int[] {-1, 4, Integer.MAX_VALUE, Integer.MIN_VALUE}) {
            Checks.refused("setOut " + wrong, x, Checks.IOOBE, () -> x.setOut(wrong, true) ? 1 : 0);
        }
        for (int wrong : new int[] {-1, 6, 32, Integer.MIN_VALUE}) {
            Checks.refused("setChild " + wrong, x, Checks.IOOBE, () -> x.setChild(wrong, true) ? 1 : 0);
        }
        for (int i = 0; i < 4; i++) {
            Checks.due("was indoors", false, x.setOut(i, true));
            Checks.due("was outdoors", true, x.setOut(i, true));
            Checks.due("was outdoors still", true, x.setOut(i, false));
            Checks.due("was indoors again", false, x.setOut(i, false));
        }
        for (int i = 0; i < 6; i++) {
            Checks.due("was no child", false, x.setChild(i, true));
            Checks.due("was a child", true, x.setChild(i, true));
            Checks.due("was a child still", true, x.setChild(i, false));
            Checks.due("was no child again", false, x.setChild(i, false));
        }
    }

    private static void hoursOfADay() {
        Scripthouse x = new Scripthouse();
        x.addScene(6, 0, 0, ANY, 0);
        x.addScene(6, 0, 0, ANY, 1);
        x.addScene(4, 0, 0, ANY, 2);
        Checks.due("16 hours are a day", 1, x.days());
        Checks.due("the first hour", 8, x.begins(0));
        Checks.due("the hour behind it", 14, x.begins(1));
        Checks.due("the last hours", 20, x.begins(2));
        x.addScene(1, 0, 0, ANY, 4);
        Checks.due("17 hours are two", 2, x.days());
        Checks.due("the first hour of the next day", 32, x.begins(3));
    }

    private static void lights() {
        Scripthouse x = new Scripthouse();
        x.addScene(4, 0, 0, ANY, 0);
        x.addScene(6, 0, 0, DAY, 1);
        Checks.due("a scene for the day ends by 18", 12, x.begins(1));
        x.addScene(1, 0, 0, DAY, 2);
        Checks.due("another one comes on the next day", 32, x.begins(2));
        x.addScene(6, 0, 0, NIGHT, 4);
        Checks.due("a scene for the night begins at 18", 24 + 18, x.begins(3));
        x.addScene(1, 0, 0, ANY, 8);
        Checks.due("nothing begins at 24", 56, x.begins(4));
        Scripthouse y = new Scripthouse();
        y.addScene(5, 0, 0, ANY, 0);
        y.addScene(6, 0, 0, ANY, 1);
        y.addScene(5, 0, 0, NIGHT, 2);
        Checks.due("the night has begun", 19, y.begins(2));
        y.addScene(1, 0, 0, NIGHT, 4);
        Checks.due("a night is over at 24", 24 + 18, y.begins(3));
    }

    private static void moves() {
        Scripthouse x = new Scripthouse();
        x.addScene(2, 0, 0, ANY, 0);
        x.addScene(2, 1, 0, ANY, 1);
        x.addScene(2, 1, 0, ANY, 2);
        x.addScene(2, 0, 0, ANY, 4);
        Checks.due("a move is an hour", 11, x.begins(1));
        Checks.due("the same place is none", 13, x.begins(2));
        Checks.due("a move back is one", 16, x.begins(3));
        x.addScene(1, 3, 0, NIGHT, 8);
        Checks.due("a move goes into the hours ahead of the night: 18 is 1 later", 19, x.begins(4));
        Scripthouse y = new Scripthouse();
        y.addScene(6, 0, 0, ANY, 0);
        y.addScene(1, 1, 0, NIGHT, 1);
        Checks.due("a move ends long ahead of the night", 18, y.begins(1));
        y.addScene(6, 1, 0, NIGHT, 2);
        y.addScene(1, 2, 0, ANY, 4);
        Checks.due("no move on the next day", 48 + 8, y.begins(3));
    }

    private static void rests() {
        Scripthouse x = new Scripthouse();
        x.addScene(6, 0, 1, NIGHT, 0);
        x.addScene(2, 0, 3, ANY, 1);
        Checks.due("a player has 11 hours", 24 + 11, x.begins(1));
        x.addScene(2, 0, 2, ANY, 2);
        Checks.due("no rest on the same day", 24 + 13, x.begins(2));
        Scripthouse y = new Scripthouse();
        y.addScene(4, 0, 1, NIGHT, 0);
        y.addScene(6, 0, 2, NIGHT, 1);
        y.addScene(2, 0, 1, ANY, 2);
        Checks.due("an end at 22 is a rest up to 9, the next day's scene is there", 48 + 8, y.begins(2));
        Scripthouse z = new Scripthouse();
        z.addScene(4, 0, 1, NIGHT, 0);
        z.addScene(6, 0, 4, DAY, 1);
        z.addScene(6, 0, 1, DAY, 2);
        Checks.due("others need no rest", 24 + 8, z.begins(1));
        Checks.due("the day has no room behind it", 48 + 8, z.begins(2));
        Scripthouse w = new Scripthouse();
        w.addScene(4, 0, 33, NIGHT, 0);
        w.addScene(6, 0, 32, DAY, 1);
        Checks.due("11 hours behind 22", 24 + 9, w.begins(1));
    }

    private static void children() {
        Scripthouse x = new Scripthouse();
        x.setChild(2, true);
        x.addScene(4, 0, 4, ANY, 0);
        x.addScene(2, 0, 6, ANY, 1);
        Checks.due("6 hours of a child", 1, x.days());
        x.addScene(1, 0, 4, ANY, 2);
        Checks.due("a seventh hour", 2, x.days());
        Checks.due("comes on the next day", 32, x.begins(2));
        x.addScene(6, 0, 2, ANY, 4);
        Checks.due("others go on", 33, x.begins(3));
        Checks.due("was a child", true, x.setChild(2, false));
        Checks.due("the grown have no limit", 1, x.days());
        x.setChild(1, true);
        Checks.due("another child", 2, x.days());
        Checks.due("by all too", 2, x.daysByAll());
    }

    private static void aheads() {
        Scripthouse x = new Scripthouse();
        x.addScene(6, 0, 0, NIGHT, 0);
        x.addScene(6, 0, 0, DAY, 1);
        Checks.due("the night must be ahead of the day", 2, x.days());
        Checks.due("first the night", 0, x.planned(0));
        Checks.due("then the day", 1, x.planned(1));
        Scripthouse y = new Scripthouse();
        y.addScene(6, 0, 0, NIGHT, 0);
        y.addScene(6, 0, 0, DAY, 0);
        Checks.due("they are free", 1, y.days());
        Checks.due("first the day", 1, y.planned(0));
        Checks.due("then the night", 0, y.planned(1));
    }

    private static void firstOfTheBest() {
        Scripthouse x = new Scripthouse();
        x.addScene(1, 0, 0, ANY, 0);
        x.addScene(1, 1, 0, ANY, 0);
        x.addScene(1, 0, 0, ANY, 0);
        Checks.due("the lesser row, not the fewest moves", 0, x.planned(0));
        Checks.due("the lesser row", 1, x.planned(1));
        Checks.due("the lesser row's end", 2, x.planned(2));
        Checks.due("with its moves", 12, x.begins(2));
        Scripthouse y = new Scripthouse();
        y.addScene(4, 0, 0, ANY, 0);
        y.addScene(6, 0, 0, NIGHT, 0);
        y.addScene(6, 0, 0, DAY, 0);
        y.addScene(6, 1, 0, ANY, 0);
        Checks.due("two days", 2, y.days());
        Checks.due("the lesser row at place 0", 0, y.planned(0));
        Checks.due("at place 1", 1, y.planned(1));
        Checks.due("at place 2", 2, y.planned(2));
        Checks.due("at place 3", 3, y.planned(3));
    }

    private static void asked() {
        Scripthouse x = new Scripthouse();
        x.addScene(2, 0, 0, ANY, 0);
        x.addScene(2, 0, 0, ANY, 0);
        for (int wrong : new int[] {-1, 2, 8, Integer.MAX_VALUE, Integer.MIN_VALUE}) {
            Checks.refused("planned " + wrong, x, Checks.IOOBE, () -> x.planned(wrong));
            Checks.refused("begins " + wrong, x, Checks.IOOBE, () -> x.begins(wrong));
        }
        String before = Checks.state(x);
        Checks.due("asking changes nothing", true, before.equals(Checks.state(x)));
    }

    private static void eightDays() {
        Scripthouse x = new Scripthouse();
        for (int i = 0; i < 8; i++) {
            x.addScene(4, 0, 0, NIGHT, 0);
        }
        Checks.due("eight nights", 8, x.days());
        for (int i = 0; i < 8; i++) {
            Checks.due("one on each day", i, x.planned(i));
            Checks.due("each at 18", 24 * i + 18, x.begins(i));
        }
    }

    private static void tooManyForAll() {
        Scripthouse x = new Scripthouse();
        for (int i = 0; i < 6; i++) {
            x.addScene(6, 0, 0, NIGHT, 0);
        }
        Checks.due("six nights", 6, x.daysByAll());
        Checks.due("six nights of the plan", 6, x.days());
        x.addScene(1, 0, 0, DAY, 0);
        Checks.refused("seven open scenes", x, Checks.ISE, () -> x.daysByAll());
        Checks.due("the plan has seven", 6, x.days());
        x.addScene(1, 0, 0, DAY, 0);
        Checks.refused("eight open scenes", x, Checks.ISE, () -> x.daysByAll());
        Checks.due("the days' scenes come ahead of the last night", 6, x.planned(5));
        x.setRates(0, 0);
        x.shoot(false);
        Checks.due("one is shot", 1, x.shot());
        Checks.refused("seven are still open", x, Checks.ISE, () -> x.daysByAll());
        x.shoot(false);
        Checks.due("six are open", 4, x.daysByAll());
        Checks.due("the same", 4, x.days());
    }
}
