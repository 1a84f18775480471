/** The example of README.md, call by call. */
public final class ReadmeTest {
    public static void main(String[] args) {
        Scripthouse house = new Scripthouse();
        Checks.due("the first scene", 0, house.addScene(4, 0, 1, Scripthouse.DAY, 0));
        Checks.due("the second scene", 1, house.addScene(3, 0, 1, Scripthouse.NIGHT, 1));
        Checks.due("it begins on day 0, in the hour 18", 18, house.begins(1));
        Checks.due("the line 0", 1000, house.approve(0, 1000));
        Checks.due("2 scenes are shot", 2, house.shoot(false));
        Checks.due("7 hours at 100", 700, house.costs());
        Checks.due("the first part", 0, house.part(Scripthouse.NONE, 2, 25));
        Checks.due("what is left behind the costs", 300, house.income(1000));
        Checks.due("25 percent of it", 75, house.got(2));
        Checks.end("ReadmeTest");
    }
}
