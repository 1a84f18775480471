/** Promises 8 to 13 and 20 to 26: money, loans, parts and what comes in. */
public final class MoneyTest {
    private static final int NONE = Scripthouse.NONE;

    public static void main(String[] args) {
        approveAndGrant();
        bills();
        amounts();
        numbers();
        loans();
        parts();
        percents();
        costsComeBackFirst();
        loansComeBackByNumbers();
        partsOfParts();
        eachTimeByItself();
        greatestAmounts();
        Checks.end("MoneyTest");
    }

    private static void approveAndGrant() {
        Scripthouse x = new Scripthouse();
        for (int line = 0; line < 4; line++) {
            Checks.due("approve", 100 + line, x.approve(line, 100 + line));
            Checks.due("approve more", 101 + line, x.approve(line, 1));
        }
        for (int line = 0; line < 4; line++) {
            Checks.due("left", 101 + line, x.left(line));
        }
        Checks.due("grant", 5, x.grant(5));
        Checks.due("grant more", 100005, x.grant(100000));
        Checks.due("fee", 100005, x.fee());
        Checks.due("no costs", 0, x.costs());
    }

    private static void bills() {
        Scripthouse x = new Scripthouse();
        x.approve(3, 100);
        Checks.due("a line pays all", 0, x.bill(3, 60));
        Checks.due("left", 40, x.left(3));
        Checks.refused("no fee", x, Checks.ISE, () -> x.bill(3, 41));
        x.grant(30);
        Checks.refused("too little fee", x, Checks.ISE, () -> x.bill(3, 71));
        Checks.due("some of the fee", 30, x.bill(3, 70));
        Checks.due("left nothing", 0, x.left(3));
        Checks.due("no fee left", 0, x.fee());
        Checks.due("costs", 130, x.costs());
        Checks.due("open", 130, x.open());
        x.grant(8);
        Checks.due("all of it from the fee", 8, x.bill(0, 8));
        x.approve(1, 5);
        Checks.refused("other lines do not pay", x, Checks.ISE, () -> x.bill(0, 1));
    }

    private static void amounts() {
        Scripthouse x = new Scripthouse();
        x.grant(100000);
        for (int wrong : new int[] {0, -1, 100001, Integer.MAX_VALUE, Integer.MIN_VALUE}) {
            Checks.refused("approve " + wrong, x, Checks.IAE, () -> x.approve(0, wrong));
            Checks.refused("grant " + wrong, x, Checks.IAE, () -> x.grant(wrong));
            Checks.refused("bill " + wrong, x, Checks.IAE, () -> x.bill(0, wrong));
            Checks.refused("loan " + wrong, x, Checks.IAE, () -> x.loan(0, wrong));
        }
        for (int wrong : new int[] {0, -1, 1000001, Integer.MAX_VALUE, Integer.MIN_VALUE}) {
            Checks.refused("income " + wrong, x, Checks.IAE, () -> x.income(wrong));
        }
        for (int wrong : new int[] {0, -1, 101, Integer.MAX_VALUE, Integer.MIN_VALUE}) {
            Checks.refused("part " + wrong, x, Checks.IAE, () -> x.part(NONE, 0, wrong));
        }
        Checks.due("the greatest bill", 100000, x.bill(0, 100000));
        Checks.due("the greatest loan", 0, x.loan(0, 100000));
        Checks.due("the least loan", 1, x.loan(5, 1));
    }

    private static void numbers() {
        Scripthouse x = new Scripthouse();
        x.part(NONE, 0, 1);
        x.loan(0, 1);
        for (int wrong : new int[] {-1, 4, Integer.MAX_VALUE, Integer.MIN_VALUE}) {
            Checks.refused("approve line " + wrong, x, Checks.IOOBE, () -> x.approve(wrong, 1));
            Checks.refused("bill line " + wrong, x, Checks.IOOBE, () -> x.bill(wrong, 1));
            Checks.refused("left " + wrong, x, Checks.IOOBE, () -> x.left(wrong));
            Checks.refused("approve line and amount " + wrong, x, Checks.IOOBE, () -> x.approve(wrong, 0));
            Checks.refused("bill line and amount " + wrong, x, Checks.IOOBE, () -> x.bill(wrong, 0));
        }
        for (int wrong : new int[] {-1, 6, Integer.MAX_VALUE, Integer.MIN_VALUE}) {
            Checks.refused("loan person " + wrong, x, Checks.IOOBE, () -> x.loan(wrong, 1));
            Checks.refused("loan person and amount " + wrong, x, Checks.IOOBE, () -> x.loan(wrong, 0));
            Checks.refused("part person " + wrong, x, Checks.IOOBE, () -> x.part(NONE, wrong, 1));
            Checks.refused("part person and percent " + wrong, x, Checks.IOOBE, () -> x.part(0, wrong, 0));
            Checks.refused("got " + wrong, x, Checks.IOOBE, () -> x.got(wrong));
        }
        for (int wrong : new int[] {-2, 1, 12, Integer.MAX_VALUE, Integer.MIN_VALUE}) {
            Checks.refused("part of " + wrong, x, Checks.IOOBE, () -> x.part(wrong, 0, 1));
            Checks.refused("part of and percent " + wrong, x, Checks.IOOBE, () -> x.part(wrong, 0, 101));
        }
        for (int wrong : new int[] {-1, 1, 10, Integer.MAX_VALUE, Integer.MIN_VALUE}) {
            Checks.refused("openOf " + wrong, x, Checks.IOOBE, () -> x.openOf(wrong));
        }
    }

    private static void loans() {
        Scripthouse x = new Scripthouse();
        for (int i = 0; i < 10; i++) {
            Checks.due("number of the loan", i, x.loan(i % 6, 10 + i));
        }
        for (int i = 0; i < 10; i++) {
            Checks.due("open of it", 10 + i, x.openOf(i));
        }
        Checks.refused("an eleventh loan", x, Checks.ISE, () -> x.loan(0, 1));
        Checks.refused("an eleventh loan of nobody", x, Checks.IOOBE, () -> x.loan(6, 1));
        Checks.refused("an eleventh loan of nothing", x, Checks.IAE, () -> x.loan(0, 0));
        Checks.due("a loan is no fee", 0, x.fee());
        Checks.due("a loan is no cost", 0, x.costs());
        x.income(1000);
        Checks.refused("loans that came back are loans", x, Checks.ISE, () -> x.loan(0, 1));
    }

    private static void parts() {
        Scripthouse x = new Scripthouse();
        for (int i = 0; i < 12; i++) {
            Checks.due("number of the part", i, x.part(i - 1, i % 6, 100 - i));
        }
        Checks.refused("a thirteenth part", x, Checks.ISE, () -> x.part(11, 0, 1));
        Checks.refused("a thirteenth part of none", x, Checks.IOOBE, () -> x.part(12, 0, 1));
        Checks.refused("a thirteenth part of nothing", x, Checks.IAE, () -> x.part(11, 0, 0));
    }

    private static void percents() {
        Scripthouse x = new Scripthouse();
        x.part(NONE, 0, 60);
        x.part(NONE, 1, 40);
        Checks.refused("above 100 of all", x, Checks.ISE, () -> x.part(NONE, 2, 1));
        x.part(0, 2, 99);
        Checks.refused("above 100 of a part", x, Checks.ISE, () -> x.part(0, 3, 2));
        Checks.due("100 of a part", 3, x.part(0, 3, 1));
        Checks.due("each part by itself", 4, x.part(1, 3, 100));
        Checks.due("a part of a part", 5, x.part(2, 4, 100));
        Checks.refused("it is full", x, Checks.ISE, () -> x.part(2, 4, 1));
    }

    private static void costsComeBackFirst() {
        Scripthouse x = new Scripthouse();
        x.approve(0, 500);
        x.bill(0, 300);
        x.loan(1, 100);
        Checks.due("nothing for the house", 0, x.income(299));
        Checks.due("one is open", 1, x.open());
        Checks.due("costs stay", 300, x.costs());
        Checks.due("the loan waits", 100, x.openOf(0));
        Checks.due("the loan comes back in part", 0, x.income(51));
        Checks.due("costs came back", 0, x.open());
        Checks.due("half of the loan", 50, x.openOf(0));
        Checks.due("its person got it", 50, x.got(1));
        x.bill(0, 20);
        Checks.due("a new cost goes first again", 20, x.open());
        Checks.due("then the loan, then the house", 30, x.income(100));
        Checks.due("the house", 30, x.house());
        Checks.due("the loan is back", 0, x.openOf(0));
        Checks.due("all of it", 100, x.got(1));
        Checks.due("what comes in is no fee", 0, x.fee());
        Checks.due("and no budget", 180, x.left(0));
    }

    private static void loansComeBackByNumbers() {
        Scripthouse x = new Scripthouse();
        x.loan(2, 100);
        x.loan(0, 50);
        x.loan(2, 25);
        Checks.due("less than the first", 0, x.income(60));
        Checks.due("the first", 40, x.openOf(0));
        Checks.due("the second waits", 50, x.openOf(1));
        Checks.due("some of the second", 0, x.income(45));
        Checks.due("the first is back", 0, x.openOf(0));
        Checks.due("the second has some", 45, x.openOf(1));
        Checks.due("all and more", 5, x.income(75));
        Checks.due("two loans of one person", 125, x.got(2));
        Checks.due("the other's", 50, x.got(0));
        Checks.due("the rest", 5, x.house());
    }

    private static void partsOfParts() {
        Scripthouse x = new Scripthouse();
        x.part(NONE, 0, 50);
        x.part(NONE, 1, 33);
        x.part(0, 2, 10);
        x.part(0, 3, 20);
        x.part(2, 4, 50);
        x.part(1, 1, 30);
        Checks.due("all is for the parts", 999, x.income(999));
        // of all 499 and 329; of 499: 49 and 99; of 49: 24; of 329: 98 to the same person
        Checks.due("499 less 49 and 99", 351, x.got(0));
        Checks.due("231 and 98", 329, x.got(1));
        Checks.due("49 less 24", 25, x.got(2));
        Checks.due("99", 99, x.got(3));
        Checks.due("24", 24, x.got(4));
        Checks.due("nothing", 0, x.got(5));
        Checks.due("999 less 499 and 329", 171, x.house());
    }

    private static void eachTimeByItself() {
        Scripthouse x = new Scripthouse();
        x.part(NONE, 0, 50);
        x.part(NONE, 1, 50);
        for (int i = 0; i < 10; i++) {
            Checks.due("one each time", 1, x.income(1));
        }
        Checks.due("half of one is none", 0, x.got(0) + x.got(1));
        Checks.due("the house has it", 10, x.house());
        x.income(3);
        Checks.due("rounded down", 1, x.got(0));
        Checks.due("both", 1, x.got(1));
        Checks.due("one is left", 11, x.house());
    }

    private static void greatestAmounts() {
        Scripthouse x = new Scripthouse();
        x.part(NONE, 0, 100);
        x.part(0, 1, 99);
        for (int i = 0; i < 500; i++) {
            x.income(1000000);
        }
        Checks.due("much", 495000000, x.got(1));
        Checks.due("little", 5000000, x.got(0));
        Checks.due("nothing", 0, x.house());
    }
}
