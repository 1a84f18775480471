/** Terms on money, loans, parts and what comes in, sentence by sentence: each at its edge (promises 8 to 13, 20 to 26). */
public final class MoneyEdgesTest {
    private static final int NONE = Scripthouse.NONE;

    public static void main(String[] args) {
        nothingYet();
        linesAreTheirOwn();
        paidFromTheLine();
        paidFromTheFee();
        cannotBePaid();
        everythingPaidIsCosts();
        greatestSums();
        costsComeBackFirst();
        newCostsComeBackFirst();
        loansByRisingNumbers();
        loansThatCameBack();
        laterLoans();
        noParts();
        leastAndGreatestPercents();
        partsOfAllTogether();
        partsOfAPartTogether();
        roundedDown();
        eachPartByItself();
        eachIncomeByItself();
        chainOfParts();
        onePersonInAllLayers();
        partsFromNowOn();
        nothingIsLeftForParts();
        Checks.end("MoneyEdgesTest");
    }

    private static Scripthouse withPart(int percent) {
        Scripthouse x = new Scripthouse();
        x.part(NONE, 0, percent);
        return x;
    }

    // ---- lines, the fee, and costs

    private static void nothingYet() {
        Scripthouse x = new Scripthouse();
        for (int line = 0; line < 4; line++) {
            int n = line;
            Checks.due("a budget is 0 at first", 0, x.left(line));
            Checks.refused("nothing can be paid", x, Checks.ISE, () -> x.bill(n, 1));
        }
        for (int person = 0; person < 6; person++) {
            Checks.due("nobody got anything", 0, x.got(person));
        }
        Checks.due("the fee is 0 at first", 0, x.fee());
        Checks.due("no costs", 0, x.costs());
        Checks.due("nothing is open", 0, x.open());
        Checks.due("nothing for the house", 0, x.house());
        Checks.refused("no loan", x, Checks.IOOBE, () -> x.openOf(0));
        Checks.refused("no part", x, Checks.IOOBE, () -> x.part(0, 0, 1));
        Checks.due("what comes in is the house's", 1, x.income(1));
        Checks.due("all of it", 1, x.house());
    }

    private static void linesAreTheirOwn() {
        for (int line = 0; line < 4; line++) {
            Scripthouse x = new Scripthouse();
            Checks.due("approve", 7, x.approve(line, 7));
            Checks.due("approve so much more", 12, x.approve(line, 5));
            for (int other = 0; other < 4; other++) {
                int n = other;
                Checks.due("left", other == line ? 12 : 0, x.left(other));
                if (other != line) {
                    Checks.refused("another line pays nothing", x, Checks.ISE, () -> x.bill(n, 1));
                }
            }
            Checks.due("a budget is no fee", 0, x.fee());
            Checks.due("a budget is no cost", 0, x.costs());
        }
    }

    private static void paidFromTheLine() {
        for (int line = 0; line < 4; line++) {
            Scripthouse x = new Scripthouse();
            x.approve(line, 10);
            x.grant(10);
            Checks.due("one less than is left", 0, x.bill(line, 9));
            Checks.due("one is left", 1, x.left(line));
            Checks.due("just what is left", 0, x.bill(line, 1));
            Checks.due("nothing is left", 0, x.left(line));
            Checks.due("the fee stays", 10, x.fee());
        }
    }

    private static void paidFromTheFee() {
        for (int line = 0; line < 4; line++) {
            Scripthouse x = new Scripthouse();
            x.approve(line, 10);
            x.grant(10);
            Checks.due("one more than is left", 1, x.bill(line, 11));
            Checks.due("the line is empty", 0, x.left(line));
            Checks.due("the fee paid it", 9, x.fee());
            Checks.due("an empty line pays nothing", 9, x.bill(line, 9));
            Checks.due("the fee is empty", 0, x.fee());
            Checks.due("a new budget is whole", 3, x.approve(line, 3));
        }
    }

    private static void cannotBePaid() {
        for (int line = 0; line < 4; line++) {
            int n = line;
            Scripthouse x = new Scripthouse();
            x.approve(line, 10);
            Checks.refused("one more than a line has, without a fee", x, Checks.ISE, () -> x.bill(n, 11));
            x.grant(5);
            Checks.refused("one more than both have", x, Checks.ISE, () -> x.bill(n, 16));
            Checks.refused("the greatest bill", x, Checks.ISE, () -> x.bill(n, 100000));
            Checks.due("just what both have", 5, x.bill(line, 15));
            Checks.refused("nothing is left", x, Checks.ISE, () -> x.bill(n, 1));
        }
    }

    private static void everythingPaidIsCosts() {
        Scripthouse x = new Scripthouse();
        x.approve(0, 100);
        x.approve(3, 10);
        x.grant(200);
        x.bill(3, 10);
        Checks.due("of a line", 10, x.costs());
        x.bill(3, 20);
        Checks.due("of the fee", 30, x.costs());
        x.addScene(1, 0, 0, Scripthouse.ANY, 0);
        x.hold(true);
        x.shoot(false);
        Checks.due("of a day, by line and by fee", 180, x.costs());
        Checks.due("all of it is open", 180, x.open());
        x.loan(0, 500);
        Checks.due("a loan is no cost", 180, x.costs());
        Checks.due("a loan is not open of the costs", 180, x.open());
        x.income(80);
        Checks.due("costs that came back were paid", 180, x.costs());
        Checks.due("the rest is open", 100, x.open());
    }

    private static void greatestSums() {
        Scripthouse x = new Scripthouse();
        for (int i = 1; i <= 100; i++) {
            Checks.due("the greatest budgets", 100000 * i, x.approve(3, 100000));
            Checks.due("the greatest fees", 100000 * i, x.grant(100000));
        }
        for (int i = 0; i < 100; i++) {
            Checks.due("the greatest bills of the line", 0, x.bill(3, 100000));
        }
        for (int i = 0; i < 100; i++) {
            Checks.due("the greatest bills of the fee", 100000, x.bill(3, 100000));
        }
        Checks.due("all costs", 20000000, x.costs());
        for (int i = 1; i <= 20; i++) {
            Checks.due("the greatest incomes are for the costs", 0, x.income(1000000));
            Checks.due("open", 20000000 - 1000000 * i, x.open());
        }
        Checks.due("then for the house", 1000000, x.income(1000000));
        Scripthouse y = new Scripthouse();
        y.part(NONE, 5, 100);
        for (int i = 1; i <= 510; i++) {
            Checks.due("the greatest incomes", 1000000, y.income(1000000));
        }
        Checks.due("all of them", 510000000, y.got(5));
    }

    // ---- layers

    private static void costsComeBackFirst() {
        int[][] rows = {{1, 0, 99}, {99, 0, 1}, {100, 0, 0}, {101, 1, 0}, {1000000, 999900, 0}};
        for (int[] row : rows) {
            Scripthouse x = new Scripthouse();
            x.grant(100);
            x.bill(0, 100);
            Checks.due("behind costs of 100, of " + row[0], row[1], x.income(row[0]));
            Checks.due("open of the costs", row[2], x.open());
            Checks.due("the house", row[1], x.house());
            Checks.due("costs stay", 100, x.costs());
            Checks.due("the fee stays", 0, x.fee());
        }
    }

    private static void newCostsComeBackFirst() {
        Scripthouse x = new Scripthouse();
        x.grant(100);
        x.loan(0, 10);
        x.bill(0, 40);
        Checks.due("all costs and some of the loan", 0, x.income(45));
        Checks.due("open of the loan", 5, x.openOf(0));
        x.bill(0, 60);
        Checks.due("60 are open", 60, x.open());
        Checks.due("not for the loan", 0, x.income(60));
        Checks.due("the loan waited", 5, x.openOf(0));
        Checks.due("costs are back", 0, x.open());
        Checks.due("all costs", 100, x.costs());
        Checks.due("the loan, and one is left", 1, x.income(6));
        Checks.due("the loan is back", 0, x.openOf(0));
    }

    private static void loansByRisingNumbers() {
        int[][] rows = {
            {1, 9, 20, 30, 0}, {9, 1, 20, 30, 0}, {10, 0, 20, 30, 0}, {11, 0, 19, 30, 0}, {29, 0, 1, 30, 0},
            {30, 0, 0, 30, 0}, {31, 0, 0, 29, 0}, {59, 0, 0, 1, 0}, {60, 0, 0, 0, 0}, {61, 0, 0, 0, 1},
        };
        for (int[] row : rows) {
            Scripthouse x = new Scripthouse();
            x.loan(5, 10);
            x.loan(0, 20);
            x.loan(5, 30);
            Checks.due("behind the loans, of " + row[0], row[4], x.income(row[0]));
            for (int loan = 0; loan < 3; loan++) {
                Checks.due("open of loan " + loan + " of " + row[0], row[1 + loan], x.openOf(loan));
            }
            Checks.due("the person of two loans, of " + row[0], 40 - row[1] - row[3], x.got(5));
            Checks.due("the person of one loan, of " + row[0], 20 - row[2], x.got(0));
            Checks.due("the house, of " + row[0], row[4], x.house());
        }
    }

    private static void loansThatCameBack() {
        Scripthouse x = new Scripthouse();
        for (int i = 0; i < 10; i++) {
            x.loan(i % 6, 1);
        }
        for (int i = 0; i < 10; i++) {
            Checks.due("one by one", 0, x.income(1));
            for (int loan = 0; loan < 10; loan++) {
                Checks.due("open of loan " + loan, loan <= i ? 0 : 1, x.openOf(loan));
            }
        }
        Checks.due("all came back", 1, x.income(1));
        Checks.due("two loans of one person", 2, x.got(3));
        Checks.due("one loan of another", 1, x.got(4));
        Checks.due("the house", 1, x.house());
    }

    private static void laterLoans() {
        Scripthouse x = new Scripthouse();
        x.loan(1, 5);
        x.income(100);
        x.loan(2, 5);
        Checks.due("a loan behind one that came back", 95, x.income(100));
        Checks.due("the first person", 5, x.got(1));
        Checks.due("the second person", 5, x.got(2));
        Checks.due("the house", 190, x.house());
    }

    // ---- parts

    private static void noParts() {
        Scripthouse x = new Scripthouse();
        Checks.due("all is for the house", 1000000, x.income(1000000));
        Checks.due("the house", 1000000, x.house());
        for (int person = 0; person < 6; person++) {
            Checks.due("nobody", 0, x.got(person));
        }
    }

    private static void leastAndGreatestPercents() {
        Scripthouse x = withPart(1);
        Checks.due("one percent of 99", 99, x.income(99));
        Checks.due("is none", 0, x.got(0));
        x.income(100);
        Checks.due("one percent of 100", 1, x.got(0));
        Checks.due("the house has 99 twice", 198, x.house());
        Scripthouse y = withPart(100);
        y.income(1);
        y.income(1000000);
        Checks.due("100 percent are all", 1000001, y.got(0));
        Checks.due("nothing for the house", 0, y.house());
        Scripthouse z = withPart(99);
        z.income(1);
        Checks.due("99 percent of one are none", 0, z.got(0));
        z.income(1000000);
        Checks.due("99 percent of the greatest income", 990000, z.got(0));
        Checks.due("the house", 10001, z.house());
    }

    private static void partsOfAllTogether() {
        Scripthouse x = new Scripthouse();
        for (int i = 0; i < 12; i++) {
            Checks.due("part " + i, i, x.part(NONE, i % 6, i < 11 ? 8 : 12));
        }
        x.income(1000);
        Checks.due("100 percent by 12 parts: nothing for the house", 0, x.house());
        Checks.due("two parts of 8", 160, x.got(4));
        Checks.due("parts of 8 and 12", 200, x.got(5));
        Scripthouse y = withPart(99);
        Checks.refused("101 percent of all", y, Checks.ISE, () -> y.part(NONE, 1, 2));
        Checks.due("100 percent of all", 1, y.part(NONE, 1, 1));
        Checks.due("a part of a part has its own 100", 2, y.part(0, 2, 100));
        Checks.due("so has the next", 3, y.part(1, 3, 100));
    }

    private static void partsOfAPartTogether() {
        Scripthouse x = withPart(50);
        for (int i = 1; i < 11; i++) {
            Checks.due("part " + i, i, x.part(0, 1 + i % 5, 10));
        }
        Checks.refused("101 percent of a part", x, Checks.ISE, () -> x.part(0, 0, 1));
        x.income(1000);
        Checks.due("nothing for the holder", 0, x.got(0));
        Checks.due("two parts of 10", 100, x.got(1));
        Checks.due("the house has its half", 500, x.house());
        Checks.due("the rest of all", 11, x.part(NONE, 0, 50));
        x.income(1000);
        Checks.due("the house has nothing more", 500, x.house());
        Checks.due("the holder of the last part", 500, x.got(0));
    }

    private static void roundedDown() {
        for (int percent = 1; percent <= 100; percent++) {
            for (int amount : new int[] {1, 2, 49, 50, 51, 99, 100, 101, 12345, 999999, 1000000}) {
                Scripthouse x = withPart(percent);
                x.part(0, 1, percent);
                x.income(amount);
                int has = (int) ((long) amount * percent / 100);
                int of = has * percent / 100;
                Checks.due(percent + " percent of " + amount, has - of, x.got(0));
                Checks.due("of which " + percent + " percent", of, x.got(1));
                Checks.due("the house", amount - has, x.house());
            }
        }
    }

    private static void eachPartByItself() {
        Scripthouse x = new Scripthouse();
        x.part(NONE, 0, 33);
        x.part(NONE, 1, 33);
        x.part(NONE, 2, 34);
        x.income(10);
        Checks.due("3.3 of 10", 3, x.got(0));
        Checks.due("3.3 of 10, not of what is left", 3, x.got(1));
        Checks.due("3.4 of 10", 3, x.got(2));
        Checks.due("what is left by them", 1, x.house());
        Scripthouse y = withPart(100);
        y.part(0, 1, 50);
        y.part(0, 2, 50);
        y.income(3);
        Checks.due("half of 3", 1, y.got(1));
        Checks.due("half of 3, not of 2", 1, y.got(2));
        Checks.due("the holder has what is left by them", 1, y.got(0));
        Checks.due("not the house", 0, y.house());
    }

    private static void eachIncomeByItself() {
        Scripthouse x = withPart(50);
        for (int i = 0; i < 9; i++) {
            x.income(1);
        }
        Checks.due("half of one is none, nine times", 0, x.got(0));
        x.income(9);
        Checks.due("half of 9", 4, x.got(0));
        Checks.due("the house", 14, x.house());
    }

    private static void chainOfParts() {
        Scripthouse x = new Scripthouse();
        for (int i = 0; i < 12; i++) {
            x.part(i - 1, i % 6, i == 11 ? 50 : 100);
        }
        x.income(1001);
        Checks.due("the last of 12", 500, x.got(5));
        Checks.due("the one ahead of it has what is left", 501, x.got(4));
        for (int person = 0; person < 4; person++) {
            Checks.due("the others have nothing", 0, x.got(person));
        }
        Checks.due("nor the house", 0, x.house());
        Scripthouse y = new Scripthouse();
        for (int i = 0; i < 12; i++) {
            y.part(i - 1, i % 2, 50);
        }
        y.income(2048);
        // 1024 512 256 128 64 32 16 8 4 2 1 0, each less the next
        Checks.due("even ones", 512 + 128 + 32 + 8 + 2 + 1, y.got(0));
        Checks.due("odd ones", 256 + 64 + 16 + 4 + 1, y.got(1));
        Checks.due("half is the house's", 1024, y.house());
    }

    private static void onePersonInAllLayers() {
        Scripthouse x = new Scripthouse();
        x.loan(2, 10);
        x.loan(2, 20);
        x.part(NONE, 2, 50);
        x.part(0, 2, 30);
        x.part(1, 2, 100);
        x.part(NONE, 2, 10);
        Checks.due("behind the loans", 101, x.income(131));
        Checks.due("30 of loans, 50 and 10 of parts", 90, x.got(2));
        Checks.due("the house", 41, x.house());
    }

    private static void partsFromNowOn() {
        Scripthouse x = new Scripthouse();
        x.income(100);
        x.part(NONE, 0, 100);
        Checks.due("a later part has nothing of it", 0, x.got(0));
        x.income(100);
        x.part(0, 1, 100);
        Checks.due("the holder keeps what it has", 100, x.got(0));
        x.income(100);
        Checks.due("then the part of it", 100, x.got(1));
        Checks.due("the holder has nothing more", 100, x.got(0));
        Checks.due("the house has the first", 100, x.house());
    }

    private static void nothingIsLeftForParts() {
        Scripthouse x = withPart(100);
        x.part(0, 1, 100);
        x.grant(50);
        x.bill(0, 50);
        x.loan(3, 50);
        Checks.due("all for costs and loan", 0, x.income(100));
        Checks.due("none for the holder", 0, x.got(0));
        Checks.due("none for the part of it", 0, x.got(1));
        Checks.due("none for the house", 0, x.house());
        Checks.due("one more", 1, x.income(1));
        Checks.due("is for the last part", 1, x.got(1));
        Checks.due("the loan's person", 50, x.got(3));
    }
}
