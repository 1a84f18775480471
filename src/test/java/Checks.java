import java.util.function.LongSupplier;
import java.util.function.Supplier;
import java.util.function.ToLongFunction;

/** What the tests count and say; each test's main ends with end(). */
final class Checks {
    static final long IOOBE = Long.MIN_VALUE, IAE = Long.MIN_VALUE + 1, ISE = Long.MIN_VALUE + 2;
    private static final long OTHER = Long.MIN_VALUE + 3;

    private static int done = 0;
    private static int wrong = 0;

    private Checks() {
    }

    /** What a call answers, or which exception it throws; a subclass, as the machine throws it, is none of them. */
    static long answer(LongSupplier call) {
        try {
            return call.getAsLong();
        } catch (RuntimeException e) {
            if (e.getClass() == IndexOutOfBoundsException.class) {
                return IOOBE;
            }
            if (e.getClass() == IllegalArgumentException.class) {
                return IAE;
            }
            return e.getClass() == IllegalStateException.class ? ISE : OTHER;
        }
    }

    static void due(String what, long want, LongSupplier call) {
        due(what, want, answer(call));
    }

    static void due(String what, boolean want, boolean got) {
        due(what, want ? 1 : 0, got ? 1 : 0);
    }

    static void due(String what, long want, long got) {
        done++;
        if (want != got) {
            wrong++;
            if (wrong <= 20) {
                System.out.println(what + ": due is " + name(want) + ", answered " + name(got));
            }
        }
    }

    private static String name(long answer) {
        if (answer == IOOBE) {
            return "IndexOutOfBoundsException";
        }
        if (answer == IAE) {
            return "IllegalArgumentException";
        }
        if (answer == ISE) {
            return "IllegalStateException";
        }
        return answer == OTHER ? "another exception" : "" + answer;
    }

    /** All that can be asked of an object, in one text. */
    static String state(Scripthouse x) {
        StringBuilder text = new StringBuilder();
        text.append(x.today()).append(' ').append(x.shot()).append(' ').append(x.days());
        text.append(' ').append(answer(() -> x.daysByAll())).append(" plan");
        for (int i = 0; i < 9; i++) {
            int place = i;
            text.append(' ').append(answer(() -> x.planned(place))).append('@').append(answer(() -> x.begins(place)));
        }
        text.append(" money ").append(x.fee()).append(' ').append(x.costs()).append(' ').append(x.open());
        for (int i = 0; i < 4; i++) {
            text.append(' ').append(x.left(i));
        }
        text.append(" loans");
        for (int i = 0; i < 11; i++) {
            int loan = i;
            text.append(' ').append(answer(() -> x.openOf(loan)));
        }
        text.append(" got");
        for (int i = 0; i < 6; i++) {
            text.append(' ').append(x.got(i));
        }
        return text.append(" house ").append(x.house()).toString();
    }

    /** A call that throws, and changes nothing. */
    static void refused(String what, Scripthouse x, long want, LongSupplier call) {
        String before = state(x);
        due(what, want, call);
        due(what + " changes nothing", true, before.equals(state(x)));
    }

    /** A call that throws on an object that the maker makes, and leaves it as one on which nobody called it. */
    static void refused(String what, long want, Supplier<Scripthouse> maker, ToLongFunction<Scripthouse> call) {
        Scripthouse x = maker.get();
        due(what, want, () -> call.applyAsLong(x));
        due(what + " changes nothing", true, wholeState(maker.get()).equals(wholeState(x)));
    }

    /** What an object holds and what cannot be asked alone; the object is used up by it. */
    static String wholeState(Scripthouse x) {
        StringBuilder text = new StringBuilder(state(x));
        text.append(" held ").append(x.hold(true));
        for (int i = 0; i < 10; i++) {
            x.grant(100000);
            text.append(" day ").append(answer(() -> x.shoot(false))).append(' ').append(x.shot());
            text.append(' ').append(x.costs()).append(' ').append(x.left(0)).append(' ').append(x.left(1));
        }
        text.append(" rate ").append(x.setRates(1, 1)).append(" out");
        for (int i = 0; i < 4; i++) {
            text.append(' ').append(x.setOut(i, false));
        }
        text.append(" child");
        for (int i = 0; i < 6; i++) {
            text.append(' ').append(x.setChild(i, false));
        }
        x.income(1000000);
        x.income(999999);
        text.append(' ').append(state(x));
        text.append(" next ").append(answer(() -> x.addScene(1, 0, 0, 0, 0)));
        text.append(' ').append(answer(() -> x.loan(0, 1))).append(' ').append(answer(() -> x.part(-1, 0, 1)));
        return text.toString();
    }

    static void end(String test) {
        System.out.println(test + ": " + done + " checks, " + wrong + " wrong");
        if (wrong != 0 || done == 0) {
            System.exit(1);
        }
    }
}
