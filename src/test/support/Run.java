import java.util.ArrayList;
import java.util.Arrays;
import java.util.List;
import java.util.Set;

/**
 * An object and all that it was asked. A call that must change nothing is tried on another object that was asked the
 * same, and all that can be seen of that one is compared with all that can be seen of a third, which was spared the call.
 */
final class Run {
    private static final int MOST_CALLS = 512;
    private static final Set<String> NAME_FAULTS = Set.of("county", "season", "sheet", "put", "cell", "copy", "as");
    private static final Set<String> ANSWER_LONG = Set.of("cell", "odds");

    private record Call(String name, int[] with) {
        public String toString() {
            return name + Arrays.toString(with);
        }
    }

    private final HedgeHoles object = new HedgeHoles();
    private final List<Call> past = new ArrayList<>();
    private int calls = 0;

    // ---- what is due

    /** A call that may change something. */
    Run due(long want, String name, int... with) {
        Call call = new Call(name, with.clone());
        past.add(call);
        compare(call, ask(call), want);
        return this;
    }

    /** A call that is answered and changes nothing. */
    Run asked(long want, String name, int... with) {
        return leavesAll(want, 0, new Call(name, with.clone()));
    }

    /** A call that is refused, so that it changes nothing but fault(), if it names faults. */
    Run refused(long want, String name, int... with) {
        return leavesAll(want, 0, new Call(name, with.clone()));
    }

    /** A call that has any answer but one. */
    Run notAnswered(long other, String name, int... with) {
        Call call = new Call(name, with.clone());
        Edges.holds(again().ask(call) != other, call + " is not answered by " + other);
        return this;
    }

    /** A call that comes to a fault of the machine, and changes nothing but fault(). */
    Run faulted(int fault, String name, int... with) {
        long want = ANSWER_LONG.contains(name) ? Edges.LOST : -10 - fault;
        return leavesAll(want, fault, new Call(name, with.clone()));
    }

    // ---- several calls at once

    /** A sheet gets a row of these cells. */
    Run row(int sheet, int lane, int... cells) {
        due(1, "sheet", sheet, lane, cells.length);
        for (int i = 0; i < cells.length; i++) {
            due(1, "put", sheet, i, cells[i]);
        }
        return this;
    }

    Run written(int sheet, int lane, String text) {
        return row(sheet, lane, text.chars().toArray());
    }

    /** A text in sheet 0, taken as a county's. */
    Run told(long want, String text) {
        return written(0, 0, text).due(want, "county", 0, 0, 0, text.length());
    }

    /** A text in sheet 0 that is not taken. */
    Run notTaken(int firstFault, String text) {
        return written(0, 0, text).asked(-100 - firstFault, "county", 0, 0, 0, text.length());
    }

    /** A season of these cells, in sheet 1. */
    Run season(long want, int what, int... cells) {
        return row(1, 2, cells).asked(want, "season", 1, 2, 0, cells.length / 2, what);
    }

    /** How great all holes are, in the order of the hedges. */
    Run widths(int... want) {
        int hedge = 0;
        for (int a = 0; a < 5; a++) {
            for (int b = a + 1; b < 5 && hedge < want.length; b++) {
                if (ask("hole", a, b, 2) == hedge) {
                    asked(want[hedge], "hole", a, b, 0);
                    hedge++;
                }
            }
        }
        Edges.holds(hedge == want.length, "there are " + want.length + " hedges");
        return this;
    }

    // ---- how it is done

    private Run leavesAll(long want, int fault, Call call) {
        Run with = again();
        Run spared = again();
        // A fault to begin with, so that what becomes of it shows too.
        with.ask("sheet", 0, 0, -1);
        compare(call, with.ask(call), want);
        long faultWant = NAME_FAULTS.contains(call.name) ? fault : call.name.equals("fault") ? want : Edges.SIZE;
        Edges.holds(with.ask("fault") == faultWant, "fault() is " + faultWant + " behind " + call);
        String seen = with.seen();
        String due = spared.seen();
        Edges.holds(seen.equals(due), call + " changes nothing:\n  " + due + "\n  " + seen);
        return this;
    }

    private Run again() {
        Run other = new Run();
        for (Call call : past) {
            other.past.add(call);
            other.ask(call);
        }
        return other;
    }

    private void compare(Call call, long got, long want) {
        Edges.holds(got == want, call + " answered " + got + ", due is " + want + ", behind " + past);
    }

    private long ask(String name, int... with) {
        return ask(new Call(name, with));
    }

    private long ask(Call call) {
        calls++;
        if (calls > MOST_CALLS) {
            throw new IllegalStateException("an object is asked too often: the test asks what is not promised");
        }
        try {
            return Calls.of(object, call.name, call.with);
        } catch (RuntimeException e) {
            throw new IllegalStateException(call + " threw, behind " + past, e);
        }
    }

    // ---- all that can be seen

    /** Looks at everything; takes the readings back to see each, so that the object is of no use afterwards. */
    private String seen() {
        StringBuilder b = new StringBuilder("trace ").append(ask("trace")).append(" many");
        for (int what = 0; what < 5; what++) {
            b.append(' ').append(ask("many", what));
        }
        int fields = (int) ask("many", 0);
        int goers = (int) ask("many", 1);
        for (int k = 0; k < goers; k++) {
            b.append(" goer");
            for (int what = 0; what < 4; what++) {
                b.append(' ').append(ask("ofGoer", k, what));
            }
        }
        for (int a = 0; a < fields; a++) {
            for (int c = a + 1; c < fields; c++) {
                b.append(" hole ").append(ask("hole", a, c, 0)).append(' ').append(ask("hole", a, c, 1));
            }
        }
        for (int k = 0; k < 4; k++) {
            seeSheet(b.append(" sheet"), k);
        }
        seeReadings(b, fields, goers);
        return b.toString();
    }

    private void seeSheet(StringBuilder b, int k) {
        for (int lane = 0; lane < 3; lane++) {
            long cell = ask("cell", k, 0, lane);
            if (ask("fault") != Edges.CAST) {
                b.append(" of ").append(ask("fault") == Edges.NULL ? "nothing" : "lane " + lane);
                for (int i = 1; cell != Edges.LOST; i++) {
                    b.append(' ').append(cell);
                    cell = ask("cell", k, i, lane);
                }
                return;
            }
        }
    }

    private void seeReadings(StringBuilder b, int fields, int goers) {
        for (long left = ask("many", 4); left > 0; left = ask("back", 1)) {
            b.append(" reading");
            for (int k = 0; k < goers; k++) {
                b.append(' ').append(ask("girths", k)).append(' ').append(ask("kinds", k));
            }
            for (int a = 0; a < fields; a++) {
                for (int c = a + 1; c < fields; c++) {
                    b.append(' ').append(ask("holes", a, c));
                }
            }
        }
    }
}
