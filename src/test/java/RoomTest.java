import java.lang.management.ManagementFactory;
import java.lang.reflect.Array;
import java.lang.reflect.Field;
import java.lang.reflect.Modifier;
import java.util.ArrayDeque;
import java.util.ArrayList;
import java.util.Arrays;
import java.util.Collections;
import java.util.Deque;
import java.util.IdentityHashMap;
import java.util.List;
import java.util.Random;
import java.util.Set;

/**
 * What holds of all calls alike, whatever they answer: none throws or fails to end, in any state and with any numbers,
 * behind the 512th call too; none makes an object; objects know nothing of one another; an object takes little room.
 */
public final class RoomTest {
    private static final int MIN = Integer.MIN_VALUE, MAX = Integer.MAX_VALUE;
    private static final int[] MANY_NUMBERS = {MIN, MIN + 1, -65536, -129, -100, -14, -10, -9, -5, -4, -3, -2, -1, 0, 1,
        2, 3, 4, 5, 6, 7, 8, 9, 10, 11, 14, 15, 19, 20, 21, 30, 31, 32, 33, 59, 60, 61, 62, 63, 64, 127, 128, 255, 256, 32767,
        65536, 1 << 30, MAX - 60, MAX - 1, MAX};
    private static final int[] FEW_NUMBERS = {MIN, -1, 0, 1, 2, 3, 4, 5, 9, 10, 14, 20, 21, 30, 60, MAX};
    private static final String[] TEXTS = {"h20;g10", "h29;c90;t11", "h3555;g30;t41;c92", "h4407036;g40;t82;c91;g63",
        "h51234567890;g10;t21;c92;g93;t14", "h59999999999;c10;c91;t32;t93;g14", "h50000000000;g10;g11;g12;g13;g14"};

    private static int wrong = 0;

    private record Call(String name, int[] with) {
        public String toString() {
            return name + Arrays.toString(with);
        }
    }

    public static void main(String[] args) throws IllegalAccessException {
        // First of all, while the machine does not yet leave out what is made in vain.
        noCallMakesAnObject();
        anObjectTakesLittleRoom();
        anyNumbersInAnyState();
        farBeyondTheLastCall();
        objectsSideBySide();
        System.out.println(wrong == 0 ? "all calls keep to their room" : wrong + " things are not as due");
        if (wrong != 0) {
            System.exit(1);
        }
    }

    private static void due(boolean holds, String what) {
        if (!holds) {
            wrong++;
            System.out.println("not so: " + what);
        }
    }

    // ---- no call throws

    /** Each call with each choice of numbers, the farthest and the nearest to every bound, from each of many states. */
    private static void anyNumbersInAnyState() {
        for (String name : Calls.names()) {
            int[] numbers = Calls.taken(name) > 3 ? FEW_NUMBERS : MANY_NUMBERS;
            HedgeHoles[] states = states();
            int[] choice = new int[Calls.taken(name)];
            do {
                int[] with = Arrays.stream(choice).map(c -> numbers[c]).toArray();
                for (HedgeHoles x : states) {
                    answers(x, new Call(name, with));
                }
            } while (next(choice, numbers.length));
        }
    }

    /** Counts on, the first place fastest; false: all choices have been. */
    private static boolean next(int[] choice, int base) {
        for (int place = 0; place < choice.length; place++) {
            choice[place] = (choice[place] + 1) % base;
            if (choice[place] != 0) {
                return true;
            }
        }
        return false;
    }

    private static void answers(HedgeHoles x, Call call) {
        try {
            Calls.of(x, call.name, call.with);
        } catch (RuntimeException e) {
            due(false, call + " answers: it threw " + e);
        }
    }

    /** No county; then one for each text, with sheets of each lane and as many readings as there can be. */
    private static HedgeHoles[] states() {
        HedgeHoles[] all = new HedgeHoles[TEXTS.length + 1];
        all[0] = new HedgeHoles();
        for (int t = 0; t < TEXTS.length; t++) {
            all[t + 1] = new HedgeHoles();
            tell(all[t + 1], TEXTS[t]);
            all[t + 1].sheet(1, 1, 60);
            all[t + 1].sheet(2, 2, 0);
            for (int n = 0; n < 8; n++) {
                all[t + 1].reading(0, 0, 1, n % 2);
            }
        }
        return all;
    }

    private static void tell(HedgeHoles x, String text) {
        x.sheet(0, 0, 60);
        for (int i = 0; i < text.length(); i++) {
            x.put(0, i, text.charAt(i));
        }
        due(x.county(0, 0, 0, text.length()) > 0, text + " is taken");
    }

    /** What is answered there is free, but still no call may throw. */
    private static void farBeyondTheLastCall() {
        Random random = new Random(1);
        HedgeHoles x = new HedgeHoles();
        for (int n = 0; n < 300_000; n++) {
            if (n % 1000 == 0) {
                tell(x, TEXTS[random.nextInt(TEXTS.length)]);
            }
            answers(x, anyCall(random));
        }
    }

    private static Call anyCall(Random random) {
        String name = Calls.names().get(random.nextInt(Calls.names().size()));
        int[] with = new int[Calls.taken(name)];
        for (int a = 0; a < with.length; a++) {
            with[a] = random.nextInt(20) == 0 ? MANY_NUMBERS[random.nextInt(MANY_NUMBERS.length)] : random.nextInt(5);
        }
        return new Call(name, with);
    }

    // ---- objects know nothing of one another

    private static void objectsSideBySide() {
        for (int seed = 0; seed < 200; seed++) {
            List<Call> first = someCalls(2 * seed);
            List<Call> second = someCalls(2 * seed + 1);
            List<Long> firstAlone = answersOf(new HedgeHoles(), first);
            List<Long> secondAlone = answersOf(new HedgeHoles(), second);
            HedgeHoles x = new HedgeHoles();
            HedgeHoles y = new HedgeHoles();
            for (int n = 0; n < first.size(); n++) {
                asAlone(x, first.get(n), firstAlone.get(n));
                asAlone(y, second.get(n), secondAlone.get(n));
            }
        }
    }

    private static void asAlone(HedgeHoles x, Call call, long alone) {
        due(Calls.of(x, call.name, call.with) == alone, call + " is answered beside another object as it is alone");
    }

    private static List<Call> someCalls(long seed) {
        Random random = new Random(seed);
        String text = TEXTS[random.nextInt(TEXTS.length)];
        List<Call> calls = new ArrayList<>();
        calls.add(new Call("sheet", new int[] {0, 0, 60}));
        for (int i = 0; i < text.length(); i++) {
            calls.add(new Call("put", new int[] {0, i, text.charAt(i)}));
        }
        calls.add(new Call("county", new int[] {0, 0, 0, text.length()}));
        while (calls.size() < 512) {
            calls.add(anyCall(random));
        }
        return calls;
    }

    private static List<Long> answersOf(HedgeHoles x, List<Call> calls) {
        return calls.stream().map(c -> Calls.of(x, c.name, c.with)).toList();
    }

    // ---- what is made

    private static void noCallMakesAnObject() {
        if (!(ManagementFactory.getThreadMXBean() instanceof com.sun.management.ThreadMXBean meter)) {
            return;
        }
        for (String name : Calls.names()) {
            // The state that is told by TEXTS[4].
            HedgeHoles x = states()[5];
            Random random = new Random(7);
            int[][] with = new int[100][Calls.taken(name)];
            for (int[] numbers : with) {
                Arrays.setAll(numbers, a -> random.nextInt(5));
                comeThrough(name, numbers);
            }
            askAll(x, name, with);
            long before = meter.getCurrentThreadAllocatedBytes();
            askAll(x, name, with);
            long made = meter.getCurrentThreadAllocatedBytes() - before;
            // An object takes 16 bytes at least: less than that a call is the meter's own.
            due(made < 8 * with.length, name + " makes no object: " + made + " bytes in " + with.length + " calls");
        }
    }

    /** Texts and seasons are seldom come to by chance. */
    private static void comeThrough(String name, int[] numbers) {
        int[] sure = name.equals("county") ? new int[] {0, 0, 0, TEXTS[4].length()}
            : name.equals("season") ? new int[] {1, 1, 0, 2} : new int[0];
        System.arraycopy(sure, 0, numbers, 0, sure.length);
    }

    private static void askAll(HedgeHoles x, String name, int[][] with) {
        for (int[] numbers : with) {
            Calls.of(x, name, numbers);
        }
    }

    /** All that an object holds from its constructor on, which is all that it ever holds. */
    private static void anObjectTakesLittleRoom() throws IllegalAccessException {
        Set<Object> met = Collections.newSetFromMap(new IdentityHashMap<>());
        Deque<Object> toSee = new ArrayDeque<>(List.of(new HedgeHoles()));
        int parts = 0;
        while (!toSee.isEmpty()) {
            Object seen = toSee.remove();
            if (met.add(seen)) {
                parts += seen.getClass().isArray() ? seeArray(seen, toSee) : seeFields(seen, toSee);
            }
        }
        due(met.size() <= 30, "an object is made of thirty at most: " + met.size());
        due(parts <= 500, "they have 500 fields and elements at most: " + parts);
    }

    private static int seeArray(Object array, Deque<Object> toSee) {
        int length = Array.getLength(array);
        for (int i = 0; i < length && !array.getClass().getComponentType().isPrimitive(); i++) {
            toSee.add(Array.get(array, i));
        }
        return length;
    }

    private static int seeFields(Object object, Deque<Object> toSee) throws IllegalAccessException {
        int fields = 0;
        for (Field f : object.getClass().getDeclaredFields()) {
            if (!Modifier.isStatic(f.getModifiers())) {
                fields++;
                f.setAccessible(true);
                if (!f.getType().isPrimitive()) {
                    toSee.add(f.get(object));
                }
            }
        }
        return fields;
    }
}
