import java.util.LinkedHashMap;
import java.util.List;
import java.util.Map;

/** The calls of the face, by their names and how many numbers each takes. */
final class Calls {
    private static final Map<String, Integer> TAKES = new LinkedHashMap<>();

    static {
        taking(0, "trace", "fault");
        taking(1, "years", "market", "back", "girths", "kinds", "lose", "tell", "hail", "many");
        taking(2, "ofGoer", "fatten", "go", "stop", "widest", "widen", "keep", "holes", "as");
        taking(3, "hole", "hoop", "way", "odds", "sheet", "put", "cell");
        taking(4, "county", "reading");
        taking(5, "season", "copy");
    }

    private Calls() {
    }

    private static void taking(int numbers, String... names) {
        for (String name : names) {
            TAKES.put(name, numbers);
        }
    }

    static List<String> names() {
        return List.copyOf(TAKES.keySet());
    }

    static int taken(String name) {
        return TAKES.get(name);
    }

    static long of(HedgeHoles x, String name, int... a) {
        switch (name) {
            case "county": return x.county(a[0], a[1], a[2], a[3]);
            case "ofGoer": return x.ofGoer(a[0], a[1]);
            case "hole": return x.hole(a[0], a[1], a[2]);
            case "hoop": return x.hoop(a[0], a[1], a[2]);
            case "fatten": return x.fatten(a[0], a[1]);
            case "go": return x.go(a[0], a[1]);
            case "years": return x.years(a[0]);
            case "stop": return x.stop(a[0], a[1]);
            case "season": return x.season(a[0], a[1], a[2], a[3], a[4]);
            case "widest": return x.widest(a[0], a[1]);
            case "way": return x.way(a[0], a[1], a[2]);
            case "market": return x.market(a[0]);
            case "widen": return x.widen(a[0], a[1]);
            case "keep": return x.keep(a[0], a[1]);
            case "reading": return x.reading(a[0], a[1], a[2], a[3]);
            case "back": return x.back(a[0]);
            case "girths": return x.girths(a[0]);
            case "kinds": return x.kinds(a[0]);
            case "holes": return x.holes(a[0], a[1]);
            case "odds": return x.odds(a[0], a[1], a[2]);
            case "sheet": return x.sheet(a[0], a[1], a[2]);
            case "lose": return x.lose(a[0]);
            case "put": return x.put(a[0], a[1], a[2]);
            case "cell": return x.cell(a[0], a[1], a[2]);
            case "copy": return x.copy(a[0], a[1], a[2], a[3], a[4]);
            case "tell": return x.tell(a[0]);
            case "hail": return x.hail(a[0]);
            case "as": return x.as(a[0], a[1]);
            case "trace": return x.trace();
            case "fault": return x.fault();
            case "many": return x.many(a[0]);
            default: throw new IllegalArgumentException("there is no call " + name);
        }
    }
}
