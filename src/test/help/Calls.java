/** The class's calls by their names; a boolean counts 1 or 0. */
final class Calls {
    private Calls() {
    }

    static long answer(PupilCoin x, String call, int[] a) {
        switch (call) {
            case "day": return of(x.day(a[0]));
            case "school": return x.school(a[0], a[1], a[2]);
            case "need": return of(x.need(a[0], a[1]));
            case "road": return of(x.road(a[0], a[1], a[2]));
            case "far": return x.far(a[0], a[1]);
            case "mark": return x.mark(a[0], a[1], a[2], a[3]);
            case "marked": return x.marked(a[0], a[1], a[2], a[3]);
            case "join": return x.join(a[0], a[1], a[2]);
            case "open": return x.open(a[0], a[1]);
            case "feed": return x.feed(a[0], a[1], a[2], a[3], a[4]);
            case "formula": return x.formula(a[0], a[1]);
            case "beside": return x.beside(a[0]);
            case "fault": return x.fault();
            case "law": return x.law(a[0], a[1], a[2]);
            case "sum": return x.sum(a[0], a[1], a[2]);
            case "led": return x.led(a[0], a[1], a[2]);
            case "due": return x.due(a[0], a[1]);
            case "all": return x.all(a[0], a[1]);
            case "propose": return x.propose(a[0], a[1], a[2], a[3], a[4]);
            case "object": return of(x.object(a[0], a[1]));
            case "adopt": return x.adopt(a[0]);
            case "other": return x.other(a[0], a[1]);
            case "losers": return x.losers(a[0]);
            case "edge": return x.edge(a[0], a[1], a[2]);
            case "rates": return x.rates(a[0], a[1], a[2], a[3], a[4]);
            case "foretold": return x.foretold(a[0], a[1], a[2], a[3]);
            case "doubt": return x.doubt(a[0], a[1]);
            case "count": return x.count(a[0]);
            default: throw new IllegalArgumentException(call);
        }
    }

    private static long of(boolean b) {
        return b ? 1 : 0;
    }
}
