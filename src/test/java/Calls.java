/** A call told by its name and numbers. */
final class Calls {
    private Calls() { }

    static long ask(CodeHunt h, String name, int... a) {
        return switch (name) {
            case "make" -> h.make(a[0], a[1], a[2], a[3]);
            case "period" -> h.period(a[0], a[1], a[2]);
            case "full" -> h.full(a[0]);
            case "join" -> h.join(a[0], a[1], a[2], a[3]);
            case "load" -> h.load(a[0], a[1], a[2]);
            case "drop" -> h.drop(a[0]);
            case "sign" -> h.sign(a[0], a[1]);
            case "like" -> h.like(a[0], a[1], a[2]);
            case "most" -> h.most(a[0], a[1]);
            case "heard" -> h.heard(a[0], a[1], a[2], a[3], a[4]);
            case "search" -> h.search(a[0], a[1]);
            case "sure" -> h.sure(a[0], a[1]);
            case "power" -> h.power(a[0], a[1]);
            case "doubt" -> h.doubt(a[0]);
            case "peel" -> h.peel(a[0], a[1]);
            case "peeled" -> h.peeled(a[0], a[1]);
            case "noise" -> h.noise();
            case "follow" -> h.follow(a[0], a[1], a[2], a[3]);
            case "length" -> h.length(a[0], a[1]);
            case "reset" -> h.reset();
            case "range" -> h.range();
            case "mend" -> h.mend(a[0]);
            case "hits" -> h.hits(a[0], a[1], a[2], a[3], a[4]);
            case "worst" -> h.worst(a[0], a[1], a[2]);
            case "reel" -> h.reel(a[0], a[1], a[2]);
            case "lose" -> h.lose(a[0]);
            case "put" -> h.put(a[0], a[1], a[2], a[3]);
            case "get" -> h.get(a[0], a[1], a[2]);
            case "copy" -> h.copy(a[0], a[1], a[2], a[3], a[4]);
            case "add" -> h.add(a[0], a[1], a[2], a[3], a[4]);
            case "count" -> h.count(a[0]);
            case "digest" -> h.digest();
            default -> throw new IllegalStateException(name);
        };
    }
}
