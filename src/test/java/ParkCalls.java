/** The calls of a WindPark by name, for tests that choose them as they run. */
final class ParkCalls {
    private ParkCalls() {
    }

    static long call(WindPark x, String name, long[] a) {
        int p = a.length > 0 ? (int) a[0] : 0;
        int q = a.length > 1 ? (int) a[1] : 0;
        int r = a.length > 2 ? (int) a[2] : 0;
        int s = a.length > 3 ? (int) a[3] : 0;
        int t = a.length > 4 ? (int) a[4] : 0;
        switch (name) {
            case "row": return x.row(p, q, r);
            case "grid": return x.grid(p, q, r);
            case "cradle": return x.cradle(p, q, r);
            case "part": return x.part(p, q);
            case "set": return x.set(p, q);
            case "clear": return x.clear(p);
            case "holds": return x.holds(p);
            case "put": return x.put(p, q, r, a[3]);
            case "get": return x.get(p, q, r);
            case "putAt": return x.putAt(p, q, r, s);
            case "getAt": return x.getAt(p, q, r);
            case "link": return x.link(p, q, r);
            case "lay": return x.lay(p, q, r);
            case "lift": return x.lift(p, q, r, s);
            case "copy": return x.copy(p, q, r, s, t);
            case "length": return x.length(p, q);
            case "alike": return x.alike(p, q);
            case "ask": return x.ask(p, q, r);
            case "told": return x.told(p, q);
            case "traced": return x.traced(p);
            case "forget": return x.forget();
            case "seconds": return x.seconds(p, q, r);
            case "test": return x.test(p, q, r, s, t);
            case "step": return x.step(p, q, r, s, t);
            case "drop": return x.drop(p);
            case "act": return x.act(p);
            case "acted": return x.acted(p);
            case "said": return x.said(p);
            case "place": return x.place(p, q, r);
            case "read": return x.read(p, q, a[2]);
            case "wind": return x.wind(p, q != 0);
            case "bound": return x.bound(p, a[1]);
            case "run": return x.run(p);
            case "reset": return x.reset(p);
            case "of": return x.of(p, q);
            case "finding": return x.finding(p, q);
            case "why": return x.why();
            case "count": return x.count(p);
            default: throw new IllegalStateException(name);
        }
    }
}
