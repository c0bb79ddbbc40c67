import java.util.ArrayList;
import java.util.List;

/** All that there is to ask an object in some state: each is asked of a new object, and so may change it. */
final class Looks {
    record Look(String name, Edges.Call call) { }

    private final Edges.Scene scene;
    private final List<Look> looks = new ArrayList<>();

    private Looks(Edges.Scene scene) {
        this.scene = scene;
    }

    static List<Look> at(Edges.Scene scene) {
        Looks all = new Looks(scene);
        for (int which = 0; which <= 8; which++) {
            int w = which;
            all.add("look " + w, x -> x.look(w));
        }
        int replicas = scene.set().look(0);
        for (int replica = 0; replica < replicas; replica++) {
            all.addReplica(replica);
        }
        int inFlight = scene.set().look(2);
        for (int i = 0; i < inFlight; i++) {
            all.addMessage(i);
        }
        return all.looks;
    }

    private void add(String name, Edges.Call call) {
        looks.add(new Look(name, call));
    }

    private void addReplica(int r) {
        add("clock " + r, x -> x.clock(r));
        add("lacks " + r, x -> x.lacks(r));
        add("up " + r, x -> Edges.number(x.up(r, true)));
        add("down " + r, x -> Edges.number(x.up(r, false)));
        add("make " + r, x -> x.make(r, 1));
        add("tick " + r, x -> x.tick(r));
        addUntilNone("log " + r, 0, (x, k) -> x.log(r, k));
        addUntilNone("weight " + r, 1, (x, seq) -> x.weight(r, seq));
    }

    private void addMessage(int i) {
        for (int item = 0; item <= 4; item++) {
            int w = item;
            add("message " + i + " " + w, x -> x.message(i, w));
        }
        add("told " + i, x -> x.told(i));
        add("deliver " + i, x -> x.deliver(i));
        add("lose " + i, x -> Edges.number(x.lose(i)));
        add("twice " + i, x -> x.twice(i));
        addUntilNone("inside " + i, 0, (x, k) -> x.inside(i, k));
    }

    private interface Row {
        long at(ChangeSync x, int k);
    }

    /** Also the first place that has none: nothing may have come there. */
    private void addUntilNone(String name, int first, Row row) {
        boolean more = true;
        for (int place = first; more && place < 600; place++) {
            int k = place;
            add(name + " " + k, x -> row.at(x, k));
            more = row.at(scene.set(), k) != ChangeSync.NONE;
        }
    }
}
