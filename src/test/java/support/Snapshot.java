import java.util.ArrayList;
import java.util.List;

/** What can be told of an object, so that two objects can be seen to be alike; some 150 calls. */
public final class Snapshot {
    private final List<String> names = new ArrayList<>();
    private final List<Long> answers = new ArrayList<>();

    private void tell(String name, long answer) {
        names.add(name);
        answers.add(answer);
    }

    /** All that an image keeps. */
    public static Snapshot ofField(BrothersField x) {
        Snapshot s = new Snapshot();
        for (int what = 0; what < 8; what++) {
            s.tell("status(" + what + ")", x.status(what));
        }
        int squares = x.status(0) * x.status(1);
        for (int square = 0; square < squares; square++) {
            int soil = x.soil(square, 0);
            x.soil(square, soil);
            s.tell("soil of " + square, soil);
        }
        for (int owner : new int[] {-1, 0, 1, 2, 3, 4, 9}) {
            s.tell("piece(" + owner + ")", x.piece(owner));
        }
        for (int heir = 0; heir < x.status(2); heir++) {
            for (int what : new int[] {0, 1, 2, 10, 11, 12, 13, 14, 15}) {
                s.tell("heirOf(" + heir + ", " + what + ")", x.heirOf(heir, what));
            }
        }
        return s;
    }

    /** That, and the shelves, the FAULT and the TRACE. */
    public static Snapshot of(BrothersField x) {
        Snapshot s = ofField(x);
        s.tell("fault()", x.fault());
        s.tell("status(8)", x.status(8));
        for (int i = 0; i < 8; i++) {
            s.tell("trace(" + i + ")", x.trace(i));
        }
        for (int shelf = 0; shelf < 8; shelf++) {
            s.tell("holds(" + shelf + ")", x.holds(shelf));
            for (int i = 0; i < 5; i++) {
                s.tell("element(" + shelf + ", " + i + ")", x.element(shelf, i));
            }
        }
        return s;
    }

    /** Compares all but what is named. */
    public void due(String call, Snapshot want, String butFor) {
        Due.is(call + ": how much can be told", answers.size(), want.answers.size());
        for (int i = 0; i < answers.size() && i < want.answers.size(); i++) {
            if (!names.get(i).equals(butFor)) {
                Due.is(call + ", then " + names.get(i), answers.get(i), want.answers.get(i));
            }
        }
    }
}
