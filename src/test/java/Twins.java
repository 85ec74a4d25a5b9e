import java.util.ArrayList;
import java.util.List;

/**
 * Two objects with the same past. One is asked something that must leave all as it was, the other is
 * not; then both are asked all that can be asked, and must answer alike.
 */
final class Twins {
    interface Past {
        void live(Probe p);
    }

    interface Asked {
        int of(CaseOrder x);
    }

    private final CaseOrder x;
    private final List<String> told = new ArrayList<>();

    private Twins(CaseOrder x) {
        this.x = x;
    }

    static void unchanged(String call, Past past, Asked asked, int want) {
        unchangedButFor(call, past, asked, want, p -> { });
    }

    /** The twin that is not asked has the change made to it by other means. */
    static void unchangedButFor(String call, Past past, Asked asked, int want, Past change) {
        Probe one = new Probe();
        Probe other = new Probe();
        past.live(one);
        past.live(other);
        change.live(other);
        Probe.due(call, Probe.of(() -> asked.of(one.x)), want);
        List<String> left = new Twins(one.x).all();
        List<String> right = new Twins(other.x).all();
        for (int i = 0; i < Math.max(left.size(), right.size()); i++) {
            String got = i < left.size() ? left.get(i) : "nothing";
            String due = i < right.size() ? right.get(i) : "nothing";
            Probe.due("behind " + call + ": " + got + ", but " + due + " without it", got.equals(due), true);
        }
    }

    private void ask(String call, Probe.Call question) {
        told.add(call + " = " + Probe.of(question));
    }

    private List<String> all() {
        askCounts();
        askOut();
        askSayings();
        askWays();
        askQuarrel();
        for (int h = 0; h < x.count(0); h++) {
            int happening = h;
            ask("name", () -> x.name(happening));
            askOut();
        }
        askTape();
        return told;
    }

    private void askCounts() {
        for (int what = 0; what < 5; what++) {
            int which = what;
            ask("count(" + what + ")", () -> x.count(which));
        }
        ask("fault()", x::fault);
    }

    private void askOut() {
        for (int k = 0; k <= x.count(4); k++) {
            int place = k;
            ask("octet(" + k + ")", () -> x.octet(place));
        }
    }

    private void askSayings() {
        for (int t = 0; t < 6; t++) {
            int teller = t;
            ask("sayings(" + t + ")", () -> x.sayings(teller));
            for (int k = 0; k < x.sayings(t); k++) {
                int number = k;
                for (int what = 0; what < 6; what++) {
                    int part = what;
                    ask("saying(" + t + ", " + k + ", " + what + ")", () -> x.saying(teller, number, part));
                }
                ask("needless(" + t + ", " + k + ")", () -> x.needless(teller, number));
            }
        }
    }

    private void askWays() {
        ask("agree()", x::agree);
        for (int g = 0; g < x.count(0); g++) {
            int one = g;
            ask("at(" + g + ")", () -> x.at(one));
            for (int what = 0; what < 4; what++) {
                int which = what;
                ask("bound(" + g + ", " + what + ")", () -> x.bound(one, which));
            }
            for (int h = 0; h < x.count(0); h++) {
                int other = h;
                ask("order(" + g + ", " + h + ")", () -> x.order(one, other));
                ask("least between " + g + ", " + h, () -> x.between(one, other, false));
                ask("most between " + g + ", " + h, () -> x.between(one, other, true));
            }
        }
    }

    private void askQuarrel() {
        ask("leave()", x::leave);
        ask("quarrel()", x::quarrel);
        for (int i = 0; i <= x.quarrel(); i++) {
            int place = i;
            ask("quarrelled(" + i + ")", () -> x.quarrelled(place));
        }
    }

    /** Last of all, as it empties the tape: the tape shows itself as a text. */
    private void askTape() {
        x.end(Math.min(400, x.count(3)));
        ask("tell(5)", () -> x.tell(5));
        ask("fault()", x::fault);
        for (int k = 0; k < x.sayings(5); k++) {
            int number = k;
            for (int what = 0; what < 6; what++) {
                int part = what;
                ask("saying(5, " + k + ", " + what + ") of the tape", () -> x.saying(5, number, part));
            }
        }
        ask("feed", () -> x.feed(0, 0, 0, 0, 0));
    }
}
