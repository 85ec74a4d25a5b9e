/** Promises 1 (a new object), 2 (feed), 3 (end) and 21 (count). */
public final class TapeTest {
    public static void main(String[] args) {
        newObject();
        feedAndEnd();
        highestByteFirst();
        counts();
        Probe.close("TapeTest");
    }

    private static void newObject() {
        Probe p = new Probe();
        for (int what = -2; what < 8; what++) {
            int want = what == 2 ? 63 : what < 0 || what > 4 ? CaseOrder.NONE : 0;
            Probe.due("new: count(" + what + ")", p.x.count(what), want);
        }
        for (int t = 0; t < 6; t++) {
            Probe.due("new: sayings(" + t + ")", p.x.sayings(t), 0);
        }
        Probe.due("new: fault()", p.x.fault(), 0);
        Probe.due("new: agree()", p.x.agree(), 1);
        Probe.due("new: leave()", p.x.leave(), 0);
        Probe.due("new: happening()", p.x.happening(), CaseOrder.NONE);
        Probe.due("new: octet(0)", Probe.of(() -> p.x.octet(0)), Probe.ELEMENT);
        Probe.due("new: tell(0)", p.x.tell(0), 0);
        p.quarrel();
        p.line();
    }

    private static void feedAndEnd() {
        Probe p = new Probe();
        Probe.due("end(0)", p.x.end(0), true);
        Probe.due("end(1)", p.x.end(1), false);
        Probe.due("end(-1)", p.x.end(-1), false);
        for (int i = 1; i <= 22; i++) {
            Probe.due("feed " + i, p.x.feed(0, 0, 0, 0, 0), 20 * i);
        }
        Probe.due("feed beyond 440", p.x.feed(0, 0, 0, 0, 0), CaseOrder.NONE);
        Probe.due("count(3)", p.x.count(3), 440);
        Probe.due("end(441)", p.x.end(441), false);
        Probe.due("end(440)", p.x.end(440), true);
        Probe.due("end(421)", p.x.end(421), true);
        Probe.due("feed to 441", p.x.feed(1, 1, 1, 1, 1), CaseOrder.NONE);
        Probe.due("count(3)", p.x.count(3), 421);
        Probe.due("end(420)", p.x.end(420), true);
        Probe.due("feed to 440", p.x.feed(1, 1, 1, 1, 1), 440);
        Probe.due("end(MIN_VALUE)", p.x.end(Integer.MIN_VALUE), false);
        Probe.due("end(MAX_VALUE)", p.x.end(Integer.MAX_VALUE), false);
        Probe.due("count(3)", p.x.count(3), 440);
        Probe.due("end(0)", p.x.end(0), true);
        Probe.due("count(3)", p.x.count(3), 0);
    }

    private static void highestByteFirst() {
        Probe p = new Probe();
        // "abcd", " on ", "1234", ";ef ", "by 7"
        Probe.due("feed", p.x.feed(0x61626364, 0x206f6e20, 0x31323334, 0x3b656620, 0x62792037), 20);
        Probe.due("feed", p.x.feed(0x3b202020, 0xffffffff, 0, 0, 0), 40);
        Probe.due("end(21)", p.x.end(21), true);
        Probe.due("tell(5)", p.x.tell(5), 2);
        p.saying(5, 0, 0, 0, -1, 1234, -1, 0);
        p.saying(5, 1, 2, 1, -1, 7, -1, 13);
        // A byte with the highest bit is no TOKEN, wherever it stands.
        p.refused("abcd on 5" + (char) 255 + ";", 1, 9);
        p.refused((char) 225 + " on 5;", 1, 0);
    }

    private static void counts() {
        Probe p = new Probe();
        p.taken(0, "a on 1;b on 2;", 2);
        p.taken(5, "c on 1;", 1);
        p.x.hear(1);
        p.x.name(2);
        Probe.feed(p.x, "abc");
        int[] want = {3, 3, 1, 3, 1};
        for (int what = 0; what < 5; what++) {
            Probe.due("count(" + what + ")", p.x.count(what), want[what]);
        }
        p.x.end(0);
        p.taken(0, "", 0);
        Probe.due("HAPPENINGS stay", p.x.count(0), 3);
        Probe.due("SAYINGS go", p.x.count(1), 1);
        Probe.due("count(MIN_VALUE)", p.x.count(Integer.MIN_VALUE), CaseOrder.NONE);
        Probe.due("count(MAX_VALUE)", p.x.count(Integer.MAX_VALUE), CaseOrder.NONE);
    }
}
