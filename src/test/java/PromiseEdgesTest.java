/**
 * Promises 1 to 21, up to each edge and beyond it: the answer, what a refused call leaves as it was,
 * and what the calls behind it answer.
 */
public final class PromiseEdgesTest {
    private static final int[] FAR = {Integer.MIN_VALUE, Integer.MIN_VALUE + 1, -65536, -256, -2, 256, 65536,
        Integer.MAX_VALUE - 1, Integer.MAX_VALUE};
    private static final int TAPE = 9;
    private static final int HAPPENINGS = 4;

    public static void main(String[] args) {
        aNewObject();
        feedUpToFull();
        feedOfEachByte();
        endUpToTheLength();
        tellAndItsFault();
        tellOfNoTeller();
        faultOfTheLatest();
        hearWrongBits();
        sayingWithoutOne();
        happeningAndTheTape();
        nameWithoutOne();
        octetWithoutOne();
        boundWithoutOne();
        betweenWithoutOne();
        orderWithoutOne();
        quarrelledWithoutOne();
        needlessWithoutOne();
        atWithoutOne();
        sayingsOfNoTeller();
        countOfNothing();
        questionsChangeNothing();
        upToTheLastCall();
        Probe.close("PromiseEdgesTest");
    }

    /** Four HAPPENINGS, OUT, a FAULT, and a text on the tape; TELLER 1 is not HEARD. */
    private static void agreeing(Probe p) {
        p.tell(0, "car on 5;bus before car;");
        p.tell(1, "car on 6;");
        p.tell(3, "inn while car;inn by 5;zoo since 7;");
        p.tell(3, "car from 5 to 4;");
        p.x.hear(9);
        p.x.name(1);
        Probe.feed(p.x, " ox on 7;");
    }

    /** The same, but that TELLER 1 is HEARD and TELLER 0 is not, and that TELLER 2 quarrels. */
    private static void quarrelling(Probe p) {
        agreeing(p);
        p.x.end(0);
        p.tell(2, "bus since 9;bus by 5;zoo before zoo;");
        p.tell(2, "bus since 9;bus by 5;");
        p.tell(4, "bus before car by 0;");
        p.x.hear(14);
        p.x.name(2);
        Probe.feed(p.x, " ox on 7;");
    }

    private static void refused(String call, Twins.Asked asked, int want) {
        Twins.unchanged(call + " where they agree", PromiseEdgesTest::agreeing, asked, want);
        Twins.unchanged(call + " where they quarrel", PromiseEdgesTest::quarrelling, asked, want);
    }

    private static void aNewObject() {
        CaseOrder x = new CaseOrder();
        int[] counts = {0, 0, 63, 0, 0};
        for (int what = 0; what < 5; what++) {
            Probe.due("new: count(" + what + ")", x.count(what), counts[what]);
        }
        Probe.due("new: fault()", x.fault(), 0);
        Probe.due("new: agree()", x.agree(), 1);
        Probe.due("new: quarrel()", x.quarrel(), 0);
        Probe.due("new: quarrelled(0)", x.quarrelled(0), CaseOrder.NONE);
        Probe.due("new: leave()", x.leave(), 0);
        Probe.due("new: at(0)", x.at(0), CaseOrder.NONE);
        Probe.due("new: name(0)", x.name(0), CaseOrder.NONE);
        Probe.due("new: bound(0, 0)", x.bound(0, 0), CaseOrder.NONE);
        Probe.due("new: order(0, 0)", x.order(0, 0), -2);
        Probe.due("new: between(0, 0, true)", Probe.of(() -> x.between(0, 0, true)), Probe.ELEMENT);
        Probe.due("new: octet(0)", Probe.of(() -> x.octet(0)), Probe.ELEMENT);
        for (int t = 0; t < 6; t++) {
            int teller = t;
            Probe.due("new: sayings(" + t + ")", x.sayings(t), 0);
            Probe.due("new: needless(" + t + ", 0)", x.needless(t, 0), CaseOrder.NONE);
            Probe.due("new: saying(" + t + ", 0, 0)", Probe.of(() -> x.saying(teller, 0, 0)), Probe.ELEMENT);
        }
        Probe.due("new: end(1)", x.end(1), false);
        Probe.due("new: end(0)", x.end(0), true);
        Probe.due("new: happening()", x.happening(), CaseOrder.NONE);
        Probe.due("new: tell(0)", x.tell(0), 0);
        CaseOrder other = new CaseOrder();
        Probe.feed(other, "a on 5;");
        other.tell(0);
        Probe.due("objects do not share", x.count(0), 0);
    }

    private static void feedUpToFull() {
        for (int cut = 0; cut < 20; cut++) {
            Probe p = new Probe();
            for (int i = 1; i <= 21; i++) {
                Probe.due("feed", p.x.feed(0, 0, 0, 0, 0), 20 * i);
            }
            Probe.due("end", p.x.end(420 - cut), true);
            Probe.due("feed up to " + (440 - cut), p.x.feed(0, 0, 0, 0, 0), 440 - cut);
            Probe.due("feed beyond", p.x.feed(0, 0, 0, 0, 0), CaseOrder.NONE);
            Probe.due("feed beyond again", p.x.feed(-1, -1, -1, -1, -1), CaseOrder.NONE);
            Probe.due("count(3)", p.x.count(3), 440 - cut);
            Probe.due("the refused ones are not there", p.x.end(441 - cut), false);
            Probe.due("end(420)", p.x.end(420), true);
            Probe.due("feed to 440", p.x.feed(0, 0, 0, 0, 0), 440);
        }
        for (int bytes : new int[] {421, 430, 439, 440}) {
            Twins.unchanged("feed behind " + bytes, p -> {
                agreeing(p);
                Probe.feed(p.x, " ".repeat(bytes - TAPE));
            }, x -> x.feed(0x61206f6e, 0x20373b61, 0x206f6e20, 0x373b6120, 0x6f6e2037), CaseOrder.NONE);
        }
    }

    /** A wrong byte at each place in turn: every byte of all five numbers shows where it comes. */
    private static void feedOfEachByte() {
        String text = "ab on 1;cd by 23;e x";
        for (int place = 0; place < 20; place++) {
            Probe p = new Probe();
            StringBuilder changed = new StringBuilder(text);
            changed.setCharAt(place, (char) 255);
            Probe.feed(p.x, changed.toString());
            Probe.due("count(3)", p.x.count(3), 20);
            // In 'on' and 'by' it leaves a NAME ahead of it, which can't come there.
            int wrong = place == 4 || place == 12 ? place - 1 : place;
            Probe.due("tell of 255 at " + place, p.x.tell(0), -1 - wrong);
        }
        Probe p = new Probe();
        // The bytes of "abcdefgh", "ijklmnop" and "on 7;": the highest one of a number comes first.
        Probe.due("feed", p.x.feed(0x61626364, 0x65666768, 0x206f6e20, 0x373b696a, 0x6b6c6d6e), 20);
        Probe.due("feed", p.x.feed(0x6f70206f, 0x6e20373b, 0x80000000, 0xff00ff00, 0x7fffffff), 40);
        Probe.due("end", p.x.end(28), true);
        Probe.due("tell", p.x.tell(0), 2);
        p.happening("abcdefgh", 0);
        p.happening("ijklmnop", 1);
        p.saying(0, 1, 0, 1, -1, 7, -1, 14);
        Probe.due("feed", p.x.feed(0x80616161, 0, 0, 0, 0), 20);
        Probe.due("a byte of 128", p.x.tell(0), -1);
    }

    private static void endUpToTheLength() {
        Probe p = new Probe();
        Probe.feed(p.x, "a on 55;b on 66;");
        Probe.due("end(17)", p.x.end(17), false);
        Probe.due("end(16)", p.x.end(16), true);
        Probe.due("count(3)", p.x.count(3), 16);
        Probe.due("end(8)", p.x.end(8), true);
        Probe.due("what is cut does not come back", p.x.end(9), false);
        Probe.due("end(8)", p.x.end(8), true);
        Probe.feed(p.x, "c on 7;");
        Probe.due("count(3)", p.x.count(3), 15);
        Probe.due("tell(0)", p.x.tell(0), 2);
        p.saying(0, 1, 0, 1, -1, 7, -1, 8);
        p.happening("b", CaseOrder.NONE);
        Probe.due("end(1) of the empty tape", p.x.end(1), false);
        Probe.due("end(0) of the empty tape", p.x.end(0), true);
        Probe.feed(p.x, "a on 5;");
        Probe.due("end(0)", p.x.end(0), true);
        Probe.due("tell(0) of nothing", p.x.tell(0), 0);
        refused("end(-1)", x -> x.end(-1) ? 1 : 0, 0);
        refused("end(10)", x -> x.end(TAPE + 1) ? 1 : 0, 0);
        refused("end(9)", x -> x.end(TAPE) ? 1 : 0, 1);
        for (int n : FAR) {
            refused("end(" + n + ")", x -> x.end(n) ? 1 : 0, 0);
        }
    }

    /** Both twins have had a FAULT of kind 2, so that only the tape may differ. */
    private static void tellAndItsFault() {
        String[] texts = {"new on 5;car from 5 to 4;", "new before car by 0;", "bus before car by 4 to 3;",
            "a on 1;b on 2;c on 3;d lasts 4 to 3;"};
        for (String text : texts) {
            for (int t = 0; t < 6; t++) {
                int teller = t;
                Twins.unchangedButFor("tell(" + t + ") of " + text, p -> {
                    agreeing(p);
                    p.x.end(0);
                }, x -> {
                    Probe.feed(x, text);
                    return x.tell(teller) < 0 ? 1 : 0;
                }, 1, p -> { });
            }
        }
        Probe p = new Probe();
        p.taken(2, "a on 5;", 1);
        p.taken(2, "b on 5;a on 6;", 2);
        p.refused("a", 1, 1);
        Probe.due("nothing more is there to tell", p.x.tell(2), 0);
        Probe.due("count(1)", p.x.count(1), 0);
        Probe.due("count(0)", p.x.count(0), 2);
    }

    private static void tellOfNoTeller() {
        refused("tell(-1)", x -> x.tell(-1), Probe.INDEX);
        refused("tell(6)", x -> x.tell(6), Probe.INDEX);
        for (int t : FAR) {
            refused("tell(" + t + ")", x -> x.tell(t), Probe.INDEX);
        }
        Probe p = new Probe();
        Probe.feed(p.x, "a on 5;");
        Probe.due("tell(6)", Probe.of(() -> p.x.tell(6)), Probe.INDEX);
        Probe.due("the tape stays", p.x.count(3), 7);
        Probe.due("tell(5)", p.x.tell(5), 1);
        Probe.due("the tape is empty then", p.x.count(3), 0);
        Probe.due("tell(6) of an empty tape", Probe.of(() -> p.x.tell(6)), Probe.INDEX);
        Probe.due("sayings(5)", p.x.sayings(5), 1);
    }

    private static void faultOfTheLatest() {
        Probe p = new Probe();
        Probe.due("ahead of any", p.x.fault(), 0);
        Probe.due("tell(9)", Probe.of(() -> p.x.tell(9)), Probe.INDEX);
        Probe.due("a call that throws is none", p.x.fault(), 0);
        String[] texts = {"a", "a from 5 to 4;", "a before a;", "a on 5;".repeat(13)};
        for (int kind = 1; kind <= 4; kind++) {
            Probe.due("tell(0)", p.tell(0, texts[kind - 1]) < 0, true);
            Probe.due("fault()", p.x.fault(), kind);
            Probe.due("fault() again", p.x.fault(), kind);
            Probe.feed(p.x, "a on 5;");
            Probe.due("tell(-1)", Probe.of(() -> p.x.tell(-1)), Probe.INDEX);
            Probe.due("fault() behind a throw", p.x.fault(), kind);
            Probe.due("happening()", p.x.happening(), CaseOrder.NONE);
            Probe.due("hear(64)", p.x.hear(64), false);
            Probe.due("fault() behind others", p.x.fault(), kind);
        }
        Probe.due("tell(5) of nothing", p.x.tell(5), 0);
        Probe.due("without one", p.x.fault(), 0);
        p.refused("$", 1, 0);
        p.taken(1, "a on 5;", 1);
    }

    private static void hearWrongBits() {
        refused("hear(-1)", x -> x.hear(-1) ? 1 : 0, 0);
        refused("hear(64)", x -> x.hear(64) ? 1 : 0, 0);
        for (int bits : FAR) {
            refused("hear(" + bits + ")", x -> x.hear(bits) ? 1 : 0, 0);
        }
        Twins.unchanged("hear(9) of those HEARD", PromiseEdgesTest::agreeing, x -> x.hear(9) ? 1 : 0, 1);
        Twins.unchanged("hear(63) and back", PromiseEdgesTest::agreeing,
            x -> x.hear(63) && x.agree() == 0 && x.hear(9) ? 1 : 0, 1);
        for (int bits = 0; bits < 64; bits++) {
            Probe p = new Probe();
            agreeing(p);
            Probe.due("hear(" + bits + ")", p.x.hear(bits), true);
            Probe.due("agree() of " + bits, p.x.agree(), (bits & 3) == 3 || (bits & 10) == 10 ? 0 : 1);
        }
    }

    private static void sayingWithoutOne() {
        refused("saying(-1, 0, 0)", x -> x.saying(-1, 0, 0), Probe.INDEX);
        refused("saying(6, 0, 0)", x -> x.saying(6, 0, 0), Probe.INDEX);
        refused("saying(6, -1, 6)", x -> x.saying(6, -1, 6), Probe.INDEX);
        refused("saying(0, -1, 0)", x -> x.saying(0, -1, 0), Probe.ELEMENT);
        refused("saying(0, 2, 0)", x -> x.saying(0, 2, 0), Probe.ELEMENT);
        refused("saying(3, 3, 0)", x -> x.saying(3, 3, 0), Probe.ELEMENT);
        refused("saying(5, 0, 0)", x -> x.saying(5, 0, 0), Probe.ELEMENT);
        refused("saying(0, 12, 0)", x -> x.saying(0, 12, 0), Probe.ELEMENT);
        refused("saying(0, 0, -1)", x -> x.saying(0, 0, -1), Probe.ELEMENT);
        refused("saying(0, 0, 6)", x -> x.saying(0, 0, 6), Probe.ELEMENT);
        refused("saying(0, 2, 6)", x -> x.saying(0, 2, 6), Probe.ELEMENT);
        for (int far : FAR) {
            refused("saying(" + far + ", 0, 0)", x -> x.saying(far, 0, 0), Probe.INDEX);
            refused("saying(0, " + far + ", 0)", x -> x.saying(0, far, 0), Probe.ELEMENT);
            refused("saying(0, 0, " + far + ")", x -> x.saying(0, 0, far), Probe.ELEMENT);
        }
        Probe p = new Probe();
        p.taken(0, "a on 5;".repeat(12), 12);
        p.saying(0, 11, 0, 0, -1, 5, -1, 77);
        p.taken(0, "a on 5;", 1);
        Probe.due("a shorter text", Probe.of(() -> p.x.saying(0, 1, 0)), Probe.ELEMENT);
        // What a kind does not have is NONE, whatever stood there ahead of it.
        p.taken(0, "a before b by 1 to 2;a from 3 to 4;a while b;", 3);
        p.taken(1, "a before b;a lasts 0;b on 0;", 3);
        p.taken(0, "a on 1;a while b;b before a by 1;", 3);
        p.taken(1, "a lasts 1 to 1;a since 0;b while a;", 3);
        p.saying(0, 0, 0, 0, -1, 1, -1, 0);
        p.saying(0, 1, 6, 0, 1, -1, -1, 7);
        p.saying(0, 2, 5, 1, 0, 1, -1, 17);
        p.saying(1, 0, 4, 0, -1, 1, 1, 0);
        p.saying(1, 1, 3, 0, -1, 0, -1, 15);
        p.saying(1, 2, 6, 1, 0, -1, -1, 25);
    }

    private static void happening(String text, int want) {
        Twins.Asked asked = x -> {
            x.end(0);
            Probe.feed(x, text);
            return x.happening();
        };
        Twins.unchangedButFor("happening() of '" + text + "'", PromiseEdgesTest::agreeing, asked, want, p -> p.x.end(0));
    }

    private static void happeningAndTheTape() {
        happening("car", 0);
        happening("bus", 1);
        happening("\n inn \n", 2);
        happening("zoo" + " ".repeat(437), 3);
        happening(" ".repeat(437) + "zoo", 3);
        happening(" ".repeat(398) + "zoo" + " ".repeat(39), 3);
        for (String none : new String[] {"", " ", "\n", " ".repeat(440), "ca", "cars", "scar", "car bus", "car\ncar",
            "c ar", "car;", ";", "on", "ox", "Car", "car.", "7", "car7", "a".repeat(440), "carcarcar"}) {
            happening(none, CaseOrder.NONE);
        }
        happening("car" + (char) 0, CaseOrder.NONE);
        happening("\tcar", CaseOrder.NONE);
        happening("car\r", CaseOrder.NONE);
        happening("" + (char) ('c' + 128) + "ar", CaseOrder.NONE);
    }

    private static void nameWithoutOne() {
        refused("name(-1)", x -> x.name(-1), CaseOrder.NONE);
        refused("name(4)", x -> x.name(HAPPENINGS), CaseOrder.NONE);
        refused("name(20)", x -> x.name(20), CaseOrder.NONE);
        for (int h : FAR) {
            refused("name(" + h + ")", x -> x.name(h), CaseOrder.NONE);
        }
        Probe p = new Probe();
        agreeing(p);
        Probe.due("name(3)", p.x.name(3), 3);
        Probe.due("octet(0)", p.x.octet(0), 'z');
        Probe.due("name(4)", p.x.name(4), CaseOrder.NONE);
        Probe.due("octet(0) stays", p.x.octet(0), 'z');
        Probe.due("tell(0) of the tape", p.x.tell(0), 1);
        Probe.due("OUT stays", p.x.octet(2), 'o');
        Probe.due("name(4) is there now", p.x.name(4), 2);
        Probe.due("octet(1)", p.x.octet(1), 'x');
        Probe.due("OUT is shorter now", Probe.of(() -> p.x.octet(2)), Probe.ELEMENT);
    }

    private static void octetWithoutOne() {
        refused("octet(-1)", x -> x.octet(-1), Probe.ELEMENT);
        refused("octet(3)", x -> x.octet(3), Probe.ELEMENT);
        refused("octet(8)", x -> x.octet(8), Probe.ELEMENT);
        for (int k : FAR) {
            refused("octet(" + k + ")", x -> x.octet(k), Probe.ELEMENT);
        }
        Probe p = new Probe();
        p.taken(0, "a on 5;", 1);
        Probe.due("OUT is empty until name()", p.x.count(4), 0);
        Probe.due("octet(0)", Probe.of(() -> p.x.octet(0)), Probe.ELEMENT);
        Probe.due("name(1)", p.x.name(1), CaseOrder.NONE);
        Probe.due("octet(0)", Probe.of(() -> p.x.octet(0)), Probe.ELEMENT);
        Probe.due("name(0)", p.x.name(0), 1);
        Probe.due("octet(0)", p.x.octet(0), 'a');
        refused("the last octet", x -> x.octet(2) == 's' || x.octet(2) == 'n' ? 1 : 0, 1);
    }

    private static void boundWithoutOne() {
        refused("bound(-1, 0)", x -> x.bound(-1, 0), CaseOrder.NONE);
        refused("bound(4, 0)", x -> x.bound(HAPPENINGS, 0), CaseOrder.NONE);
        refused("bound(0, -1)", x -> x.bound(0, -1), CaseOrder.NONE);
        refused("bound(0, 4)", x -> x.bound(0, 4), CaseOrder.NONE);
        for (int far : FAR) {
            refused("bound(" + far + ", 0)", x -> x.bound(far, 0), CaseOrder.NONE);
            refused("bound(0, " + far + ")", x -> x.bound(0, far), CaseOrder.NONE);
        }
        Probe p = new Probe();
        agreeing(p);
        p.bounds(0, 5, 5, 5, 5);
        p.bounds(1, 0, 4, 0, 4);
        p.bounds(2, 5, 5, 5, 5);
        p.bounds(3, 7, 9999, 7, 9999);
        quarrelling(p);
        p.bounds(0, -1, -1, -1, -1);
        p.bounds(3, -1, -1, -1, -1);
    }

    private static void betweenWithoutOne() {
        for (boolean greatest : new boolean[] {false, true}) {
            refused("between(-1, 0)", x -> x.between(-1, 0, greatest), Probe.ELEMENT);
            refused("between(0, -1)", x -> x.between(0, -1, greatest), Probe.ELEMENT);
            refused("between(4, 0)", x -> x.between(HAPPENINGS, 0, greatest), Probe.ELEMENT);
            refused("between(0, 4)", x -> x.between(0, HAPPENINGS, greatest), Probe.ELEMENT);
            for (int far : FAR) {
                refused("between(" + far + ", 0)", x -> x.between(far, 0, greatest), Probe.ELEMENT);
                refused("between(0, " + far + ")", x -> x.between(0, far, greatest), Probe.ELEMENT);
                refused("between(" + far + ", " + far + ")", x -> x.between(far, far, greatest), Probe.ELEMENT);
            }
            Twins.unchanged("between(1, 0) without a WAY", PromiseEdgesTest::quarrelling,
                x -> x.between(1, 0, greatest), Probe.ELEMENT);
            Twins.unchanged("between(1, 0)", PromiseEdgesTest::agreeing,
                x -> x.between(1, 0, greatest), greatest ? 5 : 1);
            Twins.unchanged("between(0, 3)", PromiseEdgesTest::agreeing,
                x -> x.between(0, 3, greatest), greatest ? 9994 : 2);
        }
    }

    private static void orderWithoutOne() {
        refused("order(-1, 0)", x -> x.order(-1, 0), -2);
        refused("order(0, -1)", x -> x.order(0, -1), -2);
        refused("order(4, 0)", x -> x.order(HAPPENINGS, 0), -2);
        refused("order(0, 4)", x -> x.order(0, HAPPENINGS), -2);
        for (int far : FAR) {
            refused("order(" + far + ", 0)", x -> x.order(far, 0), -2);
            refused("order(0, " + far + ")", x -> x.order(0, far), -2);
        }
        Twins.unchanged("order(1, 0) without a WAY", PromiseEdgesTest::quarrelling, x -> x.order(1, 0), -2);
        Twins.unchanged("order(1, 0)", PromiseEdgesTest::agreeing, x -> x.order(1, 0), 1);
        Twins.unchanged("order(0, 1)", PromiseEdgesTest::agreeing, x -> x.order(0, 1), -1);
        Twins.unchanged("order(0, 2)", PromiseEdgesTest::agreeing, x -> x.order(0, 2), -1);
    }

    private static void quarrelledWithoutOne() {
        refused("quarrelled(-1)", x -> x.quarrelled(-1), CaseOrder.NONE);
        refused("quarrelled(2)", x -> x.quarrelled(2), CaseOrder.NONE);
        refused("quarrelled(72)", x -> x.quarrelled(72), CaseOrder.NONE);
        for (int i : FAR) {
            refused("quarrelled(" + i + ")", x -> x.quarrelled(i), CaseOrder.NONE);
        }
        Twins.unchanged("quarrelled(0)", PromiseEdgesTest::agreeing, x -> x.quarrelled(0), CaseOrder.NONE);
        Twins.unchanged("quarrel()", PromiseEdgesTest::agreeing, CaseOrder::quarrel, 0);
        Twins.unchanged("leave()", PromiseEdgesTest::agreeing, CaseOrder::leave, 0);
        // TELLER 2 quarrels with himself, TELLER 1 with TELLER 3; the later SAYINGS stay.
        Twins.unchanged("quarrelled(0)", PromiseEdgesTest::quarrelling, x -> x.quarrelled(0), 200);
        Twins.unchanged("quarrelled(1)", PromiseEdgesTest::quarrelling, x -> x.quarrelled(1), 201);
        Twins.unchanged("quarrel()", PromiseEdgesTest::quarrelling, CaseOrder::quarrel, 2);
        Twins.unchanged("leave()", PromiseEdgesTest::quarrelling, CaseOrder::leave, 6);
    }

    private static void needlessWithoutOne() {
        refused("needless(-1, 0)", x -> x.needless(-1, 0), Probe.INDEX);
        refused("needless(6, 0)", x -> x.needless(6, 0), Probe.INDEX);
        refused("needless(6, -1)", x -> x.needless(6, -1), Probe.INDEX);
        refused("needless(3, -1)", x -> x.needless(3, -1), CaseOrder.NONE);
        refused("needless(3, 3)", x -> x.needless(3, 3), CaseOrder.NONE);
        refused("needless(5, 0)", x -> x.needless(5, 0), CaseOrder.NONE);
        for (int far : FAR) {
            refused("needless(" + far + ", 0)", x -> x.needless(far, 0), Probe.INDEX);
            refused("needless(3, " + far + ")", x -> x.needless(3, far), CaseOrder.NONE);
        }
        Twins.unchanged("one not HEARD", PromiseEdgesTest::agreeing, x -> x.needless(1, 0), CaseOrder.NONE);
        Twins.unchanged("without a WAY", PromiseEdgesTest::quarrelling, x -> x.needless(3, 2), CaseOrder.NONE);
        Twins.unchanged("needless(3, 1)", PromiseEdgesTest::agreeing, x -> x.needless(3, 1), 1);
        Twins.unchanged("needless(3, 2)", PromiseEdgesTest::agreeing, x -> x.needless(3, 2), 0);
    }

    private static void atWithoutOne() {
        refused("at(-1)", x -> x.at(-1), CaseOrder.NONE);
        refused("at(4)", x -> x.at(HAPPENINGS), CaseOrder.NONE);
        refused("at(20)", x -> x.at(20), CaseOrder.NONE);
        for (int i : FAR) {
            refused("at(" + i + ")", x -> x.at(i), CaseOrder.NONE);
        }
        int[] line = {1, 0, 2, 3};
        for (int i = 0; i < HAPPENINGS; i++) {
            int place = i;
            Twins.unchanged("at(" + i + ")", PromiseEdgesTest::agreeing, x -> x.at(place), line[i]);
            Twins.unchanged("at(" + i + ")", PromiseEdgesTest::quarrelling, x -> x.at(place), CaseOrder.NONE);
        }
    }

    private static void sayingsOfNoTeller() {
        refused("sayings(-1)", x -> x.sayings(-1), Probe.INDEX);
        refused("sayings(6)", x -> x.sayings(6), Probe.INDEX);
        for (int t : FAR) {
            refused("sayings(" + t + ")", x -> x.sayings(t), Probe.INDEX);
        }
        refused("sayings(0)", x -> x.sayings(0), 2);
        refused("sayings(3)", x -> x.sayings(3), 3);
        refused("sayings(5)", x -> x.sayings(5), 0);
    }

    private static void countOfNothing() {
        refused("count(-1)", x -> x.count(-1), CaseOrder.NONE);
        refused("count(5)", x -> x.count(5), CaseOrder.NONE);
        for (int what : FAR) {
            refused("count(" + what + ")", x -> x.count(what), CaseOrder.NONE);
        }
        int[] agreeing = {HAPPENINGS, 6, 9, TAPE, 3};
        int[] quarrelling = {HAPPENINGS, 8, 14, TAPE, 3};
        for (int what = 0; what < 5; what++) {
            int which = what;
            Twins.unchanged("count(" + what + ")", PromiseEdgesTest::agreeing, x -> x.count(which), agreeing[what]);
            Twins.unchanged("count(" + what + ")", PromiseEdgesTest::quarrelling, x -> x.count(which), quarrelling[what]);
        }
    }

    /** Whatever has been asked ahead of it, each question has the same answer. */
    private static void questionsChangeNothing() {
        Twins.Asked[] questions = {CaseOrder::agree, x -> x.bound(0, 0), x -> x.order(1, 0), CaseOrder::quarrel,
            x -> x.quarrelled(1), CaseOrder::leave, x -> x.needless(3, 1), x -> x.at(3), CaseOrder::fault};
        int[] agreed = {1, 5, 1, 0, CaseOrder.NONE, 0, 1, 3, 2};
        int[] quarrelled = {0, CaseOrder.NONE, -2, 2, 201, 6, CaseOrder.NONE, CaseOrder.NONE, 2};
        for (int i = 0; i < questions.length; i++) {
            for (int k = 0; k < questions.length; k++) {
                Twins.Asked first = questions[i];
                Twins.Asked second = questions[k];
                Twins.Asked both = x -> 1000 * first.of(x) + second.of(x);
                Twins.unchanged(i + " and " + k, PromiseEdgesTest::agreeing, both, 1000 * agreed[i] + agreed[k]);
                Twins.unchanged(i + " and " + k, PromiseEdgesTest::quarrelling, both, 1000 * quarrelled[i] + quarrelled[k]);
            }
        }
    }

    /** An object is used for 512 calls: the last ones answer as the first ones do. */
    private static void upToTheLastCall() {
        CaseOrder x = new CaseOrder();
        for (int round = 0; round < 102; round++) {
            int day = round * 98;
            String digits = String.format("%04d", day);
            int number = 0;
            for (char digit : digits.toCharArray()) {
                number = number << 8 | digit;
            }
            Probe.due("feed", x.feed(0x61206f6e, 0x20202020, number, 0x3b202020, 0x20202020), 20);
            Probe.due("tell", x.tell(round % 6), 1);
            Probe.due("hear", x.hear(1 << round % 6), true);
            Probe.due("bound", x.bound(0, 3), day);
            Probe.due("needless", x.needless(round % 6, 0), 0);
        }
        Probe.due("call 511: hear(63)", x.hear(63), true);
        Probe.due("call 512: leave()", x.leave(), 31);
    }
}
