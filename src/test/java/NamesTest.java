/** Promises 8 (happening), 9 (name) and 10 (octet). */
public final class NamesTest {
    public static void main(String[] args) {
        happenings();
        namesOut();
        longestNames();
        Probe.close("NamesTest");
    }

    private static void happenings() {
        Probe p = new Probe();
        p.happening("", CaseOrder.NONE);
        p.taken(0, "fire before car;car before inn;abcdefgh on 5;", 3);
        p.happening("fire", 0);
        p.happening("car", 1);
        p.happening("inn", 2);
        p.happening("abcdefgh", 3);
        p.happening(" \n car\n ", 1);
        p.happening("\ncar", 1);
        p.happening("car ", 1);
        p.happening(" ".repeat(437) + "inn", 2);
        p.happening("inn" + " ".repeat(437), 2);
        p.happening(" ".repeat(440), CaseOrder.NONE);
        p.happening("inn" + "\n".repeat(436) + "i", CaseOrder.NONE);
        p.happening("a".repeat(440), CaseOrder.NONE);
        String[] none = {"", " ", "\n \n", "ca", "cars", "ar", "scar", "car inn", "c ar", "car;", "CAR", "on",
            "before", "abcdefghi", "bcdefgh", "5", "\tcar", "car" + (char) 0, "car\ncar", "x"};
        for (String text : none) {
            p.happening(text, CaseOrder.NONE);
        }
        p.taken(0, "", 0);
        p.happening("fire", 0);
        p.taken(3, "zoo on 5;fire on 6;", 2);
        p.happening("zoo", 4);
        Probe.due("count(0)", p.x.count(0), 5);
    }

    private static void namesOut() {
        Probe p = new Probe();
        Probe.due("name(0)", p.x.name(0), CaseOrder.NONE);
        Probe.due("octet(0)", Probe.of(() -> p.x.octet(0)), Probe.ELEMENT);
        p.taken(0, "fire before car;abcdefgz on 5;a on 1;", 3);
        Probe.due("OUT is empty until name()", Probe.of(() -> p.x.octet(0)), Probe.ELEMENT);
        Probe.due("count(4)", p.x.count(4), 0);
        out(p, 0, "fire");
        out(p, 3, "a");
        out(p, 2, "abcdefgz");
        out(p, 1, "car");
        for (int h : new int[] {-1, 4, 20, Integer.MIN_VALUE, Integer.MAX_VALUE}) {
            Probe.due("name(" + h + ")", p.x.name(h), CaseOrder.NONE);
            Probe.due("OUT stays", p.x.count(4), 3);
            Probe.due("OUT stays", p.x.octet(2), 'r');
        }
        p.taken(0, "", 0);
        Probe.due("OUT stays behind tell", p.x.octet(0), 'c');
    }

    private static void longestNames() {
        Probe p = new Probe();
        for (int t = 0; t < 2; t++) {
            StringBuilder text = new StringBuilder();
            for (int h = 10 * t; h < 10 * t + 10; h++) {
                text.append(longName(h)).append(" on 5;");
            }
            p.taken(t, text.toString(), 10);
        }
        for (int h = 19; h >= 0; h--) {
            p.happening(longName(h), h);
            out(p, h, longName(h));
        }
        p.happening(longName(20), CaseOrder.NONE);
        Probe.due("name(20)", p.x.name(20), CaseOrder.NONE);
    }

    private static String longName(int h) {
        return "abcdefg" + (char) ('a' + h);
    }

    private static void out(Probe p, int h, String text) {
        Probe.due("name(" + h + ")", p.x.name(h), text.length());
        Probe.due("count(4)", p.x.count(4), text.length());
        for (int k = 0; k < text.length(); k++) {
            int place = k;
            Probe.due("octet(" + k + ")", Probe.of(() -> p.x.octet(place)), text.charAt(k));
        }
        for (int k : new int[] {-1, text.length(), 20, Integer.MIN_VALUE, Integer.MAX_VALUE}) {
            Probe.due("octet(" + k + ")", Probe.of(() -> p.x.octet(k)), Probe.ELEMENT);
        }
    }
}
