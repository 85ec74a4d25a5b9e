/** Promises 15 (quarrel), 16 (quarrelled), 17 (leave) and 18 (needless). */
public final class QuarrelTest {
    public static void main(String[] args) {
        quarrels();
        leaving();
        needlessOnes();
        needlessButForOneLink();
        wrongArguments();
        Probe.close("QuarrelTest");
    }

    private static void quarrels() {
        Probe p = new Probe();
        // Each is left out that the others behind it can quarrel without: the later ones stay.
        p.taken(0, "a on 5;b on 7;a on 6;a on 5;", 4);
        p.quarrel(2, 3);
        p.taken(0, "a on 5;b on 7;a by 6;", 3);
        p.quarrel();
        p.taken(1, "b on 8;c on 1;", 2);
        p.quarrel(1, 100);
        p.taken(2, "c by 4;b before c;", 2);
        p.quarrel(100, 200, 201);
        p.x.hear(5);
        p.quarrel(1, 200, 201);
        p.x.hear(4);
        p.quarrel();
        p.x.hear(2);
        p.quarrel();
        p.x.hear(6);
        p.quarrel(100, 200, 201);
        p.taken(1, "b on 2;", 1);
        p.quarrel();
        p.x.hear(63);
        p.quarrel(1, 200, 201);
        p.taken(5, "x before y;y before z;z before x;", 3);
        p.quarrel(500, 501, 502);
        p.taken(5, "x lasts 9000;y lasts 1000;x before y;", 3);
        p.quarrel(500, 501, 502);
        p.taken(5, "x lasts 9000;y lasts 998;x before y;", 3);
        p.quarrel(1, 200, 201);
        p.taken(4, "x lasts 9100;y lasts 900 to 1000;", 2);
        p.quarrel(400, 501, 502);
        // One SAYING can quarrel with the DAYS alone only together with another one.
        p.taken(5, "x before y by 9000;z before y by 1000 to 9999;x before z by 1;z lasts 8000;", 4);
        p.quarrel(500, 501, 502, 503);
    }

    private static void leaving() {
        Probe p = new Probe();
        p.taken(0, "a on 5;", 1);
        p.taken(1, "a on 6;", 1);
        leave(p, 1);
        p.taken(2, "a on 6;", 1);
        leave(p, 1);
        p.taken(3, "a on 5;", 1);
        leave(p, 6);
        p.taken(4, "a on 5;", 1);
        leave(p, 6);
        p.taken(5, "a on 6;", 1);
        leave(p, 25);
        p.x.hear(31);
        leave(p, 6);
        p.x.hear(39);
        leave(p, 1);
        p.x.hear(38);
        leave(p, 0);
        p.x.hear(9);
        leave(p, 0);
        p.x.hear(63);
        for (int t = 0; t < 6; t++) {
            p.taken(t, "b before c;c before b;", 2);
        }
        leave(p, 63);
        p.x.hear(42);
        leave(p, 42);
        p.x.hear(0);
        leave(p, 0);
        p.x.hear(63);
        for (int t = 0; t < 6; t++) {
            p.taken(t, "b on " + t + ";", 1);
        }
        leave(p, 31);
        p.taken(5, "b before c;c before b;", 2);
        leave(p, 47);
        p.taken(2, "", 0);
        leave(p, 43);
    }

    private static void leave(Probe p, int want) {
        Probe.due("leave() of " + p.x.count(2), p.x.leave(), want);
    }

    private static void needlessOnes() {
        Probe p = new Probe();
        p.taken(0, "a on 5;a on 5;a by 5;a by 4;", 4);
        needless(p, 0, -1, -1, -1, -1);
        p.taken(0, "a on 5;a on 5;a by 6;a since 5;a lasts 0;a from 5 to 5;", 6);
        needless(p, 0, 1, 1, 1, 1, 1, 1);
        p.taken(0, "a on 5;", 1);
        needless(p, 0, 0);
        p.taken(1, "a since 5;", 1);
        needless(p, 0, 0);
        needless(p, 1, 1);
        p.taken(2, "a by 5;", 1);
        needless(p, 0, 1);
        p.x.hear(3);
        needless(p, 0, 0);
        needless(p, 2, -1);
        p.x.hear(63);
        p.taken(0, "a before b;b before c;a before c;", 3);
        p.taken(1, "", 0);
        p.taken(2, "", 0);
        needless(p, 0, 0, 0, 1);
        p.taken(0, "a before b by 2;b before c by 3;b lasts 1;a before c by 6;a before c by 5 to 6;", 5);
        needless(p, 0, 1, 1, 1, 1, 1);
        p.taken(0, "a before b by 2;b before c by 3;b lasts 1 to 2;a before c by 6;", 4);
        needless(p, 0, 0, 0, 1, 0);
        p.taken(0, "a by 9999;a since 0;a lasts 0 to 9999;", 3);
        needless(p, 0, 1, 1, 1);
        p.taken(0, "a by 9998;a since 1;a lasts 0 to 9998;", 3);
        needless(p, 0, 0, 0, 1);
        p.taken(0, "a while b;b while a;c while b;c while a;", 4);
        needless(p, 0, 0, 0, 1, 1);
        p.taken(0, "a while b;a from 5 to 8;b from 4 to 8;", 3);
        needless(p, 0, 1, 0, 0);
        p.taken(0, "a while b;a from 5 to 8;b from 5 to 9;", 3);
        needless(p, 0, 1, 0, 0);
        p.taken(0, "a while b;b while a;a from 5 to 8;b from 5 to 8;", 4);
        needless(p, 0, 1, 1, 1, 1);
        p.taken(0, "a from 5 to 8;a since 5;a by 8;a lasts 3;", 4);
        needless(p, 0, 1, 1, 1, 1);
        p.taken(0, "a from 5 to 8;a since 5;a by 8;a lasts 2 to 3;", 4);
        needless(p, 0, 0, 1, 1, 1);
    }

    /** A SAYING asks for several things: each of them alone keeps it from being NEEDLESS. */
    private static void needlessButForOneLink() {
        String firstIsFive = "b on 4;b before a by 1;";
        String lastIsEight = "c on 9;a before c by 1;";
        String from = "a from 5 to 8;";
        firstNeedless(from + firstIsFive + "a lasts 3;", 1);
        firstNeedless(from + firstIsFive + "a lasts 2 to 3;", 0);
        firstNeedless(from + firstIsFive + "a lasts 3 to 4;", 0);
        firstNeedless(from + lastIsEight + "a lasts 3;", 1);
        firstNeedless(from + lastIsEight + "a lasts 2 to 3;", 0);
        firstNeedless(from + lastIsEight + "a lasts 3 to 4;", 0);
        firstNeedless("a on 5;" + firstIsFive + "a lasts 0;", 1);
        firstNeedless("a on 5;" + firstIsFive + "a lasts 0 to 1;", 0);
        firstNeedless("a on 8;" + lastIsEight + "a lasts 0 to 1;", 0);
        firstNeedless("a lasts 2 to 4;a since 5;a by 9;", 0);
        firstNeedless("a lasts 0 to 4;a since 5;a by 9;", 1);
        firstNeedless("a lasts 1 to 4;a since 5;a by 9;", 0);
        firstNeedless("a lasts 0 to 3;a since 5;a by 9;", 0);
        firstNeedless("a before b;a by 5;b since 5;", 0);
        firstNeedless("a before b;a by 5;b since 6;", 1);
        firstNeedless("a before b by 1;a on 5;b on 6;", 1);
        firstNeedless("a before b by 2;a on 5;b since 7;", 0);
        firstNeedless("a before b by 2;a by 5;b on 7;", 0);
        firstNeedless("a before b by 2 to 4;a on 5;b since 7;b by 9;", 1);
        firstNeedless("a before b by 2 to 4;a on 5;b since 7;b by 10;", 0);
        firstNeedless("a before b by 2 to 4;a on 5;b since 6;b by 9;", 0);
        firstNeedless("a while b;a from 5 to 8;b since 5;", 0);
        firstNeedless("a while b;b on 5;a since 5;", 0);
        firstNeedless("a while b;b on 5;a by 5;", 0);
        firstNeedless("a while b;b on 5;a by 5;a since 5;", 1);
    }

    private static void firstNeedless(String text, int want) {
        Probe p = new Probe();
        Probe.due("fault of '" + text + "'", p.tell(0, text) < 0, false);
        Probe.due("needless(0, 0) of '" + text + "'", p.x.needless(0, 0), want);
    }

    private static void needless(Probe p, int t, int... want) {
        for (int k = 0; k < want.length; k++) {
            int number = k;
            Probe.due("needless(" + t + ", " + k + ")", Probe.of(() -> p.x.needless(t, number)), want[k]);
        }
        Probe.due("agree() stays", p.x.agree(), want[0] == -1 && p.x.count(2) == 63 ? 0 : 1);
    }

    private static void wrongArguments() {
        Probe p = new Probe();
        p.taken(0, "a on 5;", 1);
        for (int t : new int[] {-1, 6, Integer.MIN_VALUE, Integer.MAX_VALUE}) {
            Probe.due("needless(" + t + ", 0)", Probe.of(() -> p.x.needless(t, 0)), Probe.INDEX);
        }
        for (int k : new int[] {-1, 1, 12, Integer.MIN_VALUE, Integer.MAX_VALUE}) {
            Probe.due("needless(0, " + k + ")", Probe.of(() -> p.x.needless(0, k)), CaseOrder.NONE);
            Probe.due("needless(1, " + k + ")", Probe.of(() -> p.x.needless(1, k)), CaseOrder.NONE);
            Probe.due("quarrelled(" + k + ")", p.x.quarrelled(k), CaseOrder.NONE);
        }
        p.taken(1, "a on 6;", 1);
        for (int i : new int[] {-1, 2, 72, Integer.MIN_VALUE, Integer.MAX_VALUE}) {
            Probe.due("quarrelled(" + i + ")", p.x.quarrelled(i), CaseOrder.NONE);
        }
        p.x.hear(62);
        Probe.due("needless(0, 0) of one not heard", p.x.needless(0, 0), CaseOrder.NONE);
        Probe.due("needless(1, 0)", p.x.needless(1, 0), 0);
    }
}
