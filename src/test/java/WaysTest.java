/** Promises 6 (hear), 11 (agree), 12 (bound), 13 (between), 14 (order) and 19 (at). */
public final class WaysTest {
    public static void main(String[] args) {
        kindsAlone();
        kindsOfTwo();
        chains();
        edgesOfTime();
        heard();
        noWay();
        lines();
        wrongArguments();
        fullHouse();
        Probe.close("WaysTest");
    }

    private static Probe told(String text) {
        Probe p = new Probe();
        Probe.due("fault of '" + text + "'", p.tell(0, text) < 0, false);
        return p;
    }

    private static void kindsAlone() {
        told("a on 7;").bounds(0, 7, 7, 7, 7);
        told("a from 7 to 9;").bounds(0, 7, 7, 9, 9);
        told("a by 7;").bounds(0, 0, 7, 0, 7);
        told("a since 7;").bounds(0, 7, 9999, 7, 9999);
        told("a lasts 7;").bounds(0, 0, 9992, 7, 9999);
        told("a lasts 7 to 9;").bounds(0, 0, 9992, 7, 9999);
        told("a lasts 7 to 9;a since 9990;").bounds(0, 9990, 9992, 9997, 9999);
        told("a lasts 7 to 9;a on 5;a lasts 0;").bounds(0, -1, -1, -1, -1);
        told("a lasts 7 to 9;a by 8;").bounds(0, 0, 1, 7, 8);
    }

    private static void kindsOfTwo() {
        Probe p = told("a before b;");
        p.bounds(0, 0, 9998, 0, 9998);
        p.bounds(1, 1, 9999, 1, 9999);
        between(p, 0, 1, 1, 9999);
        between(p, 1, 0, -9999, -1);
        p = told("a before b by 3;");
        p.bounds(1, 3, 9999, 3, 9999);
        between(p, 0, 1, 3, 3);
        p = told("a before b by 3 to 5;a on 10;");
        p.bounds(1, 13, 15, 13, 9999);
        between(p, 0, 1, 3, 5);
        p = told("a while b;b from 10 to 12;");
        p.bounds(0, 10, 12, 10, 12);
        between(p, 0, 1, -2, 0);
        between(p, 1, 0, -2, 0);
        p = told("a while b;a from 10 to 12;");
        p.bounds(1, 0, 10, 12, 9999);
    }

    private static void between(Probe p, int g, int h, int least, int greatest) {
        Probe.due("between(" + g + ", " + h + ", false)", Probe.of(() -> p.x.between(g, h, false)), least);
        Probe.due("between(" + g + ", " + h + ", true)", Probe.of(() -> p.x.between(g, h, true)), greatest);
    }

    private static void chains() {
        Probe p = told("a before b by 2;b lasts 3;b before c by 4 to 6;c while d;d lasts 10;a on 1;");
        p.bounds(1, 3, 3, 6, 6);
        p.bounds(2, 10, 12, 10, 22);
        p.bounds(3, 0, 12, 10, 22);
        between(p, 0, 2, 9, 11);
        between(p, 2, 3, -10, 0);
        Probe.due("order(0, 2)", p.x.order(0, 2), 1);
        Probe.due("order(2, 0)", p.x.order(2, 0), -1);
        Probe.due("order(0, 3)", p.x.order(0, 3), 0);
        Probe.due("order(3, 2)", p.x.order(3, 2), -1);
        Probe.due("order(2, 2)", p.x.order(2, 2), -1);
        p.line(3, 0, 1, 2);
        p = told("a from 1 to 3;b since 3;c since 4;d from 3 to 4;");
        Probe.due("order on one day", p.x.order(0, 3), -1);
        Probe.due("order at times", p.x.order(0, 1), 0);
        Probe.due("order by one day", p.x.order(0, 2), 1);
    }

    private static void edgesOfTime() {
        Probe p = told("a on 9999;b on 0;b before a by 9999;");
        Probe.due("agree()", p.x.agree(), 1);
        between(p, 1, 0, 9999, 9999);
        between(p, 0, 1, -9999, -9999);
        Probe.due("no day behind 9999", told("a on 9999;a before b;").x.agree(), 0);
        Probe.due("no day ahead of 0", told("a on 0;b before a;").x.agree(), 0);
        Probe.due("lasts all", told("a lasts 9999;").x.agree(), 1);
        Probe.due("lasts more", told("a lasts 9999;a since 1;").x.agree(), 0);
        Probe.due("lasts and is before", told("a lasts 9999;a before b;").x.agree(), 0);
        Probe.due("by and since", told("a by 5;a since 5;").x.agree(), 1);
        Probe.due("by ahead of since", told("a by 4;a since 5;").x.agree(), 0);
        Probe.due("round", told("a before b;b before c;c before a;").x.agree(), 0);
        Probe.due("while each other", told("a while b;b while a;").x.agree(), 1);
        Probe.due("while and before", told("a while b;a before b;").x.agree(), 0);
        StringBuilder chain = new StringBuilder();
        for (int i = 0; i < 11; i++) {
            chain.append((char) ('a' + i)).append(" before ").append((char) ('b' + i)).append(" by 909;");
        }
        p = told(chain.toString());
        p.bounds(0, 0, 0, 0, 0);
        p.bounds(11, 9999, 9999, 9999, 9999);
        chain.append("a lasts 0 to 5;");
        p = told(chain.toString());
        Probe.due("agree()", p.x.agree(), 1);
        p.taken(1, "f lasts 1;", 1);
        Probe.due("agree()", p.x.agree(), 0);
    }

    private static void heard() {
        Probe p = new Probe();
        p.taken(0, "a on 5;", 1);
        p.taken(1, "a on 6;", 1);
        p.taken(5, "b on 7;", 1);
        Probe.due("all", p.x.agree(), 0);
        for (int tellers = 0; tellers < 64; tellers++) {
            Probe.due("hear(" + tellers + ")", p.x.hear(tellers), true);
            Probe.due("count(2)", p.x.count(2), tellers);
            Probe.due("agree() of " + tellers, p.x.agree(), (tellers & 3) == 3 ? 0 : 1);
        }
        p.x.hear(32);
        p.bounds(0, 0, 9999, 0, 9999);
        p.bounds(1, 7, 7, 7, 7);
        for (int strange : new int[] {-1, 64, 127, Integer.MIN_VALUE, Integer.MAX_VALUE}) {
            Probe.due("hear(" + strange + ")", p.x.hear(strange), false);
            Probe.due("count(2) stays", p.x.count(2), 32);
        }
        p.x.hear(1);
        p.bounds(0, 5, 5, 5, 5);
        p.bounds(1, 0, 9999, 0, 9999);
        p.taken(0, "b on 9;", 1);
        p.bounds(1, 9, 9, 9, 9);
        p.taken(1, "b on 8;", 1);
        Probe.due("one who is not heard tells", p.x.agree(), 1);
        p.x.hear(2);
        p.bounds(1, 8, 8, 8, 8);
    }

    private static void noWay() {
        Probe p = told("a on 5;a on 6;b on 7;");
        Probe.due("agree()", p.x.agree(), 0);
        p.bounds(0, -1, -1, -1, -1);
        p.bounds(1, -1, -1, -1, -1);
        between(p, 0, 1, Probe.ELEMENT, Probe.ELEMENT);
        Probe.due("order(0, 1)", p.x.order(0, 1), -2);
        p.line();
        p.x.hear(0);
        Probe.due("nobody", p.x.agree(), 1);
        p.line(0, 1);
    }

    private static void lines() {
        told("a on 5;b on 3;c on 4;").line(1, 2, 0);
        told("a on 5;b on 5;c on 5;").line(0, 1, 2);
        told("a from 5 to 7;b from 5 to 6;c from 4 to 9;").line(2, 1, 0);
        told("a since 5;b from 5 to 6;c since 5;").line(0, 2, 1);
        Probe p = told("a before b;");
        p.line(0, 1);
        p.taken(1, "c on 0;d before a;", 2);
        p.line(2, 3, 0, 1);
        p.x.hear(1);
        p.line(0, 2, 3, 1);
        p.taken(0, "b before a;", 1);
        p.line(1, 2, 3, 0);
    }

    private static void wrongArguments() {
        Probe p = told("a on 5;b on 6;");
        for (int h : new int[] {-1, 2, 19, 20, Integer.MIN_VALUE, Integer.MAX_VALUE}) {
            p.bounds(h, -1, -1, -1, -1);
            between(p, 0, h, Probe.ELEMENT, Probe.ELEMENT);
            between(p, h, 0, Probe.ELEMENT, Probe.ELEMENT);
            Probe.due("order(0, " + h + ")", p.x.order(0, h), -2);
            Probe.due("order(" + h + ", 0)", p.x.order(h, 0), -2);
            Probe.due("at(" + h + ")", p.x.at(h), CaseOrder.NONE);
        }
        for (int what : new int[] {-1, 4, Integer.MIN_VALUE, Integer.MAX_VALUE}) {
            Probe.due("bound(0, " + what + ")", p.x.bound(0, what), CaseOrder.NONE);
        }
    }

    /** Twenty HAPPENINGS and 72 SAYINGS that put the most links. */
    private static void fullHouse() {
        Probe p = new Probe();
        for (int t = 0; t < 6; t++) {
            StringBuilder text = new StringBuilder();
            for (int k = 0; k < 12; k++) {
                char name = (char) ('a' + (t * 12 + k) % 20);
                text.append(name).append(" from ").append(name - 'a').append(" to ").append((int) name).append(';');
            }
            p.taken(t, text.toString(), 12);
        }
        Probe.due("count(0)", p.x.count(0), 20);
        Probe.due("count(1)", p.x.count(1), 72);
        for (int h = 0; h < 20; h++) {
            p.bounds(h, h, h, 'a' + h, 'a' + h);
            Probe.due("at(" + h + ")", p.x.at(h), h);
        }
        p.x.hear(31);
        p.taken(5, "t from 19 to 117;", 1);
        Probe.due("agree()", p.x.agree(), 1);
        p.x.hear(63);
        p.quarrel(411, 500);
        Probe.due("leave()", p.x.leave(), 32);
    }
}
