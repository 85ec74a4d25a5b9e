/** Terms, DAYS, SAYINGS, HEARD, WAY, QUARREL, NEEDLESS and LINE, up to each edge and beyond it. */
public final class DayEdgesTest {
    private static final int[] DAYS = {0, 1, 2, 3, 9997, 9998, 9999};
    private static final String TWENTY = "abcdefghijklmnopqrst";

    private interface Rule {
        boolean holds(int first, int last, int otherFirst, int otherLast);
    }

    public static void main(String[] args) {
        sayingsOfOne();
        sayingsOfTwo();
        daysFromZero();
        firstNotBehindLast();
        chainOverAllDays();
        orderAtOneDay();
        heardAtTheEdges();
        quarrelAtTheEdges();
        quarrelOfThirtyNine();
        quarrelOfSeventyTwo();
        theFullestOfAll();
        quarrelGoesByTellers();
        leaveOfLikeOnes();
        needlessAtTheEdges();
        needlessButForOnePart();
        needlessOfTheOthers();
        lineOfLikeOnes();
        lineOfTwenty();
        Probe.close("DayEdgesTest");
    }

    /** TELLER 1 says all days, so TELLER 0's SAYING holds on them, or they do not AGREE. */
    private static void holdsJustWhere(String saying, Rule rule) {
        for (int first : DAYS) {
            for (int last : DAYS) {
                for (int otherFirst : DAYS) {
                    for (int otherLast : DAYS) {
                        if (first <= last && otherFirst <= otherLast) {
                            holds(saying, "a from " + first + " to " + last + ";b from " + otherFirst + " to "
                                + otherLast + ";", rule.holds(first, last, otherFirst, otherLast));
                        }
                    }
                }
            }
        }
    }

    private static void holds(String saying, String days, boolean want) {
        CaseOrder x = new CaseOrder();
        Probe.feed(x, saying);
        Probe.due("tell(0) of " + saying, x.tell(0), 1);
        Probe.feed(x, days);
        Probe.due("tell(1) of " + days, x.tell(1), 2);
        Probe.due("agree() of " + saying + " and " + days, x.agree(), want ? 1 : 0);
        Probe.due("needless(0, 0) of " + saying + " and " + days, x.needless(0, 0), want ? 1 : CaseOrder.NONE);
    }

    private static void sayingsOfOne() {
        for (int day : DAYS) {
            holdsJustWhere("a on " + day + ";", (f, l, g, m) -> f == day && l == day);
            holdsJustWhere("a by " + day + ";", (f, l, g, m) -> l <= day);
            holdsJustWhere("a since " + day + ";", (f, l, g, m) -> f >= day);
            holdsJustWhere("a lasts " + day + ";", (f, l, g, m) -> l - f == day);
        }
        holdsJustWhere("a from 1 to 3;", (f, l, g, m) -> f == 1 && l == 3);
        holdsJustWhere("a from 2 to 2;", (f, l, g, m) -> f == 2 && l == 2);
        holdsJustWhere("a from 0 to 9999;", (f, l, g, m) -> f == 0 && l == 9999);
        holdsJustWhere("a lasts 1 to 2;", (f, l, g, m) -> l - f >= 1 && l - f <= 2);
        holdsJustWhere("a lasts 2 to 2;", (f, l, g, m) -> l - f == 2);
        holdsJustWhere("a lasts 0 to 9999;", (f, l, g, m) -> true);
        holdsJustWhere("a lasts 9996 to 9998;", (f, l, g, m) -> l - f >= 9996 && l - f <= 9998);
    }

    private static void sayingsOfTwo() {
        holdsJustWhere("a before b;", (f, l, g, m) -> g - l >= 1);
        for (int gap : DAYS) {
            if (gap > 0) {
                holdsJustWhere("a before b by " + gap + ";", (f, l, g, m) -> g - l == gap);
                int most = Math.max(gap, 9998);
                holdsJustWhere("b before a by " + gap + " to " + most + ";",
                    (f, l, g, m) -> f - m >= gap && f - m <= most);
            }
        }
        holdsJustWhere("a before b by 1 to 2;", (f, l, g, m) -> g - l >= 1 && g - l <= 2);
        holdsJustWhere("a before b by 2 to 2;", (f, l, g, m) -> g - l == 2);
        holdsJustWhere("a before b by 1 to 9999;", (f, l, g, m) -> g - l >= 1);
        holdsJustWhere("a while b;", (f, l, g, m) -> f >= g && l <= m);
        holdsJustWhere("b while a;", (f, l, g, m) -> g >= f && m <= l);
    }

    private static Probe told(String... texts) {
        Probe p = new Probe();
        for (int t = 0; t < texts.length; t++) {
            Probe.due("a FAULT in '" + texts[t] + "'", p.tell(t, texts[t]) < 0, false);
        }
        return p;
    }

    private static void days(String text, int... bounds) {
        told(text).bounds(0, bounds);
    }

    private static void daysFromZero() {
        Probe p = told("a by 9999;");
        p.bounds(0, 0, 9999, 0, 9999);
        Probe.due("least", p.x.between(0, 0, false), -9999);
        Probe.due("greatest", p.x.between(0, 0, true), 0);
        days("a on 0;", 0, 0, 0, 0);
        days("a on 9999;", 9999, 9999, 9999, 9999);
        days("a by 0;", 0, 0, 0, 0);
        days("a since 9999;", 9999, 9999, 9999, 9999);
        days("a lasts 9999;", 0, 0, 9999, 9999);
        days("a lasts 9998;", 0, 1, 9998, 9999);
        days("a lasts 9998 to 9999;", 0, 1, 9998, 9999);
        days("a before b;", 0, 9998, 0, 9998);
        days("a before b by 9999;", 0, 0, 0, 0);
        days("a before b by 9998;", 0, 1, 0, 1);
        days("a before b by 9998 to 9999;", 0, 1, 0, 1);
        Probe.due("none ahead of 0", told("a on 0;b before a;").x.agree(), 0);
        Probe.due("one ahead of 1", told("a on 1;b before a;").x.agree(), 1);
        Probe.due("none behind 9999", told("a on 9999;a before b;").x.agree(), 0);
        Probe.due("one behind 9998", told("a on 9998;a before b;").x.agree(), 1);
        Probe.due("too long from 1", told("a lasts 9999;a since 1;").x.agree(), 0);
        Probe.due("too long by 9998", told("a lasts 9999;a by 9998;").x.agree(), 0);
    }

    private static void firstNotBehindLast() {
        days("a by 7;", 0, 7, 0, 7);
        days("a since 7;", 7, 9999, 7, 9999);
        days("a since 7;a by 7;", 7, 7, 7, 7);
        days("a since 8;a by 7;", -1, -1, -1, -1);
        days("a while b;b on 4;", 4, 4, 4, 4);
        Probe.due("two ahead of one another", told("a before b;b before a;").x.agree(), 0);
    }

    /** Twenty HAPPENINGS one behind the other, from DAY 0 to DAY 9999: not a day is free. */
    private static Probe chain(int lasts, int lastOne) {
        StringBuilder[] texts = new StringBuilder[4];
        for (int t = 0; t < 4; t++) {
            texts[t] = new StringBuilder();
        }
        for (int h = 0; h < 20; h++) {
            texts[h / 10].append(TWENTY.charAt(h)).append(" lasts ").append(h < 19 ? lasts : lastOne).append(';');
            if (h < 19) {
                texts[2 + h / 10].append(TWENTY.charAt(h)).append(" before ").append(TWENTY.charAt(h + 1)).append(';');
            }
        }
        return told(texts[0].toString(), texts[1].toString(), texts[2].toString(), texts[3].toString());
    }

    private static void chainOverAllDays() {
        Probe p = chain(499, 499);
        Probe.due("agree()", p.x.agree(), 1);
        for (int h = 0; h < 20; h++) {
            p.bounds(h, 500 * h, 500 * h, 500 * h + 499, 500 * h + 499);
            Probe.due("at(" + h + ")", p.x.at(h), h);
        }
        Probe.due("least", p.x.between(0, 19, false), 9001);
        Probe.due("greatest", p.x.between(0, 19, true), 9001);
        Probe.due("back", p.x.between(19, 0, false), -9999);
        Probe.due("quarrel()", p.x.quarrel(), 0);
        p.taken(5, "t by 9998;", 1);
        Probe.due("agree()", p.x.agree(), 0);
        p.taken(5, "t by 9999;", 1);
        Probe.due("agree()", p.x.agree(), 1);
        p = chain(499, 498);
        p.bounds(0, 0, 1, 499, 500);
        p.bounds(19, 9500, 9501, 9998, 9999);
    }

    private static void orderAtOneDay() {
        order("a by 4;b since 5;", 1, -1);
        order("a by 5;b since 5;", 0, -1);
        order("a by 5;b since 5;b by 5;", 0, -1);
        order("a on 5;b since 5;b by 5;", -1, -1);
        order("a since 5;b by 5;", -1, 0);
        order("a since 6;b by 5;", -1, 1);
        order("a since 4;b by 5;", 0, 0);
        order("a lasts 9999;b by 9999;", -1, -1);
        order("a lasts 9998;b by 9999;", 0, 0);
        order("a before b;", 1, -1);
        order("a while b;", -1, -1);
        Probe p = told("a by 5;b by 5;");
        Probe.due("order(0, 0)", p.x.order(0, 0), -1);
        Probe.due("order(1, 1)", p.x.order(1, 1), -1);
    }

    private static void order(String text, int there, int back) {
        Probe p = told(text);
        Probe.due("order(0, 1) of " + text, p.x.order(0, 1), there);
        Probe.due("order(1, 0) of " + text, p.x.order(1, 0), back);
        int least = p.x.between(0, 1, false);
        int greatest = p.x.between(0, 1, true);
        Probe.due("between and order", least > 0 ? 1 : greatest > 0 ? 0 : -1, there);
    }

    private static void heardAtTheEdges() {
        Probe p = told("a on 1;", "a on 2;", "a on 3;", "a on 4;", "a on 5;", "a on 6;");
        Probe.due("all are HEARD at first", p.x.count(2), 63);
        Probe.due("agree()", p.x.agree(), 0);
        for (int t = 0; t < 6; t++) {
            Probe.due("hear", p.x.hear(1 << t), true);
            Probe.due("count(2)", p.x.count(2), 1 << t);
            p.bounds(0, t + 1, t + 1, t + 1, t + 1);
            Probe.due("leave()", p.x.leave(), 0);
        }
        for (int wrong : new int[] {64, 65, 128, -1, -32, Integer.MIN_VALUE, Integer.MIN_VALUE + 32, Integer.MAX_VALUE}) {
            Probe.due("hear(" + wrong + ")", p.x.hear(wrong), false);
            Probe.due("count(2)", p.x.count(2), 32);
            p.bounds(0, 6, 6, 6, 6);
        }
        Probe.due("hear(0)", p.x.hear(0), true);
        p.bounds(0, 0, 9999, 0, 9999);
        Probe.due("hear(63)", p.x.hear(63), true);
        p.bounds(0, -1, -1, -1, -1);
        p.quarrel(400, 500);
        p.taken(5, "a on 5;", 1);
        p.quarrel(300, 500);
    }

    private static void quarrelAtTheEdges() {
        told("a by 5;a since 5;").quarrel();
        told("a by 4;a since 5;").quarrel(0, 1);
        told("a on 0;b before a;").quarrel(0, 1);
        told("a on 1;b before a;").quarrel();
        told("a lasts 9999;a before b;").quarrel(0, 1);
        told("a lasts 9998;a before b;").quarrel();
        told("a before b by 9999;c before a;").quarrel(0, 1);
        told("a before b by 9998;c before a;").quarrel();
        told("", "", "", "", "", "a on 0;a on 1;").quarrel(500, 501);
        new Probe().quarrel();
    }

    private static void quarrelOfThirtyNine() {
        Probe p = chain(499, 500);
        Probe.due("agree()", p.x.agree(), 0);
        int[] all = new int[39];
        for (int i = 0; i < 39; i++) {
            all[i] = 100 * (i / 10) + i % 10;
        }
        p.quarrel(all);
        Probe.due("leave()", p.x.leave(), 1);
        p.taken(4, "t by 3;a since 4;t lasts 0 to 500;", 3);
        // Four befores put the last one behind DAY 3, and the others go as long as there are four.
        p.quarrel(305, 306, 307, 308, 400);
    }

    private static void quarrelOfSeventyTwo() {
        Probe p = new Probe();
        for (int t = 0; t < 6; t++) {
            p.taken(t, "a on 5;".repeat(t == 5 ? 11 : 12) + (t == 5 ? "a on 6;" : ""), 12);
        }
        Probe.due("count(1)", p.x.count(1), 72);
        p.quarrel(510, 511);
        Probe.due("leave()", p.x.leave(), 32);
        p.taken(5, "a on 6;".repeat(12), 12);
        p.quarrel(411, 511);
        p.taken(0, "a on 7;".repeat(12), 12);
        p.quarrel(411, 511);
        Probe.due("leave()", p.x.leave(), 33);
        p.x.hear(33);
        p.quarrel(11, 511);
    }

    /** 72 SAYINGS of 20 HAPPENINGS, each of which asks for the most; the very last one decides. */
    private static void theFullestOfAll() {
        Probe p = new Probe();
        for (int t = 0; t < 6; t++) {
            StringBuilder text = new StringBuilder();
            for (int k = 0; k < 12; k++) {
                int h = (12 * t + k) % 20;
                text.append(TWENTY.charAt(h)).append(" from ").append(h).append(" to ").append(h + 100).append(';');
            }
            p.taken(t, text.toString(), 12);
        }
        Probe.due("count(0)", p.x.count(0), 20);
        Probe.due("count(1)", p.x.count(1), 72);
        Probe.due("agree()", p.x.agree(), 1);
        for (int h = 0; h < 20; h++) {
            p.bounds(h, h, h, h + 100, h + 100);
        }
        Probe.due("needless(5, 11)", p.x.needless(5, 11), 1);
        p.x.hear(32);
        Probe.due("needless(5, 11) alone", p.x.needless(5, 11), 0);
        p.x.hear(63);
        p.taken(5, "a from 0 to 100;".repeat(11) + "l from 11 to 110;", 12);
        p.quarrel(403, 511);
        Probe.due("leave()", p.x.leave(), 32);
    }

    /** The later ones stay: each is gone through while those behind it are still there. */
    private static void quarrelGoesByTellers() {
        Probe p = told("a on 5;", "a on 6;", "a on 7;");
        p.quarrel(100, 200);
        p = told("", "a on 6;a on 7;", "a since 7;");
        p.quarrel(100, 200);
        p = told("a by 5;a since 6;", "b on 1;b on 2;");
        p.quarrel(100, 101);
        p.x.hear(1);
        p.quarrel(0, 1);
        p.x.hear(2);
        p.quarrel(100, 101);
        p.x.hear(60);
        p.quarrel();
    }

    private static void leave(int want, String... texts) {
        Probe p = told(texts);
        Probe.due("leave() of " + String.join(" | ", texts), p.x.leave(), want);
        p.x.hear(63 & ~want);
        Probe.due("the others AGREE", p.x.agree(), 1);
    }

    private static void leaveOfLikeOnes() {
        leave(0);
        leave(0, "a on 5;", "a on 5;");
        leave(1, "a on 5;", "a on 6;");
        leave(1, "a on 5;a on 6;");
        leave(2, "a on 5;", "a on 5;a on 6;");
        leave(2, "a on 5;", "a on 6;", "a on 5;");
        leave(4, "a on 5;", "a on 5;", "a on 6;");
        leave(3, "a on 5;", "a on 6;", "a on 7;");
        // Fewer go ahead of less bits: 32 ahead of 3, 24 ahead of 7.
        leave(32, "a on 5;", "a on 5;", "b on 5;", "b on 5;", "", "a on 6;b on 6;");
        leave(24, "a on 5;", "a on 5;", "a on 5;", "a on 6;", "a on 6;");
        // Of like ones the least bits: 5 of 5, 6, 9 and 10.
        leave(5, "a on 1;", "a on 2;", "b on 1;", "b on 2;");
        leave(2, "a on 1;", "a on 2;b on 2;", "b on 3;");
        leave(1, "a on 1;", "a on 2;b on 2;", "b on 2;");
        leave(31, "a on 1;", "a on 2;", "a on 3;", "a on 4;", "a on 5;", "a on 6;");
        String alone = "a on 1;a on 2;";
        leave(63, alone, alone, alone, alone, alone, alone);
        leave(62, "a on 1;", alone, alone, alone, alone, alone);
    }

    private static void needless(String text, int... want) {
        Probe p = told(text);
        for (int k = 0; k < want.length; k++) {
            Probe.due("needless(0, " + k + ") of " + text, p.x.needless(0, k), want[k]);
        }
        Probe.due("needless of none", p.x.needless(0, p.x.sayings(0)), CaseOrder.NONE);
    }

    private static void needlessAtTheEdges() {
        // What the DAYS alone ask for, and one day less.
        needless("a by 9999;", 1);
        needless("a by 9998;", 0);
        needless("a since 0;", 1);
        needless("a since 1;", 0);
        needless("a lasts 0 to 9999;", 1);
        needless("a lasts 0 to 9998;", 0);
        needless("a lasts 1 to 9999;", 0);
        needless("a before b;", 0);
        needless("a before b by 1 to 9999;", 0);
        needless("a before b;a before b by 1 to 9999;", 1, 1);
        needless("a before b;a before b by 1 to 9998;", 1, 0);
        needless("a before b;a before b by 2 to 9999;", 1, 0);
        needless("a while b;b from 0 to 9999;", 1, 0);
        needless("a while b;b from 0 to 9998;", 0, 0);
        // Up to the day and one beyond it.
        needless("a by 5;a by 5;", 1, 1);
        needless("a by 5;a by 6;", 0, 1);
        needless("a since 5;a since 4;", 0, 1);
        needless("a on 5;a by 5;a since 5;", 1, 1, 1);
        needless("a on 5;a by 6;a since 5;", 0, 1, 1);
        needless("a on 5;a by 5;a since 4;", 0, 1, 1);
        needless("a before b by 3;a before b by 3 to 4;a before b by 2 to 3;", 1, 1, 1);
        needless("a before b by 3;a before b by 2 to 4;", 0, 1);
        needless("a on 5;a on 6;", -1, -1);
    }

    /** All that a SAYING asks for but one follows from the others, then all of it. */
    private static void needlessButForOnePart() {
        String first = "b on 4;b before a by 1;";
        String last = "c on 9;a before c by 1;";
        needless("a from 5 to 8;a since 5;a lasts 3;" + last, 1);
        needless("a from 5 to 8;a since 5;" + last, 0);
        needless("a from 5 to 8;a by 8;" + first, 0);
        needless("a from 5 to 8;a lasts 3 to 4;" + first, 0);
        needless("a from 5 to 8;a lasts 2 to 3;" + first, 0);
        needless("a from 5 to 8;" + first + last, 1);
        needless("a on 5;a lasts 0;" + first, 1);
        needless("a on 5;a lasts 0 to 1;" + first, 0);
        needless("a on 8;a lasts 0 to 1;" + last, 0);
        needless("a lasts 3;a lasts 3 to 4;", 0, 1);
        needless("a lasts 3;a lasts 2 to 3;", 0, 1);
        needless("a lasts 3;a lasts 3 to 4;a lasts 2 to 3;", 1, 1, 1);
        needless("a while b;b on 5;a since 5;", 0);
        needless("a while b;b on 5;a by 5;", 0);
        needless("a while b;b on 5;a by 5;a since 5;", 1);
    }

    private static void needlessOfTheOthers() {
        Probe p = told("a on 5;", "a by 5;", "a since 5;", "a by 6;");
        for (int t = 0; t < 4; t++) {
            Probe.due("needless(" + t + ", 0)", p.x.needless(t, 0), 1);
        }
        p.x.hear(13);
        Probe.due("by 6 is not enough", p.x.needless(0, 0), 0);
        Probe.due("not HEARD", p.x.needless(1, 0), CaseOrder.NONE);
        Probe.due("from on", p.x.needless(2, 0), 1);
        Probe.due("from on", p.x.needless(3, 0), 1);
        p.x.hear(8);
        Probe.due("alone", p.x.needless(3, 0), 0);
        p.x.hear(0);
        Probe.due("nobody HEARD", p.x.needless(3, 0), CaseOrder.NONE);
        p.x.hear(63);
        p.taken(5, "a on 6;", 1);
        Probe.due("they do not AGREE", p.x.needless(0, 0), CaseOrder.NONE);
        Probe.due("nor for him", p.x.needless(5, 0), CaseOrder.NONE);
    }

    private static void lineOfLikeOnes() {
        told("b on 5;a on 5;").line(0, 1);
        told("a from 5 to 6;b from 5 to 5;").line(1, 0);
        told("a from 5 to 6;b from 4 to 9;").line(1, 0);
        told("a from 5 to 6;b since 5;c since 5;").line(1, 2, 0);
        told("a on 9999;b on 0;c on 0;").line(1, 2, 0);
        // What counts is the earliest, not the latest.
        told("a by 9999;b by 3;c on 1;").line(0, 1, 2);
        told("a since 1;b by 9;c lasts 1;").line(1, 2, 0);
        told("a on 1;a on 2;").line();
        told("").line();
    }

    private static void lineOfTwenty() {
        StringBuilder[] texts = {new StringBuilder(), new StringBuilder()};
        for (int h = 0; h < 20; h++) {
            texts[h / 10].append(TWENTY.charAt(h)).append(" on ").append(9999 - h).append(';');
        }
        Probe p = told(texts[0].toString(), texts[1].toString());
        int[] back = new int[20];
        int[] there = new int[20];
        int[] half = new int[20];
        for (int i = 0; i < 20; i++) {
            back[i] = 19 - i;
            there[i] = i;
            half[i] = i < 10 ? i : 29 - i;
        }
        p.line(back);
        p.x.hear(2);
        p.line(half);
        p.x.hear(0);
        p.line(there);
    }
}
