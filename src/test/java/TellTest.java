/** Promises 4 (tell), 5 (fault), 7 (saying) and 20 (sayings), and the texts of the Terms. */
public final class TellTest {
    public static void main(String[] args) {
        kinds();
        blanks();
        noTokens();
        tokensThatCannotCome();
        ends();
        numbers();
        sameNames();
        tooMany();
        longTexts();
        allStays();
        replaced();
        wrongArguments();
        Probe.close("TellTest");
    }

    private static void kinds() {
        Probe p = new Probe();
        p.taken(0, "a on 7;b from 3 to 9;c by 8;d since 0;", 4);
        p.saying(0, 0, 0, 0, -1, 7, -1, 0);
        p.saying(0, 1, 1, 1, -1, 3, 9, 7);
        p.saying(0, 2, 2, 2, -1, 8, -1, 21);
        p.saying(0, 3, 3, 3, -1, 0, -1, 28);
        p.taken(1, "a lasts 0;a lasts 2 to 9999;a before b;c before d by 1;e before f by 12 to 12;g while a;", 6);
        p.saying(1, 0, 4, 0, -1, 0, -1, 0);
        p.saying(1, 1, 4, 0, -1, 2, 9999, 10);
        p.saying(1, 2, 5, 0, 1, -1, -1, 28);
        p.saying(1, 3, 5, 2, 3, 1, -1, 39);
        p.saying(1, 4, 5, 4, 5, 12, 12, 55);
        p.saying(1, 5, 6, 6, 0, -1, -1, 78);
        Probe.due("sayings(0)", p.x.sayings(0), 4);
        Probe.due("sayings(1)", p.x.sayings(1), 6);
        Probe.due("sayings(2)", p.x.sayings(2), 0);
    }

    private static void blanks() {
        Probe p = new Probe();
        p.taken(0, "", 0);
        p.taken(0, " \n\n ", 0);
        p.taken(0, "\n a \n on\n\n0007 ;\nb by 1\n;  ", 2);
        p.saying(0, 0, 0, 0, -1, 7, -1, 2);
        p.saying(0, 1, 2, 1, -1, 1, -1, 17);
        p.refused("a\ton 5;", 1, 1);
        p.refused("a on 5;\r\n", 1, 7);
    }

    private static void noTokens() {
        Probe p = new Probe();
        p.taken(1, "abcdefgh on 9999;", 1);
        p.refused("abcdefghi on 5;", 1, 0);
        p.refused("a on 00005;", 1, 5);
        p.refused("a5 on 5;", 1, 0);
        p.refused("a on5;", 1, 2);
        p.refused("a on 5x;", 1, 5);
        p.refused("a on 5 x;", 1, 7);
        p.refused("A on 5;", 1, 0);
        p.refused("aB on 5;", 1, 1);
        p.refused("a on -5;", 1, 5);
        p.refused("a on 5.", 1, 6);
        p.refused("a on 5;.", 1, 7);
        p.refused(".", 1, 0);
        p.refused("a on 5;`", 1, 7);
        p.refused("a on 5;{", 1, 7);
        p.refused("a on /;", 1, 5);
        p.refused("a on :;", 1, 5);
        p.refused("a on 5;" + (char) 0, 1, 7);
        Probe.due("no HAPPENING comes from what is refused", p.x.count(0), 1);
    }

    private static void tokensThatCannotCome() {
        Probe p = new Probe();
        String[] words = {"on", "from", "to", "by", "since", "lasts", "before", "while"};
        for (String word : words) {
            p.refused(word + " on 5;", 1, 0);
            p.refused("a before " + word + ";", 1, 9);
            p.refused("a while " + word + ";", 1, 8);
            p.taken(0, "x" + word + "x on 5;", 1);
            p.taken(0, "x on 5;", 1);
        }
        p.refused("5 on 5;", 1, 0);
        p.refused(";", 1, 0);
        p.refused("a on 5;;", 1, 7);
        p.refused("a b on 5;", 1, 2);
        p.refused("a 5;", 1, 2);
        p.refused("a ;", 1, 2);
        p.refused("a to 5;", 1, 2);
        p.refused("a on ;", 1, 5);
        p.refused("a on b;", 1, 5);
        p.refused("a on on;", 1, 5);
        p.refused("a on 5 to 6;", 1, 7);
        p.refused("a by 5 to 6;", 1, 7);
        p.refused("a since 5 to 6;", 1, 10);
        p.refused("a from 5;", 1, 8);
        p.refused("a from 5 by 6;", 1, 9);
        p.refused("a from 5 to 6 to 7;", 1, 14);
        p.refused("a from 5 to;", 1, 11);
        p.refused("a lasts b;", 1, 8);
        p.refused("a lasts 5 by 6;", 1, 10);
        p.refused("a lasts 5 to;", 1, 12);
        p.refused("a lasts 5 to 6 to 7;", 1, 15);
        p.refused("a before 5;", 1, 9);
        p.refused("a before b to 5;", 1, 11);
        p.refused("a before b 5;", 1, 11);
        p.refused("a before b by;", 1, 13);
        p.refused("a before b by c;", 1, 14);
        p.refused("a before b by 1 to;", 1, 18);
        p.refused("a before b by 1 by 2;", 1, 16);
        p.refused("a before b by 1 to 2 to 3;", 1, 21);
        p.refused("a while 5;", 1, 8);
        p.refused("a while b by 5;", 1, 10);
        p.refused("a while b c;", 1, 10);
    }

    private static void ends() {
        Probe p = new Probe();
        String[] whole = {"a", "on", "5", ";"};
        StringBuilder text = new StringBuilder();
        for (int i = 0; i < whole.length - 1; i++) {
            text.append(whole[i]);
            p.refused(text.toString(), 1, text.length());
            text.append(' ');
            p.refused(text.toString(), 1, text.length());
        }
        p.refused("a from 5 to", 1, 11);
        p.refused("a lasts 5 to \n", 1, 14);
        p.refused("a before", 1, 8);
        p.refused("a before b", 1, 10);
        p.refused("a before b by", 1, 13);
        p.refused("a before b by 2 to 3", 1, 20);
        p.refused("a while b", 1, 9);
        p.refused("a on 5;b", 1, 8);
    }

    private static void numbers() {
        Probe p = new Probe();
        p.refused("a from 5 to 4;", 2, 12);
        p.taken(0, "a from 5 to 5;", 1);
        p.refused("a from 10 to 0009;", 2, 13);
        p.refused("a lasts 1 to 0;", 2, 13);
        p.taken(0, "a lasts 0 to 0;", 1);
        p.refused("a before b by 0;", 2, 14);
        p.refused("a before b by 0000 to 0;", 2, 14);
        p.refused("a before b by 0 to 5;", 2, 14);
        p.refused("a before b by 5 to 4;", 2, 19);
        p.taken(0, "a before b by 1 to 1;", 1);
        p.taken(0, "a on 0;a by 0;a since 0;a lasts 0;a from 0 to 0;", 5);
        p.refused("a from 5 to 4", 2, 12);
        p.refused("a from 5 to 4x;", 1, 12);
        p.refused("a from 5 to 00004;", 1, 12);
    }

    private static void sameNames() {
        Probe p = new Probe();
        p.refused("a before a;", 3, 9);
        p.refused("ab while\nab;", 3, 9);
        p.refused("ab before ab by 0;", 3, 10);
        p.taken(0, "ab before a;ab while abc;", 2);
    }

    private static void tooMany() {
        Probe p = new Probe();
        String dozen = "a on 5;".repeat(12);
        p.taken(0, dozen, 12);
        p.taken(0, dozen + " \n", 12);
        p.refused(dozen + "a on 5;", 4, 84);
        p.refused(dozen + "\n b", 4, 86);
        p.refused(dozen + "a to", 4, 84);
        p.refused(dozen + "5", 1, 84);
        p.refused(dozen + "on", 1, 84);
        p.refused(dozen + ";", 1, 84);
        p.refused(dozen + "abcdefghi", 1, 84);
        p.taken(0, "b before c;d before e;f before g;h before i;j before k;l before m;n before o;p before q;r before s;", 9);
        Probe.due("nineteen", p.x.count(0), 19);
        p.refused("t before u;", 4, 9);
        p.refused("t before t;", 3, 9);
        p.refused("a before t;b before u by 0;", 4, 20);
        Probe.due("still nineteen", p.x.count(0), 19);
        p.taken(1, "a before t;t before b;", 2);
        Probe.due("twenty", p.x.count(0), 20);
        p.refused("u on 5;", 4, 0);
        p.refused("a on 5;u before u;", 4, 7);
        p.refused("a while u;", 4, 8);
        p.refused("a on 5;u5", 1, 7);
        p.taken(2, "a on 5;t on 6;", 2);
    }

    private static void longTexts() {
        Probe p = new Probe();
        p.taken(0, "a on 5;" + " ".repeat(393), 1);
        Probe.refusedAnew("a on 5;" + " ".repeat(394), 1, 400);
        Probe.refusedAnew("a on 5;" + " ".repeat(433), 1, 400);
        Probe.refusedAnew(" ".repeat(401), 1, 400);
        p.taken(0, " ".repeat(393) + "a on 5;", 1);
        p.saying(0, 0, 0, 0, -1, 5, -1, 393);
        Probe.refusedAnew(" ".repeat(394) + "a on 5;", 1, 400);
        Probe.refusedAnew(" ".repeat(395) + "a on 5", 1, 400);
        Probe.refusedAnew(" ".repeat(394) + "a on 5", 1, 400);
        Probe.refusedAnew(" ".repeat(394) + "a on ", 1, 399);
        // Read whole: nine letters, five digits, a number below the one ahead.
        Probe.refusedAnew(" ".repeat(399) + "abcdefgh on 5;", 1, 400);
        Probe.refusedAnew(" ".repeat(399) + "abcdefghi on 5;", 1, 399);
        Probe.refusedAnew(" ".repeat(394) + "a on 1234;", 1, 400);
        Probe.refusedAnew(" ".repeat(394) + "a on 12345;", 1, 399);
        Probe.refusedAnew(" ".repeat(389) + "a from 20 to 13;", 1, 400);
        Probe.refusedAnew(" ".repeat(387) + "a from 2 to 1;" + " ".repeat(20), 2, 399);
        Probe.refusedAnew(" ".repeat(386) + "a from 20 to 13;", 2, 399);
        Probe.refusedAnew(" ".repeat(386) + "a from 20 to 130;", 1, 400);
        Probe.refusedAnew(" ".repeat(390) + "a before aa;", 1, 400);
        Probe.refusedAnew(" ".repeat(390) + "a before a;", 3, 399);
        Probe.refusedAnew(" ".repeat(391) + "a before a;", 1, 400);
        Probe.refusedAnew(" ".repeat(388) + "aa before aa;", 3, 398);
        Probe.refusedAnew("a on 5;".repeat(12) + " ".repeat(316) + "a on 5;", 1, 400);
        Probe.refusedAnew("a on 5;".repeat(12) + " ".repeat(315) + "a on 5;", 4, 399);
        Probe.refusedAnew(" ".repeat(400) + "$", 1, 400);
        Probe.refusedAnew(" ".repeat(399) + "$ ", 1, 399);
        Probe.refusedAnew("$" + " ".repeat(439), 1, 0);
        Probe.refusedAnew("a".repeat(440), 1, 0);
        Probe.refusedAnew(";".repeat(440), 1, 0);
    }

    private static void allStays() {
        Probe p = new Probe();
        p.taken(3, "a on 5;b before a;", 2);
        p.x.hear(9);
        p.x.name(1);
        Probe.feed(p.x, "c on 5;a on 6;a on");
        Probe.due("tell(3)", p.x.tell(3), -19);
        Probe.due("fault()", p.x.fault(), 1);
        p.saying(3, 0, 0, 0, -1, 5, -1, 0);
        p.saying(3, 1, 5, 1, 0, -1, -1, 7);
        p.bounds(0, 5, 5, 5, 5);
        int[] want = {2, 2, 9, 0, 1};
        for (int what = 0; what < 5; what++) {
            Probe.due("count(" + what + ") stays", p.x.count(what), want[what]);
        }
        p.happening("c", CaseOrder.NONE);
        p.taken(4, "d on 1;c on 1;", 2);
        p.happening("d", 2);
        p.happening("c", 3);
    }

    private static void replaced() {
        Probe p = new Probe();
        p.taken(0, "a on 5;b on 6;", 2);
        p.taken(1, "c on 5;", 1);
        p.taken(0, "b by 7;", 1);
        p.saying(0, 0, 2, 1, -1, 7, -1, 0);
        p.saying(1, 0, 0, 2, -1, 5, -1, 0);
        Probe.due("saying(0, 1, 0)", Probe.of(() -> p.x.saying(0, 1, 0)), Probe.ELEMENT);
        p.bounds(0, 0, 9999, 0, 9999);
        p.taken(0, "a before b;", 1);
        p.saying(0, 0, 5, 0, 1, -1, -1, 0);
        p.taken(0, "", 0);
        Probe.due("count(1)", p.x.count(1), 1);
        Probe.due("count(0)", p.x.count(0), 3);
    }

    private static void wrongArguments() {
        Probe p = new Probe();
        p.taken(5, "a on 5;", 1);
        p.refused("a", 1, 1);
        Probe.feed(p.x, "a on 6;");
        int[] strange = {-1, 6, 64, Integer.MIN_VALUE, Integer.MAX_VALUE};
        for (int t : strange) {
            Probe.due("tell(" + t + ")", Probe.of(() -> p.x.tell(t)), Probe.INDEX);
            Probe.due("the tape stays", p.x.count(3), 7);
            Probe.due("fault() stays", p.x.fault(), 1);
            Probe.due("sayings(" + t + ")", Probe.of(() -> p.x.sayings(t)), Probe.INDEX);
            Probe.due("saying(" + t + ", 0, 0)", Probe.of(() -> p.x.saying(t, 0, 0)), Probe.INDEX);
            Probe.due("saying(" + t + ", 9, 9)", Probe.of(() -> p.x.saying(t, 9, 9)), Probe.INDEX);
        }
        for (int k : new int[] {-1, 1, 12, Integer.MIN_VALUE, Integer.MAX_VALUE}) {
            Probe.due("saying(5, " + k + ", 0)", Probe.of(() -> p.x.saying(5, k, 0)), Probe.ELEMENT);
        }
        for (int what : strange) {
            Probe.due("saying(5, 0, " + what + ")", Probe.of(() -> p.x.saying(5, 0, what)), Probe.ELEMENT);
        }
        Probe.due("saying(0, 0, 0)", Probe.of(() -> p.x.saying(0, 0, 0)), Probe.ELEMENT);
        Probe.due("tell(5)", p.x.tell(5), 1);
        Probe.due("fault()", p.x.fault(), 0);
    }
}
