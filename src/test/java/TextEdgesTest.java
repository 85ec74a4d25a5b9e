import java.util.ArrayList;
import java.util.List;

/** Terms, HAPPENINGS, TELLERS, TEXT, SAYING and FAULTS, up to each edge and beyond it. */
public final class TextEdgesTest {
    private static final String[] FORMS = {
        "NAME on NUMBER ;",
        "NAME from NUMBER to NUMBER ;",
        "NAME by NUMBER ;",
        "NAME since NUMBER ;",
        "NAME lasts NUMBER ;",
        "NAME lasts NUMBER to NUMBER ;",
        "NAME before NAME ;",
        "NAME before NAME by NUMBER ;",
        "NAME before NAME by NUMBER to NUMBER ;",
        "NAME while NAME ;",
    };
    private static final String[] PIECES = {"NAME", "NUMBER", ";", "on", "from", "to", "by", "since", "lasts",
        "before", "while", "$", "x1", "."};
    private static final String TWENTY = "abcdefghijklmnopqrst";

    public static void main(String[] args) {
        whatCanComeWhere();
        whatCanComeBehindASaying();
        partsOfEachForm();
        theEndBehindBlanks();
        sayingsUpToTwelve();
        happeningsUpToTwenty();
        twentyHappeningsStay();
        twentyLongestNames();
        numbersOfHappenings();
        refusedNamesAreNotNumbered();
        tellersUpToFive();
        bytesUpToFourHundred();
        aTokenOfEachByte();
        numbersNotBelow();
        gapsOfOneAtLeast();
        theHappeningItself();
        theFirstAlongTheText();
        theLeastOfOneToken();
        faultsAtTheLastByte();
        tokensReadWhole();
        Probe.close("TextEdgesTest");
    }

    /** Each beginning of each form, with each TOKEN behind it: one that can't come, or the end. */
    private static void whatCanComeWhere() {
        List<String> seen = new ArrayList<>();
        for (String form : FORMS) {
            String[] types = form.split(" ");
            String so = "";
            for (String type : types) {
                if (!seen.contains(so)) {
                    seen.add(so);
                    nextPieces("", 0, so);
                    nextPieces("z while y;\n", 1, so);
                }
                so += type + " ";
            }
        }
    }

    private static void nextPieces(String ahead, int told, String so) {
        String text = ahead + written(so);
        if (!so.isEmpty()) {
            Probe.refusedAnew(text, 1, text.length());
        }
        for (String piece : PIECES) {
            String now = so + piece + " ";
            String longer = ahead + written(now);
            if (!mayBegin(now)) {
                Probe.refusedAnew(longer, 1, text.length());
            } else if (piece.equals(";")) {
                new Probe().taken(0, longer, told + 1);
            } else {
                Probe.refusedAnew(longer, 1, longer.length());
            }
        }
    }

    private static boolean mayBegin(String so) {
        for (String form : FORMS) {
            if ((form + " ").startsWith(so)) {
                return true;
            }
        }
        return false;
    }

    /** NAMES and NUMBERS go up along the text, so that none of them is a FAULT by itself. */
    private static String written(String so) {
        StringBuilder text = new StringBuilder();
        int next = 1;
        for (String type : so.isEmpty() ? new String[0] : so.split(" ")) {
            text.append(type.equals("NAME") ? "" + (char) ('a' + next) : type.equals("NUMBER") ? "" + next : type);
            text.append(' ');
            next++;
        }
        return text.toString();
    }

    private static void whatCanComeBehindASaying() {
        for (String form : FORMS) {
            String text = written(form);
            new Probe().taken(0, text, 1);
            for (String piece : PIECES) {
                Probe.refusedAnew(text + piece.toLowerCase().replace("number", "5"), 1,
                    piece.equals("NAME") ? text.length() + 4 : text.length());
            }
        }
    }

    private static void partsOfEachForm() {
        int[][] parts = {{0, -1, 3, -1}, {1, -1, 3, 5}, {2, -1, 3, -1}, {3, -1, 3, -1}, {4, -1, 3, -1}, {4, -1, 3, 5},
            {5, 1, -1, -1}, {5, 1, 5, -1}, {5, 1, 5, 7}, {6, 1, -1, -1}};
        for (int i = 0; i < FORMS.length; i++) {
            Probe p = new Probe();
            p.taken(3, "\n" + written(FORMS[i]), 1);
            p.saying(3, 0, parts[i][0], 0, parts[i][1], parts[i][2], parts[i][3], 1);
        }
    }

    private static void theEndBehindBlanks() {
        for (int blanks = 0; blanks < 5; blanks++) {
            String tail = " \n \n ".substring(0, blanks);
            Probe.refusedAnew("a" + tail, 1, 1 + blanks);
            Probe.refusedAnew("a on" + tail, 1, 4 + blanks);
            Probe.refusedAnew("a on 5" + tail, 1, 6 + blanks);
            Probe.refusedAnew("a before b" + tail, 1, 10 + blanks);
            Probe.refusedAnew("a before b by 1 to 2" + tail, 1, 20 + blanks);
            Probe.refusedAnew("a on 5;b" + tail, 1, 8 + blanks);
            new Probe().taken(0, "a on 5;" + tail, 1);
        }
    }

    private static void sayingsUpToTwelve() {
        for (int sayings = 0; sayings <= 14; sayings++) {
            Probe p = new Probe();
            p.taken(0, "z by 7;", 1);
            String text = "a on 5;".repeat(sayings);
            if (sayings <= 12) {
                p.taken(0, text, sayings);
                Probe.due("sayings(0)", p.x.sayings(0), sayings);
                Probe.due("the last one", Probe.of(() -> p.x.saying(0, p.x.sayings(0) - 1, 5)),
                    sayings == 0 ? Probe.ELEMENT : 7 * sayings - 7);
            } else {
                p.refused(text, 4, 84);
                p.saying(0, 0, 2, 0, -1, 7, -1, 0);
                Probe.due("sayings(0)", p.x.sayings(0), 1);
                Probe.due("count(0)", p.x.count(0), 1);
            }
            p.taken(1, "a since 1;", 1);
        }
    }

    private static String each(String names) {
        StringBuilder text = new StringBuilder();
        for (char name : names.toCharArray()) {
            text.append(name).append(" on 5;");
        }
        return text.toString();
    }

    private static Probe withHappenings(int many) {
        Probe p = new Probe();
        int first = Math.min(many, 12);
        p.taken(0, each(TWENTY.substring(0, first)), first);
        p.taken(1, each(TWENTY.substring(first, many)), many - first);
        Probe.due("count(0)", p.x.count(0), many);
        return p;
    }

    private static void happeningsUpToTwenty() {
        Probe p = withHappenings(19);
        p.refused("u on 5;v on 5;", 4, 7);
        p.refused("u before v;", 4, 9);
        p.refused("a while u;a while v;", 4, 18);
        Probe.due("nineteen stay", p.x.count(0), 19);
        Probe.due("name(19)", p.x.name(19), CaseOrder.NONE);
        p.taken(2, "a while v;v since 1;", 2);
        Probe.due("twenty", p.x.count(0), 20);
        p.happening("v", 19);
        p.refused("u on 5;", 4, 0);
        p.refused("a before u;", 4, 9);
        p.refused("v on 5; s on 5;\nu on 5;", 4, 16);
        p.refused("vv on 5;", 4, 0);
        Probe.due("twenty stay", p.x.count(0), 20);
        p.happening("u", CaseOrder.NONE);
        Probe.due("name(19)", p.x.name(19), 1);
        Probe.due("name(20)", p.x.name(20), CaseOrder.NONE);
        p.bounds(19, 1, 5, 5, 9999);
        p.bounds(20, -1, -1, -1, -1);
        Probe.due("order(19, 0)", p.x.order(19, 0), -1);
        Probe.due("order(20, 0)", p.x.order(20, 0), -2);
        Probe.due("at(19)", p.x.at(19), 18);
        Probe.due("at(20)", p.x.at(20), CaseOrder.NONE);
    }

    /** They stay, though no text has them any more: there is no room for others then. */
    private static void twentyHappeningsStay() {
        Probe p = withHappenings(20);
        p.taken(0, "", 0);
        p.taken(1, " ", 0);
        Probe.due("count(0)", p.x.count(0), 20);
        Probe.due("count(1)", p.x.count(1), 0);
        p.refused("u on 5;", 4, 0);
        for (int h = 0; h < 20; h++) {
            p.happening("" + TWENTY.charAt(h), h);
            p.bounds(h, 0, 9999, 0, 9999);
            Probe.due("at(" + h + ")", p.x.at(h), h);
        }
        p.taken(5, each("tsrqponmlkji"), 12);
        Probe.due("saying(5, 0, 1)", p.x.saying(5, 0, 1), 19);
        Probe.due("saying(5, 11, 1)", p.x.saying(5, 11, 1), 8);
    }

    private static void twentyLongestNames() {
        Probe p = new Probe();
        for (int t = 0; t < 2; t++) {
            StringBuilder text = new StringBuilder();
            for (char last : TWENTY.substring(10 * t, 10 * t + 10).toCharArray()) {
                text.append("zyxwvut").append(last).append(" on 5;");
            }
            p.taken(t, text.toString(), 10);
        }
        for (int h = 0; h < 20; h++) {
            p.happening("zyxwvut" + TWENTY.charAt(h), h);
            Probe.due("name(" + h + ")", p.x.name(h), 8);
            Probe.due("octet(0)", p.x.octet(0), 'z');
            Probe.due("octet(7)", p.x.octet(7), TWENTY.charAt(h));
        }
        p.happening("zyxwvutu", CaseOrder.NONE);
        p.happening("zyxwvut", CaseOrder.NONE);
        p.refused("zyxwvutu on 5;", 4, 0);
    }

    private static void numbersOfHappenings() {
        Probe p = new Probe();
        p.taken(4, "late before soon;soon while mid;late before end;mid on 3;", 4);
        p.happening("late", 0);
        p.happening("soon", 1);
        p.happening("mid", 2);
        p.happening("end", 3);
        p.taken(0, "new on 3;end on 4;mid before other;", 3);
        p.happening("new", 4);
        p.happening("other", 5);
        p.happening("late", 0);
        p.taken(4, "", 0);
        p.x.hear(0);
        p.happening("end", 3);
        Probe.due("count(0)", p.x.count(0), 6);
    }

    private static void refusedNamesAreNotNumbered() {
        Probe p = new Probe();
        p.refused("a on 5;b on 6;c on 7", 1, 20);
        p.refused("a on 5;b before b;", 3, 16);
        p.refused("a from 5 to 4;", 2, 12);
        p.refused("a on 5;".repeat(12) + "b", 4, 84);
        p.refused("a on 5;" + " ".repeat(394), 1, 400);
        Probe.due("count(0)", p.x.count(0), 0);
        p.happening("a", CaseOrder.NONE);
        p.taken(0, "c on 1;b on 2;a on 3;", 3);
        p.happening("c", 0);
        p.happening("b", 1);
        p.happening("a", 2);
        p.refused("d on 1;e on", 1, 11);
        p.happening("d", CaseOrder.NONE);
        p.taken(1, "e on 1;d on 1;", 2);
        p.happening("e", 3);
        p.happening("d", 4);
    }

    private static void tellersUpToFive() {
        Probe p = new Probe();
        for (int t = 0; t < 6; t++) {
            Probe.due("empty at first", p.x.sayings(t), 0);
            p.taken(t, "a since " + t + ";", 1);
            p.saying(t, 0, 3, 0, -1, t, -1, 0);
        }
        Probe.due("count(1)", p.x.count(1), 6);
        for (int t = 0; t < 6; t++) {
            p.taken(t, "", 0);
            Probe.due("sayings(" + t + ")", p.x.sayings(t), 0);
            Probe.due("count(1)", p.x.count(1), 5 - t);
        }
    }

    private static void bytesUpToFourHundred() {
        String longNames = "abcdefgh before ijklmnop by 1000 to 1001;";
        String text = longNames.repeat(9) + "a before b by 1000 to 1001;";
        for (int bytes = text.length(); bytes <= 440; bytes++) {
            Probe p = new Probe();
            String padded = text + " ".repeat(bytes - text.length());
            if (bytes <= 400) {
                p.taken(0, padded, 10);
            } else {
                p.refused(padded, 1, 400);
                Probe.due("count(0)", p.x.count(0), 0);
            }
        }
        for (int lead = 398 - text.length(); lead <= 440 - text.length(); lead++) {
            Probe p = new Probe();
            String padded = "\n".repeat(lead) + text;
            if (padded.length() <= 400) {
                p.taken(0, padded, 10);
                Probe.due("where the last one begins", p.x.saying(0, 9, 5), lead + 9 * longNames.length());
            } else {
                p.refused(padded, 1, 400);
            }
        }
    }

    private static void aTokenOfEachByte() {
        for (int bytes = 398; bytes <= 402; bytes++) {
            Probe.refusedAnew(";".repeat(bytes), 1, 0);
            Probe.refusedAnew("$".repeat(bytes), 1, 0);
            Probe.refusedAnew("a on 5" + ";".repeat(bytes - 6), 1, 7);
        }
        Probe.refusedAnew(";".repeat(440), 1, 0);
    }

    private static void numbersNotBelow() {
        String[] starts = {"a from ", "a lasts ", "a before b by "};
        int[] firsts = {1, 2, 9, 10, 99, 100, 5000, 9998, 9999};
        for (String start : starts) {
            for (int first : firsts) {
                String ahead = start + first + " to ";
                new Probe().taken(0, ahead + first + ";", 1);
                new Probe().taken(0, ahead + 9999 + ";", 1);
                Probe.refusedAnew(ahead + (first - 1) + ";", 2, ahead.length());
                Probe.refusedAnew(ahead + "0;", 2, ahead.length());
                Probe.refusedAnew(ahead + "000" + (first - 1) % 10 + ";", 2, ahead.length());
            }
        }
        new Probe().taken(0, "a from 0 to 0;", 1);
        new Probe().taken(0, "a lasts 0 to 0;", 1);
    }

    private static void gapsOfOneAtLeast() {
        for (String zero : new String[] {"0", "00", "000", "0000"}) {
            Probe.refusedAnew("a before b by " + zero + ";", 2, 14);
            Probe.refusedAnew("a before b by " + zero + " to 0;", 2, 14);
            Probe.refusedAnew("a before b by " + zero + " to 9;", 2, 14);
            Probe.refusedAnew("a before b by " + zero, 2, 14);
            Probe.refusedAnew("a before b by 1 to " + zero + ";", 2, 19);
            for (String other : new String[] {"on ", "by ", "since ", "lasts "}) {
                new Probe().taken(0, "a " + other + zero + ";", 1);
            }
        }
        new Probe().taken(0, "a before b by 1;", 1);
        new Probe().taken(0, "a before b by 0001;", 1);
        new Probe().taken(0, "a before b by 9999;", 1);
    }

    private static void theHappeningItself() {
        Probe p = new Probe();
        for (String name : new String[] {"a", "ab", "abcdefgh"}) {
            int behind = name.length() + 8;
            p.refused(name + " before " + name + ";", 3, behind);
            p.refused(name + " before " + name + " by 0;", 3, behind);
            p.refused(name + " before " + name, 3, behind);
            p.refused(name + " while  " + name + ";", 3, behind);
            Probe.due("count(0)", p.x.count(0), 0);
        }
        p.taken(0, "a before ab;ab before a;abcdefgh while abcdefg;abcdefg while abcdefgh;", 4);
        p.refused("a before ab;ab while ab;", 3, 21);
        p.saying(0, 1, 5, 1, 0, -1, -1, 12);
    }

    private static void theFirstAlongTheText() {
        Probe.refusedAnew("a from 5 to 4;$", 2, 12);
        Probe.refusedAnew("$ a from 5 to 4;", 1, 0);
        Probe.refusedAnew("a before a;a from 5 to 4;", 3, 9);
        Probe.refusedAnew("a from 5 to 4;a before a;", 2, 12);
        Probe.refusedAnew("a on 5;".repeat(12) + "a before a;$", 4, 84);
        Probe.refusedAnew("a on 5;".repeat(11) + "a before a;a on 5;", 3, 86);
        Probe.refusedAnew("a on 5;".repeat(11) + "a on 5 a on 5;", 1, 84);
        Probe p = withHappenings(20);
        p.refused("u before u;", 4, 0);
        p.refused("a before a;u on 5;", 3, 9);
        p.refused("u on 5;a from 5 to 4;", 4, 0);
        p.refused("a before u by 0;", 4, 9);
        p.refused("a from 5 to 4;u on 5;", 2, 12);
        p.refused("a to u", 1, 2);
    }

    /** What can't come there, or is no TOKEN, is of kind 1 whatever else it would be. */
    private static void theLeastOfOneToken() {
        Probe.refusedAnew("a from 50000 to 4;", 1, 7);
        Probe.refusedAnew("a from 5 to 00004;", 1, 12);
        Probe.refusedAnew("a from 5 to 4a;", 1, 12);
        Probe.refusedAnew("a from 5 4;", 1, 9);
        Probe.refusedAnew("a before b by 00000;", 1, 14);
        Probe.refusedAnew("a before b 0;", 1, 11);
        Probe.refusedAnew("a on a;", 1, 5);
        Probe.refusedAnew("a a before b;", 1, 2);
        Probe.refusedAnew("abcdefghi before abcdefghi;", 1, 0);
        Probe.refusedAnew("a before b by a;", 1, 14);
        String dozen = "a on 5;".repeat(12);
        for (String wrong : new String[] {"on", "to", "5", ";", "$", "abcdefghi", "a5", "12345"}) {
            Probe.refusedAnew(dozen + wrong, 1, 84);
        }
        Probe p = withHappenings(20);
        p.refused("abcdefghi on 5;", 1, 0);
        p.refused("u5 on 5;", 1, 0);
        p.refused("a before to;", 1, 9);
        p.refused("a on u;", 1, 5);
        p.refused("a u on 5;", 1, 2);
        p.refused(each("abcdefghijkl") + "u on 5;", 4, 84);
    }

    /** A FAULT at 399 is ahead of 400; the same one byte on is not. */
    private static void faultsAtTheLastByte() {
        atTheLastByte(new Probe(), "", "$", 1);
        atTheLastByte(new Probe(), "", ";", 1);
        atTheLastByte(new Probe(), "a ", "5;", 1);
        atTheLastByte(new Probe(), "a from 5 to ", "4;", 2);
        atTheLastByte(new Probe(), "a before b by ", "0;", 2);
        atTheLastByte(new Probe(), "a before ", "a;", 3);
        atTheLastByte(new Probe(), "a while ", "a;", 3);
        atTheLastByte(new Probe(), "a on 5;".repeat(12), "a on 5;", 4);
        atTheLastByte(withHappenings(20), "", "u on 5;", 4);
        atTheLastByte(withHappenings(20), "a before ", "u;", 4);
    }

    private static void atTheLastByte(Probe p, String ahead, String wrong, int kind) {
        p.refused(" ".repeat(399 - ahead.length()) + ahead + wrong + " ", kind, 399);
        p.refused(" ".repeat(400 - ahead.length()) + ahead + wrong, 1, 400);
        p.refused("\n".repeat(398 - ahead.length()) + ahead + "\n" + wrong + "  ", kind, 399);
    }

    private static void tokensReadWhole() {
        String blanks = " ".repeat(399);
        Probe.refusedAnew(blanks + "a", 1, 400);
        Probe.refusedAnew(blanks + "abcdefgh", 1, 400);
        Probe.refusedAnew(blanks + "abcdefghi", 1, 399);
        Probe.refusedAnew(blanks + "a".repeat(41), 1, 399);
        Probe.refusedAnew(blanks + "a5", 1, 399);
        Probe.refusedAnew(blanks + "on", 1, 399);
        Probe.refusedAnew(blanks + "ons", 1, 400);
        Probe.refusedAnew(" ".repeat(392) + "abcdefgh", 1, 400);
        Probe.refusedAnew(" ".repeat(391) + "abcdefghi", 1, 391);
        String onBlanks = " ".repeat(394) + "a on ";
        Probe.refusedAnew(onBlanks + "1", 1, 400);
        Probe.refusedAnew(onBlanks + "1234", 1, 400);
        Probe.refusedAnew(onBlanks + "12345", 1, 399);
        Probe.refusedAnew(onBlanks + "1a", 1, 399);
        Probe.refusedAnew(onBlanks + "1;", 1, 400);
        String wordBlanks = " ".repeat(397) + "a ";
        Probe.refusedAnew(wordBlanks + "on", 1, 400);
        Probe.refusedAnew(wordBlanks + "since 5;", 1, 400);
        Probe.refusedAnew(wordBlanks + "o", 1, 399);
        Probe.refusedAnew(wordBlanks + "onto", 1, 399);
        String fromBlanks = " ".repeat(386) + "a from 20 to ";
        Probe.refusedAnew(fromBlanks + "1", 2, 399);
        Probe.refusedAnew(fromBlanks + "19", 2, 399);
        Probe.refusedAnew(fromBlanks + "20", 1, 400);
        Probe.refusedAnew(fromBlanks + "200", 1, 400);
        String whileBlanks = " ".repeat(390) + "ab while ";
        Probe.refusedAnew(whileBlanks + "a;", 1, 400);
        Probe.refusedAnew(whileBlanks + "ab;", 3, 399);
        Probe.refusedAnew(whileBlanks + "abc;", 1, 400);
        Probe p = withHappenings(20);
        p.refused(blanks + "t on 5;", 1, 400);
        p.refused(blanks + "tt on 5;", 4, 399);
        p.refused("a on 5;".repeat(12) + " ".repeat(315) + "abc", 4, 399);
        p.refused("a on 5;".repeat(12) + " ".repeat(316) + "abc", 1, 400);
    }
}
