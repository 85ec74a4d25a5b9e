import java.util.function.IntUnaryOperator;

/** Terms, TOKENS: every byte, every length and every word, up to the edge and beyond it. */
public final class TokenEdgesTest {
    private static final int TAKEN = -1;
    private static final String[] WORDS = {"on", "from", "to", "by", "since", "lasts", "before", "while"};

    public static void main(String[] args) {
        everyByteAlone();
        everyByteAheadOfASaying();
        everyByteBetweenTokens();
        everyByteBehindANumber();
        everyByteBehindASaying();
        blanksOrNot();
        lengthsOfNames();
        lengthsOfNumbers();
        lettersAndDigitsGoOn();
        wordsAreNoNames();
        wordsAlmost();
        Probe.close("TokenEdgesTest");
    }

    private static boolean isBlank(int octet) {
        return octet == 32 || octet == 10;
    }

    private static boolean isLetter(int octet) {
        return octet >= 97 && octet <= 122;
    }

    private static boolean isDigit(int octet) {
        return octet >= 48 && octet <= 57;
    }

    /** One text for each byte: TAKEN, or the place of a FAULT of kind 1. */
    private static void everyByte(String ahead, String behind, int sayings, IntUnaryOperator due) {
        for (int octet = 0; octet < 256; octet++) {
            Probe p = new Probe();
            String text = ahead + (char) octet + behind;
            int place = due.applyAsInt(octet);
            if (place == TAKEN) {
                p.taken(0, text, sayings);
            } else {
                p.refused(text, 1, place);
                Probe.due("no HAPPENING of byte " + octet, p.x.count(0), 0);
                Probe.due("no SAYING of byte " + octet, p.x.count(1), 0);
            }
        }
    }

    private static void everyByteAlone() {
        everyByte("", "", 0, octet -> isBlank(octet) ? TAKEN : isLetter(octet) ? 1 : 0);
    }

    private static void everyByteAheadOfASaying() {
        everyByte("", "a on 5;", 1, octet -> isBlank(octet) || isLetter(octet) ? TAKEN : 0);
    }

    /** Letters make one NAME of all, behind which the NUMBER can't come; digits make no TOKEN. */
    private static void everyByteBetweenTokens() {
        everyByte("a", "on 5;", 1, octet -> isBlank(octet) ? TAKEN : isLetter(octet) ? 5 : isDigit(octet) ? 0 : 1);
    }

    private static void everyByteBehindANumber() {
        everyByte("a on 5", ";", 1,
            octet -> isBlank(octet) || isDigit(octet) ? TAKEN : isLetter(octet) ? 5 : octet == ';' ? 7 : 6);
    }

    private static void everyByteBehindASaying() {
        everyByte("a on 5;", "", 1, octet -> isBlank(octet) ? TAKEN : isLetter(octet) ? 8 : 7);
    }

    private static void blanksOrNot() {
        Probe p = new Probe();
        p.taken(0, "a on 1;b before a by 2 to 3;a while b;", 3);
        p.saying(0, 0, 0, 0, -1, 1, -1, 0);
        p.saying(0, 1, 5, 1, 0, 2, 3, 7);
        p.saying(0, 2, 6, 0, 1, -1, -1, 28);
        p.taken(0, "\n\na\n on \n1\n;  b\nbefore\na\nby\n2\nto\n3\n;a while b ; \n", 3);
        p.saying(0, 0, 0, 0, -1, 1, -1, 2);
        p.saying(0, 1, 5, 1, 0, 2, 3, 14);
        p.saying(0, 2, 6, 0, 1, -1, -1, 36);
        p.taken(0, " ".repeat(400), 0);
        p.taken(0, "\n".repeat(400), 0);
    }

    private static void lengthsOfNames() {
        String letters = "zyxwvutsrqponmlkjihgfedcba";
        for (int length = 1; length <= 26; length++) {
            String name = letters.substring(0, length);
            Probe p = new Probe();
            if (length <= 8) {
                p.taken(0, name + " on 5;", 1);
                p.taken(1, "other before " + name + ";" + name + " while other;", 2);
                p.happening(name, 0);
                p.happening("other", 1);
                Probe.due("name(0)", p.x.name(0), length);
                Probe.due("the last octet", p.x.octet(length - 1), name.charAt(length - 1));
                Probe.due("octet(" + length + ")", Probe.of(() -> p.x.octet(name.length())), Probe.ELEMENT);
            } else {
                p.refused(name + " on 5;", 1, 0);
                p.refused("other before " + name + ";", 1, 13);
                p.refused("other while " + name + ";", 1, 12);
                p.happening(name, CaseOrder.NONE);
                Probe.due("count(0)", p.x.count(0), 0);
            }
        }
    }

    private static void lengthsOfNumbers() {
        String[] right = {"0", "9", "00", "99", "000", "999", "0000", "0001", "9999"};
        String[] wrong = {"00000", "00001", "09999", "10000", "99999", "999999", "4294967296", "2147483648"};
        String[] ahead = {"a on ", "a from 0 to ", "a by ", "a since ", "a lasts ", "a lasts 0 to ",
            "a before b by 1 to ", "a before b by "};
        for (String start : ahead) {
            boolean before = start.contains("before");
            for (String number : right) {
                int value = Integer.parseInt(number);
                if (!before || value > 0) {
                    Probe p = new Probe();
                    p.taken(0, start + number + ";", 1);
                    Probe.due("the NUMBER of " + start + number, p.x.saying(0, 0, start.endsWith("to ") ? 4 : 3), value);
                }
            }
            for (String number : wrong) {
                Probe p = new Probe();
                p.refused(start + number + ";", 1, start.length());
                Probe.due("sayings(0)", p.x.sayings(0), 0);
            }
        }
    }

    /** What goes on is one piece, and a piece of both is neither NAME nor NUMBER nor two TOKENS. */
    private static void lettersAndDigitsGoOn() {
        Probe p = new Probe();
        p.refused("a1 on 5;", 1, 0);
        p.refused("1a on 5;", 1, 0);
        p.refused("a on5;", 1, 2);
        p.refused("aon 5;", 1, 4);
        p.refused("a on 5a;", 1, 5);
        p.refused("a on 5on;", 1, 5);
        p.refused("a from 1to 2;", 1, 7);
        p.refused("a from 1 to2;", 1, 9);
        p.refused("a lasts 1to2;", 1, 8);
        p.refused("a before b1;", 1, 9);
        p.refused("a before bby 1;", 1, 13);
        p.refused("a beforeb;", 1, 2);
        p.refused("a while b5;", 1, 8);
        p.refused("a on 5;b5", 1, 7);
        p.refused("a on 5;12345678", 1, 7);
        p.refused("abcd5 on 5;", 1, 0);
        Probe.due("count(0)", p.x.count(0), 0);
        p.taken(0, "a on 5;b on 6;", 2);
    }

    private static void wordsAreNoNames() {
        for (String word : WORDS) {
            Probe p = new Probe();
            p.taken(0, "a on 5;", 1);
            p.refused(word, 1, 0);
            p.refused(word + " on 5;", 1, 0);
            p.refused("a on 5;" + word + " by 5;", 1, 7);
            p.refused("a before " + word + ";", 1, 9);
            p.refused("a while " + word + ";", 1, 8);
            p.refused("a before " + word + " by 1;", 1, 9);
            p.happening(word, CaseOrder.NONE);
            Probe.due("count(0) behind " + word, p.x.count(0), 1);
            p.saying(0, 0, 0, 0, -1, 5, -1, 0);
        }
    }

    /** One letter more or less, and a word is a NAME, or two. */
    private static void wordsAlmost() {
        for (String word : WORDS) {
            String less = word.substring(0, word.length() - 1);
            for (String name : new String[] {word + "s", "a" + word, word.substring(1), less}) {
                Probe p = new Probe();
                p.taken(0, name + " on 5;zz before " + name + ";", 2);
                p.happening(name, 0);
                p.happening(word, CaseOrder.NONE);
                p.refused("zz " + name + " 5;", 1, 3);
            }
        }
    }
}
