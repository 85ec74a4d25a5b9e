import java.util.NoSuchElementException;

/** What the tests share: an object under test, texts for its tape, and a count of wrong answers. */
final class Probe {
    static final int INDEX = 1_000_001;
    static final int ELEMENT = 1_000_002;

    private static int asked = 0;
    private static int wrong = 0;

    final CaseOrder x = new CaseOrder();

    interface Call {
        int answer();
    }

    static void due(String call, long got, long want) {
        asked++;
        if (got != want) {
            wrong++;
            System.out.println(call + " answered " + got + ", due is " + want);
        }
    }

    static void due(String call, boolean got, boolean want) {
        due(call, got ? 1 : 0, want ? 1 : 0);
    }

    /** An answer, or INDEX or ELEMENT if the call throws just that exception. */
    static int of(Call call) {
        try {
            return call.answer();
        } catch (RuntimeException e) {
            if (e.getClass() == IndexOutOfBoundsException.class) {
                return INDEX;
            }
            if (e.getClass() == NoSuchElementException.class) {
                return ELEMENT;
            }
            throw e;
        }
    }

    static void close(String test) {
        System.out.println(test + ": " + asked + " answers, " + wrong + " wrong");
        if (wrong != 0 || asked == 0) {
            System.exit(1);
        }
    }

    /** Puts a text behind the tape; its characters are the bytes. */
    static void feed(CaseOrder x, String text) {
        int before = x.count(3);
        int[] words = new int[5];
        for (int from = 0; from < text.length(); from += 20) {
            for (int w = 0; w < 5; w++) {
                words[w] = 0;
                for (int k = 0; k < 4; k++) {
                    int place = from + 4 * w + k;
                    words[w] = words[w] << 8 | (place < text.length() ? text.charAt(place) & 255 : 0);
                }
            }
            x.feed(words[0], words[1], words[2], words[3], words[4]);
        }
        x.end(before + text.length());
    }

    int tell(int t, String text) {
        feed(x, text);
        return x.tell(t);
    }

    void taken(int t, String text, int sayings) {
        due("tell(" + t + ") of '" + text + "'", tell(t, text), sayings);
        due("fault() behind '" + text + "'", x.fault(), 0);
    }

    void refused(String text, int kind, int place) {
        due("tell(0) of '" + text + "'", tell(0, text), -1 - place);
        due("fault() behind '" + text + "'", x.fault(), kind);
        due("the tape behind '" + text + "'", x.count(3), 0);
    }

    /** On an object of its own: long texts take many calls, and an object has 512. */
    static void refusedAnew(String text, int kind, int place) {
        new Probe().refused(text, kind, place);
    }

    void happening(String text, int number) {
        feed(x, text);
        due("happening() of '" + text + "'", x.happening(), number);
        due("the tape behind happening() of '" + text + "'", x.count(3), 0);
    }

    void saying(int t, int k, int... parts) {
        for (int what = 0; what < 6; what++) {
            int part = what;
            due("saying(" + t + ", " + k + ", " + what + ")", of(() -> x.saying(t, k, part)), parts[what]);
        }
    }

    void bounds(int h, int... days) {
        for (int what = 0; what < 4; what++) {
            due("bound(" + h + ", " + what + ")", x.bound(h, what), days[what]);
        }
    }

    void quarrel(int... sayings) {
        due("quarrel()", x.quarrel(), sayings.length);
        for (int i = 0; i < sayings.length; i++) {
            due("quarrelled(" + i + ")", x.quarrelled(i), sayings[i]);
        }
        due("quarrelled(-1)", x.quarrelled(-1), CaseOrder.NONE);
        due("quarrelled(" + sayings.length + ")", x.quarrelled(sayings.length), CaseOrder.NONE);
    }

    void line(int... happenings) {
        for (int i = 0; i < happenings.length; i++) {
            due("at(" + i + ")", x.at(i), happenings[i]);
        }
        due("at(-1)", x.at(-1), CaseOrder.NONE);
        due("at(" + happenings.length + ")", x.at(happenings.length), CaseOrder.NONE);
    }
}
