import java.util.Random;

/** Runs of 512 calls each on a CaseOrder and on the Oracle, which must answer alike. */
public final class RandomRunsTest {
    private static final int RUNS = 400;
    private static final int CALLS = 512;

    private final Random random;
    private final CaseOrder x = new CaseOrder();
    private final Oracle y = new Oracle();
    private final String run;
    /** How many names the run uses, and how wide its days are: both decide how often all agree. */
    private final int names;
    private final int days;
    private int calls = 0;

    private RandomRunsTest(int seed) {
        random = new Random(seed);
        run = "run " + seed + ": ";
        names = 2 + random.nextInt(random.nextBoolean() ? 6 : 22);
        days = random.nextInt(3) == 0 ? 10000 : 5 + random.nextInt(60);
    }

    public static void main(String[] args) {
        for (int seed = 0; seed < RUNS; seed++) {
            new RandomRunsTest(seed).go();
        }
        Probe.close("RandomRunsTest");
    }

    private void go() {
        while (calls < CALLS) {
            switch (random.nextInt(12)) {
                case 0: case 1: case 2:
                    give(text());
                    tell(teller());
                    break;
                case 3:
                    hear();
                    break;
                case 4:
                    give(random.nextInt(4) == 0 ? text() : blanks() + word() + blanks());
                    due("happening()", Probe.of(x::happening), y.happening());
                    break;
                default:
                    ask();
            }
        }
    }

    private void due(String call, int got, int want) {
        calls++;
        if (calls <= CALLS) {
            Probe.due(run + call, got, want);
        }
    }

    private int teller() {
        return random.nextInt(20) == 0 ? random.nextInt(9) - 2 : random.nextInt(6);
    }

    private int small(int bound) {
        return random.nextInt(15) == 0 ? random.nextInt() : random.nextInt(bound + 2) - 1;
    }

    private void give(String text) {
        String bytes = text + "\0".repeat(19 - (text.length() + 19) % 20);
        for (int from = 0; from + 20 <= bytes.length(); from += 20) {
            int[] w = new int[5];
            for (int k = 0; k < 20; k++) {
                w[k / 4] = w[k / 4] << 8 | bytes.charAt(from + k) & 255;
            }
            due("feed", x.feed(w[0], w[1], w[2], w[3], w[4]), y.feed(w));
        }
        int n = random.nextInt(60) == 0 ? random.nextInt() : random.nextInt(40) == 0 ? random.nextInt(450) : text.length();
        due("end(" + n + ")", x.end(n) ? 1 : 0, y.end(n));
    }

    private void tell(int t) {
        due("tell(" + t + ")", Probe.of(() -> x.tell(t)), y.tell(t));
        due("fault()", x.fault(), y.fault());
    }

    private void hear() {
        int bits = random.nextInt(10) == 0 ? random.nextInt(200) - 60 : random.nextInt(64);
        due("hear(" + bits + ")", x.hear(bits) ? 1 : 0, y.hear(bits));
    }

    private void ask() {
        int t = teller();
        int k = small(13);
        int g = small(names);
        int h = small(names);
        int what = small(6);
        boolean greatest = random.nextBoolean();
        switch (random.nextInt(15)) {
            case 0: due("saying(" + t + ", " + k + ", " + what + ")", Probe.of(() -> x.saying(t, k, what)), y.saying(t, k, what)); break;
            case 1: due("name(" + h + ")", x.name(h), y.name(h)); break;
            case 2: due("octet(" + what + ")", Probe.of(() -> x.octet(what)), y.octet(what)); break;
            case 3: due("agree()", x.agree(), y.agree()); break;
            case 4: due("bound(" + h + ", " + what + ")", x.bound(h, what), y.bound(h, what)); break;
            case 5: due("between(" + g + ", " + h + ", " + greatest + ")", Probe.of(() -> x.between(g, h, greatest)), y.between(g, h, greatest)); break;
            case 6: due("order(" + g + ", " + h + ")", x.order(g, h), y.order(g, h)); break;
            case 7: due("quarrel()", x.quarrel(), y.quarrel()); break;
            case 8: due("quarrelled(" + what + ")", x.quarrelled(what), y.quarrelled(what)); break;
            case 9: due("leave()", x.leave(), y.leave()); break;
            case 10: case 11: due("needless(" + t + ", " + k + ")", Probe.of(() -> x.needless(t, k)), y.needless(t, k)); break;
            case 12: due("at(" + h + ")", x.at(h), y.at(h)); break;
            case 13: due("sayings(" + t + ")", Probe.of(() -> x.sayings(t)), y.sayings(t)); break;
            default: due("count(" + what + ")", x.count(what), y.count(what));
        }
    }

    private String text() {
        StringBuilder text = new StringBuilder();
        int most = random.nextInt(8) == 0 ? 15 : random.nextInt(8);
        for (int k = 0; k < most; k++) {
            text.append(saying());
        }
        if (random.nextInt(12) == 0) {
            text.insert(text.length() / 2, " ".repeat(random.nextInt(420)));
        }
        int harms = random.nextInt(4) == 0 ? 1 + random.nextInt(2) : 0;
        for (int i = 0; i < harms && text.length() > 0; i++) {
            harm(text);
        }
        return text.length() > 440 ? text.substring(0, 440) : text.toString();
    }

    private void harm(StringBuilder text) {
        int place = random.nextInt(text.length());
        String signs = "abt059; \n.A{/" + (char) 0 + (char) 200;
        char sign = signs.charAt(random.nextInt(signs.length()));
        switch (random.nextInt(4)) {
            case 0: text.deleteCharAt(place); break;
            case 1: text.setCharAt(place, sign); break;
            case 2: text.insert(place, sign); break;
            default: text.setLength(place);
        }
    }

    private String blanks() {
        return " \n ".substring(0, random.nextInt(4));
    }

    private String word() {
        if (random.nextInt(60) == 0) {
            return new String[] {"to", "before", "abcdefghi", "x5"}[random.nextInt(4)];
        }
        int number = random.nextInt(names);
        return "" + (char) ('a' + number) + (number % 3 == 0 ? "fgh" : number % 7 == 0 ? "xyzuvwr" : "");
    }

    private String number(int bound) {
        int value = random.nextInt(bound);
        return random.nextInt(20) == 0 ? String.format("%04d", value) : "" + value;
    }

    /** Mostly "from low to high", now and then the other way round. */
    private String span(int bound) {
        int low = random.nextInt(bound);
        int high = random.nextInt(15) == 0 ? random.nextInt(bound) : Math.min(low + random.nextInt(bound), 9999);
        return low + " to " + high;
    }

    private String saying() {
        String start = word() + " " + blanks();
        int small = Math.max(3, days / 4);
        switch (random.nextInt(10)) {
            case 0: return start + "on " + number(days) + blanks() + ";";
            case 1: return start + "from " + span(days) + ";" + blanks();
            case 2: return start + "by " + number(days) + ";";
            case 3: return start + "since " + number(days) + ";";
            case 4: return start + "lasts " + number(small) + ";";
            case 5: return start + "lasts " + span(small) + " ;";
            case 6: return start + "before " + word() + ";";
            case 7: return start + "before " + word() + " by " + number(small) + ";";
            case 8: return start + "before " + word() + " by " + span(small) + ";";
            default: return start + "while\n" + word() + ";";
        }
    }
}
