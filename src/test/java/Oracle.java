import java.util.ArrayList;
import java.util.List;
import java.util.Set;

/**
 * The document once more, slower and by other means: texts by the words that may come next, WAYS by
 * the shortest distances between all pairs of days. Answers are those of Probe.of.
 */
final class Oracle {
    private static final Set<String> WORDS =
        Set.of("on", "from", "to", "by", "since", "lasts", "before", "while");
    private static final List<String> KINDS =
        List.of("on", "from", "by", "since", "lasts", "before", "while");
    private static final long FAR = 1_000_000_000L;

    private record Piece(String text, int place) {
    }

    private record Fault(int kind, int place) {
    }

    private final StringBuilder tape = new StringBuilder();
    private List<String> names = new ArrayList<>();
    private final List<List<int[]>> texts = new ArrayList<>();
    private int heard = 63;
    private int fault = 0;
    private String out = "";

    Oracle() {
        for (int t = 0; t < 6; t++) {
            texts.add(new ArrayList<>());
        }
    }

    int feed(int[] words) {
        if (tape.length() + 20 > 440) {
            return -1;
        }
        for (int word : words) {
            for (int k = 3; k >= 0; k--) {
                tape.append((char) (word >>> 8 * k & 255));
            }
        }
        return tape.length();
    }

    int end(int n) {
        if (n < 0 || n > tape.length()) {
            return 0;
        }
        tape.setLength(n);
        return 1;
    }

    int tell(int t) {
        if (t < 0 || t > 5) {
            return Probe.INDEX;
        }
        String text = tape.toString();
        tape.setLength(0);
        List<String> known = new ArrayList<>(names);
        List<int[]> sayings = new ArrayList<>();
        Fault found = parse(text, known, sayings);
        fault = found == null ? 0 : found.kind;
        if (found != null) {
            return -1 - found.place;
        }
        names = known;
        texts.set(t, sayings);
        return sayings.size();
    }

    private static List<Piece> pieces(String text) {
        List<Piece> pieces = new ArrayList<>();
        int place = 0;
        while (place < text.length()) {
            char sign = text.charAt(place);
            if (sign == ' ' || sign == '\n') {
                place++;
                continue;
            }
            int after = place;
            while (after < text.length() && ("" + text.charAt(after)).matches("[a-z0-9]")) {
                after++;
            }
            after = Math.max(after, place + 1);
            pieces.add(new Piece(text.substring(place, after), place));
            place = after;
        }
        return pieces;
    }

    private static String classOf(String piece) {
        if (WORDS.contains(piece) || piece.equals(";")) {
            return piece;
        }
        return piece.matches("[a-z]{1,8}") ? "NAME" : piece.matches("[0-9]{1,4}") ? "NUMBER" : "?";
    }

    /** The classes that may come behind those that a SAYING has so far. */
    private static Set<String> mayCome(List<String> so) {
        String shape = String.join(" ", so);
        switch (shape) {
            case "": return Set.of("NAME");
            case "NAME": return Set.copyOf(KINDS);
            case "NAME on": case "NAME by": case "NAME since": case "NAME from": case "NAME lasts":
                return Set.of("NUMBER");
            case "NAME from NUMBER": return Set.of("to");
            case "NAME lasts NUMBER": return Set.of("to", ";");
            case "NAME before": case "NAME while": return Set.of("NAME");
            case "NAME before NAME": return Set.of("by", ";");
            case "NAME before NAME by NUMBER": return Set.of("to", ";");
            default:
                return so.get(so.size() - 1).equals("NUMBER") || so.get(so.size() - 1).equals("NAME")
                    ? Set.of(";") : Set.of("NUMBER");
        }
    }

    private static Fault parse(String text, List<String> known, List<int[]> sayings) {
        List<String> so = new ArrayList<>();
        int[] saying = null;
        for (Piece piece : pieces(text)) {
            if (piece.place >= 400) {
                break;
            }
            String type = classOf(piece.text);
            if (!mayCome(so).contains(type)) {
                return new Fault(1, piece.place);
            }
            if (so.isEmpty()) {
                saying = new int[] {-1, -1, -1, -1, -1, piece.place};
            }
            int kind = take(piece.text, type, so, saying, known, sayings.size());
            if (kind != 0) {
                return new Fault(kind, piece.place);
            }
            so.add(type);
            if (type.equals(";")) {
                sayings.add(saying);
                so.clear();
            }
        }
        if (text.length() > 400) {
            return new Fault(1, 400);
        }
        return so.isEmpty() ? null : new Fault(1, text.length());
    }

    private static int take(String text, String type, List<String> so, int[] saying, List<String> known,
            int told) {
        if (so.isEmpty() && told == 12) {
            return 4;
        }
        if (so.size() == 1) {
            saying[0] = KINDS.indexOf(text);
        }
        if (type.equals("NAME")) {
            if (so.size() == 2 && known.indexOf(text) == saying[1]) {
                return 3;
            }
            if (!known.contains(text)) {
                known.add(text);
            }
            saying[so.isEmpty() ? 1 : 2] = known.indexOf(text);
            return known.size() > 20 ? 4 : 0;
        }
        if (type.equals("NUMBER")) {
            int value = Integer.parseInt(text);
            boolean second = saying[3] != -1;
            saying[second ? 4 : 3] = value;
            boolean gap = saying[0] == 5;
            return second && value < saying[3] || gap && value == 0 ? 2 : 0;
        }
        return 0;
    }

    int fault() {
        return fault;
    }

    int hear(int tellers) {
        if (tellers < 0 || tellers > 63) {
            return 0;
        }
        heard = tellers;
        return 1;
    }

    int saying(int t, int k, int what) {
        if (t < 0 || t > 5) {
            return Probe.INDEX;
        }
        boolean there = k >= 0 && k < texts.get(t).size() && what >= 0 && what < 6;
        return there ? texts.get(t).get(k)[what] : Probe.ELEMENT;
    }

    int happening() {
        String text = tape.toString().replaceAll("^[ \n]+|[ \n]+$", "");
        tape.setLength(0);
        return names.indexOf(text);
    }

    int name(int h) {
        if (!isHappening(h)) {
            return -1;
        }
        out = names.get(h);
        return out.length();
    }

    int octet(int k) {
        return k >= 0 && k < out.length() ? out.charAt(k) : Probe.ELEMENT;
    }

    private boolean isHappening(int h) {
        return h >= 0 && h < names.size();
    }

    /** The SAYINGS of these TELLERS, each with its TELLER and number behind its parts. */
    private List<int[]> said(int tellers) {
        List<int[]> said = new ArrayList<>();
        for (int t = 0; t < 6; t++) {
            for (int k = 0; k < texts.get(t).size() && (tellers >> t & 1) == 1; k++) {
                int[] parts = texts.get(t).get(k);
                said.add(new int[] {parts[0], parts[1], parts[2], parts[3], parts[4], t, k});
            }
        }
        return said;
    }

    /** far[i][j]: the most that day j less day i can be; null without a WAY. Day 0 is the last one. */
    private long[][] distances(List<int[]> said) {
        int n = 2 * names.size() + 1;
        long[][] far = new long[n][n];
        for (int i = 0; i < n; i++) {
            for (int j = 0; j < n; j++) {
                far[i][j] = i == j ? 0 : FAR;
            }
        }
        for (int h = 0; h < names.size(); h++) {
            within(far, n - 1, 2 * h, 0, 9999);
            within(far, n - 1, 2 * h + 1, 0, 9999);
            within(far, 2 * h, 2 * h + 1, 0, 9999);
        }
        for (int[] s : said) {
            for (long[] ask : asks(s, n - 1)) {
                within(far, (int) ask[0], (int) ask[1], ask[2], ask[3]);
            }
        }
        for (int k = 0; k < n; k++) {
            for (int i = 0; i < n; i++) {
                for (int j = 0; j < n; j++) {
                    far[i][j] = Math.min(far[i][j], Math.max(-FAR, far[i][k] + far[k][j]));
                }
            }
        }
        for (int i = 0; i < n; i++) {
            if (far[i][i] < 0) {
                return null;
            }
        }
        return far;
    }

    private static void within(long[][] far, int from, int to, long least, long most) {
        far[from][to] = Math.min(far[from][to], most);
        far[to][from] = Math.min(far[to][from], -least);
    }

    /** Rows of from, to, least, most. */
    private static long[][] asks(int[] s, int zero) {
        int f = 2 * s[1];
        int l = f + 1;
        long most = s[4] == -1 ? s[3] : s[4];
        switch (s[0]) {
            case 0: return new long[][] {{zero, f, s[3], s[3]}, {zero, l, s[3], s[3]}};
            case 1: return new long[][] {{zero, f, s[3], s[3]}, {zero, l, s[4], s[4]}};
            case 2: return new long[][] {{zero, l, 0, s[3]}};
            case 3: return new long[][] {{zero, f, s[3], 9999}};
            case 4: return new long[][] {{f, l, s[3], most}};
            case 5: return new long[][] {{l, 2 * s[2], s[3] == -1 ? 1 : s[3], s[3] == -1 ? 9999 : most}};
            default: return new long[][] {{2 * s[2], f, 0, 9999}, {l, 2 * s[2] + 1, 0, 9999}};
        }
    }

    int agree() {
        return distances(said(heard)) == null ? 0 : 1;
    }

    int bound(int h, int what) {
        long[][] far = distances(said(heard));
        if (!isHappening(h) || far == null || what < 0 || what > 3) {
            return -1;
        }
        int day = 2 * h + what / 2;
        int zero = far.length - 1;
        return (int) (what % 2 == 0 ? -far[day][zero] : far[zero][day]);
    }

    int between(int g, int h, boolean greatest) {
        long[][] far = distances(said(heard));
        if (!isHappening(g) || !isHappening(h) || far == null) {
            return Probe.ELEMENT;
        }
        return (int) (greatest ? far[2 * g + 1][2 * h] : -far[2 * h][2 * g + 1]);
    }

    int order(int g, int h) {
        int least = between(g, h, false);
        if (least == Probe.ELEMENT) {
            return -2;
        }
        return least >= 1 ? 1 : between(g, h, true) < 1 ? -1 : 0;
    }

    private List<int[]> quarrelling() {
        List<int[]> left = said(heard);
        if (distances(left) != null) {
            return new ArrayList<>();
        }
        for (int[] saying : said(heard)) {
            List<int[]> others = new ArrayList<>(left);
            others.removeIf(s -> s[5] == saying[5] && s[6] == saying[6]);
            if (distances(others) == null) {
                left = others;
            }
        }
        return left;
    }

    int quarrel() {
        return quarrelling().size();
    }

    int quarrelled(int i) {
        List<int[]> row = quarrelling();
        return i >= 0 && i < row.size() ? 100 * row.get(i)[5] + row.get(i)[6] : -1;
    }

    int leave() {
        int best = heard;
        for (int bits = 63; bits >= 0; bits--) {
            boolean fits = (bits & heard) == bits && Integer.bitCount(bits) <= Integer.bitCount(best);
            if (fits && distances(said(heard & ~bits)) != null) {
                best = bits;
            }
        }
        return best;
    }

    int needless(int t, int k) {
        if (t < 0 || t > 5) {
            return Probe.INDEX;
        }
        if (k < 0 || k >= texts.get(t).size() || (heard >> t & 1) == 0 || agree() == 0) {
            return -1;
        }
        List<int[]> others = said(heard);
        others.removeIf(s -> s[5] == t && s[6] == k);
        long[][] far = distances(others);
        for (long[] ask : asks(texts.get(t).get(k), far.length - 1)) {
            int from = (int) ask[0];
            int to = (int) ask[1];
            if (far[from][to] > ask[3] || -far[to][from] < ask[2]) {
                return 0;
            }
        }
        return 1;
    }

    int at(int i) {
        long[][] far = distances(said(heard));
        if (!isHappening(i) || far == null) {
            return -1;
        }
        int zero = far.length - 1;
        List<Integer> line = new ArrayList<>();
        for (int h = 0; h < names.size(); h++) {
            line.add(h);
        }
        line.sort((g, h) -> {
            int first = Long.compare(far[2 * h][zero], far[2 * g][zero]);
            int last = Long.compare(far[2 * h + 1][zero], far[2 * g + 1][zero]);
            return first != 0 ? first : last != 0 ? last : g - h;
        });
        return line.get(i);
    }

    int sayings(int t) {
        return t < 0 || t > 5 ? Probe.INDEX : texts.get(t).size();
    }

    int count(int what) {
        int all = 0;
        for (List<int[]> text : texts) {
            all += text.size();
        }
        int[] counts = {names.size(), all, heard, tape.length(), out.length()};
        return what >= 0 && what < 5 ? counts[what] : -1;
    }
}
