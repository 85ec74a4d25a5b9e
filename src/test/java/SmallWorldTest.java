import java.util.ArrayList;
import java.util.List;
import java.util.Random;

/**
 * Counts out all WAYS of three HAPPENINGS in a few days, and holds promises 11 to 14, 18 and 19
 * against them. TELLER 0 keeps all within those days; the others say what chance gives them.
 */
public final class SmallWorldTest {
    private static final int WORLD_FIRST = 20;
    private static final int WORLD_LAST = 23;
    private static final int WORLDS = 1500;

    private record Said(int kind, int own, int other, int first, int second) {
        boolean holds(int[] way) {
            int f = way[2 * own];
            int l = way[2 * own + 1];
            int least = first;
            int most = second < 0 ? first : second;
            switch (kind) {
                case 0: return f == first && l == first;
                case 1: return f == first && l == second;
                case 2: return l <= first;
                case 3: return f >= first;
                case 4: return l - f >= least && l - f <= most;
                case 5:
                    int gap = way[2 * other] - l;
                    return first < 0 ? gap >= 1 : gap >= least && gap <= most;
                default: return f >= way[2 * other] && l <= way[2 * other + 1];
            }
        }

        String text() {
            String[] words = {"on", "from", "by", "since", "lasts", "before", "while"};
            StringBuilder text = new StringBuilder();
            text.append((char) ('a' + own)).append(' ').append(words[kind]).append(' ');
            if (other >= 0) {
                text.append((char) ('a' + other)).append(kind == 5 && first >= 0 ? " by " : "");
            }
            text.append(first >= 0 ? "" + first : "").append(second >= 0 ? " to " + second : "");
            return text.append(';').toString();
        }
    }

    public static void main(String[] args) {
        Random random = new Random(20261116);
        int agreed = 0;
        for (int world = 0; world < WORLDS; world++) {
            agreed += check(random) ? 1 : 0;
        }
        Probe.due("worlds with WAYS are neither rare nor all", agreed > WORLDS / 5 && agreed < WORLDS, true);
        Probe.close("SmallWorldTest");
    }

    private static Said someSaying(Random random) {
        int kind = random.nextInt(7);
        int own = random.nextInt(3);
        int other = kind < 5 ? -1 : (own + 1 + random.nextInt(2)) % 3;
        int day = WORLD_FIRST - 1 + random.nextInt(6);
        switch (kind) {
            case 0: case 2: case 3: return new Said(kind, own, other, day, -1);
            case 1: return new Said(kind, own, other, day, day + random.nextInt(3));
            case 6: return new Said(kind, own, other, -1, -1);
            default:
                int least = random.nextInt(3) + (kind == 5 ? 1 : 0);
                int first = kind == 5 && random.nextInt(3) == 0 ? -1 : least;
                int second = first < 0 || random.nextBoolean() ? -1 : least + random.nextInt(3);
                return new Said(kind, own, other, first, second);
        }
    }

    private static boolean check(Random random) {
        Probe p = new Probe();
        StringBuilder frame = new StringBuilder();
        for (char name = 'a'; name < 'd'; name++) {
            frame.append(name + " since " + WORLD_FIRST + ";" + name + " by " + WORLD_LAST + ";");
        }
        p.tell(0, frame.toString());
        List<List<Said>> told = new ArrayList<>();
        told.add(new ArrayList<>());
        List<Said> all = new ArrayList<>();
        for (int t = 1; t < 4; t++) {
            List<Said> text = new ArrayList<>();
            StringBuilder written = new StringBuilder();
            for (int k = random.nextInt(3); k > 0; k--) {
                Said said = someSaying(random);
                text.add(said);
                written.append(said.text());
            }
            told.add(text);
            all.addAll(text);
            Probe.due("tell(" + t + ") of " + written, p.tell(t, written.toString()), text.size());
        }
        List<int[]> ways = ways(all);
        Probe.due("agree() on " + all, p.x.agree(), ways.isEmpty() ? 0 : 1);
        if (ways.isEmpty()) {
            return false;
        }
        checkDays(p, ways);
        checkNeedless(p, told, all);
        return true;
    }

    private static List<int[]> ways(List<Said> all) {
        List<int[]> ways = new ArrayList<>();
        fill(new int[6], 0, all, ways);
        return ways;
    }

    private static void fill(int[] way, int h, List<Said> all, List<int[]> ways) {
        if (h == 3) {
            if (all.stream().allMatch(said -> said.holds(way))) {
                ways.add(way.clone());
            }
            return;
        }
        for (int f = WORLD_FIRST; f <= WORLD_LAST; f++) {
            for (int l = f; l <= WORLD_LAST; l++) {
                way[2 * h] = f;
                way[2 * h + 1] = l;
                fill(way, h + 1, all, ways);
            }
        }
    }

    private static void checkDays(Probe p, List<int[]> ways) {
        for (int h = 0; h < 3; h++) {
            int first = 2 * h;
            int last = 2 * h + 1;
            p.bounds(h, ways.stream().mapToInt(w -> w[first]).min().getAsInt(),
                ways.stream().mapToInt(w -> w[first]).max().getAsInt(),
                ways.stream().mapToInt(w -> w[last]).min().getAsInt(),
                ways.stream().mapToInt(w -> w[last]).max().getAsInt());
            for (int g = 0; g < 3; g++) {
                int other = 2 * g + 1;
                int least = ways.stream().mapToInt(w -> w[first] - w[other]).min().getAsInt();
                int most = ways.stream().mapToInt(w -> w[first] - w[other]).max().getAsInt();
                boolean always = ways.stream().allMatch(w -> w[other] < w[first]);
                boolean never = ways.stream().noneMatch(w -> w[other] < w[first]);
                Probe.due("between, least", p.x.between(g, h, false), least);
                Probe.due("between, greatest", p.x.between(g, h, true), most);
                Probe.due("order(" + g + ", " + h + ")", p.x.order(g, h), always ? 1 : never ? -1 : 0);
            }
        }
        for (int i = 1; i < 3; i++) {
            Probe.due("the line goes on", key(ways, p.x.at(i - 1)) < key(ways, p.x.at(i)), true);
        }
    }

    private static int key(List<int[]> ways, int h) {
        int first = ways.stream().mapToInt(w -> w[2 * h]).min().getAsInt();
        int last = ways.stream().mapToInt(w -> w[2 * h + 1]).min().getAsInt();
        return (first * 100 + last) * 100 + h;
    }

    private static void checkNeedless(Probe p, List<List<Said>> told, List<Said> all) {
        int number = 0;
        for (int t = 1; t < 4; t++) {
            for (int k = 0; k < told.get(t).size(); k++) {
                List<Said> others = new ArrayList<>(all);
                Said said = others.remove(number);
                number++;
                boolean needless = ways(others).stream().allMatch(said::holds);
                Probe.due("needless(" + t + ", " + k + ") of " + all, p.x.needless(t, k), needless ? 1 : 0);
            }
        }
    }
}
