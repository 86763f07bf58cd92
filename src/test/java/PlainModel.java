import java.util.ArrayList;
import java.util.HashSet;
import java.util.LinkedHashMap;
import java.util.List;
import java.util.Map;
import java.util.Set;
import java.util.TreeMap;
import java.util.TreeSet;

/** The document's words taken one by one, with lists and sets and nothing cut short. */
final class PlainModel {
    private record Rule(int question, int answer, int code, boolean keeps) { }

    private record Precedent(int code, int first, int answer, int second, int other, int until) { }

    private static final class Code {
        private final int specific;
        private int up = 0;
        private int down = 1;

        private Code(int specific) {
            this.specific = specific;
        }
    }

    private final TreeMap<Integer, Code> codes = new TreeMap<>();
    private final List<Rule> rules = new ArrayList<>();
    private final LinkedHashMap<Integer, Integer> given = new LinkedHashMap<>();
    private final List<Precedent> precedents = new ArrayList<>();
    private int today = 0;

    private static boolean within(int x, int least, int most) {
        return least <= x && x <= most;
    }

    private static void argument(boolean right) {
        if (!right) {
            throw new IllegalArgumentException();
        }
    }

    private static void room(boolean there) {
        if (!there) {
            throw new IllegalStateException();
        }
    }

    int code(int code, int specific) {
        argument(within(code, 1, 999999) && within(specific, 0, 100));
        room(codes.size() < 12);
        if (codes.containsKey(code)) {
            return 0;
        }
        codes.put(code, new Code(specific));
        return codes.size();
    }

    int share(int code, int up, int down) {
        if (!codes.containsKey(code) || !within(up, 0, 1000) || !within(down, 1, 1000)) {
            return 0;
        }
        codes.get(code).up = up;
        codes.get(code).down = down;
        return 1;
    }

    int rule(int question, int answer, int code, boolean keeps) {
        argument(within(question, 0, 4) && within(answer, 0, 3) && codes.containsKey(code));
        room(rules.size() < 60);
        for (Rule rule : rules) {
            if (rule.question == question && rule.answer == answer && rule.code == code) {
                return 0;
            }
        }
        rules.add(new Rule(question, answer, code, keeps));
        return rules.size();
    }

    int answer(int question, int answer) {
        argument(within(question, 0, 4) && within(answer, -1, 3));
        if (answer == -1) {
            given.remove(question);
        } else if (!Integer.valueOf(answer).equals(given.get(question))) {
            given.remove(question);
            given.put(question, answer);
        }
        return whatIsLeft().size();
    }

    private TreeSet<Integer> leaves(int question, int answer, Set<Integer> of) {
        Set<Integer> kept = new HashSet<>();
        Set<Integer> fallen = new HashSet<>();
        for (Rule rule : rules) {
            if (rule.question == question && rule.answer == answer) {
                (rule.keeps ? kept : fallen).add(rule.code);
            }
        }
        TreeSet<Integer> result = new TreeSet<>(of);
        if (!kept.isEmpty()) {
            result.retainAll(kept);
        }
        result.removeAll(fallen);
        return result;
    }

    private TreeSet<Integer> whatIsLeft() {
        TreeSet<Integer> result = new TreeSet<>(codes.keySet());
        for (Map.Entry<Integer, Integer> entry : given.entrySet()) {
            result = leaves(entry.getKey(), entry.getValue(), result);
        }
        return result;
    }

    private TreeSet<Integer> notAnswered() {
        TreeSet<Integer> result = new TreeSet<>(List.of(0, 1, 2, 3, 4));
        result.removeAll(given.keySet());
        return result;
    }

    private boolean parts(int question, Set<Integer> of) {
        Set<Set<Integer>> different = new HashSet<>();
        for (int answer = 0; answer < 4; answer++) {
            different.add(leaves(question, answer, of));
        }
        return different.size() > 1;
    }

    private int neededAfter(int question, Set<Integer> of, Set<Integer> questions) {
        Set<Integer> others = new TreeSet<>(questions);
        others.remove(question);
        int greatest = 0;
        for (int answer = 0; answer < 4; answer++) {
            greatest = Math.max(greatest, neededFor(leaves(question, answer, of), others));
        }
        return greatest;
    }

    private int neededFor(Set<Integer> of, Set<Integer> questions) {
        if (of.size() < 2) {
            return 0;
        }
        int best = -1;
        for (int question : questions) {
            if (parts(question, of)) {
                int after = neededAfter(question, of, questions);
                best = best < 0 ? after : Math.min(best, after);
            }
        }
        return best + 1;
    }

    int question() {
        Set<Integer> of = whatIsLeft();
        int next = -1;
        int best = Integer.MAX_VALUE;
        if (of.size() >= 2) {
            for (int question : notAnswered()) {
                if (parts(question, of)) {
                    int after = neededAfter(question, of, notAnswered());
                    if (after < best) {
                        best = after;
                        next = question;
                    }
                }
            }
        }
        return next;
    }

    int needed() {
        return neededFor(whatIsLeft(), notAnswered());
    }

    private List<Precedent> holding() {
        List<Precedent> result = new ArrayList<>();
        for (Precedent p : precedents) {
            boolean first = Integer.valueOf(p.answer).equals(given.get(p.first));
            boolean second = p.second == -1 || Integer.valueOf(p.other).equals(given.get(p.second));
            if (first && second && today <= p.until) {
                result.add(p);
            }
        }
        return result;
    }

    private Set<Integer> ruled() {
        Set<Integer> result = new TreeSet<>();
        for (Precedent p : holding()) {
            result.add(p.code);
        }
        return result;
    }

    /** THE CODE and, behind it, how it was found. */
    private int[] theCode() {
        if (ruled().size() == 1) {
            return new int[] {ruled().iterator().next(), 1};
        }
        List<Integer> best = new ArrayList<>(whatIsLeft());
        if (best.isEmpty()) {
            return new int[] {0, 0};
        }
        if (best.size() == 1) {
            return new int[] {best.get(0), 2};
        }
        int most = best.stream().mapToInt(c -> codes.get(c).specific).max().getAsInt();
        best.removeIf(c -> codes.get(c).specific < most);
        if (best.size() == 1) {
            return new int[] {best.get(0), 3};
        }
        List<Integer> rivals = List.copyOf(best);
        best.removeIf(c -> rivals.stream().anyMatch(r -> less(codes.get(c), codes.get(r))));
        return new int[] {best.get(best.size() - 1), best.size() == 1 ? 4 : 5};
    }

    private static boolean less(Code a, Code b) {
        return (long) a.up * b.down < (long) b.up * a.down;
    }

    int found() {
        return theCode()[0];
    }

    int why() {
        return theCode()[1];
    }

    int left(int i) {
        List<Integer> list = new ArrayList<>(whatIsLeft());
        return within(i, 0, list.size() - 1) ? list.get(i) : -1;
    }

    int emptied() {
        Set<Integer> still = codes.keySet();
        for (Map.Entry<Integer, Integer> entry : given.entrySet()) {
            still = leaves(entry.getKey(), entry.getValue(), still);
            if (still.isEmpty() && !codes.isEmpty()) {
                return 4 * entry.getKey() + entry.getValue();
            }
        }
        return -1;
    }

    int explain(int code) {
        argument(codes.containsKey(code));
        for (Map.Entry<Integer, Integer> entry : given.entrySet()) {
            if (leaves(entry.getKey(), entry.getValue(), Set.of(code)).isEmpty()) {
                return 4 * entry.getKey() + entry.getValue();
            }
        }
        return -1;
    }

    int precedent(int code, int first, int answer, int second, int other, int until) {
        argument(within(first, 0, 4) && within(answer, 0, 3));
        argument(second == -1 || within(second, 0, 4) && within(other, 0, 3) && second != first);
        argument(within(code, 1, 999999) && within(until, 0, 100000));
        room(precedents.size() < 20);
        precedents.add(new Precedent(code, first, answer, second, other, until));
        return precedents.size();
    }

    int contradicts() {
        return ruled().size() > 1 ? 1 : 0;
    }

    int day(int day) {
        if (!within(day, today, 100000)) {
            return 0;
        }
        today = day;
        return 1;
    }

    int count(int what) {
        if (within(what, 10, 14)) {
            return given.getOrDefault(what - 10, -1);
        }
        return switch (what) {
            case 0 -> codes.size();
            case 1 -> rules.size();
            case 2 -> given.size();
            case 3 -> whatIsLeft().size();
            case 4 -> precedents.size();
            case 5 -> holding().size();
            case 6 -> today;
            default -> -1;
        };
    }
}
