import java.util.ArrayDeque;
import java.util.ArrayList;
import java.util.HashMap;
import java.util.List;
import java.util.Map;
import java.util.TreeSet;

/**
 * What the document says, as plainly as it can be written: with sets and lists, and what is fewest or best
 * found by trying all ways. It shares nothing with the class that it is held against.
 */
final class Model {
    private static final int UNKNOWN = -1, OUTSIDE = -2, STATE = -3, FULL = -4, NO = -5, NONE = -6;

    final List<List<Integer>> parents = new ArrayList<>();
    final List<Map<Integer, String>> bodies = new ArrayList<>();
    final List<Boolean> bares = new ArrayList<>();
    final List<int[]> calls = new ArrayList<>();
    final int[] sizes = {1, 1, 1, 1};
    String pad = "";

    boolean known(int kind) {
        return kind >= 0 && kind < parents.size();
    }

    boolean known(int kind, int name) {
        return known(kind) && name >= 0 && name < 8;
    }

    int bits(Iterable<Integer> kinds) {
        int bits = 0;
        for (int kind : kinds) bits |= 1 << kind;
        return bits;
    }

    TreeSet<Integer> above(int kind) {
        TreeSet<Integer> set = new TreeSet<>();
        for (int p : parents.get(kind)) {
            set.add(p);
            set.addAll(above(p));
        }
        return set;
    }

    TreeSet<Integer> below(int kind) {
        TreeSet<Integer> set = new TreeSet<>();
        for (int k = 0; k < parents.size(); k++) if (above(k).contains(kind)) set.add(k);
        return set;
    }

    /** THE LINE, or null; the beginnings of the rows are put into heads if there is none. */
    List<Integer> lineOf(int kind, TreeSet<Integer> heads) {
        List<ArrayDeque<Integer>> rows = new ArrayList<>();
        for (int p : parents.get(kind)) {
            List<Integer> row = lineOf(p, new TreeSet<>());
            if (row == null) return null;
            rows.add(new ArrayDeque<>(row));
        }
        rows.add(new ArrayDeque<>(parents.get(kind)));
        List<Integer> line = new ArrayList<>();
        line.add(kind);
        while (true) {
            rows.removeIf(ArrayDeque::isEmpty);
            if (rows.isEmpty()) return line;
            Integer found = null;
            for (ArrayDeque<Integer> row : rows) {
                int head = row.getFirst();
                boolean free = true;
                for (ArrayDeque<Integer> other : rows) {
                    if (other.contains(head) && other.getFirst() != head) free = false;
                }
                if (free) {
                    found = head;
                    break;
                }
            }
            if (found == null) {
                for (ArrayDeque<Integer> row : rows) heads.add(row.getFirst());
                return null;
            }
            line.add(found);
            for (ArrayDeque<Integer> row : rows) row.remove(found);
        }
    }

    List<Integer> lineOf(int kind) {
        return lineOf(kind, new TreeSet<>());
    }

    boolean owns(int kind, int name) {
        return bodies.get(kind).containsKey(name);
    }

    int kind(int n, int a, int b, int c) {
        int[] told = {a, b, c};
        List<Integer> list = new ArrayList<>();
        for (int i = 0; i < 3 && i < n; i++) {
            if (!known(told[i]) || list.contains(told[i])) return UNKNOWN;
            list.add(told[i]);
        }
        if (n < 0 || n > 3) return OUTSIDE;
        if (parents.size() == 10) return FULL;
        parents.add(list);
        bodies.add(new HashMap<>());
        bares.add(false);
        return parents.size() - 1;
    }

    int bare(int kind, boolean is) {
        if (!known(kind)) return UNKNOWN;
        return bares.set(kind, is) ? 1 : 0;
    }

    int of(int kind, int what) {
        if (!known(kind)) return UNKNOWN;
        if (what < 0 || what > 1) return OUTSIDE;
        return bits(what == 0 ? above(kind) : below(kind));
    }

    int line(int kind, int i) {
        if (!known(kind)) return UNKNOWN;
        List<Integer> line = lineOf(kind);
        if (line == null) return STATE;
        if (i == -1) return line.size();
        return i >= 0 && i < line.size() ? line.get(i) : NONE;
    }

    int quarrel(int kind) {
        if (!known(kind)) return UNKNOWN;
        for (int p : parents.get(kind)) if (lineOf(p) == null) return NO;
        TreeSet<Integer> heads = new TreeSet<>();
        return lineOf(kind, heads) != null ? NONE : bits(heads);
    }

    int say(int sign) {
        if (sign < 33 || sign > 126) return OUTSIDE;
        if (pad.length() == 12) return FULL;
        pad += (char) sign;
        return pad.length();
    }

    int wipe() {
        int were = pad.length();
        pad = "";
        return were;
    }

    int fault() {
        for (int i = 0; i < pad.length(); i++) {
            if ("0123456789abcdefgh^".indexOf(pad.charAt(i)) < 0) return i;
        }
        return NONE;
    }

    int has(int kind, int name) {
        if (!known(kind, name)) return UNKNOWN;
        if (fault() != NONE) return NO;
        int answer = bodies.get(kind).put(name, pad) == null ? 1 : 0;
        pad = "";
        return answer;
    }

    int drop(int kind, int name) {
        if (!known(kind, name)) return UNKNOWN;
        if (!owns(kind, name)) return NO;
        return bodies.get(kind).remove(name).length();
    }

    int answerOf(int kind, int name) {
        for (int k : lineOf(kind)) if (owns(k, name)) return k;
        return NONE;
    }

    int answer(int kind, int name) {
        if (!known(kind, name)) return UNKNOWN;
        return lineOf(kind) == null ? STATE : answerOf(kind, name);
    }

    int next(int kind, int name, int behind) {
        if (!known(kind, name) || !known(behind)) return UNKNOWN;
        List<Integer> line = lineOf(kind);
        if (line == null) return STATE;
        int at = line.indexOf(behind);
        if (at < 0) return UNKNOWN;
        for (int k : line.subList(at + 1, line.size())) if (owns(k, name)) return k;
        return NONE;
    }

    /** A RUN with open BODIES on a stack: {owner's index in THE LINE, NAME, next sign}. */
    int run(int kind, int name, int i) {
        if (!known(kind, name)) return UNKNOWN;
        List<Integer> line = lineOf(kind);
        if (line == null) return STATE;
        List<Integer> said = new ArrayList<>();
        int end = runOf(line, name, said);
        if (i == -1) return end;
        if (i == -2) return said.size();
        return i >= 0 && i < said.size() ? said.get(i) : NONE;
    }

    int runOf(List<Integer> line, int name, List<Integer> said) {
        ArrayDeque<int[]> open = new ArrayDeque<>();
        int made = 0;
        int calledName = name;
        int calledFrom = 0;
        boolean calling = true;
        while (true) {
            if (calling) {
                if (open.size() == 9 || made == 200) return 2;
                made++;
                int at = calledFrom;
                while (at < line.size() && !owns(line.get(at), calledName)) at++;
                if (at == line.size()) return 1;
                open.push(new int[] {at, calledName, 0});
                calling = false;
            }
            if (open.isEmpty()) return 0;
            int[] top = open.peek();
            String body = bodies.get(line.get(top[0])).get(top[1]);
            if (top[2] == body.length()) {
                open.pop();
                continue;
            }
            char sign = body.charAt(top[2]++);
            if (Character.isDigit(sign)) {
                if (said.size() == 40) return 2;
                said.add(sign - '0');
            } else {
                calling = true;
                calledName = sign == '^' ? top[1] : sign - 'a';
                calledFrom = sign == '^' ? top[0] + 1 : 0;
            }
        }
    }

    TreeSet<Integer> nearestOf(int kind, int name, int more) {
        TreeSet<Integer> all = above(kind);
        all.add(kind);
        all.removeIf(k -> !owns(k, name) && (more >> k & 1) == 0);
        TreeSet<Integer> near = new TreeSet<>(all);
        for (int k : all) near.removeAll(above(k));
        return near;
    }

    int nearest(int kind, int name) {
        return known(kind, name) ? bits(nearestOf(kind, name, 0)) : UNKNOWN;
    }

    int doubtful(int name, int more) {
        int bits = 0;
        for (int k = 0; k < parents.size(); k++) if (nearestOf(k, name, more).size() > 1) bits |= 1 << k;
        return bits;
    }

    int doubt(int name) {
        return name < 0 || name > 7 ? UNKNOWN : doubtful(name, 0);
    }

    int settle(int name, int what) {
        if (name < 0 || name > 7) return UNKNOWN;
        if (what < 0 || what > 1) return OUTSIDE;
        int held = 0;
        for (int k = 0; k < parents.size(); k++) if (owns(k, name)) held |= 1 << k;
        for (int count = 0; count <= 10; count++) {
            for (int way = 0; way < 1 << parents.size(); way++) {
                if (Integer.bitCount(way) != count || (way & held) != 0) continue;
                if (doubtful(name, way) == 0) return what == 0 ? way : count;
            }
        }
        throw new IllegalStateException("no way settles it");
    }

    int[] allAnswers(int name) {
        int[] row = new int[parents.size()];
        for (int k = 0; k < row.length; k++) row[k] = lineOf(k) == null ? STATE : answerOf(k, name);
        return row;
    }

    int shift(int kind, int name) {
        if (!known(kind, name)) return UNKNOWN;
        if (owns(kind, name)) return NO;
        int[] old = allAnswers(name);
        bodies.get(kind).put(name, "");
        int[] now = allAnswers(name);
        bodies.get(kind).remove(name);
        int bits = 0;
        for (int k = 0; k < old.length; k++) if (old[k] != now[k]) bits |= 1 << k;
        return bits;
    }

    /** THE TABLE: NAMES with an ANSWER for each KIND. */
    List<TreeSet<Integer>> table() {
        List<TreeSet<Integer>> rows = new ArrayList<>();
        for (int k = 0; k < parents.size(); k++) {
            TreeSet<Integer> row = new TreeSet<>();
            if (lineOf(k) != null && !bares.get(k)) {
                for (int name = 0; name < 8; name++) if (answerOf(k, name) != NONE) row.add(name);
            }
            rows.add(row);
        }
        return rows;
    }

    int[] best;
    int bestCount;

    void tryColumns(List<TreeSet<Integer>> rows, TreeSet<Integer> names, int[] columns, int name, int used) {
        if (name == 8) {
            if (used < bestCount) {
                bestCount = used;
                best = columns.clone();
            }
            return;
        }
        if (!names.contains(name)) {
            columns[name] = NONE;
            tryColumns(rows, names, columns, name + 1, used);
            return;
        }
        for (int c = 0; c <= used; c++) {
            boolean free = true;
            for (int other = 0; other < name; other++) {
                if (columns[other] != c) continue;
                for (TreeSet<Integer> row : rows) if (row.contains(other) && row.contains(name)) free = false;
            }
            columns[name] = c;
            if (free) tryColumns(rows, names, columns, name + 1, Math.max(used, c + 1));
        }
    }

    int column(int name) {
        if (name < -1 || name > 7) return UNKNOWN;
        List<TreeSet<Integer>> rows = table();
        TreeSet<Integer> names = new TreeSet<>();
        for (TreeSet<Integer> row : rows) names.addAll(row);
        bestCount = 99;
        tryColumns(rows, names, new int[8], 0, 0);
        return name == -1 ? bestCount : best[name];
    }

    int[] places;

    Map<Integer, Integer> pack() {
        Map<Integer, Integer> filled = new HashMap<>();
        List<TreeSet<Integer>> rows = table();
        places = new int[rows.size()];
        for (int k = 0; k < rows.size(); k++) {
            TreeSet<Integer> row = rows.get(k);
            int p = 0;
            while (true) {
                int at = p;
                if (row.stream().noneMatch(name -> filled.containsKey(at + name))) break;
                p++;
            }
            places[k] = row.isEmpty() ? NONE : p;
            for (int name : row) filled.put(p + name, 10 * k + name);
        }
        return filled;
    }

    int packed(int kind) {
        if (kind != -1 && !known(kind)) return UNKNOWN;
        Map<Integer, Integer> filled = pack();
        if (kind >= 0) return places[kind];
        int length = 0;
        for (int p : filled.keySet()) length = Math.max(length, p + 1);
        return length;
    }

    int slot(int place) {
        if (place < 0 || place > 99) return OUTSIDE;
        return pack().getOrDefault(place, NONE);
    }

    int one(int kind, int name, int what) {
        if (!known(kind, name)) return UNKNOWN;
        if (what < 0 || what > 1) return OUTSIDE;
        TreeSet<Integer> all = below(kind);
        all.add(kind);
        TreeSet<Integer> answers = new TreeSet<>();
        for (int k : all) {
            if (!bares.get(k) && lineOf(k) != null && answerOf(k, name) != NONE) answers.add(answerOf(k, name));
        }
        return what == 0 ? bits(answers) : answers.size();
    }

    int call(int place, int kind) {
        if (place < 0 || place > 3 || !known(kind)) return UNKNOWN;
        if (calls.size() == 40) return FULL;
        calls.add(new int[] {place, kind});
        return calls.size();
    }

    int forget() {
        int were = calls.size();
        calls.clear();
        return were;
    }

    int size(int place, int v) {
        if (place < 0 || place > 3) return UNKNOWN;
        if (v < 1 || v > 4) return OUTSIDE;
        int was = sizes[place];
        sizes[place] = v;
        return was;
    }

    List<Integer> callsOf(int place) {
        List<Integer> row = new ArrayList<>();
        for (int[] call : calls) if (call[0] == place) row.add(call[1]);
        return row;
    }

    /** HITS by a SIZE; what is remembered at last, the latest first, is put into kept. */
    int hitsOf(int place, int size, List<Integer> kept) {
        int hits = 0;
        for (Integer kind : callsOf(place)) {
            if (kept.remove(kind)) hits++;
            else if (kept.size() == size) kept.remove(size - 1);
            kept.add(0, kind);
        }
        return hits;
    }

    /** The most HITS for each set that can be remembered, all choices tried. */
    int bestOf(int place, int size) {
        Map<Integer, Integer> states = new HashMap<>();
        states.put(0, 0);
        for (int kind : callsOf(place)) {
            Map<Integer, Integer> after = new HashMap<>();
            for (Map.Entry<Integer, Integer> e : states.entrySet()) {
                int set = e.getKey();
                if ((set >> kind & 1) != 0) {
                    after.merge(set, e.getValue() + 1, Math::max);
                } else if (Integer.bitCount(set) < size) {
                    after.merge(set | 1 << kind, e.getValue(), Math::max);
                } else {
                    for (int goes = 0; goes < 10; goes++) {
                        if ((set >> goes & 1) == 0) continue;
                        after.merge(set & ~(1 << goes) | 1 << kind, e.getValue(), Math::max);
                    }
                }
            }
            states = after;
        }
        int most = 0;
        for (int hits : states.values()) most = Math.max(most, hits);
        return most;
    }

    int hits(int place, int what) {
        if (place < 0 || place > 3) return UNKNOWN;
        List<Integer> kept = new ArrayList<>();
        int hits = hitsOf(place, sizes[place], kept);
        if (what == 0) return callsOf(place).size();
        if (what == 1) return hits;
        if (what == 2) return bestOf(place, sizes[place]);
        if (what < 10 || what > 13) return OUTSIDE;
        return what - 10 < kept.size() ? kept.get(what - 10) : NONE;
    }

    int need(int place, int hits) {
        if (place < 0 || place > 3) return UNKNOWN;
        if (hits < 0 || hits > 40) return OUTSIDE;
        for (int v = 1; v <= 4; v++) if (hitsOf(place, v, new ArrayList<>()) >= hits) return v;
        return NONE;
    }

    int told(int what) {
        if (what == 0) return parents.size();
        if (what == 1) return pad.length();
        if (what == 2) return calls.size();
        if (what >= 10 && what < 20) return known(what - 10) ? bits(bodies.get(what - 10).keySet()) : 0;
        if (what >= 20 && what < 30) return known(what - 20) && bares.get(what - 20) ? 1 : 0;
        return OUTSIDE;
    }
}
