import java.util.ArrayList;
import java.util.List;

/**
 * The document told again in its plainest form: every pairing is tried, nothing is bounded or kept ready.
 * It stands for what is due in RandomRunsTest.
 */
final class PlainTales {
    static final int NONE = -6, UNKNOWN = -1, OUTSIDE = -2, STATE = -3, FULL = -4, NO = -5;

    static final class Tie {
        int kind;
        List<Integer> ends = new ArrayList<>();
        int moment;

        Tie(int kind, List<Integer> ends, int moment) {
            this.kind = kind;
            this.ends = ends;
            this.moment = moment;
        }
    }

    static final class Tale {
        List<Integer> sorts = new ArrayList<>();
        List<Tie> ties = new ArrayList<>();
        int label = 0;

        Tale copy() {
            Tale other = new Tale();
            other.sorts.addAll(sorts);
            other.ties.addAll(ties);
            other.label = label;
            return other;
        }

        int height(int i) {
            int h = 0;
            for (int end : ties.get(i).ends) {
                if (end >= 10) {
                    h = Math.max(h, height(end - 10));
                }
            }
            return h + 1;
        }
    }

    /** A pairing with all that the document asks of it. */
    static final class Pairing {
        int[] row;
        int[] answers;
        int worth;
        int pairs;
        int answering;
    }

    final int[] ends = new int[16], wider = new int[16], opposite = new int[16];
    final boolean[] even = new boolean[16];
    final Tale[] tales = new Tale[12];
    int timed = 0;
    Tale keptA, keptB;
    int keptLevel, keptTimed;
    Pairing kept;
    boolean soughtOnce;
    int soughtHeld, soughtWorth;

    PlainTales() {
        for (int k = 0; k < 16; k++) {
            ends[k] = 2;
            wider[k] = opposite[k] = -1;
        }
        for (int t = 0; t < 12; t++) {
            tales[t] = new Tale();
        }
    }

    // ---- 1

    boolean k(int kind) { return kind >= 0 && kind <= 15; }

    boolean t(int t) { return t >= 0 && t <= 11; }

    int none(int v) { return v == -1 ? NONE : v; }

    int countOf(Tale tale, int kind) {
        int n = 0;
        if (tale != null) {
            for (Tie tie : tale.ties) {
                if (tie.kind == kind) n++;
            }
        }
        return n;
    }

    boolean used(int kind) {
        int n = countOf(keptA, kind) + countOf(keptB, kind);
        for (Tale tale : tales) n += countOf(tale, kind);
        return n > 0;
    }

    int kind(int kind, int e, boolean ev) {
        if (!k(kind)) return UNKNOWN;
        if (e < 1 || e > 3) return OUTSIDE;
        boolean isOne = false;
        for (int w : wider) isOne |= w == kind;
        if (used(kind) || wider[kind] != -1 || isOne || opposite[kind] != -1) return STATE;
        int was = ends[kind];
        ends[kind] = e;
        even[kind] = e == 2 && ev;
        return was;
    }

    int wider(int kind, int over) {
        if (!k(kind) || over != -1 && !k(over)) return UNKNOWN;
        if (used(kind)) return STATE;
        if (over != -1) {
            if (ends[over] != ends[kind]) return NO;
            for (int w = over; w != -1; w = wider[w]) {
                if (w == kind) return NO;
            }
        }
        int was = wider[kind];
        wider[kind] = over;
        return none(was);
    }

    int opposite(int kind, int other) {
        if (!k(kind) || !k(other)) return UNKNOWN;
        if (ends[kind] != ends[other]) return NO;
        for (int x = 0; x < 16; x++) {
            if (opposite[x] == kind || opposite[x] == other) opposite[x] = -1;
        }
        opposite[kind] = kind == other ? -1 : other;
        opposite[other] = kind == other ? -1 : kind;
        return 1;
    }

    int ofKind(int kind, int what) {
        if (!k(kind)) return UNKNOWN;
        if (what < 0 || what > 4) return OUTSIDE;
        int n = 0;
        for (Tale tale : tales) n += countOf(tale, kind);
        return new int[] {ends[kind], even[kind] ? 1 : 0, none(wider[kind]), none(opposite[kind]), n}[what];
    }

    int above(int kind, int l) {
        if (l == 0) return kind;
        int below = above(kind, l - 1);
        return wider[below] == -1 ? below : wider[below];
    }

    boolean alikeAt(int one, int other, int level) {
        for (int l = 0; l <= level; l++) {
            if (above(one, l) == above(other, l)) return true;
        }
        return false;
    }

    int alike(int one, int other) {
        if (!k(one) || !k(other)) return UNKNOWN;
        for (int l = 0; l <= 2; l++) {
            if (alikeAt(one, other, l)) return l;
        }
        return NONE;
    }

    int timed(int v) {
        if (v != 0 && v != 1) return OUTSIDE;
        int was = timed;
        timed = v;
        return was;
    }

    int tale(int t, int things) {
        if (!t(t)) return UNKNOWN;
        if (things < 0 || things > 6) return OUTSIDE;
        tales[t] = new Tale();
        for (int x = 0; x < things; x++) tales[t].sorts.add(0);
        return 1;
    }

    int sort(int t, int thing, int sort) {
        if (!t(t) || thing < 0 || thing >= tales[t].sorts.size()) return UNKNOWN;
        if (sort < 0 || sort > 9) return OUTSIDE;
        return tales[t].sorts.set(thing, sort);
    }

    int label(int t, int label) {
        if (!t(t)) return UNKNOWN;
        if (label < 0 || label > 9) return OUTSIDE;
        int was = tales[t].label;
        tales[t].label = label;
        return was;
    }

    boolean sameEnds(int kind, List<Integer> one, List<Integer> other) {
        if (one.equals(other)) return true;
        return even[kind] && one.size() == 2 && other.size() == 2
            && one.get(0).equals(other.get(1)) && one.get(1).equals(other.get(0));
    }

    int find(Tale tale, int kind, List<Integer> e) {
        for (int i = 0; i < tale.ties.size(); i++) {
            if (tale.ties.get(i).kind == kind && sameEnds(kind, tale.ties.get(i).ends, e)) return i;
        }
        return -1;
    }

    int tie(int t, int kind, int a, int b, int c, int moment) {
        if (!t(t) || !k(kind)) return UNKNOWN;
        if (moment < -1 || moment > 9) return OUTSIDE;
        Tale tale = tales[t];
        int[] told = {a, b, c};
        List<Integer> e = new ArrayList<>();
        for (int p = 0; p < 3; p++) {
            if (p < ends[kind]) {
                boolean thing = told[p] >= 0 && told[p] < tale.sorts.size();
                boolean tie = told[p] >= 10 && told[p] - 10 < tale.ties.size();
                if (!thing && !tie) return OUTSIDE;
                e.add(told[p]);
            } else if (told[p] != -1) {
                return OUTSIDE;
            }
        }
        if (tale.ties.size() == 14) return FULL;
        if (find(tale, kind, e) >= 0) return NO;
        tale.ties.add(new Tie(kind, e, moment));
        return tale.ties.size() - 1;
    }

    int ofTie(int t, int tie, int what) {
        if (!t(t) || tie < 0 || tie >= tales[t].ties.size()) return UNKNOWN;
        if (what < 0 || what > 5) return OUTSIDE;
        Tie x = tales[t].ties.get(tie);
        if (what == 0) return x.kind;
        if (what <= 3) return what <= x.ends.size() ? x.ends.get(what - 1) : NONE;
        return what == 4 ? x.moment : tales[t].height(tie);
    }

    int ofTale(int t, int what) {
        if (!t(t)) return UNKNOWN;
        Tale x = tales[t];
        if (what >= 10 && what <= 15) return what - 10 < x.sorts.size() ? x.sorts.get(what - 10) : UNKNOWN;
        if (what < 0 || what > 3) return OUTSIDE;
        int top = 0;
        for (int i = 0; i < x.ties.size(); i++) top = Math.max(top, x.height(i));
        return new int[] {x.sorts.size(), x.ties.size(), x.label, top}[what];
    }

    int copy(int t, int u) {
        if (!t(t) || !t(u)) return UNKNOWN;
        tales[u] = tales[t].copy();
        return tales[u].ties.size();
    }

    // ---- 2

    boolean endAnswers(int x, int y, int[] row, int[] answers) {
        if (x < 10) return y < 10 && row[x] == y;
        return y >= 10 && answers[x - 10] == y - 10;
    }

    boolean endsAnswer(Tie p, Tie q, int[] row, int[] answers) {
        if (p.ends.size() != q.ends.size()) return false;
        boolean straight = true;
        for (int e = 0; e < p.ends.size(); e++) {
            straight &= endAnswers(p.ends.get(e), q.ends.get(e), row, answers);
        }
        if (straight) return true;
        return even[p.kind] && even[q.kind]
            && endAnswers(p.ends.get(0), q.ends.get(1), row, answers)
            && endAnswers(p.ends.get(1), q.ends.get(0), row, answers);
    }

    int[] answersBy(Tale a, Tale b, int level, int inTime, int[] row) {
        int[] answers = new int[a.ties.size()];
        boolean[] come = new boolean[b.ties.size()];
        for (int i = 0; i < answers.length; i++) {
            answers[i] = -1;
            Tie p = a.ties.get(i);
            for (int j = 0; j < come.length && answers[i] == -1; j++) {
                Tie q = b.ties.get(j);
                boolean ok = !come[j] && alikeAt(p.kind, q.kind, level) && endsAnswer(p, q, row, answers);
                if (ok && inTime == 1 && p.moment >= 0 && q.moment >= 0) {
                    for (int e = 0; e < i; e++) {
                        if (answers[e] >= 0 && a.ties.get(e).moment >= 0 && b.ties.get(answers[e]).moment >= 0) {
                            int here = Integer.signum(a.ties.get(e).moment - p.moment);
                            int there = Integer.signum(b.ties.get(answers[e]).moment - q.moment);
                            ok &= here == there;
                        }
                    }
                }
                if (ok) {
                    answers[i] = j;
                    come[j] = true;
                }
            }
        }
        return answers;
    }

    Pairing weigh(Tale a, Tale b, int level, int inTime, int[] row) {
        Pairing p = new Pairing();
        p.row = row.clone();
        p.answers = answersBy(a, b, level, inTime, row);
        for (int i = 0; i < p.answers.length; i++) {
            if (p.answers[i] >= 0) {
                int one = a.ties.get(i).kind, other = b.ties.get(p.answers[i]).kind;
                p.worth += a.height(i) * (one == other ? 6 : alikeAt(one, other, 1) ? 4 : 3);
                p.answering++;
            }
        }
        for (int x = 0; x < row.length; x++) {
            if (row[x] != 9) {
                p.pairs++;
                if (a.sorts.get(x).equals(b.sorts.get(row[x]))) p.worth++;
            }
        }
        return p;
    }

    void rows(Tale a, Tale b, int[] row, int x, List<int[]> all) {
        if (x == row.length) {
            all.add(row.clone());
            return;
        }
        for (int y = 0; y <= 9; y++) {
            boolean free = y == 9 || y < b.sorts.size();
            for (int z = 0; z < x && y != 9; z++) free &= row[z] != y;
            if (free) {
                row[x] = y;
                rows(a, b, row, x + 1, all);
            }
        }
    }

    List<Pairing> pairings(Tale a, Tale b, int level, int inTime) {
        List<int[]> all = new ArrayList<>();
        rows(a, b, new int[a.sorts.size()], 0, all);
        List<Pairing> weighed = new ArrayList<>();
        for (int[] row : all) weighed.add(weigh(a, b, level, inTime, row));
        return weighed;
    }

    List<Pairing> likenesses(Tale a, Tale b, int level, int inTime) {
        List<Pairing> best = new ArrayList<>();
        for (Pairing p : pairings(a, b, level, inTime)) {
            int order = 1;
            if (!best.isEmpty()) {
                Pairing q = best.get(0);
                order = p.worth != q.worth ? Integer.compare(p.worth, q.worth) : Integer.compare(p.pairs, q.pairs);
            }
            if (order > 0) best.clear();
            if (order >= 0) best.add(p);
        }
        return best;
    }

    int like(int a, int b, int level) {
        if (!t(a) || !t(b)) return UNKNOWN;
        if (level < 0 || level > 2) return OUTSIDE;
        keptA = tales[a].copy();
        keptB = tales[b].copy();
        keptLevel = level;
        keptTimed = timed;
        kept = likenesses(keptA, keptB, level, timed).get(0);
        return kept.worth;
    }

    int partner(int x) {
        if (kept == null) return STATE;
        if (x < 0 || x >= kept.row.length) return UNKNOWN;
        return kept.row[x] == 9 ? NONE : kept.row[x];
    }

    int answer(int i) {
        if (kept == null) return STATE;
        if (i < 0 || i >= kept.answers.length) return UNKNOWN;
        return none(kept.answers[i]);
    }

    int likes(int a, int b, int level, int i) {
        if (!t(a) || !t(b)) return UNKNOWN;
        if (level < 0 || level > 2) return OUTSIDE;
        List<Pairing> all = likenesses(tales[a], tales[b], level, timed);
        if (i == -1) return all.size();
        if (i < 0 || i >= all.size()) return NONE;
        String text = "0";
        for (int y : all.get(i).row) text += y;
        return Integer.parseInt(text);
    }

    int worth(int a, int b, int level, int digits) {
        if (!t(a) || !t(b)) return UNKNOWN;
        if (level < 0 || level > 2 || digits < 0) return OUTSIDE;
        int n = tales[a].sorts.size();
        String text = digits == 0 ? "" : "" + digits;
        if (text.length() > n) return OUTSIDE;
        text = "000000".substring(0, n - text.length()) + text;
        int[] row = new int[n];
        for (int x = 0; x < n; x++) {
            row[x] = text.charAt(x) - '0';
            if (row[x] != 9 && row[x] >= tales[b].sorts.size()) return OUTSIDE;
            for (int z = 0; z < x; z++) {
                if (row[x] != 9 && row[z] == row[x]) return OUTSIDE;
            }
        }
        return weigh(tales[a], tales[b], level, timed, row).worth;
    }

    int same(int a, int b) {
        if (!t(a) || !t(b)) return UNKNOWN;
        Tale one = tales[a], other = tales[b];
        if (one.sorts.size() != other.sorts.size() || one.ties.size() != other.ties.size()) return 0;
        for (Pairing p : pairings(one, other, 0, timed)) {
            boolean ok = p.pairs == one.sorts.size() && p.answering == one.ties.size();
            for (int x = 0; ok && x < p.row.length; x++) {
                ok = one.sorts.get(x).equals(other.sorts.get(p.row[x]));
            }
            for (int i = 0; ok && i < p.answers.length; i++) {
                ok = one.ties.get(i).moment == other.ties.get(p.answers[i]).moment;
            }
            if (ok) return 1;
        }
        return 0;
    }

    // ---- 3

    /** For each guess: the tie of a, then its ends put over. */
    List<List<Integer>> guesses(int[] row, int[] answers) {
        List<List<Integer>> all = new ArrayList<>();
        for (int i = 0; i < answers.length; i++) {
            if (answers[i] >= 0) continue;
            List<Integer> guess = new ArrayList<>();
            guess.add(i);
            for (int end : keptA.ties.get(i).ends) {
                if (end < 10) {
                    if (row[end] != 9) guess.add(row[end]);
                } else if (answers[end - 10] >= 0) {
                    guess.add(10 + answers[end - 10]);
                } else {
                    for (int g = 0; g < all.size(); g++) {
                        if (all.get(g).get(0) == end - 10) guess.add(30 + g);
                    }
                }
            }
            if (guess.size() == 1 + keptA.ties.get(i).ends.size()) all.add(guess);
        }
        return all;
    }

    boolean told(List<Integer> guess, int kind) {
        if (kind == -1) return false;
        List<Integer> e = guess.subList(1, guess.size());
        for (int end : e) {
            if (end >= 30) return false;
        }
        return find(keptB, kind, e) >= 0;
    }

    int guess(int i) {
        if (kept == null) return STATE;
        List<List<Integer>> all = guesses(kept.row, kept.answers);
        if (i == -1) return all.size();
        return i < 0 || i >= all.size() ? NONE : all.get(i).get(0);
    }

    int ofGuess(int i, int k) {
        if (kept == null) return STATE;
        if (k < 0 || k > 4) return OUTSIDE;
        List<List<Integer>> all = guesses(kept.row, kept.answers);
        if (i < 0 || i >= all.size()) return NONE;
        List<Integer> g = all.get(i);
        if (k < 3) return k + 1 < g.size() ? g.get(k + 1) : NONE;
        int kind = keptA.ties.get(g.get(0)).kind;
        return told(g, k == 3 ? kind : opposite[kind]) ? 1 : 0;
    }

    int giveUp() {
        if (kept == null) return STATE;
        int best = -1;
        for (int set = 0; set < 1 << kept.row.length; set++) {
            int[] row = kept.row.clone();
            boolean ok = true;
            for (int x = 0; x < row.length; x++) {
                if ((set >> x & 1) == 1) {
                    ok &= row[x] != 9;
                    row[x] = 9;
                }
            }
            if (!ok) continue;
            int[] answers = answersBy(keptA, keptB, keptLevel, keptTimed, row);
            for (List<Integer> g : guesses(row, answers)) {
                ok &= !told(g, opposite[keptA.ties.get(g.get(0)).kind]);
            }
            if (ok && (best == -1 || Integer.bitCount(set) < Integer.bitCount(best))) best = set;
        }
        return best;
    }

    // ---- 4

    int bound(int a, int b) {
        if (!t(a) || !t(b)) return UNKNOWN;
        int sum = 0;
        for (int kind = 0; kind < 16; kind++) {
            int h = 0;
            for (int i = 0; i < tales[a].ties.size(); i++) {
                if (tales[a].ties.get(i).kind == kind) h = Math.max(h, tales[a].height(i));
            }
            sum += 6 * h * Math.min(countOf(tales[a], kind), countOf(tales[b], kind));
        }
        List<Integer> left = new ArrayList<>(tales[b].sorts);
        for (Integer s : tales[a].sorts) {
            if (left.remove(s)) sum++;
        }
        return sum;
    }

    /** The likest, how many were held to it, the worth. */
    int[] seeking(int a) {
        List<Integer> store = new ArrayList<>();
        for (int u = 0; u < 12; u++) {
            if (u != a && tales[u].ties.size() > 0) store.add(u);
        }
        store.sort((u, v) -> bound(a, v) - bound(a, u));
        int best = NONE, worth = NONE, held = 0;
        for (int u : store) {
            int bound = bound(a, u);
            if (best == NONE || bound > worth || bound == worth && u < best) {
                held++;
                int w = likenesses(tales[a], tales[u], 0, timed).get(0).worth;
                if (best == NONE || w > worth || w == worth && u < best) {
                    best = u;
                    worth = w;
                }
            }
        }
        return new int[] {best, held, worth};
    }

    int seek(int a) {
        if (!t(a)) return UNKNOWN;
        int[] found = seeking(a);
        soughtOnce = true;
        soughtHeld = found[1];
        soughtWorth = found[2];
        return found[0];
    }

    int sought(int what) {
        if (what != 0 && what != 1) return OUTSIDE;
        if (!soughtOnce) return STATE;
        return what == 0 ? soughtHeld : soughtWorth;
    }

    // ---- 5

    int common(int a, int b, int c, int level) {
        if (!t(a) || !t(b) || !t(c)) return UNKNOWN;
        if (level < 0 || level > 2) return OUTSIDE;
        if (c == a || c == b) return NO;
        Pairing p = likenesses(tales[a], tales[b], level, timed).get(0);
        Tale made = new Tale();
        int[] things = new int[6];
        for (int x = 0; x < p.row.length; x++) {
            if (p.row[x] != 9) {
                things[x] = made.sorts.size();
                int s = tales[a].sorts.get(x);
                made.sorts.add(s == tales[b].sorts.get(p.row[x]) ? s : 0);
            }
        }
        int[] ties = new int[14];
        for (int i = 0; i < p.answers.length; i++) {
            if (p.answers[i] < 0) continue;
            Tie tie = tales[a].ties.get(i);
            int other = tales[b].ties.get(p.answers[i]).kind;
            int l = 0;
            while (above(tie.kind, l) != above(other, l)) l++;
            List<Integer> e = new ArrayList<>();
            for (int end : tie.ends) e.add(end < 10 ? things[end] : 10 + ties[end - 10]);
            ties[i] = find(made, above(tie.kind, l), e);
            if (ties[i] < 0) {
                ties[i] = made.ties.size();
                made.ties.add(new Tie(above(tie.kind, l), e, -1));
            }
        }
        tales[c] = made;
        return made.ties.size();
    }

    int series(int a, int b, int c, int d) {
        if (!t(a) || !t(b) || !t(c) || !t(d)) return UNKNOWN;
        Pairing ab = likenesses(tales[a], tales[b], 0, timed).get(0);
        Pairing ac = likenesses(tales[a], tales[c], 0, timed).get(0);
        Tale third = tales[c];
        Tale made = new Tale();
        made.sorts.addAll(third.sorts);
        made.label = third.label;
        int[] left = new int[14];
        for (int k = 0; k < third.ties.size(); k++) {
            boolean goes = false;
            for (int i = 0; i < ac.answers.length; i++) goes |= ac.answers[i] == k && ab.answers[i] == -1;
            List<Integer> e = new ArrayList<>();
            for (int end : third.ties.get(k).ends) {
                goes |= end >= 10 && left[end - 10] == -1;
                e.add(end < 10 ? end : 10 + left[end - 10]);
            }
            left[k] = goes ? -1 : made.ties.size();
            if (!goes) made.ties.add(new Tie(third.ties.get(k).kind, e, third.ties.get(k).moment));
        }
        int[] over = new int[14];
        for (int j = 0; j < tales[b].ties.size(); j++) {
            Tie tie = tales[b].ties.get(j);
            int comes = -1;
            for (int i = 0; i < ab.answers.length; i++) {
                if (ab.answers[i] == j) comes = i;
            }
            over[j] = -1;
            if (comes >= 0) {
                if (ac.answers[comes] >= 0) over[j] = left[ac.answers[comes]];
                continue;
            }
            List<Integer> e = new ArrayList<>();
            for (int end : tie.ends) {
                if (end >= 10) {
                    if (over[end - 10] >= 0) e.add(10 + over[end - 10]);
                } else {
                    for (int x = 0; x < ab.row.length; x++) {
                        if (ab.row[x] == end && ac.row[x] != 9) e.add(ac.row[x]);
                    }
                }
            }
            if (e.size() < tie.ends.size()) continue;
            over[j] = find(made, tie.kind, e);
            if (over[j] < 0) {
                over[j] = made.ties.size();
                made.ties.add(new Tie(tie.kind, e, tie.moment));
            }
        }
        if (made.ties.size() > 14) return FULL;
        tales[d] = made;
        return made.ties.size();
    }

    int leftOut(int a, int b) {
        if (!t(a) || !t(b)) return UNKNOWN;
        int most = 0;
        for (Pairing p : pairings(tales[a], tales[b], 0, timed)) most = Math.max(most, p.answering);
        return tales[a].ties.size() - most;
    }

    // ---- 6

    int trial(int what) {
        if (what < 0 || what > 1 && what < 10 || what > 19) return OUTSIDE;
        int n = 0;
        for (int u = 0; u < 12; u++) {
            if (tales[u].ties.isEmpty()) continue;
            if (what == 1) {
                n++;
            } else if (what == 0 || tales[u].label == what - 10) {
                int best = seeking(u)[0];
                if (best >= 0 && tales[best].label == tales[u].label) n++;
            }
        }
        return n;
    }
}
