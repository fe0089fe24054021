import java.util.ArrayList;
import java.util.Arrays;
import java.util.List;
import java.util.Random;

/**
 * Long runs of drawn calls, each answered by OceanMail and by a slow second office that is written another way:
 * it goes through every single hour, reads contracts from their text each time and tries rides forwards.
 */
public final class ModelRuns {

    private static final int RUNS = 400;
    private static final int CALLS = 500;
    private static int wrong = 0;

    public static void main(String[] args) {
        int checks = 0;
        for (int run = 0; run < RUNS && wrong < 20; run++) {
            checks += new Run(run).play();
        }
        checks += faultRuns();
        System.out.println(wrong == 0 ? checks + " answers are as due" : wrong + " answers are not as due");
        if (wrong != 0) System.exit(1);
    }

    private static void check(String call, long got, long want) {
        if (got != want) {
            wrong++;
            System.out.println(call + " answered " + got + ", due is " + want);
        }
    }

    /** Contract texts alone, most of them spoilt at one place. */
    private static int faultRuns() {
        Random random = new Random(77);
        int checks = 0;
        for (int k = 0; k < 4000 && wrong < 20; k++) {
            OceanMail office = new OceanMail();
            for (int turn = 0; turn < 6; turn++) {
                String text = Texts.spoilt(random);
                feed(office, text);
                int[] fault = Texts.fault(text);
                int want = fault[0] == 0 ? Texts.clauses(text).length : -2;
                check("contract of " + text, office.contract(turn % 4, text.length()), want);
                check("fault(0) of " + text, office.fault(0), fault[0]);
                check("fault(1) of " + text, office.fault(1), fault[1]);
                checks += 3;
            }
        }
        return checks;
    }

    static int feed(OceanMail office, String text) {
        int answer = office.count(3);
        for (int at = 0; at < text.length(); at += 20) {
            int[] five = new int[5];
            for (int k = 0; k < 20; k++) {
                int sign = at + k < text.length() ? text.charAt(at + k) : 0;
                five[k / 4] = five[k / 4] << 8 | sign;
            }
            answer = office.feed(five[0], five[1], five[2], five[3], five[4]);
        }
        return answer;
    }

    // ---------------------------------------------------------------- texts

    static final class Texts {
        static String number(Random r, int around) {
            int n = r.nextInt(4) == 0 ? r.nextInt(10000) : r.nextInt(around);
            return r.nextInt(8) == 0 ? String.format("%04d", n) : Integer.toString(n);
        }

        static String test(Random r, int depth) {
            StringBuilder text = new StringBuilder(term(r, depth));
            while (r.nextInt(3) == 0 && text.length() < 60) text.append('|').append(term(r, depth));
            return text.toString();
        }

        static String term(Random r, int depth) {
            StringBuilder text = new StringBuilder(factor(r, depth));
            while (r.nextInt(3) == 0 && text.length() < 40) text.append('&').append(factor(r, depth));
            return text.toString();
        }

        static String factor(Random r, int depth) {
            int kind = r.nextInt(6);
            if (kind == 0 && depth < 8) return "!" + factor(r, depth + 1);
            if (kind == 1 && depth < 8) return "(" + test(r, depth + 1) + ")";
            char letter = "ltwkm".charAt(r.nextInt(5));
            String below = r.nextInt(4) == 0 ? "-" : "";
            int around = letter == 'm' ? 12 : letter == 'w' ? 51 : r.nextBoolean() ? 12 : 300;
            return letter + "" + "<=>".charAt(r.nextInt(3)) + below + number(r, around);
        }

        static String clause(Random r) {
            switch (r.nextInt(5)) {
                case 0: return "P" + number(r, 20);
                case 1: return "X:" + test(r, 0);
                case 2: return "W" + number(r, 400) + ":" + (r.nextBoolean() ? "m>-1" : "t>-1");
                default: return "W" + number(r, 400) + ":" + test(r, 0);
            }
        }

        static String contract(Random r, int most) {
            StringBuilder text = new StringBuilder();
            int clauses = r.nextInt(most + 1);
            for (int c = 0; c < clauses; c++) {
                String next = clause(r);
                if (text.length() + next.length() + 1 > 200) break;
                if (c > 0) text.append(';');
                text.append(next);
            }
            return text.toString();
        }

        static String spoilt(Random r) {
            StringBuilder text = new StringBuilder(contract(r, 14));
            if (r.nextInt(6) == 0) {
                text.setLength(0);
                int deep = 6 + r.nextInt(5);
                text.append(r.nextBoolean() ? "X:" : "W1:l<1&");
                StringBuilder close = new StringBuilder();
                for (int d = 0; d < deep; d++) {
                    boolean not = r.nextBoolean();
                    text.append(not ? "!" : "(");
                    if (!not) close.append(')');
                    if (!not && r.nextInt(4) == 0) text.append("m=1|");
                }
                text.append("k>3").append(close);
                if (r.nextBoolean()) text.append("&!(!t=2)");
            }
            if (r.nextInt(5) == 0) {
                text.setLength(0);
                for (int c = 0; c < 11 + r.nextInt(3); c++) text.append(c == 0 ? "P" : ";P").append(c);
                if (r.nextInt(3) == 0) text.append(";").append("WXPQ;".charAt(r.nextInt(5)));
            }
            int spoils = r.nextInt(3);
            String signs = "WXP;:|&!()ltwkm<=>-0123456789 \0\u00ff";
            for (int s = 0; s < spoils && text.length() > 0; s++) {
                int at = r.nextInt(text.length());
                char sign = signs.charAt(r.nextInt(signs.length()));
                int how = r.nextInt(4);
                if (how == 0) text.setCharAt(at, sign);
                if (how == 1) text.insert(at, sign);
                if (how == 2) text.deleteCharAt(at);
                if (how == 3) text.setLength(at);
            }
            if (text.length() > 200) text.setLength(200);
            return text.toString();
        }

        static String[] clauses(String text) {
            return text.isEmpty() ? new String[0] : text.split(";", -1);
        }

        /** A table of what may follow, with a pile of what is open: {number, place}. */
        static int[] fault(String text) {
            if (text.isEmpty()) return new int[] {0, -1};
            StringBuilder open = new StringBuilder();
            String state = "clause";
            char kind = 0;
            int clauses = 0;
            int digits = 0;
            for (int at = 0; at <= text.length(); at++) {
                char c = at < text.length() ? text.charAt(at) : '$';
                if (at < text.length() && c == '$') return new int[] {1, at};
                boolean digit = c >= '0' && c <= '9';
                switch (state) {
                    case "clause":
                        if ("WXP".indexOf(c) < 0) return new int[] {1, at};
                        if (clauses == 12) return new int[] {2, at};
                        clauses++;
                        kind = c;
                        digits = 0;
                        state = c == 'X' ? "colon" : "head";
                        break;
                    case "head":
                        if (digit && digits < 4) { digits++; break; }
                        if (digits == 0) return new int[] {1, at};
                        if (kind == 'W' && c == ':') { state = "factor"; break; }
                        if (kind == 'P' && c == ';') { state = "clause"; break; }
                        if (kind == 'P' && c == '$') return new int[] {0, -1};
                        return new int[] {1, at};
                    case "colon":
                        if (c != ':') return new int[] {1, at};
                        state = "factor";
                        break;
                    case "factor":
                        if (c == '!' || c == '(') {
                            if (open.length() == 8) return new int[] {3, at};
                            open.append(c);
                            break;
                        }
                        if ("ltwkm".indexOf(c) < 0) return new int[] {1, at};
                        state = "sign";
                        break;
                    case "sign":
                        if ("<=>".indexOf(c) < 0) return new int[] {1, at};
                        digits = 0;
                        state = "minus";
                        break;
                    case "minus":
                        state = "number";
                        if (c == '-') break;
                        if (!digit) return new int[] {1, at};
                        digits = 1;
                        break;
                    default:
                        if (state.equals("number")) {
                            if (digit && digits < 4) { digits++; break; }
                            if (digits == 0) return new int[] {1, at};
                            state = "behind";
                            dropNots(open);
                        }
                        if (c == '|' || c == '&') { state = "factor"; break; }
                        if (c == ')' && open.length() > 0) {
                            open.setLength(open.length() - 1);
                            dropNots(open);
                            break;
                        }
                        if (c == ';' && open.length() == 0) { state = "clause"; break; }
                        if (c == '$' && open.length() == 0) return new int[] {0, -1};
                        return new int[] {1, at};
                }
            }
            throw new IllegalStateException(text);
        }

        private static void dropNots(StringBuilder open) {
            while (open.length() > 0 && open.charAt(open.length() - 1) == '!') open.setLength(open.length() - 1);
        }

        /** By splitting at the outermost signs: no reading from left to right. */
        static boolean holds(String test, int[] facts) {
            int split = outermost(test, '|');
            if (split >= 0) return holds(test.substring(0, split), facts) | holds(test.substring(split + 1), facts);
            split = outermost(test, '&');
            if (split >= 0) return holds(test.substring(0, split), facts) & holds(test.substring(split + 1), facts);
            if (test.charAt(0) == '!') return !holds(test.substring(1), facts);
            if (test.charAt(0) == '(') return holds(test.substring(1, test.length() - 1), facts);
            int value = facts["ltwkm".indexOf(test.charAt(0))];
            int number = Integer.parseInt(test.substring(2));
            int order = Integer.compare(value, number);
            return "<=>".charAt(order + 1) == test.charAt(1);
        }

        private static int outermost(String test, char sign) {
            int depth = 0;
            for (int at = test.length() - 1; at >= 0; at--) {
                char c = test.charAt(at);
                if (c == ')') depth++;
                if (c == '(') depth--;
                if (c == sign && depth == 0) return at;
            }
            return -1;
        }
    }

    // ---------------------------------------------------------------- the second office

    static final class Voyage {
        int line, speed, stay, start;
        List<Integer> ports = new ArrayList<>();
        List<Integer> passages = new ArrayList<>();
        int[] breaks = new int[6];
        int[][] meets = new int[6][];
        int[] come = new int[7], leave = new int[7], waited = new int[7], late = new int[7];
        int[][] shares = new int[7][];

        int legs() { return passages.size(); }
    }

    static final class Office {
        List<int[]> passages = new ArrayList<>();
        int[][] winds = new int[12][12];
        List<Voyage> voyages = new ArrayList<>();
        String[] contracts = {"", "", "", ""};
        int meetings = 0;
        boolean stepped = false;
        List<int[]> rides = new ArrayList<>();

        int table(Voyage v, int leg) {
            int miles = passages.get(v.passages.get(leg))[2];
            int hours = 0;
            while (hours * v.speed < miles) hours++;
            return hours;
        }

        int dueCome(Voyage v, int i) {
            int hour = v.start;
            for (int k = 0; k < i; k++) hour += table(v, k) + (k > 0 ? v.stay : 0);
            return hour;
        }

        int dueLeave(Voyage v, int i) {
            return i == 0 ? v.start : dueCome(v, i) + v.stay;
        }

        int wind(int p, int hour) {
            return winds[p][hour / 720 % 12];
        }

        int pence(int line) {
            int pence = 0;
            for (String clause : Texts.clauses(contracts[line])) {
                if (clause.charAt(0) == 'P') pence = Integer.parseInt(clause.substring(1));
            }
            return pence;
        }

        boolean waits(Voyage v, int place, int hour, int ready) {
            int[] meet = v.meets[place];
            if (meet == null) return false;
            Voyage u = voyages.get(meet[0]);
            if (u.come[meet[1]] >= 0 && u.come[meet[1]] <= hour) return false;
            int t = hour - ready;
            int[] facts = {hour - dueCome(u, meet[1]), t, wind(v.passages.get(place), hour), v.breaks[place], hour / 720 % 12};
            for (String clause : Texts.clauses(contracts[v.line])) {
                int colon = clause.indexOf(':');
                if (clause.charAt(0) == 'W' && Integer.parseInt(clause.substring(1, colon)) > t
                        && Texts.holds(clause.substring(colon + 1), facts)) return true;
            }
            return false;
        }

        void step() {
            if (stepped) return;
            stepped = true;
            int n = voyages.size();
            int[] place = new int[n], sea = new int[n];
            int[][] held = new int[n][5];
            for (Voyage v : voyages) {
                Arrays.fill(v.come, -1);
                Arrays.fill(v.leave, -1);
                Arrays.fill(v.waited, -1);
                Arrays.fill(v.late, -1);
                Arrays.fill(v.shares, null);
            }
            Arrays.fill(sea, -1);
            for (int hour = 0; hour <= 20000; hour++) {
                for (int k = 0; k < n; k++) {
                    if (sea[k] == hour) {
                        place[k]++;
                        sea[k] = -1;
                        arrive(voyages.get(k), place[k], hour, held[k]);
                    }
                }
                for (int k = 0; k < n; k++) {
                    Voyage v = voyages.get(k);
                    int i = place[k];
                    if (sea[k] >= 0 || i == v.legs()) continue;
                    int ready = i == 0 ? v.start : Math.max(v.come[i] + v.stay, dueLeave(v, i));
                    if (hour < ready || waits(v, i, hour, ready)) continue;
                    v.leave[i] = hour;
                    v.waited[i] = hour - ready;
                    if (hour > ready) held[k][1 + voyages.get(v.meets[i][0]).line] += hour - ready;
                    int[] passage = passages.get(v.passages.get(i));
                    long pace = (long) v.speed * (100 + wind(v.passages.get(i), hour));
                    sea[k] = hour + (int) Math.ceil(100.0 * passage[2] / pace - 1e-9) + v.breaks[i];
                }
            }
        }

        void arrive(Voyage v, int i, int hour, int[] held) {
            v.come[i] = hour;
            v.late[i] = Math.max(0, hour - dueCome(v, i));
            int left = v.leave[i - 1];
            int more = hour - left - table(v, i - 1);
            if (more > 0) {
                int[] facts = {v.late[i], v.waited[i - 1], wind(v.passages.get(i - 1), left), v.breaks[i - 1], hour / 720 % 12};
                boolean excused = false;
                for (String clause : Texts.clauses(contracts[v.line])) {
                    if (clause.charAt(0) == 'X') excused |= Texts.holds(clause.substring(2), facts);
                }
                held[excused ? 0 : 1 + v.line] += more;
            }
            int[] order = {0, 1 + v.line, 1, 2, 3, 4};
            for (int fewer = -more; fewer > 0; fewer--) {
                for (int holder : order) {
                    if (held[holder] > 0) {
                        held[holder]--;
                        break;
                    }
                }
            }
            v.shares[i] = held.clone();
            if (Arrays.stream(held).sum() != v.late[i]) throw new IllegalStateException("shares are not the late hours");
        }

        long owed(int line) {
            step();
            long sum = 0;
            for (Voyage v : voyages) {
                for (int i = 1; i <= v.legs(); i++) {
                    if (v.come[i] >= 0) sum += (long) v.shares[i][1 + line] * pence(v.line);
                }
            }
            return sum;
        }

        int comes(Voyage v, int i, boolean truth) {
            return i == 0 ? -1 : truth ? v.come[i] : dueCome(v, i);
        }

        int leaves(Voyage v, int i, boolean truth) {
            return i == v.legs() ? -1 : truth ? v.leave[i] : dueLeave(v, i);
        }

        /** Layer by layer: the least list of rides to each coming; the answer is {hour}, then the rides. */
        List<int[]> letter(int a, int b, int h, boolean truth) {
            if (truth) step();
            List<List<int[]>> layer = new ArrayList<>();
            layer.add(new ArrayList<>());
            int best = Integer.MAX_VALUE;
            List<int[]> chosen = null;
            for (int rides = 1; rides <= 11; rides++) {
                List<List<int[]>> next = new ArrayList<>();
                for (int v = 0; v < voyages.size(); v++) {
                    Voyage voyage = voyages.get(v);
                    for (int j = 1; j <= voyage.legs(); j++) {
                        if (comes(voyage, j, truth) < 0) continue;
                        List<int[]> least = leastTo(layer, a, h, truth, v, j);
                        if (least == null) continue;
                        next.add(least);
                        int hour = comes(voyage, j, truth);
                        if (voyage.ports.get(j) != b) continue;
                        boolean shorter = chosen != null && hour == best && chosen.size() == rides && less(least, chosen);
                        if (hour < best || shorter) {
                            best = hour;
                            chosen = least;
                        }
                    }
                }
                layer = next;
            }
            if (chosen == null) return null;
            List<int[]> answer = new ArrayList<>();
            answer.add(new int[] {best});
            answer.addAll(chosen);
            return answer;
        }

        private List<int[]> leastTo(List<List<int[]>> layer, int a, int h, boolean truth, int v, int j) {
            Voyage voyage = voyages.get(v);
            List<int[]> least = null;
            for (List<int[]> before : layer) {
                int port = a;
                int from = h;
                if (!before.isEmpty()) {
                    int[] end = before.get(before.size() - 1);
                    port = voyages.get(end[0]).ports.get(end[2]);
                    from = comes(voyages.get(end[0]), end[2], truth) + 1;
                }
                for (int i = 0; i < j; i++) {
                    if (voyage.ports.get(i) != port || leaves(voyage, i, truth) < from) continue;
                    List<int[]> now = new ArrayList<>(before);
                    now.add(new int[] {v, i, j});
                    if (least == null || less(now, least)) least = now;
                    break;
                }
            }
            return least;
        }

        private static boolean less(List<int[]> one, List<int[]> other) {
            for (int k = 0; k < one.size(); k++) {
                int order = Arrays.compare(one.get(k), other.get(k));
                if (order != 0) return order < 0;
            }
            return false;
        }

        int last(int a, int b, int h, boolean truth) {
            if (truth) step();
            int best = -1;
            for (Voyage v : voyages) {
                for (int i = 0; i < v.legs(); i++) {
                    int leave = leaves(v, i, truth);
                    if (v.ports.get(i) != a || leave <= best || leave > h) continue;
                    List<int[]> way = letter(a, b, leave, truth);
                    if (way != null && way.get(0)[0] <= h) best = leave;
                }
            }
            return best;
        }
    }

    // ---------------------------------------------------------------- one run

    static final class Run {
        final int number;
        final Random r;
        final OceanMail x = new OceanMail();
        final Office o = new Office();
        final int ports;
        final int most;
        final boolean long_;
        int checks = 0;

        Run(int number) {
            this.number = number;
            r = new Random(1000 + number);
            ports = 2 + r.nextInt(7);
            most = 3 + r.nextInt(8);
            long_ = r.nextInt(4) == 0;
        }

        void check(String call, long got, long want) {
            checks++;
            ModelRuns.check("run " + number + ": " + call, got, want);
        }

        int draw(int bound) {
            int kind = r.nextInt(60);
            return kind == 0 ? -1 : kind == 1 ? bound : kind == 2 ? Integer.MIN_VALUE : kind == 3 ? Integer.MAX_VALUE : r.nextInt(bound);
        }

        int play() {
            for (int k = 0; k < 6 + r.nextInt(8); k++) passage();
            for (int k = 0; k < most; k++) {
                voyage();
                for (int l = 0; l < 2 + r.nextInt(6); l++) leg();
            }
            for (int k = 0; k < 30; k++) meet();
            for (int line = 0; line < 4; line++) contract();
            while (checks < CALLS && wrong < 20) {
                int kind = r.nextInt(100);
                if (kind < 1) passage();
                else if (kind < 2) voyage();
                else if (kind < 4) leg();
                else if (kind < 8) wind();
                else if (kind < 12) broken();
                else if (kind < 14) meet();
                else if (kind < 18) contract();
                else if (kind < 24) ask();
                else if (kind < 60) truth();
                else if (kind < 70) share();
                else if (kind < 74) owed();
                else if (kind < 88) first();
                else if (kind < 96) last();
                else look();
            }
            return checks;
        }

        void passage() {
            int a = draw(ports), b = draw(ports), miles = long_ ? 1 + r.nextInt(9999) : 1 + r.nextInt(400);
            if (r.nextInt(20) == 0) miles = r.nextBoolean() ? 0 : 10000;
            boolean fine = a >= 0 && a < 8 && b >= 0 && b < 8 && a != b && miles >= 1 && miles <= 9999 && o.passages.size() < 12;
            int want = fine ? o.passages.size() : -1;
            if (fine) o.passages.add(new int[] {a, b, miles});
            check("passage", x.passage(a, b, miles), want);
        }

        void wind() {
            int p = draw(Math.max(1, o.passages.size())), m = r.nextInt(3) > 0 ? Math.floorMod(draw(3), 13) : draw(12);
            double[] odd = {Double.NaN, Double.POSITIVE_INFINITY, Double.NEGATIVE_INFINITY, 51, 50.999, -50, -50.0001, -0.0, -0.25, 1e300};
            double percent = r.nextInt(6) == 0 ? odd[r.nextInt(odd.length)] : r.nextInt(101) - 50 + (r.nextBoolean() ? 0 : r.nextDouble());
            double floor = Double.isNaN(percent) ? 0 : Math.floor(percent);
            boolean fine = p >= 0 && p < o.passages.size() && m >= 0 && m < 12 && floor >= -50 && floor <= 50;
            if (fine) {
                o.winds[p][m] = (int) floor;
                o.stepped = false;
            }
            check("wind " + percent, x.wind(p, m, percent) ? 1 : 0, fine ? 1 : 0);
        }

        void voyage() {
            Voyage v = new Voyage();
            v.line = draw(4);
            int port = draw(ports);
            v.speed = r.nextInt(30) == 0 ? 31 : 1 + r.nextInt(30);
            v.stay = r.nextInt(30) == 0 ? 0 : 1 + r.nextInt(r.nextBoolean() ? 48 : 5);
            v.start = long_ ? r.nextInt(5001) : 690 + r.nextInt(60);
            boolean fine = v.line >= 0 && v.line < 4 && port >= 0 && port < 8 && v.speed <= 30 && v.stay >= 1 && o.voyages.size() < 10;
            int want = fine ? o.voyages.size() : -1;
            v.ports.add(port);
            if (fine) {
                o.voyages.add(v);
                o.stepped = false;
            }
            check("voyage", x.voyage(v.line, port, v.speed, v.stay, v.start), want);
        }

        void leg() {
            int v = r.nextInt(5) == 0 ? draw(10) : o.voyages.size() - 1;
            int p = draw(12);
            for (int tries = 0; tries < 12 && !fits(v, p); tries++) p = draw(12);
            boolean fine = fits(v, p) && o.voyages.get(v).legs() < 6;
            int want = -1;
            if (fine) {
                Voyage voyage = o.voyages.get(v);
                int[] passage = o.passages.get(p);
                voyage.ports.add(passage[0] == voyage.ports.get(voyage.legs()) ? passage[1] : passage[0]);
                voyage.passages.add(p);
                want = voyage.legs();
                o.stepped = false;
            }
            check("leg", x.leg(v, p), want);
        }

        boolean fits(int v, int p) {
            if (v < 0 || v >= o.voyages.size() || p < 0 || p >= o.passages.size()) return false;
            int port = o.voyages.get(v).ports.get(o.voyages.get(v).legs());
            return o.passages.get(p)[0] == port || o.passages.get(p)[1] == port;
        }

        boolean has(int v) {
            return v >= 0 && v < o.voyages.size();
        }

        void broken() {
            int v = draw(10), i = draw(6), hours = r.nextInt(10) == 0 ? r.nextInt(503) - 1 : r.nextInt(40);
            boolean fine = has(v) && i >= 0 && i < o.voyages.get(v).legs() && hours >= 0 && hours <= 500;
            if (fine) {
                o.voyages.get(v).breaks[i] = hours;
                o.stepped = false;
            }
            check("broken", x.broken(v, i, hours) ? 1 : 0, fine ? 1 : 0);
        }

        void meet() {
            int v = draw(10), i = draw(6), u = draw(10), j = draw(7);
            for (int tries = 0; tries < 40 && !canMeet(v, i, u, j); tries++) {
                v = draw(10);
                i = draw(6);
                u = draw(10);
                j = draw(7);
            }
            boolean fine = canMeet(v, i, u, j);
            if (fine) {
                o.voyages.get(v).meets[i] = new int[] {u, j};
                o.meetings++;
                o.stepped = false;
            }
            check("meet", x.meet(v, i, u, j) ? 1 : 0, fine ? 1 : 0);
        }

        boolean canMeet(int v, int i, int u, int j) {
            if (!has(v) || !has(u) || v == u || o.meetings >= 20) return false;
            Voyage one = o.voyages.get(v), two = o.voyages.get(u);
            return i >= 0 && i < one.legs() && j >= 1 && j <= two.legs() && one.ports.get(i).equals(two.ports.get(j)) && one.meets[i] == null;
        }

        void contract() {
            int line = draw(4);
            String text = r.nextInt(6) == 0 ? Texts.spoilt(r) : Texts.contract(r, 12);
            int fed = feed(x, text);
            check("feed", fed, (text.length() + 19) / 20 * 20);
            int[] fault = Texts.fault(text);
            boolean isLine = line >= 0 && line < 4;
            if (isLine && fault[0] == 0) {
                o.contracts[line] = text;
                o.stepped = false;
            }
            int want = !isLine ? -1 : fault[0] == 0 ? Texts.clauses(text).length : -2;
            check("contract " + text, x.contract(line, text.length()), want);
            if (!isLine) {
                check("tape stays", x.count(3), fed);
                if (r.nextBoolean()) check("too many bytes", x.contract(0, fed + 1), -1);
                String old = o.contracts[0];
                check("an empty text", x.contract(0, 0), 0);
                o.contracts[0] = "";
                o.stepped = old.isEmpty() && o.stepped;
                return;
            }
            check("fault", x.fault(0), fault[0]);
            check("fault", x.fault(1), fault[1]);
            check("tape", x.count(3), 0);
        }

        void ask() {
            int v = draw(10), i = draw(7), what = draw(2);
            boolean fine = has(v) && i >= 0 && i <= o.voyages.get(v).legs() && (what == 0 && i > 0 || what == 1 && i < o.voyages.get(v).legs());
            int want = !fine ? -1 : what == 0 ? o.dueCome(o.voyages.get(v), i) : o.dueLeave(o.voyages.get(v), i);
            check("due(" + v + ", " + i + ", " + what + ")", x.due(v, i, what), want);
        }

        void truth() {
            int v = draw(10), i = draw(7), what = draw(4);
            int want = -1;
            if (has(v) && i >= 0 && i <= o.voyages.get(v).legs()) {
                o.step();
                Voyage voyage = o.voyages.get(v);
                want = what == 0 ? voyage.come[i] : what == 1 ? voyage.leave[i] : what == 2 ? voyage.waited[i] : what == 3 ? voyage.late[i] : -1;
            }
            check("truth(" + v + ", " + i + ", " + what + ")", x.truth(v, i, what), want);
        }

        void share() {
            int v = draw(10), i = draw(7), l = draw(5) - (r.nextInt(30) == 0 ? 2 : 1);
            int want = -1;
            if (has(v) && i >= 1 && i <= o.voyages.get(v).legs() && l >= -1 && l < 4) {
                o.step();
                if (o.voyages.get(v).come[i] >= 0) want = o.voyages.get(v).shares[i][1 + l];
            }
            check("share(" + v + ", " + i + ", " + l + ")", x.share(v, i, l), want);
        }

        void owed() {
            int line = draw(4);
            check("owed(" + line + ")", x.owed(line), line >= 0 && line < 4 ? o.owed(line) : -1);
        }

        int hour() {
            int kind = r.nextInt(12);
            if (kind == 0) return draw(20001);
            return long_ ? r.nextInt(20001) : r.nextInt(4) == 0 ? r.nextInt(700) : 680 + r.nextInt(300);
        }

        void first() {
            int a = draw(ports), b = draw(ports), h = hour();
            boolean truth = r.nextBoolean();
            boolean fine = a >= 0 && a < 8 && b >= 0 && b < 8 && a != b && h >= 0 && h <= 20000;
            List<int[]> way = fine ? o.letter(a, b, h, truth) : null;
            String call = "first(" + a + ", " + b + ", " + h + ", " + truth + ")";
            check(call, x.first(a, b, h, truth), way == null ? -1 : way.get(0)[0]);
            if (way != null) o.rides = way.subList(1, way.size());
            for (int k = 0; k <= o.rides.size(); k++) {
                for (int what = 0; what < 3; what++) {
                    check(call + " ride " + k, x.ride(k, what), k < o.rides.size() ? o.rides.get(k)[what] : -1);
                }
            }
            check("ride", x.ride(draw(3) < 0 ? -1 : o.rides.size(), 0), -1);
            check("ride", x.ride(0, r.nextBoolean() ? 3 : -1), -1);
        }

        void last() {
            int a = draw(ports), b = draw(ports), h = hour();
            boolean truth = r.nextBoolean();
            boolean fine = a >= 0 && a < 8 && b >= 0 && b < 8 && a != b && h >= 0 && h <= 20000;
            check("last(" + a + ", " + b + ", " + h + ", " + truth + ")", x.last(a, b, h, truth), fine ? o.last(a, b, h, truth) : -1);
        }

        void look() {
            int v = draw(10), what = draw(20);
            int want = -1;
            if (has(v)) {
                Voyage w = o.voyages.get(v);
                int[] answers = {w.line, w.speed, w.stay, w.start, w.legs(), w.ports.get(w.legs())};
                if (what >= 0 && what < 6) want = answers[what];
                if (what >= 10 && what - 10 <= w.legs()) want = w.ports.get(what - 10);
            }
            check("look(" + v + ", " + what + ")", x.look(v, what), want);
            what = draw(260);
            want = what == 0 ? o.passages.size() : what == 1 ? o.voyages.size() : what == 2 ? o.meetings : what == 3 ? 0 : -1;
            if (what >= 10 && what < 14) want = o.pence(what - 10);
            if (what >= 100 && (what - 100) / 12 < o.passages.size()) want = 1000 + o.winds[(what - 100) / 12][(what - 100) % 12];
            check("count(" + what + ")", x.count(what), want);
        }
    }
}
