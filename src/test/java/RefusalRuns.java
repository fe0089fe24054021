import java.util.ArrayList;
import java.util.List;

/**
 * "A call that is refused (NONE, -2, false) changes nothing but the tape, where it is told": in an empty, an ordinary
 * and a full office each kind of refused call is made, and all that can be asked is compared with a like office in
 * which it was not made.
 */
public final class RefusalRuns {

    private interface Call {
        long on(OceanMail x);
    }

    /** A call that is refused, with the promise that refuses it. */
    private record Refused(int promise, String name, long answer, Call call) { }

    private interface Builder {
        void build(OceanMail x, boolean withTape);
    }

    private static final int LOW = Integer.MIN_VALUE;
    private static final int HIGH = Integer.MAX_VALUE;
    /** An office is promised for 512 calls: to build it takes up to 300, one is refused, the rest is for questions. */
    private static final int MOST_QUESTIONS = 200;
    private static final int[] OUTSIDE = {LOW, -1, HIGH};
    private static int wrong = 0;
    private static int checks = 0;

    private static void due(String call, long got, long want) {
        checks++;
        if (got != want) {
            wrong++;
            System.out.println(call + " answered " + got + ", due is " + want);
        }
    }

    public static void main(String[] args) {
        officesAreAsTold();
        List<Refused> anywhere = refusedAnywhere();
        List<Refused> empty = refusedWhenEmpty();
        List<Refused> ordinary = refusedInOrdinary();
        List<Refused> full = refusedWhenFull();
        runAll("empty", RefusalRuns::emptyOffice, anywhere, empty);
        runAll("ordinary", RefusalRuns::ordinaryOffice, anywhere, ordinary);
        runAll("full", RefusalRuns::fullOffice, anywhere, full);
        faultsEmptyTheTape("ordinary", RefusalRuns::ordinaryOffice);
        faultsEmptyTheTape("full", RefusalRuns::fullOffice);
        System.out.println(wrong == 0 ? checks + " answers are as due" : wrong + " answers are not as due");
        if (wrong != 0) System.exit(1);
    }

    // ---- Building

    private static void feedText(OceanMail x, String text) {
        for (int at = 0; at < text.length(); at += 20) {
            int[] five = new int[5];
            for (int k = 0; k < 20; k++) {
                five[k / 4] = five[k / 4] << 8 | (at + k < text.length() ? text.charAt(at + k) : 0);
            }
            x.feed(five[0], five[1], five[2], five[3], five[4]);
        }
    }

    private static void tell(OceanMail x, int line, String text) {
        feedText(x, text);
        x.contract(line, text.length());
    }

    private static void emptyOffice(OceanMail x, boolean withTape) {
        // An empty office has an empty tape.
    }

    /** Some of all, a fault noted, two rides found, a text on the tape. */
    private static void ordinaryOffice(OceanMail x, boolean withTape) {
        x.passage(0, 1, 50);
        x.passage(1, 2, 30);
        x.passage(2, 3, 40);
        x.voyage(1, 0, 10, 1, 0);
        x.leg(0, 0);
        x.leg(0, 1);
        x.voyage(2, 1, 10, 1, 10);
        x.leg(1, 1);
        x.leg(1, 2);
        x.voyage(3, 3, 10, 1, 9);
        x.meet(1, 0, 0, 1);
        x.broken(0, 0, 20);
        x.broken(1, 1, 3);
        x.wind(0, 0, -20);
        x.wind(1, 0, 15);
        tell(x, 2, "W7:m=0;P9;X:k=3");
        tell(x, 1, "P4;X:l>90");
        x.first(0, 3, 0, false);
        tell(x, 0, "P1;X:l<");
        if (withTape) feedText(x, "P8;W9:m=0");
    }

    /** 12 passages, 10 voyages of 6 legs, 20 meetings, contracts of 12 clauses, 200 bytes on the tape. */
    private static void fullOffice(OceanMail x, boolean withTape) {
        for (int p = 0; p < 12; p++) {
            x.passage(p % 2, 2 + p % 6, 10 + 7 * p);
            x.wind(p, 0, p - 9);
            x.wind(p, 11, 3 * p);
        }
        for (int v = 0; v < 10; v++) {
            x.voyage(v % 4, v % 2, 10, 2, v);
            for (int l = 0; l < 6; l++) x.leg(v, v % 2 + (v == 9 ? 2 : 0));
            x.broken(v, v % 6, 5 + v);
        }
        for (int n = 0; n < 20; n++) {
            int v = n / 6;
            int i = n % 6;
            x.meet(v, i, v + 4, i % 2 == 0 ? 2 : 1);
        }
        for (int line = 0; line < 4; line++) tell(x, line, "W5:l>-30;X:k>7;" + "P3;".repeat(9) + "P" + (line + 5));
        x.first(0, 2, 3, true);
        tell(x, 3, "X:((((((((((");
        if (withTape) feedText(x, "X:m=0" + "|m=0".repeat(48) + "000");
    }

    /** The comparisons prove little if an office is not as full as it is meant to be. */
    private static void officesAreAsTold() {
        OceanMail x = new OceanMail();
        ordinaryOffice(x, true);
        int[] some = {3, 3, 1, 20};
        for (int what = 0; what < 4; what++) due("ordinary: count(" + what + ")", x.count(what), some[what]);
        due("ordinary: waited", x.truth(1, 0, 2), 7);
        due("ordinary: the second ride", x.ride(1, 0), 1);
        due("ordinary: fault", x.fault(0), 1);
        OceanMail y = new OceanMail();
        fullOffice(y, true);
        int[] most = {12, 10, 20, 200};
        for (int what = 0; what < 4; what++) due("full: count(" + what + ")", y.count(what), most[what]);
        for (int v = 0; v < 10; v++) due("full: legs of " + v, y.look(v, 4), 6);
        due("full: waited", y.truth(0, 0, 2) > 0 ? 1 : 0, 1);
        due("full: the first ride is there", y.ride(0, 0) >= 0 ? 1 : 0, 1);
        due("full: fault", y.fault(0), 3);
    }

    // ---- All that can be asked

    private static void addCounts(List<Call> all) {
        for (int what = -1; what < 16; what++) addCount(all, what);
        for (int what = 99; what < 246; what++) addCount(all, what);
    }

    private static void addCount(List<Call> all, int what) {
        all.add(x -> x.count(what));
    }

    private static void addVoyages(List<Call> all) {
        for (int v = 0; v < 11; v++) {
            int voyage = v;
            for (int w = 0; w < 18; w++) {
                int what = w;
                all.add(x -> x.look(voyage, what));
            }
            for (int i = 0; i < 8; i++) addPlace(all, v, i);
        }
    }

    private static void addPlace(List<Call> all, int v, int i) {
        for (int w = 0; w < 2; w++) {
            int what = w;
            all.add(x -> x.due(v, i, what));
        }
        for (int w = 0; w < 4; w++) {
            int what = w;
            all.add(x -> x.truth(v, i, what));
        }
        for (int l = -1; l < 4; l++) {
            int line = l;
            all.add(x -> x.share(v, i, line));
        }
    }

    /** Rides stand ahead of letters, which change them. */
    private static void addRidesAndOwed(List<Call> all) {
        for (int k = 0; k < 11; k++) {
            for (int w = 0; w < 3; w++) {
                int ride = k;
                int what = w;
                all.add(x -> x.ride(ride, what));
            }
        }
        for (int l = 0; l < 4; l++) {
            int line = l;
            all.add(x -> x.owed(line));
        }
    }

    private static void addLetters(List<Call> all) {
        for (int ports = 0; ports < 64; ports++) {
            int a = ports / 8;
            int b = ports % 8;
            if (a != b) {
                all.add(x -> x.first(a, b, 3, true));
                all.add(x -> x.last(a, b, 60, true));
                all.add(x -> x.first(a, b, 3, false));
                all.add(x -> x.last(a, b, 60, false));
            }
        }
    }

    private static void addFaults(List<Call> all) {
        all.add(x -> x.fault(0));
        all.add(x -> x.fault(1));
    }

    /** What the office does next: hidden harm shows in what is told behind the refused call. */
    private static void addGoingOn(List<Call> all) {
        all.add(x -> x.passage(4, 5, 77));
        all.add(x -> x.voyage(3, 4, 11, 3, 13));
        for (int v = 0; v < 10; v++) {
            int voyage = v;
            all.add(x -> x.leg(voyage, x.count(0) - 1));
            all.add(x -> x.leg(voyage, 0));
            all.add(x -> x.broken(voyage, 0, 8) ? 1 : 0);
            all.add(x -> x.meet(voyage, 0, 0, 1) ? 1 : 0);
            all.add(x -> x.meet(voyage, 1, 1, 1) ? 1 : 0);
        }
        all.add(x -> x.wind(0, 0, 33) ? 1 : 0);
        for (int v = 0; v < 10; v++) {
            int voyage = v;
            for (int i = 0; i < 7; i++) {
                int place = i;
                all.add(x -> x.truth(voyage, place, 0));
            }
        }
    }

    /** What stands on the tape shows when it is read. */
    private static void addTape(List<Call> all) {
        all.add(x -> x.feed(0x3b503737, 0x3b583a6d, 0x3d303b58, 0x3a6d3d31, 0x3b503838));
        all.add(x -> x.contract(1, x.count(3)));
        all.add(x -> x.fault(0));
        all.add(x -> x.fault(1));
        all.add(x -> x.count(11));
        all.add(x -> x.count(3));
        all.add(x -> x.owed(1));
    }

    private static List<List<Call>> questions(boolean withTape) {
        List<Call> all = new ArrayList<>();
        addCounts(all);
        addVoyages(all);
        addRidesAndOwed(all);
        addLetters(all);
        List<List<Call>> parts = new ArrayList<>();
        for (int at = 0; at < all.size(); at += MOST_QUESTIONS) {
            parts.add(all.subList(at, Math.min(all.size(), at + MOST_QUESTIONS)));
        }
        List<Call> next = new ArrayList<>();
        addGoingOn(next);
        parts.add(next);
        if (withTape) {
            List<Call> tape = new ArrayList<>();
            addFaults(tape);
            addTape(tape);
            parts.add(tape);
        }
        return parts;
    }

    private static List<long[]> answers(Builder builder, boolean withTape, Refused refused, List<List<Call>> parts) {
        List<long[]> rows = new ArrayList<>();
        for (List<Call> part : parts) {
            OceanMail x = new OceanMail();
            builder.build(x, withTape || refused != null);
            if (refused != null) {
                due("promise " + refused.promise + ": " + refused.name, refused.call.on(x), refused.answer);
            }
            long[] row = new long[part.size()];
            for (int k = 0; k < row.length; k++) row[k] = part.get(k).on(x);
            rows.add(row);
        }
        return rows;
    }

    private static void compare(String office, Refused refused, List<long[]> got, List<long[]> want) {
        for (int part = 0; part < want.size(); part++) {
            for (int k = 0; k < want.get(part).length; k++) {
                due("promise " + refused.promise + ": behind " + refused.name + " in the " + office + " office question " + k
                    + " of part " + part, got.get(part)[k], want.get(part)[k]);
            }
        }
    }

    private static void runAll(String office, Builder builder, List<Refused> anywhere, List<Refused> here) {
        List<List<Call>> parts = questions(true);
        List<long[]> want = answers(builder, true, null, parts);
        List<Refused> all = new ArrayList<>(anywhere);
        all.addAll(here);
        for (Refused refused : all) compare(office, refused, answers(builder, true, refused, parts), want);
    }

    // ---- Refused calls

    private static long bit(boolean answer) {
        return answer ? 1 : 0;
    }

    private static void none(List<Refused> all, int promise, String name, Call call) {
        all.add(new Refused(promise, name, -1, call));
    }

    private static void no(List<Refused> all, int promise, String name, Call call) {
        all.add(new Refused(promise, name, 0, call));
    }

    /** Calls that no office takes. */
    private static List<Refused> refusedAnywhere() {
        List<Refused> all = new ArrayList<>();
        for (int bad : new int[] {LOW, -1, 8, HIGH}) {
            none(all, 3, "passage from " + bad, x -> x.passage(bad, 1, 10));
            none(all, 3, "passage to " + bad, x -> x.passage(1, bad, 10));
            none(all, 5, "voyage at port " + bad, x -> x.voyage(0, bad, 1, 1, 0));
            none(all, 15, "first from " + bad, x -> x.first(bad, 1, 0, true));
            none(all, 15, "first to " + bad, x -> x.first(0, bad, 0, false));
            none(all, 16, "last from " + bad, x -> x.last(bad, 1, 99, true));
            none(all, 16, "last to " + bad, x -> x.last(0, bad, 99, false));
        }
        none(all, 3, "passage to the same port", x -> x.passage(3, 3, 10));
        for (int bad : new int[] {LOW, 0, 10000, HIGH}) none(all, 3, "passage of " + bad + " miles", x -> x.passage(0, 1, bad));
        for (int bad : new int[] {LOW, -1, 12, HIGH}) {
            no(all, 4, "wind of passage " + bad, x -> bit(x.wind(bad, 0, 5)));
            no(all, 4, "wind of month " + bad, x -> bit(x.wind(0, bad, 5)));
            none(all, 6, "leg by " + bad, x -> x.leg(0, bad));
        }
        double[] winds = {-50.5, 51, Double.POSITIVE_INFINITY, Double.NEGATIVE_INFINITY, 1e300};
        for (double bad : winds) no(all, 4, "wind " + bad, x -> bit(x.wind(0, 0, bad)));
        addVoyageRefusals(all);
        addMeetingRefusals(all);
        addContractRefusals(all);
        addQuestionRefusals(all);
        return all;
    }

    private static void addVoyageRefusals(List<Refused> all) {
        for (int bad : new int[] {LOW, -1, 4, HIGH}) none(all, 5, "voyage of line " + bad, x -> x.voyage(bad, 0, 1, 1, 0));
        for (int bad : new int[] {LOW, 0, 31, HIGH}) none(all, 5, "voyage of speed " + bad, x -> x.voyage(0, 0, bad, 1, 0));
        for (int bad : new int[] {LOW, 0, 49, HIGH}) none(all, 5, "voyage of stay " + bad, x -> x.voyage(0, 0, 1, bad, 0));
        for (int bad : new int[] {LOW, -1, 5001, HIGH}) none(all, 5, "voyage of start " + bad, x -> x.voyage(0, 0, 1, 1, bad));
        for (int bad : new int[] {LOW, -1, 10, HIGH}) {
            none(all, 6, "leg of voyage " + bad, x -> x.leg(bad, 0));
            no(all, 7, "broken of voyage " + bad, x -> bit(x.broken(bad, 0, 5)));
        }
        for (int bad : new int[] {LOW, -1, 6, HIGH}) no(all, 7, "broken of leg " + bad, x -> bit(x.broken(0, bad, 5)));
        for (int bad : new int[] {LOW, -1, 501, HIGH}) no(all, 7, "broken for " + bad + " hours", x -> bit(x.broken(0, 0, bad)));
    }

    private static void addMeetingRefusals(List<Refused> all) {
        for (int bad : new int[] {LOW, -1, 10, HIGH}) {
            no(all, 8, "meet of v " + bad, x -> bit(x.meet(bad, 0, 0, 1)));
            no(all, 8, "meet of u " + bad, x -> bit(x.meet(1, 1, bad, 1)));
        }
        for (int bad : new int[] {LOW, -1, 6, 7, HIGH}) no(all, 8, "meet at i " + bad, x -> bit(x.meet(1, bad, 0, 1)));
        for (int bad : new int[] {LOW, -1, 0, 7, HIGH}) no(all, 8, "meet at j " + bad, x -> bit(x.meet(1, 1, 0, bad)));
        no(all, 8, "meet of itself", x -> bit(x.meet(0, 0, 0, 2)));
    }

    private static void addContractRefusals(List<Refused> all) {
        for (int bad : new int[] {LOW, -1, 4, HIGH}) {
            none(all, 9, "contract of line " + bad, x -> x.contract(bad, 0));
            none(all, 9, "contract of line " + bad, x -> x.contract(bad, x.count(3)));
        }
        for (int bad : new int[] {LOW, -1, 201, HIGH}) none(all, 9, "contract of " + bad + " bytes", x -> x.contract(0, bad));
        none(all, 9, "contract of a byte too much", x -> x.contract(0, x.count(3) + 1));
    }

    private static void addQuestionRefusals(List<Refused> all) {
        for (int bad : OUTSIDE) {
            none(all, 10, "fault " + bad, x -> x.fault(bad));
            none(all, 11, "due of " + bad, x -> x.due(bad, bad, bad));
            none(all, 12, "truth of " + bad, x -> x.truth(bad, bad, bad));
            none(all, 12, "truth at " + bad, x -> x.truth(0, bad, 0));
            none(all, 13, "share of " + bad, x -> x.share(0, bad, bad));
            none(all, 14, "owed by " + bad, x -> x.owed(bad));
            none(all, 17, "ride " + bad, x -> x.ride(bad, 0));
            none(all, 18, "look at " + bad, x -> x.look(bad, bad));
            none(all, 19, "count " + bad, x -> x.count(bad));
        }
        for (int bad : new int[] {LOW, -1, 20001, HIGH}) {
            none(all, 15, "first in hour " + bad, x -> x.first(0, 1, bad, true));
            none(all, 16, "last in hour " + bad, x -> x.last(0, 1, bad, true));
        }
        none(all, 15, "first of like ports", x -> x.first(1, 1, 0, true));
        none(all, 16, "last of like ports", x -> x.last(1, 1, 99, true));
        none(all, 15, "first where nothing goes", x -> x.first(7, 6, 0, true));
        none(all, 15, "first behind all", x -> x.first(0, 1, 20000, true));
        none(all, 16, "last where nothing goes", x -> x.last(7, 6, 20000, true));
        none(all, 16, "last ahead of all", x -> x.last(0, 1, 0, true));
    }

    private static List<Refused> refusedWhenEmpty() {
        List<Refused> all = new ArrayList<>();
        no(all, 4, "wind of no passage", x -> bit(x.wind(0, 0, 5)));
        none(all, 6, "leg of no voyage", x -> x.leg(0, 0));
        no(all, 7, "broken of no voyage", x -> bit(x.broken(0, 0, 5)));
        no(all, 8, "meet of no voyages", x -> bit(x.meet(0, 0, 1, 1)));
        none(all, 9, "contract of an empty tape", x -> x.contract(0, 1));
        none(all, 17, "no ride", x -> x.ride(0, 0));
        return all;
    }

    private static List<Refused> refusedInOrdinary() {
        List<Refused> all = new ArrayList<>();
        no(all, 4, "wind of passage 3", x -> bit(x.wind(3, 0, 5)));
        none(all, 6, "leg by passage 3", x -> x.leg(0, 3));
        none(all, 6, "leg of voyage 3", x -> x.leg(3, 0));
        none(all, 6, "leg from another port", x -> x.leg(0, 0));
        none(all, 6, "leg of the one without legs from another port", x -> x.leg(2, 1));
        no(all, 7, "broken behind the last leg", x -> bit(x.broken(0, 2, 5)));
        no(all, 7, "broken without legs", x -> bit(x.broken(2, 0, 5)));
        no(all, 7, "broken of voyage 3", x -> bit(x.broken(3, 0, 5)));
        no(all, 8, "meet at the last place", x -> bit(x.meet(1, 2, 0, 2)));
        no(all, 8, "meet at place 0 of u", x -> bit(x.meet(0, 1, 1, 0)));
        no(all, 8, "meet behind the last place of u", x -> bit(x.meet(1, 1, 0, 3)));
        no(all, 8, "meet of two ports", x -> bit(x.meet(1, 1, 0, 1)));
        no(all, 8, "meet once more", x -> bit(x.meet(1, 0, 0, 1)));
        no(all, 8, "meet of voyage 3", x -> bit(x.meet(1, 1, 3, 1)));
        no(all, 8, "meet of one without legs", x -> bit(x.meet(2, 0, 1, 2)));
        none(all, 15, "first that is too late", x -> x.first(0, 1, 1, true));
        none(all, 16, "last that is too early", x -> x.last(0, 1, 4, false));
        none(all, 17, "a ride too much", x -> x.ride(2, 0));
        none(all, 18, "look at place 3", x -> x.look(0, 13));
        return all;
    }

    private static List<Refused> refusedWhenFull() {
        List<Refused> all = new ArrayList<>();
        none(all, 2, "feed of an 11th", x -> x.feed(1, 2, 3, 4, 5));
        none(all, 3, "passage 12", x -> x.passage(0, 1, 10));
        none(all, 5, "voyage 10", x -> x.voyage(0, 0, 1, 1, 0));
        for (int v = 0; v < 10; v++) {
            int voyage = v;
            none(all, 6, "leg 6 of " + v, x -> x.leg(voyage, voyage % 2));
        }
        no(all, 8, "meeting 20", x -> bit(x.meet(3, 2, 7, 2)));
        no(all, 8, "meeting 20 of another one", x -> bit(x.meet(9, 0, 7, 2)));
        no(all, 8, "meeting 20 at one that is there", x -> bit(x.meet(0, 0, 4, 2)));
        return all;
    }

    // ---- -2: the tape is empty then, and the fault is noted; nothing else changes

    private static void faultsEmptyTheTape(String office, Builder builder) {
        List<List<Call>> parts = questions(false);
        List<long[]> want = answers(builder, false, null, parts);
        List<Call> faults = new ArrayList<>();
        addFaults(faults);
        List<List<Call>> faultPart = new ArrayList<>();
        faultPart.add(faults);
        for (int l = 0; l < 4; l++) {
            int line = l;
            // One byte of either office's text is a clause's letter alone.
            Refused refused = new Refused(9, "contract of line " + l + " with a fault", -2, x -> x.contract(line, 1));
            compare(office, refused, answers(builder, true, refused, parts), want);
            long[] fault = answers(builder, true, refused, faultPart).get(0);
            due("promise 10: fault(0) in the " + office + " office", fault[0], 1);
            due("promise 10: fault(1) in the " + office + " office", fault[1], 1);
        }
    }
}
