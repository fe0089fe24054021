/** Each sentence of the document that names a boundary: the last value that is taken, the first that is not. */
public final class EdgeRuns {

    private static final int LOW = Integer.MIN_VALUE;
    private static final int HIGH = Integer.MAX_VALUE;
    private static int wrong = 0;
    private static int checks = 0;
    private static int sentences = 0;
    private static String sentence = "";

    /** What the next answers prove; promise 0 stands for "Terms". */
    private static void sentence(int promise, String words) {
        sentences++;
        sentence = (promise == 0 ? "Terms" : "promise " + promise) + ", '" + words + "'";
    }

    private static void due(String call, long got, long want) {
        checks++;
        if (got != want) {
            wrong++;
            System.out.println(sentence + ": " + call + " answered " + got + ", due is " + want);
        }
    }

    private static void due(String call, boolean got, boolean want) {
        due(call, got ? 1 : 0, want ? 1 : 0);
    }

    /** The text, and NULs up to the next twenty bytes. */
    private static int fed(OceanMail x, String text) {
        int answer = x.count(3);
        for (int at = 0; at < text.length(); at += 20) {
            int[] five = new int[5];
            for (int k = 0; k < 20; k++) {
                five[k / 4] = five[k / 4] << 8 | (at + k < text.length() ? text.charAt(at + k) : 0);
            }
            answer = x.feed(five[0], five[1], five[2], five[3], five[4]);
        }
        return answer;
    }

    private static int told(OceanMail x, int line, String text) {
        fed(x, text);
        return x.contract(line, text.length());
    }

    private static void fault(String text, int number, int place) {
        OceanMail x = new OceanMail();
        due("contract " + text, told(x, 0, text), -2);
        due("fault(0) of " + text, x.fault(0), number);
        due("fault(1) of " + text, x.fault(1), place);
    }

    private static void taken(String text, int clauses) {
        OceanMail x = new OceanMail();
        due("contract " + text, told(x, 0, text), clauses);
        due("fault(0) of " + text, x.fault(0), 0);
        due("fault(1) of " + text, x.fault(1), -1);
    }

    private static String times(String text, int n) {
        return text.repeat(n);
    }

    public static void main(String[] args) {
        months();
        winds();
        timetable();
        inTruth();
        meetings();
        contractTexts();
        contractLetters();
        shares();
        owing();
        letters();
        rides();
        newObjectAndFeed();
        passageAndWind();
        voyageAndLeg();
        brokenAndMeet();
        contractAndFault();
        dueAndTruth();
        shareAndOwed();
        firstAndLast();
        rideCall();
        lookAndCount();
        System.out.println(wrong == 0 ? sentences + " sentences hold by " + checks + " answers" : wrong + " answers are not as due");
        if (wrong != 0) System.exit(1);
    }

    // ---- Offices that many sentences use

    /** Voyage 0 of line 0 from port 0, by passage 0 between the ports 0 and 1, forth and back. */
    private static OceanMail shuttle(int miles, int speed, int stay, int start, int legs) {
        OceanMail x = new OceanMail();
        x.passage(0, 1, miles);
        x.voyage(0, 0, speed, stay, start);
        for (int k = 0; k < legs; k++) x.leg(0, 0);
        return x;
    }

    /**
     * Voyage 0 of line 0 comes to port 1 in the hour before the told one (3 to 20000), half as fast as it should,
     * and leaves it in the told one by passage 1, 100 miles at one an hour, to port 2.
     */
    private static OceanMail leavingIn(int hour) {
        OceanMail x = new OceanMail();
        int start = (hour - 1) % 2;
        x.passage(0, 1, (hour - 1 - start) / 2);
        x.passage(1, 2, 100);
        x.wind(0, 0, -50);
        x.voyage(0, 0, 1, 1, start);
        x.leg(0, 0);
        x.leg(0, 1);
        return x;
    }

    /** That office, and voyage 1 of line 1, for which voyage 0 waits in port 1, comes there in an even hour up to 20002. */
    private static OceanMail leavingFor(int hour, int coming, String text) {
        OceanMail x = leavingIn(hour);
        x.passage(3, 1, 9999);
        x.wind(2, 0, -50);
        x.voyage(1, 3, 1, 1, coming - 19998);
        x.leg(1, 2);
        x.meet(0, 1, 1, 1);
        told(x, 0, text);
        return x;
    }

    /** Voyage 1 of line 2 is ready in port 1 in an hour; voyage 0 of line 1, for which it waits, comes there in another one. */
    private static OceanMail pair(int ready, int coming, String text) {
        OceanMail x = new OceanMail();
        x.passage(0, 1, 10 * coming);
        x.passage(1, 2, 30);
        x.voyage(1, 0, 10, 1, 0);
        x.leg(0, 0);
        x.voyage(2, 1, 10, 1, ready);
        x.leg(1, 1);
        x.meet(1, 0, 0, 1);
        told(x, 2, text);
        return x;
    }

    // ---- Terms: hours and months

    private static void months() {
        sentence(0, "HOURS are numbered from 0");
        OceanMail x = shuttle(10, 10, 1, 0, 1);
        due("it leaves", x.truth(0, 0, 1), 0);
        due("a letter of hour 0", x.first(0, 1, 0, true), 1);
        due("its last hour", x.last(0, 1, 1, true), 0);
        monthOfLeaving();
        monthOfWaiting();
        monthOfComing();
    }

    private static void monthOfLeaving() {
        sentence(0, "the MONTH of hour h is h / 720 % 12: WIND");
        int[] hours = {719, 720, 1439, 1440, 7919, 7920, 8639, 8640, 9359, 9360, 17279, 17280};
        int[] months = {0, 1, 1, 2, 10, 11, 11, 0, 0, 1, 11, 0};
        for (int k = 0; k < hours.length; k++) {
            OceanMail x = leavingIn(hours[k]);
            due("it leaves", x.truth(0, 1, 1), hours[k]);
            x.wind(1, months[k], -50);
            due("wind of month " + months[k] + " from hour " + hours[k], x.truth(0, 2, 0), hours[k] + 200);
            x.wind(1, months[k], 0);
            for (int m = 0; m < 12; m++) if (m != months[k]) x.wind(1, m, -50);
            due("wind of other months from hour " + hours[k], x.truth(0, 2, 0), hours[k] + 100);
        }
    }

    private static void waitsInMonth(int ready, int month, int hours) {
        OceanMail x = leavingFor(ready, 20002, "W9:m=" + month);
        due("waited from hour " + ready + " under m=" + month, x.truth(0, 1, 2), hours);
        due("leaving from hour " + ready + " under m=" + month, x.truth(0, 1, 1), ready + hours);
    }

    private static void monthOfWaiting() {
        sentence(0, "the MONTH of hour h is h / 720 % 12: m of W");
        waitsInMonth(719, 0, 1);
        waitsInMonth(719, 1, 0);
        waitsInMonth(720, 0, 0);
        waitsInMonth(720, 1, 9);
        waitsInMonth(711, 0, 9);
        waitsInMonth(712, 0, 8);
        waitsInMonth(8639, 11, 1);
        waitsInMonth(8639, 0, 0);
        waitsInMonth(8640, 0, 9);
        waitsInMonth(8640, 11, 0);
        waitsInMonth(8640, 12, 0);
        waitsInMonth(17279, 11, 1);
        waitsInMonth(17280, 0, 9);
        waitsInMonth(17280, 24, 0);
    }

    private static void excusedInMonth(int coming, int month, boolean want) {
        OceanMail x = leavingIn(coming - 102);
        x.broken(0, 1, 2);
        told(x, 0, "X:k=2&m=" + month);
        due("it comes", x.truth(0, 2, 0), coming);
        due("nobody's in hour " + coming + " under m=" + month, x.share(0, 2, -1), want ? 2 : 0);
    }

    private static void monthOfComing() {
        sentence(0, "the MONTH of hour h is h / 720 % 12: m of X");
        excusedInMonth(719, 0, true);
        excusedInMonth(719, 1, false);
        excusedInMonth(720, 0, false);
        excusedInMonth(720, 1, true);
        excusedInMonth(8639, 11, true);
        excusedInMonth(8639, 0, false);
        excusedInMonth(8640, 0, true);
        excusedInMonth(8640, 11, false);
        excusedInMonth(8640, 12, false);
    }

    // ---- Terms: winds

    private static void windTaken(double percent, int whole) {
        OceanMail x = shuttle(10, 1, 1, 0, 1);
        x.wind(0, 5, 9.0);
        due("wind " + percent, x.wind(0, 5, percent), true);
        due("whole of " + percent, x.count(105), 1000 + whole);
    }

    private static void windRefused(double percent) {
        OceanMail x = shuttle(10, 1, 1, 0, 1);
        x.wind(0, 5, 9.0);
        due("wind " + percent, x.wind(0, 5, percent), false);
        due("wind behind " + percent, x.count(105), 1009);
    }

    private static void winds() {
        sentence(0, "WIND (0 at first)");
        OceanMail x = shuttle(10, 1, 1, 0, 1);
        for (int m = 0; m < 12; m++) due("wind of month " + m, x.count(100 + m), 1000);
        due("it comes", x.truth(0, 1, 0), 10);
        sentence(0, "WIND is a whole percentage from -50");
        windTaken(-50.0, -50);
        windTaken(-49.0, -49);
        windTaken(Math.nextUp(-50.0), -50);
        windRefused(Math.nextDown(-50.0));
        windRefused(-51.0);
        sentence(0, "WIND is a whole percentage to 50");
        windTaken(50.0, 50);
        windTaken(Math.nextDown(50.0), 49);
        windTaken(Math.nextDown(51.0), 50);
        windRefused(51.0);
        windRefused(Math.nextUp(51.0));
        sentence(0, "told as a number that is rounded down");
        windTaken(0.999, 0);
        windTaken(1.0, 1);
        windTaken(-0.0, 0);
        windTaken(-Double.MIN_VALUE, -1);
        windTaken(Double.MIN_VALUE, 0);
        windTaken(-1.0, -1);
        windTaken(Math.nextDown(-1.0), -2);
        windTaken(Math.nextUp(-1.0), -1);
        sentence(0, "what is no number counts as 0");
        windTaken(Double.NaN, 0);
        windTaken(Double.longBitsToDouble(0xfff8000000000001L), 0);
        sentence(0, "a number far out is none from -50 to 50");
        double[] far = {Double.POSITIVE_INFINITY, Double.NEGATIVE_INFINITY, Double.MAX_VALUE, -Double.MAX_VALUE,
            4294967296.0, -4294967296.0, 2147483648.0, 18446744073709551616.0};
        for (double percent : far) windRefused(percent);
    }

    // ---- Terms: the timetable

    private static void timetable() {
        sentence(0, "a LEG takes MILES / SPEED HOURS, rounded up");
        int[][] legs = {{1, 30, 1}, {1, 1, 1}, {29, 30, 1}, {30, 30, 1}, {31, 30, 2}, {60, 30, 2}, {61, 30, 3}, {89, 30, 3},
            {90, 30, 3}, {9999, 1, 9999}, {9999, 2, 5000}, {9998, 2, 4999}, {9999, 30, 334}, {9990, 30, 333}};
        for (int[] l : legs) due(l[0] + " miles at " + l[1], shuttle(l[0], l[1], 1, 0, 1).due(0, 1, 0), l[2]);
        sentence(0, "it is DUE to leave PLACE 0 at START");
        due("START 0", shuttle(10, 1, 9, 0, 1).due(0, 0, 1), 0);
        due("START 5000", shuttle(10, 1, 9, 5000, 1).due(0, 0, 1), 5000);
        sentence(0, "at each PLACE between it is DUE to stay STAY HOURS");
        OceanMail x = shuttle(10, 1, 48, 7, 6);
        for (int i = 1; i < 6; i++) due("stay at " + i, x.due(0, i, 1) - x.due(0, i, 0), 48);
        due("STAY 1", shuttle(10, 1, 1, 7, 2).due(0, 1, 1), 18);
        due("the last coming", x.due(0, 6, 0), 7 + 6 * 10 + 5 * 48);
        sentence(0, "It ends at its last PLACE");
        for (int legCount = 1; legCount <= 6; legCount++) {
            OceanMail y = shuttle(10, 1, 1, 0, legCount);
            due("leaving the last of " + legCount, y.due(0, legCount, 1), -1);
            due("in truth", y.truth(0, legCount, 1), -1);
            due("leaving the one before", y.due(0, legCount - 1, 1), 11 * (legCount - 1));
            due("in truth", y.truth(0, legCount - 1, 1), 11 * (legCount - 1));
        }
    }

    // ---- Terms: in truth

    private static void legInTruth(int miles, int speed, int wind, int hours) {
        OceanMail x = shuttle(miles, speed, 1, 0, 1);
        x.wind(0, 0, wind);
        due(miles + " miles at " + speed + " under " + wind, x.truth(0, 1, 0), hours);
    }

    private static void inTruth() {
        sentence(0, "takes 100 MILES / (SPEED (100 + WIND)) HOURS, rounded up");
        legInTruth(1, 30, 50, 1);
        legInTruth(1, 1, -50, 2);
        legInTruth(9999, 1, -50, 19998);
        legInTruth(9999, 1, 0, 9999);
        legInTruth(9999, 1, 50, 6666);
        legInTruth(45, 30, 50, 1);
        legInTruth(46, 30, 50, 2);
        legInTruth(45, 10, -50, 9);
        legInTruth(46, 10, -50, 10);
        legInTruth(101, 1, 1, 100);
        legInTruth(102, 1, 1, 101);
        legInTruth(99, 1, -1, 100);
        legInTruth(98, 1, -1, 99);
        legInTruth(1, 30, -50, 1);
        legInTruth(15, 30, -50, 1);
        legInTruth(16, 30, -50, 2);
        windOfTheHourOfLeaving();
        breaks();
        ready();
        asThingsAre();
        behindHour20000();
    }

    private static void windOfTheHourOfLeaving() {
        sentence(0, "WIND in the MONTH of h, in which it leaves");
        OceanMail x = shuttle(100, 10, 1, 719, 1);
        x.wind(0, 1, -50);
        due("the month turns at sea", x.truth(0, 1, 0), 729);
        x.wind(0, 0, 25);
        due("the wind of its leaving", x.truth(0, 1, 0), 727);
    }

    private static void breaks() {
        sentence(0, "BREAK HOURS told for that LEG (0 to 500; 0 at first)");
        OceanMail x = shuttle(10, 10, 1, 0, 2);
        due("0 at first", x.truth(0, 1, 0), 1);
        due("broken -1", x.broken(0, 0, -1), false);
        due("it comes", x.truth(0, 1, 0), 1);
        due("broken 500", x.broken(0, 0, 500), true);
        due("it comes", x.truth(0, 1, 0), 501);
        due("broken 501", x.broken(0, 0, 501), false);
        due("it comes", x.truth(0, 1, 0), 501);
        due("broken 0", x.broken(0, 0, 0), true);
        due("it comes", x.truth(0, 1, 0), 1);
        x.broken(0, 1, 3);
        due("of that leg", x.truth(0, 1, 0), 1);
        due("of that leg", x.truth(0, 2, 0), 6);
    }

    private static void ready() {
        sentence(0, "READY STAY HOURS behind its coming, and not ahead of the hour in which it is DUE to leave");
        OceanMail x = shuttle(100, 10, 5, 0, 2);
        x.wind(0, 0, 12);
        due("it comes an hour ahead", x.truth(0, 1, 0), 9);
        due("it leaves", x.truth(0, 1, 1), 15);
        due("that is no waiting", x.truth(0, 1, 2), 0);
        x.wind(0, 0, 0);
        due("it comes in its hour", x.truth(0, 1, 0), 10);
        due("it leaves", x.truth(0, 1, 1), 15);
        x.broken(0, 0, 1);
        due("it comes an hour behind", x.truth(0, 1, 0), 11);
        due("it leaves", x.truth(0, 1, 1), 16);
        due("that is no waiting", x.truth(0, 1, 2), 0);
        sentence(0, "at PLACE 0 at START");
        due("START 0", shuttle(10, 1, 9, 0, 1).truth(0, 0, 1), 0);
        due("START 5000", shuttle(10, 1, 9, 5000, 1).truth(0, 0, 1), 5000);
        sentence(0, "STAY (1 to 48 HOURS) IN TRUTH");
        int[] stays = {1, 48};
        for (int stay : stays) {
            OceanMail y = shuttle(10, 10, stay, 0, 2);
            y.broken(0, 0, 100);
            due("behind a stay of " + stay, y.truth(0, 1, 1), 101 + stay);
        }
    }

    private static void asThingsAre() {
        sentence(0, "All VOYAGES, MEETINGS, BREAKS, WINDS, CONTRACTS as they are when something is asked");
        OceanMail x = new OceanMail();
        x.passage(0, 1, 50);
        x.passage(1, 2, 30);
        x.voyage(1, 0, 10, 1, 0);
        due("without legs", x.truth(0, 0, 1), -1);
        x.leg(0, 0);
        due("with a leg", x.truth(0, 1, 0), 5);
        x.voyage(2, 1, 10, 1, 4);
        due("a voyage more", x.truth(1, 0, 1), -1);
        x.leg(1, 1);
        due("with a leg", x.truth(1, 0, 1), 4);
        told(x, 2, "W9:m=0");
        due("a contract", x.truth(1, 0, 1), 4);
        x.meet(1, 0, 0, 1);
        due("a meeting", x.truth(1, 0, 1), 5);
        x.broken(0, 0, 2);
        due("a break", x.truth(1, 0, 1), 7);
        x.wind(0, 0, -50);
        due("a wind", x.truth(1, 0, 1), 12);
        told(x, 2, "W3:m=0");
        due("another contract", x.truth(1, 0, 1), 7);
        told(x, 2, "");
        due("an empty contract", x.truth(1, 0, 1), 4);
    }

    private static void behindHour20000() {
        sentence(0, "who has not left by hour 20000 does not");
        OceanMail x = leavingIn(20000);
        due("in hour 20000", x.truth(0, 1, 1), 20000);
        due("it has not waited", x.truth(0, 1, 2), 0);
        due("nor come any more", x.truth(0, 2, 0), -1);
        x.broken(0, 0, 1);
        due("ready in hour 20001", x.truth(0, 1, 1), -1);
        due("it has not left", x.truth(0, 1, 2), -1);
        sentence(0, "who has not come by hour 20000 does not");
        due("in hour 20000", x.truth(0, 1, 0), 20000);
        due("LATE", x.truth(0, 1, 3), 20000 - x.due(0, 1, 0));
        x.broken(0, 0, 2);
        due("in hour 20001", x.truth(0, 1, 0), -1);
        due("LATE", x.truth(0, 1, 3), -1);
        due("but it left", x.truth(0, 0, 1), 1);
        sentence(0, "Nothing is looked at behind hour 20000: a waiting one");
        due("9999 hours up to 20000", leavingFor(10001, 20002, "W9999:m<12").truth(0, 1, 1), 20000);
        due("9999 hours up to 20001", leavingFor(10002, 20002, "W9999:m<12").truth(0, 1, 1), -1);
        due("and not waited", leavingFor(10002, 20002, "W9999:m<12").truth(0, 1, 2), -1);
        due("u comes in hour 20000", leavingFor(15000, 20000, "W9999:m<12").truth(0, 1, 1), 20000);
        due("u comes in hour 20001", leavingFor(15000, 20001, "W9999:m<12").truth(0, 1, 1), -1);
        sentence(0, "Nothing is looked at behind hour 20000: IN TRUTH, not by THE TIMETABLE");
        OceanMail y = shuttle(9999, 1, 1, 5000, 6);
        due("the timetable goes on", y.due(0, 6, 0), 5000 + 6 * 9999 + 5);
        due("the first coming goes on", y.first(0, 1, 20000, false), 5000 + 3 * 9999 + 2);
        due("in truth it does not", y.first(0, 1, 15000, true), -1);
    }

    // ---- Terms: meetings

    private static void waited(int ready, int coming, String text, int hours) {
        OceanMail x = pair(ready, coming, text);
        due("waited from " + ready + " for one that comes in " + coming + " under " + text, x.truth(1, 0, 2), hours);
        due("leaving", x.truth(1, 0, 1), ready + hours);
    }

    private static void meetings() {
        sentence(0, "v WAITS in hour h if u has not come to j (in h or ahead)");
        waited(10, 9, "W99:m=0", 0);
        waited(10, 10, "W99:m=0", 0);
        waited(10, 11, "W99:m=0", 1);
        waited(0, 1, "W99:m=0", 1);
        sentence(0, "a CLAUSE W n, n being above t");
        waited(10, 900, "W0:l<999", 0);
        waited(10, 900, "W1:l<999", 1);
        waited(10, 900, "W2:l<999", 2);
        waited(10, 900, "W889:l<999", 889);
        waited(10, 900, "W890:l<999", 890);
        waited(10, 900, "W891:l<999", 890);
        due("W9998", leavingFor(5000, 20002, "W9998:m<12").truth(0, 1, 2), 9998);
        due("W9999", leavingFor(5000, 20002, "W9999:m<12").truth(0, 1, 2), 9999);
        sentence(0, "a CLAUSE whose TEST holds");
        waited(10, 900, "W5:m=1", 0);
        waited(10, 900, "W5:m=1;W3:m=0", 3);
        waited(10, 900, "W3:m=0;W5:m=1", 3);
        waited(10, 900, "W3:m=0;W5:m=0;W4:m=0", 5);
        waited(10, 900, "W9:t<4", 4);
        sentence(0, "a CONTRACT of v's LINE lets it");
        waited(10, 900, "", 0);
        waited(10, 900, "X:m=0;P9", 0);
        OceanMail x = pair(10, 900, "");
        told(x, 1, "W9:m=0");
        due("u's line's", x.truth(1, 0, 2), 0);
        sentence(0, "first come those that come in it; then all that are READY are asked");
        comingFirst(true);
        comingFirst(false);
        meetingPlaces();
    }

    /** The one that waits has the lower number, or the higher one; the awaited one comes in hour 20. */
    private static void comingFirst(boolean lower) {
        OceanMail x = new OceanMail();
        x.passage(0, 1, 200);
        int v = lower ? 0 : 1;
        for (int k = 0; k < 2; k++) {
            x.voyage(k, k == v ? 1 : 0, 10, 1, 0);
            x.leg(k, 0);
        }
        x.meet(v, 0, 1 - v, 1);
        told(x, v, "W99:m=0");
        due("leaving of " + v, x.truth(v, 0, 1), 20);
        due("coming of " + v, x.truth(v, 1, 0), 40);
    }

    private static void meetingPlaces() {
        sentence(0, "VOYAGE v at PLACE i (not its last one)");
        OceanMail x = twoShuttles(3, 6);
        due("i = 0", x.meet(0, 0, 1, 2), true);
        due("i = 2, the last but one", x.meet(0, 2, 1, 4), true);
        due("i = 3, the last", x.meet(0, 3, 1, 1), false);
        due("i = 4", x.meet(0, 4, 1, 2), false);
        due("i = -1", x.meet(0, -1, 1, 1), false);
        sentence(0, "VOYAGE u at PLACE j (not 0)");
        OceanMail y = twoShuttles(3, 4);
        due("j = 0", y.meet(0, 0, 1, 0), false);
        due("j = 6", y.meet(0, 0, 1, 6), false);
        due("j = 5", y.meet(0, 1, 1, 5), false);
        due("j = -1", y.meet(0, 1, 1, -1), false);
        due("j = 4, the last", y.meet(0, 0, 1, 4), true);
        due("j = 1", y.meet(0, 1, 1, 1), true);
        sentence(0, "in the same PORT");
        OceanMail z = twoShuttles(6, 6);
        for (int i = 0; i < 6; i++) due("two ports, i = " + i, z.meet(0, i, 1, i + 1), false);
        for (int i = 0; i < 5; i++) due("one port, i = " + i, z.meet(0, i, 1, i + 1 + (i + 1 < 6 ? 1 : -1)), true);
        sentence(0, "20 at most");
        due("MEETINGS", manyMeetings().count(2), 20);
    }

    /** Voyages 0 and 1, both from port 0 by passage 0, of so many legs. */
    private static OceanMail twoShuttles(int legs, int others) {
        OceanMail x = shuttle(10, 10, 1, 0, legs);
        x.voyage(1, 0, 10, 1, 0);
        for (int k = 0; k < others; k++) x.leg(1, 0);
        return x;
    }

    /** Five voyages between two ports, the 20 first of their places with a meeting each. */
    private static OceanMail manyMeetings() {
        OceanMail x = new OceanMail();
        x.passage(0, 1, 10);
        for (int k = 0; k < 5; k++) {
            x.voyage(k % 4, 0, 10, 1, 0);
            for (int l = 0; l < 6; l++) x.leg(k, 0);
        }
        for (int n = 0; n < 22; n++) {
            boolean answer = x.meet(n / 6, n % 6, 4, n % 2 == 0 ? 2 : 1);
            due("meeting " + n, answer, n < 20);
        }
        return x;
    }

    // ---- Contracts: the text

    private static void contractTexts() {
        sentence(9, "CLAUSES with a ; (59) between two");
        taken("P1;P2", 2);
        taken("X:l<1;W2:k=0;P3", 3);
        fault("P1:P2", 1, 2);
        fault("P1<P2", 1, 2);
        fault("P1P2", 1, 2);
        fault(";P1", 1, 0);
        fault("P1;", 1, 3);
        fault("P1;;P2", 1, 3);
        fault("X:l<1P2", 1, 5);
        sentence(9, "no blanks");
        fault(" P1", 1, 0);
        fault("P 1", 1, 1);
        fault("P1 ", 1, 2);
        fault("P1; P1", 1, 3);
        fault("X: l<1", 1, 2);
        fault("X:l <1", 1, 3);
        fault("X:l< 1", 1, 4);
        fault("X:l<1 &l<1", 1, 5);
        sentence(9, "an empty TEXT has none");
        taken("", 0);
        sentence(9, "a full TEXT of 200 bytes");
        String full = "X:m=0" + times("|m=0", 48);
        taken(full + "000", 1);
        fault(full + "00|", 1, 200);
        fault(full + "0 0", 1, 198);
        digits();
        signs();
        numberOfClauses();
        openOnes();
        strayBytes();
        lastPence();
    }

    private static void digits() {
        sentence(9, "Numbers have one to four digits; FAULT 1: a fifth digit");
        String[] heads = {"P", "W", "X:l<", "X:l>-", "W0001:t="};
        String[] tails = {"", ":m=0", "", "", ""};
        for (int k = 0; k < heads.length; k++) {
            int at = heads[k].length();
            fault(heads[k] + tails[k], 1, at);
            taken(heads[k] + "7" + tails[k], 1);
            taken(heads[k] + "0" + tails[k], 1);
            taken(heads[k] + "9999" + tails[k], 1);
            taken(heads[k] + "0000" + tails[k], 1);
            fault(heads[k] + "10000" + tails[k], 1, at + 4);
            fault(heads[k] + "00001" + tails[k], 1, at + 4);
        }
        sentence(9, "a digit is 48 to 57");
        fault("P/", 1, 1);
        fault("P:", 1, 1);
        fault("P1/", 1, 2);
        fault("P9:", 1, 2);
        sentence(9, "a number of a FACTOR may have a - (45) ahead of it, no other one");
        taken("X:l<-1", 1);
        taken("X:l<-0", 1);
        fault("X:l<--1", 1, 5);
        fault("X:l<+1", 1, 4);
        fault("X:l<,1", 1, 4);
        fault("X:l<.1", 1, 4);
        fault("X:l<-", 1, 5);
        fault("P-1", 1, 1);
        fault("W-1:m=0", 1, 1);
    }

    private static void signs() {
        sentence(9, "a sign (60, 61 or 62: below, is, above)");
        taken("X:l<1", 1);
        taken("X:l=1", 1);
        taken("X:l>1", 1);
        fault("X:l;1", 1, 3);
        fault("X:l?1", 1, 3);
        fault("X:l<>1", 1, 4);
        waited(10, 900, "W9:t<3", 3);
        waited(10, 900, "W9:t=0", 1);
        waited(10, 900, "W9:t>0", 0);
        waited(10, 900, "W1:t=0;W9:t>0", 9);
        waited(10, 900, "W2:t<2;W9:t>2", 2);
    }

    private static void numberOfClauses() {
        sentence(9, "12 CLAUSES at most; FAULT 2: a 13th CLAUSE, at its letter");
        taken(times("P1;", 10) + "P1", 11);
        taken(times("P1;", 11) + "P1", 12);
        taken(times("X:l<1;", 11) + "W9:k=1", 12);
        String twelve = times("P1;", 12);
        fault(twelve + "P1", 2, 36);
        fault(twelve + "W1:l<1", 2, 36);
        fault(twelve + "X:l<1", 2, 36);
        fault(twelve + "P", 2, 36);
        fault(twelve + "X:((((((((((", 2, 36);
        fault(times("X:l<1;", 12) + "P1", 2, 72);
        sentence(9, "FAULT 1, the end, too: where the 13th CLAUSE would be");
        fault(twelve, 1, 36);
        fault(twelve + ";", 1, 36);
        fault(twelve + "p", 1, 36);
        sentence(9, "FAULTS, the first from the left");
        fault("P1;" + times("P1;", 10) + "P;P1", 1, 34);
        fault(times("P1;", 11) + "X:" + times("(", 9) + "l<1" + times(")", 9) + ";P1", 3, 43);
    }

    private static void openOnes() {
        sentence(9, "8 brackets and ! at most are open in one another");
        taken("X:" + times("(", 7) + "l<1" + times(")", 7), 1);
        taken("X:" + times("(", 8) + "l<1" + times(")", 8), 1);
        taken("X:" + times("!", 8) + "l<1", 1);
        taken("X:" + times("!(", 4) + "l<1" + times(")", 4), 1);
        taken("W9:" + times("(!", 4) + "l<1" + times(")", 4), 1);
        sentence(9, "FAULT 3: a ninth bracket or !, at it");
        fault("X:" + times("(", 9) + "l<1" + times(")", 9), 3, 10);
        fault("X:" + times("!", 9) + "l<1", 3, 10);
        fault("X:" + times("!(", 4) + "(l<1)" + times(")", 4), 3, 10);
        fault("X:" + times("!(", 4) + "!l<1" + times(")", 4), 3, 10);
        fault("W9:" + times("(", 8) + "!", 3, 11);
        fault("X:" + times("(", 9), 3, 10);
        fault("X:l<1&" + times("(", 8) + "l<1|(", 3, 18);
        fault("P1;X:" + times("!", 9), 3, 13);
        sentence(9, "a ! till its FACTOR ends");
        taken("X:!l<1&" + times("(", 8) + "l<1" + times(")", 8), 1);
        taken("X:" + times("!", 8) + "l<1|" + times("!", 8) + "l<1&" + times("!", 8) + "l<1", 1);
        taken("X:!(l<1)&" + times("!", 8) + "l<1", 1);
        taken("X:(" + times("!", 7) + "l<1&" + times("!", 7) + "l<1|(((((((l<1))))))))", 1);
        fault("X:!(" + times("!", 6) + "l<1&" + times("!", 7) + "l<1", 3, 20);
        sentence(9, "open in one another: a bracket till it is closed");
        taken("X:" + times("(l<1)&", 20) + "(l<1)", 1);
        taken("X:((((((((l<1))))))))|((((((((l<1))))))))", 1);
        taken("X:((((((((l<1)))))))&(l<1))", 1);
        fault("X:((((((((l<1&(", 3, 14);
        taken("X:((((((((l<1)&l<1)&(l<1)))))))", 1);
    }

    private static void strayBytes() {
        sentence(9, "FAULT 1: what can't stand there, any byte of 0 to 255");
        for (int sign = 0; sign < 256; sign++) {
            String one = String.valueOf((char) sign);
            if ("WXP".indexOf(sign) < 0) fault(one, 1, 0);
            else fault(one, 1, 1);
            if ("ltwkm!(".indexOf(sign) < 0) fault("X:" + one, 1, 2);
            else fault("X:" + one, 1, 3);
            if ("<=>".indexOf(sign) < 0) fault("X:l" + one, 1, 3);
            else fault("X:l" + one, 1, 4);
            boolean digit = sign >= '0' && sign <= '9';
            if (digit) taken("X:l<" + one, 1);
            else fault("X:l<" + one, 1, sign == '-' ? 5 : 4);
            if (digit) taken("P1" + one, 1);
            else fault("P1" + one, 1, sign == ';' ? 3 : 2);
            if (digit) taken("X:l<1" + one, 1);
            else fault("X:l<1" + one, 1, "&|;".indexOf(sign) < 0 ? 5 : 6);
            if (digit) fault("X:(l<1" + one, 1, 7);
            else if (sign == ')') taken("X:(l<1" + one, 1);
            else fault("X:(l<1" + one, 1, "&|".indexOf(sign) < 0 ? 6 : 7);
        }
        sentence(9, "FAULT 1: the end, too");
        String[] ends = {"P", "W", "W1", "W1:", "X", "X:", "X:l", "X:l<", "X:l<-", "X:!", "X:(", "X:(l<1", "X:l<1&", "X:l<1|", "X:l<1;"};
        for (String text : ends) fault(text, 1, text.length());
    }

    private static void lastPence() {
        sentence(9, "P of the last such CLAUSE counts (0 without one)");
        String[] texts = {"P5", "P5;P6", "P6;P5", "P5;X:l<1;W1:l<1", "P5;P0", "X:l<1", "", "P9999", "P0000", times("P1;", 11) + "P2"};
        int[] pence = {5, 6, 5, 5, 0, 0, 0, 9999, 0, 2};
        OceanMail x = new OceanMail();
        for (int k = 0; k < texts.length; k++) {
            told(x, 2, "P77");
            told(x, 2, texts[k]);
            due("P of " + texts[k], x.count(12), pence[k]);
        }
        sentence(9, "a LINE has no CLAUSES at first");
        OceanMail y = pair(10, 900, "");
        due("it does not wait", y.truth(1, 0, 2), 0);
        y.broken(1, 0, 3);
        due("nothing is excused", y.share(1, 1, 2), 3);
        due("nothing is owed", y.owed(2), 0);
        for (int line = 0; line < 4; line++) due("P", new OceanMail().count(10 + line), 0);
    }

    // ---- Contracts: the letters

    private static void contractLetters() {
        sentence(9, "l how many HOURS behind its DUE coming to j hour h is for u");
        // u is due in 20 and comes in 520; v is ready in 10.
        String[] texts = {"W99:l=-10", "W99:l=-9", "W99:l<0", "W99:l<1", "W99:l<-10", "W99:!l=0", "W99:l>-11&l<7"};
        int[] hours = {1, 0, 10, 11, 0, 10, 17};
        for (int k = 0; k < texts.length; k++) {
            OceanMail x = pair(10, 20, texts[k]);
            x.broken(0, 0, 500);
            due("waited under " + texts[k], x.truth(1, 0, 2), hours[k]);
        }
        sentence(9, "t how many HOURS v has waited at this PLACE");
        waited(10, 900, "W99:t=0", 1);
        waited(10, 900, "W99:t<0", 0);
        waited(10, 900, "W99:t>-1&t<98", 98);
        waited(10, 900, "W99:t<99", 99);
        waited(10, 900, "W99:t<100", 99);
        waitedAtEachPlace();
        windAndBreakOfTheLeg();
        excuseLate();
        excuseWaited();
        excuseWindAndBreak();
        joined();
    }

    private static void waitedAtEachPlace() {
        sentence(9, "t at this PLACE: none of another one");
        OceanMail x = shuttle(10, 10, 1, 0, 3);
        x.voyage(1, 0, 1, 1, 5000);
        x.leg(1, 0);
        x.leg(1, 0);
        x.meet(0, 0, 1, 2);
        x.meet(0, 1, 1, 1);
        x.meet(0, 2, 1, 2);
        told(x, 0, "W3:m=0");
        for (int i = 0; i < 3; i++) due("waited at " + i, x.truth(0, i, 2), 3);
        due("of u's line", x.share(0, 3, 1), 9);
    }

    private static void windAndBreakOfTheLeg() {
        sentence(9, "w the WIND of the LEG that is to come, k BREAK HOURS of that LEG");
        // Voyage 0 at place 1: the leg behind it by passage 0, the one to come by passage 1.
        OceanMail x = leavingFor(300, 20002, "W5:w=-50");
        due("the leg that was done", x.truth(0, 1, 2), 0);
        x.wind(1, 0, -50);
        due("the leg that is to come", x.truth(0, 1, 2), 5);
        told(x, 0, "W5:w<-50");
        due("w<-50", x.truth(0, 1, 2), 0);
        told(x, 0, "W5:w<-49");
        due("w<-49", x.truth(0, 1, 2), 5);
        x.wind(1, 0, 50);
        told(x, 0, "W5:w>49");
        due("w>49", x.truth(0, 1, 2), 5);
        told(x, 0, "W5:w>50");
        due("w>50", x.truth(0, 1, 2), 0);
        told(x, 0, "W5:k=500");
        x.broken(0, 0, 500);
        due("a break that was", x.truth(0, 1, 2), 0);
        x.broken(0, 1, 500);
        due("a break to come", x.truth(0, 1, 2), 5);
        told(x, 0, "W5:k>500");
        due("k>500", x.truth(0, 1, 2), 0);
        x.broken(0, 1, 0);
        told(x, 0, "W5:k<1&k>-1");
        due("k=0", x.truth(0, 1, 2), 5);
    }

    private static void excuse(OceanMail x, String text, int hours) {
        told(x, 0, text);
        int place = x.look(0, 4);
        due("nobody's under " + text, x.share(0, place, -1), hours);
    }

    private static void excuseLate() {
        sentence(9, "X: l how LATE v comes");
        OceanMail x = shuttle(100, 10, 1, 0, 1);
        x.broken(0, 0, 4);
        excuse(x, "X:l=4", 4);
        excuse(x, "X:l>3&l<5", 4);
        excuse(x, "X:l=3|l=5", 0);
        sentence(9, "LATE is 0 if it is not behind its DUE hour, in l too");
        // The first leg is done two hours ahead, the stay makes that good; at place 2 it is 1 behind, by its wind.
        OceanMail y = shuttle(100, 10, 1, 719, 2);
        y.wind(0, 0, 25);
        y.wind(0, 1, -1);
        excuse(y, "X:l=1", 1);
        excuse(y, "X:l<1", 0);
        // More hours than by the timetable, and yet not LATE, can't be: the ship leaves in its due hour or behind it.
        due("it comes ahead", y.truth(0, 1, 0), 727);
        due("and is not LATE", y.truth(0, 1, 3), 0);
    }

    private static void excuseWaited() {
        sentence(9, "X: t at the PLACE before");
        OceanMail x = leavingFor(300, 20002, "");
        x.broken(0, 1, 2);
        excuse(x, "W7:m=0;X:k=2&t=7", 2);
        excuse(x, "W7:m=0;X:k=2&t=0", 0);
        excuse(x, "W0:m=0;X:k=2&t=0", 2);
        sentence(9, "X: t of v, though others wait meanwhile");
        // Voyage 1 waits from 10 to 15; voyage 2 leaves in 0 behind no waiting and comes in 20.
        OceanMail y = pair(10, 900, "W5:m=0;X:t=0");
        y.voyage(2, 1, 10, 1, 0);
        y.leg(2, 1);
        y.broken(2, 0, 17);
        y.broken(1, 0, 1);
        due("it comes", y.truth(2, 1, 0), 20);
        due("nobody's of the one that has not waited", y.share(2, 1, -1), 17);
        due("nobody's of the one that has", y.share(1, 1, -1), 0);
    }

    private static void excuseWindAndBreak() {
        sentence(9, "X: w the WIND of the LEG that was done, as it was when it left");
        OceanMail x = shuttle(100, 10, 1, 719, 1);
        x.wind(0, 0, -50);
        x.wind(0, 1, 50);
        excuse(x, "X:w=-50", 10);
        excuse(x, "X:w=50", 0);
        sentence(9, "X: k BREAK HOURS of the LEG that was done");
        OceanMail y = leavingIn(300);
        y.broken(0, 1, 1);
        excuse(y, "X:k=1", 1);
        excuse(y, "X:k<1&l>9999", 0);
        y.broken(0, 0, 9);
        excuse(y, "X:k=1&!k=9", 1);
    }

    private static void joined() {
        sentence(9, "TEST: TERM { | TERM }; TERM: FACTOR { & FACTOR }: & ahead of |");
        String yes = "m=0";
        String no = "m=1";
        String[] bits = {no, yes};
        for (int k = 0; k < 8; k++) {
            boolean a = (k & 1) != 0;
            boolean b = (k & 2) != 0;
            boolean c = (k & 4) != 0;
            String x = bits[k & 1];
            String y = bits[k >> 1 & 1];
            String z = bits[k >> 2];
            holds(x + "|" + y + "&" + z, a || b && c);
            holds(x + "&" + y + "|" + z, a && b || c);
            holds("(" + x + "|" + y + ")&" + z, (a || b) && c);
            holds(x + "&(" + y + "|" + z + ")", a && (b || c));
            holds("!" + x + "&" + y + "|!" + z, !a && b || !c);
            holds("!(" + x + "&" + y + "|!" + z + ")", !(a && b || !c));
            holds("!!" + x + "&!!!" + y, a && !b);
        }
        sentence(9, "Braces mean: any number of times");
        holds(times(no + "|", 39) + yes, true);
        holds(yes + times("&" + yes, 38) + "&" + no, false);
        holds(yes + times("|" + no, 39), true);
        holds(times("(", 8) + yes + times(")", 8), true);
        holds(times("!", 8) + yes, true);
        holds(times("!", 7) + yes, false);
        holds(times("(" + no + "|", 8) + yes + times(")", 8), true);
        holds(times("(" + yes + "&", 8) + no + times(")", 8), false);
        holds(times("(" + no + "|" + yes + "&", 8) + yes + times(")", 8), true);
    }

    private static void holds(String test, boolean want) {
        waited(10, 900, "W5:" + test, want ? 5 : 0);
    }

    // ---- Shares

    private static void shareRow(OceanMail x, int v, int i, int... five) {
        for (int l = -1; l < 4; l++) due("share(" + v + ", " + i + ", " + l + ")", x.share(v, i, l), five[1 + l]);
    }

    private static void shares() {
        sentence(13, "LATE is by how much it comes behind its DUE hour (0 if not)");
        OceanMail x = shuttle(100, 10, 1, 0, 1);
        x.wind(0, 0, 12);
        due("an hour ahead", x.truth(0, 1, 0), 9);
        due("LATE", x.truth(0, 1, 3), 0);
        x.wind(0, 0, 0);
        due("LATE in its hour", x.truth(0, 1, 3), 0);
        x.wind(0, 0, -1);
        due("LATE an hour behind", x.truth(0, 1, 3), 1);
        sentence(13, "none at PLACE 0");
        OceanMail p = pair(10, 30, "W99:m=0");
        for (int l = -1; l < 4; l++) due("share at place 0", p.share(1, 0, l), -1);
        shareRow(p, 1, 1, 0, 0, 20, 0, 0);
        sentence(13, "HOURS that it has waited are more in the SHARE of u's LINE, none if it has not");
        shareRow(pair(10, 10, "W99:m=0"), 1, 1, 0, 0, 0, 0, 0);
        shareRow(pair(10, 11, "W99:m=0"), 1, 1, 0, 0, 1, 0, 0);
        moreHours();
        fewerHours();
        ownLineWaited();
    }

    private static void moreHours() {
        sentence(13, "if the LEG took more HOURS: NOBODY's if an X CLAUSE holds there, else its own LINE's");
        OceanMail x = shuttle(100, 10, 1, 0, 1);
        shareRow(x, 0, 1, 0, 0, 0, 0, 0);
        x.broken(0, 0, 1);
        shareRow(x, 0, 1, 0, 1, 0, 0, 0);
        told(x, 0, "X:l=1");
        shareRow(x, 0, 1, 1, 0, 0, 0, 0);
        told(x, 0, "W9:l=1");
        shareRow(x, 0, 1, 0, 1, 0, 0, 0);
        told(x, 0, "X:l=0;X:l=2");
        shareRow(x, 0, 1, 0, 1, 0, 0, 0);
        told(x, 0, "X:l=0;P4;X:l=1");
        shareRow(x, 0, 1, 1, 0, 0, 0, 0);
        told(x, 0, "");
        told(x, 1, "X:l=1");
        shareRow(x, 0, 1, 0, 1, 0, 0, 0);
        sentence(13, "more HOURS by break, fewer by wind: as many as by THE TIMETABLE");
        x.wind(0, 0, 12);
        shareRow(x, 0, 1, 0, 0, 0, 0, 0);
        x.broken(0, 0, 2);
        shareRow(x, 0, 1, 0, 1, 0, 0, 0);
    }

    /**
     * Voyage 0 of line 1 gathers 1 hour of nobody, 2 of line 1, 3 of line 3, 4 of line 2, 5 of line 0 on five legs of one
     * hour each, and does a sixth one of so many hours in the told hours.
     */
    private static OceanMail gathering(int miles, int wind) {
        OceanMail x = new OceanMail();
        x.passage(0, 1, 10);
        x.passage(1, 0, miles);
        x.wind(1, 0, wind);
        x.voyage(1, 0, 10, 1, 0);
        for (int k = 0; k < 5; k++) x.leg(0, 0);
        x.leg(0, 1);
        int[] lines = {3, 2, 0};
        for (int k = 0; k < 3; k++) {
            x.voyage(lines[k], 0, 1, 1, 5000);
            x.leg(1 + k, 0);
            x.leg(1 + k, 0);
            x.meet(0, 2 + k, 1 + k, k % 2 == 0 ? 2 : 1);
        }
        x.broken(0, 0, 1);
        x.broken(0, 1, 2);
        // l of a meeting is far below 0; by k of the leg to come it tells the places apart.
        x.broken(0, 2, 10);
        x.broken(0, 3, 20);
        x.broken(0, 4, 30);
        told(x, 1, "W3:k=10;W4:k=20;W5:k=30;X:k=1");
        return x;
    }

    private static void fewerHours() {
        sentence(13, "if fewer: first NOBODY's, then its own LINE's, then those of LINES by numbers, as far as there are any");
        // Its own: 2, and 10, 20 and 30 of the breaks that tell the meetings apart.
        int own = 2 + 10 + 20 + 30;
        shareRow(gathering(10, 0), 0, 5, 1, 5, own, 4, 3);
        shareRow(gathering(10, 0), 0, 6, 1, 5, own, 4, 3);
        // At 15 miles an hour a third of the hours is made good.
        shareRow(gathering(30, 50), 0, 6, 0, 5, own, 4, 3);
        shareRow(gathering(60, 50), 0, 6, 0, 5, own - 1, 4, 3);
        shareRow(gathering(3 * 620, 50), 0, 6, 0, 5, 1, 4, 3);
        shareRow(gathering(3 * 630, 50), 0, 6, 0, 5, 0, 4, 3);
        shareRow(gathering(3 * 640, 50), 0, 6, 0, 4, 0, 4, 3);
        shareRow(gathering(3 * 670, 50), 0, 6, 0, 1, 0, 4, 3);
        shareRow(gathering(3 * 680, 50), 0, 6, 0, 0, 0, 4, 3);
        shareRow(gathering(3 * 690, 50), 0, 6, 0, 0, 0, 3, 3);
        shareRow(gathering(3 * 720, 50), 0, 6, 0, 0, 0, 0, 3);
        shareRow(gathering(3 * 730, 50), 0, 6, 0, 0, 0, 0, 2);
        shareRow(gathering(3 * 750, 50), 0, 6, 0, 0, 0, 0, 0);
        shareRow(gathering(3 * 760, 50), 0, 6, 0, 0, 0, 0, 0);
        shareRow(gathering(9999, 50), 0, 6, 0, 0, 0, 0, 0);
    }

    private static void ownLineWaited() {
        sentence(13, "u's LINE may be v's own");
        OceanMail x = shuttle(10, 10, 1, 0, 1);
        x.voyage(0, 1, 10, 1, 19);
        x.leg(1, 0);
        x.meet(0, 0, 1, 1);
        told(x, 0, "W99:m=0;X:l>0;P3");
        shareRow(x, 0, 1, 0, 20, 0, 0, 0);
        x.broken(0, 0, 2);
        shareRow(x, 0, 1, 2, 20, 0, 0, 0);
        due("owed to itself", x.owed(0), 60);
    }

    // ---- What is owed

    private static void owing() {
        sentence(14, "over all VOYAGES and PLACES to which they come");
        OceanMail x = shuttle(10, 10, 1, 0, 6);
        x.broken(0, 0, 3);
        told(x, 0, "P2");
        due("six places", x.owed(0), 6 * 3 * 2);
        x.voyage(0, 0, 10, 1, 0);
        due("one without legs", x.owed(0), 6 * 3 * 2);
        x.leg(1, 0);
        x.broken(1, 0, 5);
        due("two voyages", x.owed(0), (6 * 3 + 5) * 2);
        sentence(14, "PLACES to which they do not come");
        // It comes in 20000, one hour late, and no further.
        OceanMail y = leavingIn(19899);
        told(y, 0, "P1");
        due("it comes", y.truth(0, 2, 0), 19999);
        long both = y.owed(0);
        y.broken(0, 1, 1);
        due("in hour 20000", y.owed(0), both + 1);
        y.broken(0, 1, 2);
        due("in hour 20001", y.owed(0), y.share(0, 1, 0));
        sentence(14, "its SHARE there times P of the VOYAGE's LINE");
        OceanMail z = pair(10, 30, "W99:m=0;P7");
        told(z, 1, "P100");
        due("the line of u", z.owed(1), 20 * 7);
        due("the line of v", z.owed(2), 0);
        due("nobody else", z.owed(0) + z.owed(3), 0);
        told(z, 2, "W99:m=0");
        due("no P", z.owed(1), 0);
        aboveAnInt();
    }

    private static void aboveAnInt() {
        sentence(14, "long owed: above what an int holds");
        OceanMail x = new OceanMail();
        x.passage(0, 1, 9999);
        x.passage(0, 1, 1);
        x.wind(0, 0, -50);
        for (int v = 0; v < 10; v++) {
            x.voyage(3, 0, 1, 1, 0);
            x.leg(v, 0);
            x.leg(v, 1);
        }
        told(x, 3, "P9999");
        due("ten voyages", x.owed(3), 10L * 2 * 9999 * 9999);
    }

    // ---- Letters

    /** Voyage v from port a to port b, an hour of sea, from an hour on. */
    private static void hop(OceanMail x, int a, int b, int start) {
        int p = x.passage(a, b, 10);
        x.leg(x.voyage(0, a, 10, 1, start), p);
    }

    private static void letters() {
        sentence(15, "it goes aboard if that VOYAGE leaves there in h or later");
        OceanMail x = new OceanMail();
        hop(x, 0, 1, 10);
        due("an hour ahead", x.first(0, 1, 9, false), 11);
        due("in that hour", x.first(0, 1, 10, false), 11);
        due("an hour behind", x.first(0, 1, 11, false), -1);
        due("in truth", x.first(0, 1, 10, true), 11);
        due("in truth", x.first(0, 1, 11, true), -1);
        sentence(15, "it is ashore from the hour behind its coming on");
        for (int start = 10; start <= 13; start++) {
            OceanMail y = new OceanMail();
            hop(y, 0, 1, 10);
            hop(y, 1, 2, start);
            int coming = start < 12 ? -1 : start + 1;
            due("the next one leaves in " + start, y.first(0, 2, 10, false), coming);
            due("in truth", y.first(0, 2, 10, true), coming);
            due("the last hour", y.last(0, 2, 100, false), start < 12 ? -1 : 10);
            due("in truth", y.last(0, 2, 100, true), start < 12 ? -1 : 10);
        }
        sentence(15, "FIRST COMING: the earliest hour in which it can come to the PORT");
        OceanMail z = new OceanMail();
        hop(z, 0, 1, 30);
        hop(z, 0, 1, 20);
        hop(z, 0, 1, 10);
        int[][] asked = {{0, 11}, {10, 11}, {11, 21}, {20, 21}, {21, 31}, {30, 31}, {31, -1}};
        for (int[] a : asked) due("from hour " + a[0], z.first(0, 1, a[0], false), a[1]);
        OceanMail earlier = new OceanMail();
        for (int start = 12; start >= 10; start--) {
            hop(earlier, 0, 1, start);
            due("an hour earlier by " + start, earlier.first(0, 1, 0, false), start + 1);
        }
        sentence(16, "LAST HOUR: the greatest h by which it can come there in a told hour or ahead");
        int[][] by = {{10, -1}, {11, 10}, {12, 10}, {20, 10}, {21, 20}, {30, 20}, {31, 30}, {32, 30}, {20000, 30}};
        for (int[] b : by) due("by hour " + b[0], z.last(0, 1, b[0], false), b[1]);
        aboardAtPlaces();
        lettersInTruth();
    }

    private static void aboardAtPlaces() {
        sentence(15, "aboard at a PLACE in that PORT, ashore at a later one");
        // Ports 0 1 0 1 0 1 0; it leaves in 0, 2, 4 .. and comes in 1, 3, 5 ..
        OceanMail x = shuttle(10, 10, 1, 0, 6);
        for (int h = 0; h <= 12; h++) {
            int fromA = h <= 8 ? (h + 3) / 4 * 4 + 1 : -1;
            int fromB = h <= 10 ? Math.max(0, (h + 1) / 4) * 4 + 3 : -1;
            due("from 0 in hour " + h, x.first(0, 1, h, false), fromA);
            due("from 1 in hour " + h, x.first(1, 0, h, false), fromB);
        }
        due("none from its last place", x.first(0, 1, 9, false), -1);
        due("none to a port that it leaves alone", x.first(0, 2, 0, false), -1);
        due("the last hour by 11", x.last(1, 0, 11, false), 10);
        due("the last hour by 10", x.last(1, 0, 10, false), 6);
        due("the last hour by 3", x.last(1, 0, 3, false), 2);
        due("the last hour by 2", x.last(1, 0, 2, false), -1);
        due("the last hour by 1", x.last(0, 1, 1, false), 0);
        due("the last hour by 0", x.last(0, 1, 0, false), -1);
    }

    private static void lettersInTruth() {
        sentence(15, "By THE TIMETABLE, or IN TRUTH");
        OceanMail x = new OceanMail();
        hop(x, 0, 1, 10);
        hop(x, 1, 2, 12);
        x.broken(0, 0, 1);
        due("by the timetable", x.first(0, 2, 0, false), 13);
        due("it comes as the next one leaves", x.first(0, 2, 0, true), -1);
        due("the last hour", x.last(0, 2, 13, false), 10);
        due("in truth", x.last(0, 2, 20000, true), -1);
        sentence(15, "IN TRUTH nothing comes behind hour 20000");
        OceanMail y = leavingIn(19900);
        due("it comes in 20000", y.first(1, 2, 19900, true), 20000);
        due("the last hour by 20000", y.last(1, 2, 20000, true), 19900);
        due("the last hour by 19999", y.last(1, 2, 19999, true), -1);
        y.broken(0, 1, 1);
        due("it comes in 20001", y.first(1, 2, 0, true), -1);
        due("the last hour by 20000", y.last(1, 2, 20000, true), -1);
        hop(y, 2, 3, 50);
        due("what does not come goes no further", y.first(1, 3, 0, true), -1);
        due("nor has it a last hour", y.last(1, 3, 20000, true), -1);
        due("another one does", y.first(2, 3, 50, true), 51);
    }

    private static void ridesAre(OceanMail x, int... parts) {
        for (int k = 0; k < parts.length; k++) due("ride(" + k / 3 + ", " + k % 3 + ")", x.ride(k / 3, k % 3), parts[k]);
        for (int what = 0; what < 3; what++) due("no ride behind", x.ride(parts.length / 3, what), -1);
    }

    private static void rides() {
        sentence(17, "RIDES: as few as can be");
        OceanMail x = new OceanMail();
        hop(x, 0, 1, 10);
        hop(x, 1, 2, 12);
        due("two rides", x.first(0, 2, 0, false), 13);
        ridesAre(x, 0, 0, 1, 1, 0, 1);
        hop(x, 0, 2, 12);
        due("one ride", x.first(0, 2, 0, false), 13);
        ridesAre(x, 2, 0, 1);
        sentence(17, "of like ones the least: VOYAGE");
        OceanMail y = new OceanMail();
        hop(y, 0, 1, 10);
        hop(y, 0, 1, 10);
        due("from hour 0", y.first(0, 1, 0, false), 11);
        ridesAre(y, 0, 0, 1);
        sentence(17, "the least: then PLACE where it goes aboard, then where it goes ashore");
        // Ports 0 1 0 2 0 2 0: from 0 to 2 in hour 5 it can go aboard at place 0 and at place 2.
        OceanMail z = new OceanMail();
        z.passage(0, 1, 10);
        z.passage(0, 2, 10);
        z.voyage(0, 0, 10, 1, 0);
        z.leg(0, 0);
        z.leg(0, 0);
        z.leg(0, 1);
        z.leg(0, 1);
        z.leg(0, 1);
        due("aboard at 0", z.first(0, 2, 0, false), 5);
        ridesAre(z, 0, 0, 3);
        due("aboard at 2", z.first(0, 2, 1, false), 5);
        ridesAre(z, 0, 2, 3);
        due("from 2 it can go ashore at 4", z.first(2, 0, 6, false), 7);
        ridesAre(z, 0, 3, 4);
        ridesOneByOne();
        ridesThatCanBe();
        ridesUntilTheNext();
    }

    private static void ridesOneByOne() {
        sentence(17, "the least, RIDE by RIDE");
        // To port 3 there is voyage 4 alone; voyages 1 and 0 bring it to its port 2 in time.
        OceanMail x = new OceanMail();
        hop(x, 1, 2, 14);
        hop(x, 1, 2, 12);
        hop(x, 0, 1, 9);
        hop(x, 0, 1, 10);
        hop(x, 2, 3, 20);
        due("three rides", x.first(0, 3, 0, false), 21);
        ridesAre(x, 2, 0, 1, 0, 0, 1, 4, 0, 1);
        due("three rides", x.first(0, 3, 10, false), 21);
        ridesAre(x, 3, 0, 1, 0, 0, 1, 4, 0, 1);
        sentence(17, "seven RIDES through eight PORTS, nine VOYAGES");
        OceanMail y = new OceanMail();
        for (int k = 0; k < 7; k++) hop(y, k, k + 1, 2 * k);
        due("seven rides", y.first(0, 7, 0, true), 13);
        ridesAre(y, 0, 0, 1, 1, 0, 1, 2, 0, 1, 3, 0, 1, 4, 0, 1, 5, 0, 1, 6, 0, 1);
        due("the last hour", y.last(0, 7, 13, true), 0);
        due("the last hour", y.last(0, 7, 12, true), -1);
    }

    private static void ridesThatCanBe() {
        sentence(17, "RIDES: ashore from the hour behind its coming on");
        // Voyage 0 leaves port 1 in the hour in which voyage 1 comes there.
        OceanMail x = new OceanMail();
        hop(x, 1, 2, 11);
        hop(x, 0, 1, 10);
        hop(x, 1, 2, 12);
        due("two rides", x.first(0, 2, 0, false), 13);
        ridesAre(x, 1, 0, 1, 2, 0, 1);
        sentence(17, "RIDES: ashore at a later PLACE than aboard");
        // Voyage 0 lies in port 0 from 3 to 10; voyage 1 leaves there in 4, ahead of the letter of hour 5.
        OceanMail y = new OceanMail();
        y.passage(3, 0, 10);
        y.passage(0, 1, 10);
        y.passage(0, 2, 160);
        y.passage(1, 2, 10);
        y.voyage(0, 3, 10, 7, 2);
        y.leg(0, 0);
        y.leg(0, 1);
        y.voyage(0, 0, 10, 1, 4);
        y.leg(1, 2);
        y.voyage(0, 1, 10, 1, 20);
        y.leg(2, 3);
        due("in hour 4", y.first(0, 2, 4, false), 20);
        ridesAre(y, 1, 0, 1);
        due("in hour 5", y.first(0, 2, 5, false), 21);
        ridesAre(y, 0, 1, 2, 2, 0, 1);
    }

    private static void ridesUntilTheNext() {
        sentence(17, "of the latest FIRST COMING (that was not NONE)");
        OceanMail x = new OceanMail();
        ridesAre(x);
        hop(x, 0, 1, 10);
        hop(x, 1, 2, 12);
        ridesAre(x);
        due("none yet", x.first(2, 0, 0, false), -1);
        ridesAre(x);
        x.last(0, 2, 20000, false);
        ridesAre(x);
        x.first(0, 2, 0, false);
        ridesAre(x, 0, 0, 1, 1, 0, 1);
        due("none", x.first(0, 2, 11, false), -1);
        due("no such ports", x.first(0, 8, 0, false), -1);
        due("no such hour", x.first(0, 1, -1, false), -1);
        x.last(1, 2, 20000, false);
        x.last(0, 1, 20000, true);
        ridesAre(x, 0, 0, 1, 1, 0, 1);
        x.first(1, 2, 0, true);
        ridesAre(x, 1, 0, 1);
    }

    // ---- Promises 1 and 2

    private static void newObjectAndFeed() {
        sentence(1, "No PASSAGES, VOYAGES");
        OceanMail x = new OceanMail();
        for (int what = 0; what < 4; what++) due("count(" + what + ")", x.count(what), 0);
        due("passage 0", x.wind(0, 0, 0), false);
        due("voyage 0", x.look(0, 0), -1);
        due("leg", x.leg(0, 0), -1);
        due("the first passage", x.passage(0, 1, 1), 0);
        due("the first voyage", x.voyage(0, 0, 1, 1, 0), 0);
        sentence(2, "NONE if that would be more than 200");
        OceanMail y = new OceanMail();
        for (int k = 1; k <= 9; k++) due("feed " + k, y.feed(k, k, k, k, k), 20 * k);
        due("180 and 20", y.feed(1, 1, 1, 1, 1), 200);
        due("200 and 20", y.feed(1, 1, 1, 1, 1), -1);
        due("the tape", y.count(3), 200);
        sentence(2, "behind the tape");
        OceanMail z = new OceanMail();
        fed(z, "P1234;P2345;P3456;W1");
        fed(z, ":m=0;P4567");
        due("both feeds", z.contract(0, 30), 5);
        due("P", z.count(10), 4567);
        due("the empty tape is filled anew", z.feed(0, 0, 0, 0, 0), 20);
        sentence(2, "Twenty bytes, the highest of each int first");
        OceanMail w = new OceanMail();
        String text = "P1;X:l<1&t>-2|k=3;P4";
        w.feed(0x50313b58, 0x3a6c3c31, 0x26743e2d, 0x327c6b3d, 0x333b5034);
        due("the text " + text, w.contract(1, 20), 3);
        due("P", w.count(11), 4);
        w.feed(0x50313bff, -1, LOW, HIGH, 0);
        due("the byte 255", w.contract(1, 20), -2);
        due("its place", w.fault(1), 3);
    }

    // ---- Promises 3 and 4

    private static void passageAndWind() {
        sentence(3, "NONE: no such two PORTS");
        OceanMail x = new OceanMail();
        int[][] bad = {{-1, 0}, {0, -1}, {8, 0}, {0, 8}, {LOW, 0}, {0, LOW}, {HIGH, 0}, {0, HIGH}, {-1, 8}, {0, 0}, {7, 7}, {3, 3}};
        for (int[] b : bad) due("passage(" + b[0] + ", " + b[1] + ")", x.passage(b[0], b[1], 10), -1);
        due("passage(0, 7)", x.passage(0, 7, 10), 0);
        due("passage(7, 0)", x.passage(7, 0, 10), 1);
        sentence(3, "NONE: no such MILES");
        int[] miles = {0, 10000, -1, LOW, HIGH};
        for (int m : miles) due(m + " miles", x.passage(0, 1, m), -1);
        due("1 mile", x.passage(0, 1, 1), 2);
        due("9999 miles", x.passage(0, 1, 9999), 3);
        sentence(3, "NONE: 12 are there");
        for (int k = 4; k < 12; k++) due("passage " + k, x.passage(0, 1, 10), k);
        due("a 13th", x.passage(0, 1, 10), -1);
        due("PASSAGES", x.count(0), 12);
        sentence(4, "false: no such PASSAGE");
        OceanMail y = new OceanMail();
        due("wind of none", y.wind(0, 0, 1), false);
        y.passage(0, 1, 10);
        int[] passages = {-1, 1, 11, 12, LOW, HIGH};
        for (int p : passages) due("passage " + p, y.wind(p, 0, 1), false);
        due("passage 0", y.wind(0, 0, 1), true);
        due("passage 11", x.wind(11, 11, 1), true);
        due("passage 12", x.wind(12, 0, 1), false);
        sentence(4, "false: no such MONTH");
        int[] months = {-1, 12, 13, LOW, HIGH};
        for (int m : months) due("month " + m, x.wind(0, m, 1), false);
        due("month 0", x.wind(0, 0, 1), true);
        due("month 11", x.wind(0, 11, 1), true);
        sentence(4, "false: no such ones, though it is no number");
        due("no such month", x.wind(0, 12, Double.NaN), false);
        due("no such passage", x.wind(12, 0, Double.NaN), false);
    }

    // ---- Promises 5 and 6

    private static void voyageAndLeg() {
        int[] ordinary = {0, 0, 10, 10, 10};
        String[] names = {"LINE", "PORT", "SPEED", "STAY", "START"};
        int[] least = {0, 0, 1, 1, 0};
        int[] most = {3, 7, 30, 48, 5000};
        for (int k = 0; k < 5; k++) {
            sentence(5, "NONE: no such " + names[k]);
            OceanMail x = new OceanMail();
            int[] bad = {least[k] - 1, most[k] + 1, LOW, HIGH};
            for (int b : bad) due(names[k] + " " + b, voyage(x, ordinary, k, b), -1);
            due(names[k] + " " + least[k], voyage(x, ordinary, k, least[k]), 0);
            due(names[k] + " " + most[k], voyage(x, ordinary, k, most[k]), 1);
            int what = k == 0 ? 0 : k == 1 ? 10 : k - 1;
            due("look", x.look(0, what), least[k]);
            due("look", x.look(1, what), most[k]);
        }
        sentence(5, "NONE: 10 are there");
        OceanMail y = new OceanMail();
        for (int k = 0; k < 10; k++) due("voyage " + k, y.voyage(0, 0, 1, 1, 0), k);
        due("an 11th", y.voyage(0, 0, 1, 1, 0), -1);
        due("VOYAGES", y.count(1), 10);
        sentence(5, "A VOYAGE without LEGS");
        due("LEGS", y.look(9, 4), 0);
        due("it is at its first port", y.look(9, 5), 0);
        due("it leaves nothing", y.due(9, 0, 1), -1);
        due("nor in truth", y.truth(9, 0, 1), -1);
        due("it carries nothing", y.first(0, 1, 0, false), -1);
        legCalls();
    }

    private static int voyage(OceanMail x, int[] ordinary, int k, int value) {
        int[] a = ordinary.clone();
        a[k] = value;
        return x.voyage(a[0], a[1], a[2], a[3], a[4]);
    }

    private static void legCalls() {
        sentence(6, "NONE: no such VOYAGE");
        OceanMail x = shuttle(10, 10, 1, 0, 0);
        int[] others = {-1, 1, 9, 10, LOW, HIGH};
        for (int v : others) due("leg of " + v, x.leg(v, 0), -1);
        sentence(6, "NONE: no such PASSAGE");
        int[] passages = {-1, 1, 11, 12, LOW, HIGH};
        for (int p : passages) due("by " + p, x.leg(0, p), -1);
        due("LEGS", x.look(0, 4), 0);
        sentence(6, "NONE: the PASSAGE does not begin where it is");
        x.passage(1, 2, 10);
        x.passage(3, 1, 10);
        due("not from port 0", x.leg(0, 1), -1);
        due("not from port 0", x.leg(0, 2), -1);
        due("from port 0", x.leg(0, 0), 1);
        due("against its order, to port 3", x.leg(0, 2), 2);
        due("port", x.look(0, 5), 3);
        due("not from port 3", x.leg(0, 0), -1);
        due("not from port 3", x.leg(0, 1), -1);
        due("back to port 1", x.leg(0, 2), 3);
        due("to port 2", x.leg(0, 1), 4);
        sentence(6, "NONE: it has 6");
        due("the fifth", x.leg(0, 1), 5);
        due("the sixth", x.leg(0, 1), 6);
        due("a seventh", x.leg(0, 1), -1);
        due("LEGS", x.look(0, 4), 6);
        due("port", x.look(0, 5), 2);
        x.voyage(0, 2, 1, 1, 0);
        due("of another one", x.leg(1, 1), 1);
    }

    // ---- Promises 7 and 8

    private static void brokenAndMeet() {
        sentence(7, "false: no such LEG (from 0 on)");
        OceanMail x = shuttle(10, 10, 1, 0, 0);
        due("without legs", x.broken(0, 0, 1), false);
        for (int legs = 1; legs <= 6; legs++) {
            x.leg(0, 0);
            due("leg " + legs + " of " + legs, x.broken(0, legs, 1), false);
            due("leg " + (legs - 1) + " of " + legs, x.broken(0, legs - 1, 1), true);
            due("it comes", x.truth(0, legs, 0), 3 * legs - 1);
        }
        int[] others = {-1, 6, 7, LOW, HIGH};
        for (int i : others) due("leg " + i, x.broken(0, i, 1), false);
        sentence(7, "false: no such VOYAGE");
        int[] voyages = {-1, 1, 10, LOW, HIGH};
        for (int v : voyages) due("voyage " + v, x.broken(v, 0, 1), false);
        sentence(7, "false: no such BREAK HOURS");
        int[] hours = {-1, 501, LOW, HIGH};
        for (int h : hours) due(h + " hours", x.broken(0, 0, h), false);
        due("0 hours", x.broken(0, 0, 0), true);
        due("500 hours", x.broken(0, 0, 500), true);
        due("it comes", x.truth(0, 1, 0), 501);
        meetCalls();
        manyMeetingsRefused();
    }

    private static void meetCalls() {
        sentence(8, "false: no such VOYAGES");
        OceanMail x = twoShuttles(3, 3);
        int[] others = {-1, 2, 10, LOW, HIGH};
        for (int v : others) {
            due("v = " + v, x.meet(v, 0, 1, 2), false);
            due("u = " + v, x.meet(0, 0, v, 2), false);
        }
        sentence(8, "false: no such PLACES (i is not its last PLACE now, j is not 0)");
        int[] is = {-1, 3, 4, 6, 7, LOW, HIGH};
        for (int i : is) for (int j = 1; j <= 3; j++) due("i = " + i, x.meet(0, i, 1, j), false);
        int[] js = {-1, 0, 4, 5, 6, 7, LOW, HIGH};
        for (int j : js) for (int i = 0; i < 3; i++) due("j = " + j, x.meet(0, i, 1, j), false);
        due("MEETINGS", x.count(2), 0);
        x.leg(0, 0);
        due("i = 3 is not its last place now", x.meet(0, 3, 1, 1), true);
        OceanMail none = twoShuttles(0, 3);
        due("v without legs", none.meet(0, 0, 1, 2), false);
        due("u without legs", none.meet(1, 0, 0, 0), false);
        sentence(8, "false: of two PORTS");
        due("i = 0, j = 1", x.meet(0, 0, 1, 1), false);
        due("i = 0, j = 3", x.meet(0, 0, 1, 3), false);
        due("i = 1, j = 2", x.meet(0, 1, 1, 2), false);
        sentence(8, "false: v is u");
        due("v 0", x.meet(0, 0, 0, 2), false);
        due("v 1", x.meet(1, 1, 1, 3), false);
        due("MEETINGS", x.count(2), 1);
        sentence(8, "false: v has one at i");
        due("one", x.meet(0, 0, 1, 2), true);
        due("the same", x.meet(0, 0, 1, 2), false);
        x.voyage(2, 1, 10, 1, 0);
        x.leg(2, 0);
        due("another u", x.meet(0, 0, 2, 1), false);
        due("at another i", x.meet(0, 2, 2, 1), true);
        due("u has two", x.meet(1, 0, 2, 1), true);
        due("MEETINGS", x.count(2), 4);
    }

    private static void manyMeetingsRefused() {
        sentence(8, "false: 20 are there");
        OceanMail x = manyMeetings();
        due("a 21st of the last voyage", x.meet(4, 0, 0, 2), false);
        due("a 21st of a new voyage", x.meet(3, 3, 4, 1), false);
        due("MEETINGS", x.count(2), 20);
    }

    // ---- Promises 9 and 10

    private static void contractAndFault() {
        sentence(9, "NONE: no such LINE (the tape stays)");
        OceanMail x = new OceanMail();
        fed(x, "P5;P6");
        int[] lines = {-1, 4, LOW, HIGH};
        for (int line : lines) {
            due("line " + line, x.contract(line, 5), -1);
            due("line " + line, x.contract(line, 0), -1);
            due("tape", x.count(3), 20);
        }
        sentence(9, "NONE: it has not so many (the tape stays)");
        int[] sizes = {-1, 21, 200, 201, LOW, HIGH};
        for (int n : sizes) {
            due(n + " bytes", x.contract(0, n), -1);
            due("tape", x.count(3), 20);
        }
        due("what stayed", x.contract(0, 5), 2);
        due("P", x.count(10), 6);
        due("an empty tape", x.contract(0, 1), -1);
        due("none of an empty tape", x.contract(0, 0), 0);
        due("line 3", told(x, 3, "P8"), 1);
        due("P", x.count(13), 8);
        sentence(9, "The first n bytes of the tape (empty then)");
        fed(x, "P1;P22;P333");
        due("all but NULs", x.contract(0, 11), 3);
        due("the tape", x.count(3), 0);
        fed(x, "P1;P22;P333");
        due("two bytes", x.contract(0, 2), 1);
        due("P", x.count(10), 1);
        due("the tape", x.count(3), 0);
        fed(x, "P1;P22;P333");
        due("no bytes", x.contract(0, 0), 0);
        due("P", x.count(10), 0);
        due("the tape", x.count(3), 0);
        due("all 20", told(x, 0, "P1;P22;P333;W4:l<567"), 4);
        due("all 200", told(x, 0, "P9;" + "X:m=0" + times("|m=0", 48)), 2);
        faultyContract();
        contractsAnew();
        faultCalls();
    }

    private static void faultyContract() {
        sentence(9, "-2: a FAULT (the CONTRACT stays), the tape is empty then");
        OceanMail x = pair(10, 30, "W7:m=0;P9;X:l>0");
        String[] texts = {"P1;", "W99:m=0;P", "P1;P1;P1;P1;P1;P1;P1;P1;P1;P1;P1;P1;P", "X:(((((((((", "\0"};
        for (String text : texts) {
            fed(x, text);
            due("contract " + text, x.contract(2, text.length()), -2);
            due("the tape", x.count(3), 0);
            due("P", x.count(12), 9);
            due("waited", x.truth(1, 0, 2), 7);
        }
        x.broken(1, 0, 3);
        due("nobody's", x.share(1, 1, -1), 3);
        due("the tape is filled anew", x.feed(0, 0, 0, 0, 0), 20);
    }

    private static void contractsAnew() {
        sentence(9, "the CONTRACT of a LINE from now on: full TEXTS, again and again");
        OceanMail x = pair(10, 900, "");
        for (int turn = 1; turn <= 12; turn++) {
            String text = "W" + turn + ":m=1" + times("|m=1", 47) + "|m=0";
            due("contract " + text, told(x, 2, text), 1);
            due("waited", x.truth(1, 0, 2), turn);
            due("a faulty one", told(x, 2, text + ";"), -2);
            due("waited", x.truth(1, 0, 2), turn);
        }
    }

    private static void faultCalls() {
        sentence(10, "(0: none), its place (NONE): ahead of any contract()");
        OceanMail x = new OceanMail();
        due("fault(0)", x.fault(0), 0);
        due("fault(1)", x.fault(1), -1);
        sentence(10, "The FAULT of the latest contract() that was not NONE");
        told(x, 0, "P1;X:l<");
        int[] refused = {-1, 4};
        for (int line : refused) {
            x.contract(line, 0);
            due("fault(0)", x.fault(0), 1);
            due("fault(1)", x.fault(1), 7);
        }
        due("not so many", x.contract(0, 1), -1);
        due("fault(0)", x.fault(0), 1);
        due("fault(1)", x.fault(1), 7);
        told(x, 1, "X:!!!!!!!!!");
        due("fault(0)", x.fault(0), 3);
        due("fault(1)", x.fault(1), 10);
        told(x, 1, "");
        due("fault(0)", x.fault(0), 0);
        due("fault(1)", x.fault(1), -1);
        told(x, 1, "Q");
        due("a fault at 0", x.fault(1), 0);
        sentence(10, "NONE for others");
        int[] others = {-1, 2, 3, LOW, HIGH};
        for (int what : others) due("fault(" + what + ")", x.fault(what), -1);
    }

    // ---- Promises 11 and 12

    private static void dueAndTruth() {
        OceanMail x = shuttle(10, 10, 1, 5, 3);
        int[] voyages = {-1, 1, 10, LOW, HIGH};
        int[] places = {-1, 4, 7, LOW, HIGH};
        int[] whats = {-1, 2, 3, LOW, HIGH};
        sentence(11, "NONE: no such VOYAGE");
        for (int v : voyages) for (int what = 0; what < 2; what++) due("voyage " + v, x.due(v, 1, what), -1);
        sentence(11, "NONE: no such PLACE");
        for (int i : places) for (int what = 0; what < 2; what++) due("place " + i, x.due(0, i, what), -1);
        sentence(11, "NONE: no such what");
        for (int what : whats) due("what " + what, x.due(0, 1, what), -1);
        sentence(11, "NONE: PLACE 0 (0), the last one (1)");
        due("comes to 0", x.due(0, 0, 0), -1);
        due("leaves 0", x.due(0, 0, 1), 5);
        due("comes to 1", x.due(0, 1, 0), 6);
        due("leaves 2", x.due(0, 2, 1), 9);
        due("comes to 3", x.due(0, 3, 0), 10);
        due("leaves 3", x.due(0, 3, 1), -1);
        sentence(12, "NONE as due(): no such VOYAGE, PLACE, what");
        for (int v : voyages) for (int what = 0; what < 4; what++) due("voyage " + v, x.truth(v, 1, what), -1);
        for (int i : places) for (int what = 0; what < 4; what++) due("place " + i, x.truth(0, i, what), -1);
        int[] others = {-1, 4, 5, LOW, HIGH};
        for (int what : others) due("what " + what, x.truth(0, 1, what), -1);
        sentence(12, "NONE as due(): PLACE 0, the last one");
        int[][] row = {{-1, 5, 0, -1}, {6, 7, 0, 0}, {8, 9, 0, 0}, {10, -1, -1, 0}};
        for (int i = 0; i < 4; i++) for (int what = 0; what < 4; what++) due("truth(0, " + i + ", " + what + ")", x.truth(0, i, what), row[i][what]);
        withoutLegs();
        truthByHour20000();
    }

    private static void withoutLegs() {
        sentence(12, "NONE: a VOYAGE without LEGS neither comes nor leaves");
        OceanMail x = shuttle(10, 10, 1, 5, 0);
        for (int what = 0; what < 4; what++) due("truth(0, 0, " + what + ")", x.truth(0, 0, what), -1);
        for (int what = 0; what < 2; what++) due("due(0, 0, " + what + ")", x.due(0, 0, what), -1);
        due("no place 1", x.truth(0, 1, 0), -1);
        x.leg(0, 0);
        due("with one it leaves", x.truth(0, 0, 1), 5);
        due("and is due", x.due(0, 0, 1), 5);
    }

    private static void truthByHour20000() {
        sentence(12, "NONE: by hour 20000 it does not (2: if it has not left; 3: not come)");
        // It comes in 20000 - 1 to place 1, leaves there in 20000; the place behind is never seen.
        OceanMail x = leavingIn(20000);
        int[][] row = {{-1, 1, 0, -1}, {19999, 20000, 0, 9999}, {-1, -1, -1, -1}};
        for (int i = 0; i < 3; i++) for (int what = 0; what < 4; what++) due("truth(0, " + i + ", " + what + ")", x.truth(0, i, what), row[i][what]);
        x.broken(0, 0, 1);
        int[] comes = {20000, -1, -1, 10000};
        for (int what = 0; what < 4; what++) due("an hour later, what " + what, x.truth(0, 1, what), comes[what]);
        x.broken(0, 0, 2);
        for (int what = 0; what < 4; what++) due("two hours later, what " + what, x.truth(0, 1, what), -1);
        due("but by the timetable", x.due(0, 1, 0), 10000);
    }

    // ---- Promises 13 and 14

    private static void shareAndOwed() {
        OceanMail x = shuttle(10, 10, 1, 5, 3);
        x.broken(0, 0, 2);
        sentence(13, "LINE l (NONE: NOBODY); NONE: no such LINE");
        int[] lines = {-2, 4, LOW, HIGH};
        for (int l : lines) due("line " + l, x.share(0, 1, l), -1);
        shareRow(x, 0, 1, 0, 2, 0, 0, 0);
        due("line 3 is there", x.share(0, 1, 3), 0);
        sentence(13, "NONE: no such VOYAGE");
        int[] voyages = {-1, 1, 10, LOW, HIGH};
        for (int v : voyages) due("voyage " + v, x.share(v, 1, 0), -1);
        sentence(13, "NONE: no such PLACE, PLACE 0");
        int[] places = {-1, 0, 4, 7, LOW, HIGH};
        for (int i : places) for (int l = -1; l < 4; l++) due("place " + i, x.share(0, i, l), -1);
        due("place 3", x.share(0, 3, 0), 2);
        sentence(13, "NONE: it does not come");
        OceanMail y = leavingIn(20000);
        for (int l = -1; l < 4; l++) due("place 2", y.share(0, 2, l), -1);
        due("place 1", y.share(0, 1, 0), 9999);
        y.broken(0, 0, 1);
        due("in hour 20000", y.share(0, 1, 0), 10000);
        y.broken(0, 0, 2);
        due("in hour 20001", y.share(0, 1, 0), -1);
        sentence(14, "NONE: no such LINE");
        int[] none = {-1, 4, LOW, HIGH};
        for (int line : none) due("owed(" + line + ")", x.owed(line), -1);
        told(x, 0, "P10");
        due("owed(0)", x.owed(0), 60);
        due("owed(3)", x.owed(3), 0);
    }

    // ---- Promises 15 and 16

    private static void firstAndLast() {
        OceanMail x = new OceanMail();
        hop(x, 0, 7, 10);
        hop(x, 7, 0, 30);
        boolean[] ways = {false, true};
        for (boolean truth : ways) {
            sentence(15, "NONE: no such two PORTS");
            int[][] bad = {{-1, 7}, {0, -1}, {8, 7}, {0, 8}, {LOW, 7}, {0, HIGH}, {0, 0}, {7, 7}};
            for (int[] b : bad) due("first(" + b[0] + ", " + b[1] + ")", x.first(b[0], b[1], 0, truth), -1);
            due("first(0, 7)", x.first(0, 7, 0, truth), 11);
            due("first(7, 0)", x.first(7, 0, 0, truth), 31);
            sentence(16, "NONE likewise: no such two PORTS");
            for (int[] b : bad) due("last(" + b[0] + ", " + b[1] + ")", x.last(b[0], b[1], 100, truth), -1);
            due("last(0, 7)", x.last(0, 7, 100, truth), 10);
            due("last(7, 0)", x.last(7, 0, 100, truth), 30);
            sentence(15, "in hour h (0 to 20000); NONE: no such h");
            int[] hours = {-1, 20001, LOW, HIGH};
            for (int h : hours) due("first in hour " + h, x.first(0, 7, h, truth), -1);
            sentence(16, "in hour h (0 to 20000); NONE likewise: no such h");
            for (int h : hours) due("last in hour " + h, x.last(0, 7, h, truth), -1);
            due("last in hour 20000", x.last(0, 7, 20000, truth), 10);
            due("last in hour 0", x.last(0, 7, 0, truth), -1);
            sentence(15, "NONE: there is none");
            due("too late", x.first(0, 7, 11, truth), -1);
            due("h 20000", x.first(0, 7, 20000, truth), -1);
            due("no such way", x.first(0, 1, 0, truth), -1);
            sentence(16, "NONE likewise: there is none");
            due("too early", x.last(0, 7, 10, truth), -1);
            due("no such way", x.last(0, 1, 20000, truth), -1);
        }
        hour20000();
    }

    private static void hour20000() {
        sentence(15, "in hour h (0 to 20000): 20000 is taken");
        // Place 4 is left in 5000 + 4 * 3749 + 4 = 20000.
        OceanMail x = shuttle(3749, 1, 1, 5000, 5);
        due("it leaves", x.due(0, 4, 1), 20000);
        due("by the timetable", x.first(0, 1, 20000, false), 23749);
        due("one more hour", x.first(0, 1, 20001, false), -1);
        due("in truth it does not come", x.first(0, 1, 20000, true), -1);
        sentence(16, "in hour h (0 to 20000): 20000 is taken");
        OceanMail y = leavingIn(19900);
        due("by 20000", y.last(0, 2, 20000, true), 1);
        due("by 19999", y.last(0, 2, 19999, true), -1);
    }

    // ---- Promise 17

    private static void rideCall() {
        sentence(17, "NONE: there is none such");
        OceanMail x = new OceanMail();
        due("without any", x.ride(0, 0), -1);
        hop(x, 0, 1, 10);
        hop(x, 1, 2, 12);
        x.first(0, 2, 0, false);
        int[] ks = {-1, 2, 3, 9, 10, LOW, HIGH};
        for (int k : ks) for (int what = 0; what < 3; what++) due("ride " + k, x.ride(k, what), -1);
        int[] whats = {-1, 3, 4, LOW, HIGH};
        for (int what : whats) for (int k = 0; k < 2; k++) due("what " + what, x.ride(k, what), -1);
        ridesAre(x, 0, 0, 1, 1, 0, 1);
        x.first(1, 2, 0, false);
        due("one of one", x.ride(0, 0), 1);
        due("the second is gone", x.ride(1, 0), -1);
    }

    // ---- Promises 18 and 19

    private static void lookAndCount() {
        sentence(18, "NONE for others: VOYAGES");
        OceanMail x = shuttle(10, 10, 1, 5, 0);
        int[] voyages = {-1, 1, 10, LOW, HIGH};
        for (int v : voyages) for (int what = 0; what < 17; what++) due("look(" + v + ", " + what + ")", x.look(v, what), -1);
        sentence(18, "NONE for others: what");
        int[] whats = {-1, 6, 7, 8, 9, 17, 18, 100, LOW, HIGH, LOW + 10};
        for (int what : whats) due("look(0, " + what + ")", x.look(0, what), -1);
        sentence(18, "10 + i the PORT of PLACE i");
        for (int legs = 0; legs <= 6; legs++) {
            for (int i = 0; i <= 8; i++) due("place " + i + " of " + legs, x.look(0, 10 + i), i <= legs ? i % 2 : -1);
            due("LEGS", x.look(0, 4), legs);
            due("PORT of its last PLACE", x.look(0, 5), legs % 2);
            x.leg(0, 0);
        }
        countOthers();
        countWinds();
    }

    private static void countOthers() {
        sentence(19, "NONE for others");
        OceanMail x = shuttle(10, 10, 1, 5, 1);
        for (int what = 4; what < 10; what++) due("count(" + what + ")", x.count(what), -1);
        for (int what = 14; what < 100; what++) due("count(" + what + ")", x.count(what), -1);
        int[] others = {-1, -10, 244, 245, 1000, LOW, HIGH, LOW + 100};
        for (int what : others) due("count(" + what + ")", x.count(what), -1);
        sentence(19, "10 + l P of LINE l");
        for (int line = 0; line < 4; line++) told(x, line, "P" + (line + 1) * 1111);
        for (int line = 0; line < 4; line++) due("P of " + line, x.count(10 + line), (line + 1) * 1111);
    }

    private static void countWinds() {
        sentence(19, "100 + 12 p + m the WIND of PASSAGE p in MONTH m and 1000");
        OceanMail x = new OceanMail();
        for (int p = 0; p <= 12; p++) {
            due("the last of " + p, x.count(99 + 12 * p), p == 0 ? -1 : 1011);
            due("the first one behind " + p, x.count(100 + 12 * p), -1);
            due("passage", x.passage(0, 1, 10), p < 12 ? p : -1);
            if (p < 12) {
                x.wind(p, 11, 11);
                x.wind(p, 0, -p);
                due("month 0", x.count(100 + 12 * p), 1000 - p);
                due("month 1", x.count(101 + 12 * p), 1000);
                due("month 11", x.count(111 + 12 * p), 1011);
            }
        }
        due("the last passage's last month", x.count(243), 1011);
        due("none behind it", x.count(244), -1);
    }
}
