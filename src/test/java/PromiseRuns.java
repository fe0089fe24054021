import java.lang.reflect.Constructor;
import java.lang.reflect.Field;
import java.lang.reflect.Method;
import java.lang.reflect.Modifier;
import java.util.Arrays;
import java.util.TreeSet;

/** Each promise by small cases that were reckoned by hand: ordinary ones, the edges, wrong inputs. */
public final class PromiseRuns {

    private static final int LOW = Integer.MIN_VALUE;
    private static final int HIGH = Integer.MAX_VALUE;
    private static int wrong = 0;
    private static int checks = 0;
    private static int promise = 0;

    private static void due(String call, long got, long want) {
        checks++;
        if (got != want) {
            wrong++;
            System.out.println("promise " + promise + ": " + call + " answered " + got + ", due is " + want);
        }
    }

    private static void due(String call, boolean got, boolean want) {
        due(call, got ? 1 : 0, want ? 1 : 0);
    }

    private static int fed(OceanMail x, String text) {
        int answer = x.count(3);
        for (int at = 0; at < text.length(); at += 20) {
            int[] five = new int[5];
            for (int k = 0; k < 20; k++) {
                five[k / 4] = five[k / 4] << 8 | (at + k < text.length() ? text.charAt(at + k) : 0);
            }
            answer = x.feed(five[0], five[1], five[2], five[3], five[4]);
        }
        return answer;
    }

    private static int told(OceanMail x, int line, String text) {
        fed(x, text);
        return x.contract(line, text.length());
    }

    private static void fault(String text, int number, int place) {
        OceanMail x = new OceanMail();
        due("contract " + text, told(x, 0, text), -2);
        due("fault(0) of " + text, x.fault(0), number);
        due("fault(1) of " + text, x.fault(1), place);
        due("tape behind " + text, x.count(3), 0);
    }

    private static void taken(String text, int clauses) {
        OceanMail x = new OceanMail();
        due("contract " + text, told(x, 0, text), clauses);
        due("fault(0) of " + text, x.fault(0), 0);
        due("fault(1) of " + text, x.fault(1), -1);
    }

    public static void main(String[] args) {
        newObject();
        feed();
        passage();
        wind();
        voyage();
        leg();
        broken();
        meet();
        contract();
        contractFaults();
        fault();
        timetable();
        truth();
        truthEnds();
        waiting();
        waitingLetters();
        share();
        excuseLetters();
        owed();
        first();
        last();
        ride();
        look();
        count();
        face();
        System.out.println(wrong == 0 ? checks + " answers are as due" : wrong + " answers are not as due");
        if (wrong != 0) System.exit(1);
    }

    private static void newObject() {
        promise = 1;
        OceanMail x = new OceanMail();
        for (int what = 0; what < 4; what++) due("count(" + what + ")", x.count(what), 0);
        for (int line = 0; line < 4; line++) due("count of P", x.count(10 + line), 0);
        due("wind of none", x.count(100), -1);
        due("look(0, 0)", x.look(0, 0), -1);
        due("truth(0, 0, 1)", x.truth(0, 0, 1), -1);
        due("due(0, 0, 1)", x.due(0, 0, 1), -1);
        due("owed(0)", x.owed(0), 0);
        due("first", x.first(0, 1, 0, true), -1);
        due("last", x.last(0, 1, 20000, false), -1);
        due("ride(0, 0)", x.ride(0, 0), -1);
        due("fault(0)", x.fault(0), 0);
        due("fault(1)", x.fault(1), -1);
        OceanMail y = new OceanMail();
        x.passage(0, 1, 1);
        due("passages of another one", y.count(0), 0);
        due("NONE", OceanMail.NONE, -1);
    }

    private static void feed() {
        promise = 2;
        OceanMail x = new OceanMail();
        for (int k = 1; k <= 10; k++) due("feed " + k, x.feed(k, LOW, HIGH, 0, -1), 20 * k);
        due("feed 11", x.feed(1, 2, 3, 4, 5), -1);
        due("tape", x.count(3), 200);
        OceanMail y = new OceanMail();
        y.feed('P' << 24 | '1' << 16 | '2' << 8 | '3', '4' << 24 | ';' << 16 | 'P' << 8 | '4', '3' << 24 | '2' << 16, 0, 0);
        due("bytes in their order", y.contract(0, 10), 2);
        due("P", y.count(10), 432);
        y.feed(0, 0, 0, 0, 'P');
        due("an upper byte can't stand", y.contract(0, 20), -2);
        due("its place", y.fault(1), 0);
        y.feed('P' << 24 | '7' << 16 | 0xff, 0, 0, 0, 0);
        due("byte 255", y.contract(0, 4), -2);
        due("its place", y.fault(1), 2);
    }

    private static void passage() {
        promise = 3;
        OceanMail x = new OceanMail();
        int[][] bad = {{0, 0, 5}, {-1, 0, 5}, {0, -1, 5}, {8, 0, 5}, {0, 8, 5}, {LOW, HIGH, 5}, {0, 1, 0}, {0, 1, 10000}, {0, 1, LOW}, {0, 1, HIGH}};
        for (int[] b : bad) due("passage", x.passage(b[0], b[1], b[2]), -1);
        due("none was made", x.count(0), 0);
        due("passage(0, 7, 1)", x.passage(0, 7, 1), 0);
        due("passage(7, 0, 9999)", x.passage(7, 0, 9999), 1);
        for (int k = 2; k < 12; k++) due("passage " + k, x.passage(0, 7, 10), k);
        due("a 13th", x.passage(0, 7, 10), -1);
        due("count(0)", x.count(0), 12);
        x.voyage(0, 7, 1, 1, 0);
        due("both ways, from its end", x.leg(0, 0), 1);
        due("and back", x.leg(0, 0), 2);
        due("port", x.look(0, 5), 7);
        due("one mile", x.due(0, 1, 0), 1);
    }

    private static void wind() {
        promise = 4;
        OceanMail x = new OceanMail();
        x.passage(0, 1, 100);
        due("no such passage", x.wind(1, 0, 1), false);
        due("no such passage", x.wind(-1, 0, 1), false);
        due("no such passage", x.wind(HIGH, 0, 1), false);
        due("no such month", x.wind(0, 12, 1), false);
        due("no such month", x.wind(0, -1, 1), false);
        double[] bad = {51, 51.5, 1e300, Double.POSITIVE_INFINITY, -50.0000001, -51, -1e300, Double.NEGATIVE_INFINITY, 4294967297.0};
        for (double percent : bad) {
            due("wind " + percent, x.wind(0, 3, percent), false);
            due("it stays", x.count(103), 1000);
        }
        double[] good = {50, 50.999999, -50, -49.5, -0.1, -0.0, 0.9, 12.75, -12.75, Double.MIN_VALUE, -Double.MIN_VALUE};
        int[] down = {50, 50, -50, -50, -1, 0, 0, 12, -13, 0, -1};
        for (int k = 0; k < good.length; k++) {
            due("wind " + good[k], x.wind(0, 3, good[k]), true);
            due("rounded down", x.count(103), 1000 + down[k]);
        }
        due("no number", x.wind(0, 3, Double.NaN), true);
        due("counts as 0", x.count(103), 1000);
        due("month 11", x.wind(0, 11, 7), true);
        due("count(111)", x.count(111), 1007);
        due("month 10", x.count(110), 1000);
        // Months are 720 hours long and come again behind the twelfth.
        OceanMail y = new OceanMail();
        y.passage(0, 1, 100);
        y.wind(0, 1, -50);
        y.voyage(0, 0, 10, 1, 719);
        y.leg(0, 0);
        y.voyage(0, 0, 10, 1, 720);
        y.leg(1, 0);
        y.voyage(0, 0, 10, 1, 1439);
        y.leg(2, 0);
        y.voyage(0, 0, 10, 1, 1440);
        y.leg(3, 0);
        due("hour 719", y.truth(0, 1, 0), 729);
        due("hour 720", y.truth(1, 1, 0), 740);
        due("hour 1439", y.truth(2, 1, 0), 1459);
        due("hour 1440", y.truth(3, 1, 0), 1450);
        OceanMail z = new OceanMail();
        z.passage(0, 1, 4320);
        z.passage(0, 1, 10);
        z.wind(1, 0, -50);
        z.voyage(0, 1, 1, 1, 4319);
        z.leg(0, 0);
        z.leg(0, 1);
        due("hour 8640 is in month 0 again", z.truth(0, 1, 1), 8640);
        due("its wind", z.truth(0, 2, 0), 8660);
    }

    private static void voyage() {
        promise = 5;
        OceanMail x = new OceanMail();
        int[][] bad = {{-1, 0, 1, 1, 0}, {4, 0, 1, 1, 0}, {0, -1, 1, 1, 0}, {0, 8, 1, 1, 0}, {0, 0, 0, 1, 0}, {0, 0, 31, 1, 0},
            {0, 0, 1, 0, 0}, {0, 0, 1, 49, 0}, {0, 0, 1, 1, -1}, {0, 0, 1, 1, 5001}, {LOW, 0, 1, 1, 0}, {0, HIGH, 1, 1, 0}};
        for (int[] b : bad) due("voyage", x.voyage(b[0], b[1], b[2], b[3], b[4]), -1);
        due("none was made", x.count(1), 0);
        due("voyage(3, 7, 30, 48, 5000)", x.voyage(3, 7, 30, 48, 5000), 0);
        due("voyage(0, 0, 1, 1, 0)", x.voyage(0, 0, 1, 1, 0), 1);
        for (int k = 2; k < 10; k++) due("voyage " + k, x.voyage(0, 0, 1, 1, 0), k);
        due("an 11th", x.voyage(0, 0, 1, 1, 0), -1);
        due("count(1)", x.count(1), 10);
        due("without legs", x.look(0, 4), 0);
        due("it does not come", x.truth(0, 0, 0), -1);
        due("it does not leave", x.truth(0, 0, 1), -1);
        due("nor wait", x.truth(0, 0, 2), -1);
        due("it is not due to leave", x.due(0, 0, 1), -1);
    }

    private static void leg() {
        promise = 6;
        OceanMail x = new OceanMail();
        x.passage(0, 1, 10);
        x.passage(1, 2, 10);
        x.passage(3, 4, 10);
        x.voyage(0, 0, 10, 1, 0);
        due("no such voyage", x.leg(1, 0), -1);
        due("no such voyage", x.leg(-1, 0), -1);
        due("no such passage", x.leg(0, 3), -1);
        due("no such passage", x.leg(0, -1), -1);
        due("not from here", x.leg(0, 1), -1);
        due("not from here", x.leg(0, 2), -1);
        due("none was made", x.look(0, 4), 0);
        due("leg", x.leg(0, 0), 1);
        due("leg", x.leg(0, 1), 2);
        due("leg", x.leg(0, 1), 3);
        due("leg", x.leg(0, 0), 4);
        due("leg", x.leg(0, 0), 5);
        due("leg", x.leg(0, 0), 6);
        due("a seventh", x.leg(0, 0), -1);
        due("count of legs", x.look(0, 4), 6);
        due("last port", x.look(0, 5), 0);
        due("the last coming", x.truth(0, 6, 0), 11);
    }

    private static void broken() {
        promise = 7;
        OceanMail x = new OceanMail();
        x.passage(0, 1, 10);
        x.voyage(0, 0, 10, 1, 0);
        due("no leg", x.broken(0, 0, 1), false);
        x.leg(0, 0);
        x.leg(0, 0);
        due("no such leg", x.broken(0, 2, 1), false);
        due("no such leg", x.broken(0, -1, 1), false);
        due("no such voyage", x.broken(1, 0, 1), false);
        due("no such voyage", x.broken(-1, 0, 1), false);
        due("hours", x.broken(0, 0, -1), false);
        due("hours", x.broken(0, 0, 501), false);
        due("unbroken", x.truth(0, 1, 0), 1);
        due("500", x.broken(0, 1, 500), true);
        due("it comes", x.truth(0, 2, 0), 503);
        due("due is as it was", x.due(0, 2, 0), 3);
        due("told anew", x.broken(0, 1, 7), true);
        due("it comes", x.truth(0, 2, 0), 10);
        due("0 again", x.broken(0, 1, 0), true);
        due("it comes", x.truth(0, 2, 0), 3);
    }

    private static OceanMail pairOfTwo() {
        OceanMail x = new OceanMail();
        x.passage(0, 1, 10);
        for (int k = 0; k < 5; k++) {
            x.voyage(k % 4, k % 2, 10, 1, 0);
            for (int l = 0; l < 6; l++) x.leg(k, 0);
        }
        return x;
    }

    private static void meet() {
        promise = 8;
        OceanMail x = pairOfTwo();
        due("no such v", x.meet(5, 0, 0, 2), false);
        due("no such v", x.meet(-1, 0, 0, 2), false);
        due("no such u", x.meet(0, 0, 5, 2), false);
        due("no such u", x.meet(0, 0, -1, 2), false);
        due("the last place", x.meet(0, 6, 1, 1), false);
        due("behind it", x.meet(0, 7, 1, 1), false);
        due("ahead of 0", x.meet(0, -1, 1, 1), false);
        due("j is 0", x.meet(0, 1, 1, 0), false);
        due("j behind the last", x.meet(0, 0, 1, 7), false);
        due("two ports", x.meet(0, 0, 1, 2), false);
        due("v is u", x.meet(0, 0, 0, 2), false);
        due("none was made", x.count(2), 0);
        due("j is the last", x.meet(0, 0, 2, 6), true);
        due("one for one v and i", x.meet(0, 0, 2, 4), false);
        due("count(2)", x.count(2), 1);
        for (int i = 1; i < 6; i++) due("v 0", x.meet(0, i, 2, i % 2 == 0 ? 2 : 1), true);
        for (int i = 0; i < 6; i++) due("v 1", x.meet(1, i, 2, i % 2 == 0 ? 1 : 2), true);
        for (int i = 0; i < 6; i++) due("v 2", x.meet(2, i, 4, i % 2 == 0 ? 2 : 1), true);
        due("count(2)", x.count(2), 18);
        due("the 19th", x.meet(3, 0, 4, 1), true);
        due("the 20th", x.meet(3, 1, 4, 2), true);
        due("a 21st", x.meet(3, 2, 4, 1), false);
        due("count(2)", x.count(2), 20);
        OceanMail y = new OceanMail();
        y.passage(0, 1, 10);
        y.voyage(0, 0, 10, 1, 0);
        y.leg(0, 0);
        y.voyage(0, 0, 10, 1, 0);
        y.leg(1, 0);
        due("its last place now", y.meet(0, 1, 1, 1), false);
        y.leg(0, 0);
        due("no more", y.meet(0, 1, 1, 1), true);
    }

    private static void contract() {
        promise = 9;
        OceanMail x = new OceanMail();
        due("empty", x.contract(0, 0), 0);
        due("it has not one", x.contract(0, 1), -1);
        fed(x, "P5;P6;W1:l<1");
        due("no such line", x.contract(4, 2), -1);
        due("no such line", x.contract(-1, 2), -1);
        due("not 21", x.contract(0, 21), -1);
        due("not -1", x.contract(0, -1), -1);
        due("not so many", x.contract(0, HIGH), -1);
        due("not so few", x.contract(0, LOW), -1);
        due("the tape stays", x.count(3), 20);
        due("the first two bytes", x.contract(3, 2), 1);
        due("P", x.count(13), 5);
        due("another line's P", x.count(12), 0);
        due("the tape is empty", x.count(3), 0);
        due("the last P counts", told(x, 3, "P8;X:k>0;P0009;W2:t=1"), 4);
        due("P", x.count(13), 9);
        due("a fault", told(x, 3, "P1;P"), -2);
        due("the contract stays", x.count(13), 9);
        due("without P", told(x, 3, "X:m=11"), 1);
        due("P", x.count(13), 0);
        told(x, 3, "P12");
        fed(x, "P7");
        due("none of the bytes", x.contract(3, 0), 0);
        due("P", x.count(13), 0);
        due("the tape is empty", x.count(3), 0);
        fed(x, "P7");
        x.contract(0, 1);
        due("the tape is empty behind a fault", x.count(3), 0);
        taken("P0;P1;P2;P3;P4;P5;P6;P7;P8;P9;P1;P9999", 12);
        taken("X:((((((((l<1))))))))", 1);
        taken("X:!(!(!(!(l<1))))&!!!!!!!!k=5|((((t>-9999))))", 1);
        taken("W0000:w<-50", 1);
        StringBuilder full = new StringBuilder("X:m=0");
        while (full.length() < 200) full.append("|m=0");
        full.setLength(197);
        full.append("000");
        taken(full.toString(), 1);
    }

    private static void contractFaults() {
        promise = 9;
        fault("Q", 1, 0);
        fault(";", 1, 0);
        fault(" ", 1, 0);
        fault("w1:l<1", 1, 0);
        fault("W", 1, 1);
        fault("W:", 1, 1);
        fault("W-1:l<1", 1, 1);
        fault("W1", 1, 2);
        fault("W1;", 1, 2);
        fault("W12345:l<1", 1, 5);
        fault("W1:", 1, 3);
        fault("X", 1, 1);
        fault("X1:l<1", 1, 1);
        fault("X:", 1, 2);
        fault("X:a<1", 1, 2);
        fault("X:L<1", 1, 2);
        fault("X:-1", 1, 2);
        fault("X:l", 1, 3);
        fault("X:l!1", 1, 3);
        fault("X:l<", 1, 4);
        fault("X:l<-", 1, 5);
        fault("X:l<--1", 1, 5);
        fault("X:l<=1", 1, 4);
        fault("X:l<12345", 1, 8);
        fault("X:l<-12345", 1, 9);
        fault("X:l<1&", 1, 6);
        fault("X:l<1|", 1, 6);
        fault("X:l<1||l<1", 1, 6);
        fault("X:l<1!l<1", 1, 5);
        fault("X:l<1(l<1)", 1, 5);
        fault("X:l<1)", 1, 5);
        fault("X:()", 1, 3);
        fault("X:(l<1", 1, 6);
        fault("X:(l<1;P1", 1, 6);
        fault("X:!", 1, 3);
        fault("X:!)", 1, 3);
        fault("X:l<1:", 1, 5);
        fault("P", 1, 1);
        fault("P-1", 1, 1);
        fault("P12345", 1, 5);
        fault("P1:", 1, 2);
        fault("P1;", 1, 3);
        fault("P1;;P2", 1, 3);
        fault("P1 ;P2", 1, 2);
        String twelve = "P1;P1;P1;P1;P1;P1;P1;P1;P1;P1;P1;P1;";
        fault(twelve, 1, 36);
        fault(twelve + "P", 2, 36);
        fault(twelve + "W", 2, 36);
        fault(twelve + "X", 2, 36);
        fault(twelve + "Q", 1, 36);
        fault("X:(((((((((l<1)))))))))", 3, 10);
        fault("X:!!!!!!!!(l<1)", 3, 10);
        fault("X:((((((((!l<1))))))))", 3, 10);
        fault("X:(!(!(!(!l<1&(l<1)&!l<1&(l<1&!l<1&!(l<1", 3, 30);
        fault("X:(!(!(!(!l<1&(!l<1", 3, 15);
        fault("X:((((((((l<1&(l<1", 3, 14);
        fault("X:!!!!!!!!l<1&!!!!!!!!!l<1", 3, 22);
    }

    private static void fault() {
        promise = 10;
        OceanMail x = new OceanMail();
        told(x, 0, "P1;X:l<");
        due("fault(0)", x.fault(0), 1);
        due("fault(1)", x.fault(1), 7);
        due("fault(2)", x.fault(2), -1);
        due("fault(-1)", x.fault(-1), -1);
        due("fault(LOW)", x.fault(LOW), -1);
        due("fault(HIGH)", x.fault(HIGH), -1);
        due("NONE", x.contract(0, 5), -1);
        due("it stays behind a NONE", x.fault(1), 7);
        x.contract(0, 0);
        due("fault(0)", x.fault(0), 0);
        due("fault(1)", x.fault(1), -1);
    }

    private static void timetable() {
        promise = 11;
        OceanMail x = new OceanMail();
        x.passage(0, 1, 101);
        x.passage(1, 2, 100);
        x.passage(2, 3, 9999);
        x.voyage(0, 0, 10, 7, 50);
        x.leg(0, 0);
        x.leg(0, 1);
        x.voyage(0, 2, 1, 48, 5000);
        for (int k = 0; k < 6; k++) x.leg(1, 2);
        due("due(0, 0, 0)", x.due(0, 0, 0), -1);
        due("due(0, 0, 1)", x.due(0, 0, 1), 50);
        due("rounded up", x.due(0, 1, 0), 61);
        due("due(0, 1, 1)", x.due(0, 1, 1), 68);
        due("due(0, 2, 0)", x.due(0, 2, 0), 78);
        due("the last one", x.due(0, 2, 1), -1);
        due("no such place", x.due(0, 3, 0), -1);
        due("no such place", x.due(0, -1, 1), -1);
        due("no such voyage", x.due(2, 0, 1), -1);
        due("no such voyage", x.due(-1, 0, 1), -1);
        due("what", x.due(0, 1, 2), -1);
        due("what", x.due(0, 1, -1), -1);
        due("far behind hour 20000", x.due(1, 6, 0), 5000 + 6 * 9999 + 5 * 48);
        due("far behind hour 20000", x.due(1, 5, 1), 5000 + 5 * 9999 + 5 * 48);
        x.wind(0, 0, -50);
        x.broken(0, 0, 100);
        due("it knows no winds and breaks", x.due(0, 2, 0), 78);
        x.leg(0, 2);
        due("no more the last", x.due(0, 2, 1), 85);
    }

    private static void truth() {
        promise = 12;
        OceanMail x = new OceanMail();
        x.passage(0, 1, 100);
        x.passage(1, 2, 100);
        x.voyage(0, 0, 10, 5, 100);
        x.leg(0, 0);
        x.leg(0, 1);
        x.wind(0, 0, 3);
        due("100 / 10.3 rounded up", x.truth(0, 1, 0), 110);
        x.wind(0, 0, 25);
        due("ahead of time", x.truth(0, 1, 0), 108);
        due("not LATE", x.truth(0, 1, 3), 0);
        due("it leaves not ahead of its hour", x.truth(0, 1, 1), 115);
        due("that is no waiting", x.truth(0, 1, 2), 0);
        x.wind(0, 0, -1);
        due("100 / 9.9 rounded up", x.truth(0, 1, 0), 111);
        x.wind(0, 0, -50);
        due("half as fast", x.truth(0, 1, 0), 120);
        due("it stays all its hours", x.truth(0, 1, 1), 125);
        due("LATE", x.truth(0, 1, 3), 10);
        due("LATE", x.truth(0, 2, 3), 10);
        x.wind(1, 0, 50);
        due("100 / 15 rounded up", x.truth(0, 2, 0), 132);
        due("less LATE", x.truth(0, 2, 3), 7);
        due("the first place", x.truth(0, 0, 0), -1);
        due("the first place", x.truth(0, 0, 3), -1);
        due("the first place", x.truth(0, 0, 1), 100);
        due("the last place", x.truth(0, 2, 1), -1);
        due("the last place", x.truth(0, 2, 2), -1);
        due("what", x.truth(0, 1, 4), -1);
        due("what", x.truth(0, 1, -1), -1);
        due("no such place", x.truth(0, 3, 0), -1);
        due("no such place", x.truth(0, -1, 1), -1);
        due("no such voyage", x.truth(1, 0, 1), -1);
        due("no such voyage", x.truth(-1, 0, 1), -1);
    }

    private static void truthEnds() {
        promise = 12;
        OceanMail x = new OceanMail();
        x.passage(0, 1, 9999);
        x.passage(0, 1, 4902);
        x.passage(0, 1, 1);
        x.voyage(0, 0, 1, 48, 5000);
        x.leg(0, 0);
        x.leg(0, 1);
        x.leg(0, 2);
        due("it comes", x.truth(0, 1, 0), 14999);
        due("it leaves", x.truth(0, 1, 1), 15047);
        due("it comes", x.truth(0, 2, 0), 19949);
        due("it leaves", x.truth(0, 2, 1), 19997);
        due("it comes", x.truth(0, 3, 0), 19998);
        x.broken(0, 2, 2);
        due("in hour 20000", x.truth(0, 3, 0), 20000);
        due("LATE", x.truth(0, 3, 3), 2);
        x.broken(0, 2, 3);
        due("behind hour 20000", x.truth(0, 3, 0), -1);
        due("LATE", x.truth(0, 3, 3), -1);
        due("share", x.share(0, 3, 0), -1);
        due("it has left", x.truth(0, 2, 1), 19997);
        x.broken(0, 1, 3);
        due("it leaves in hour 20000", x.truth(0, 2, 1), 20000);
        x.broken(0, 1, 4);
        due("it does not leave", x.truth(0, 2, 1), -1);
        due("waited", x.truth(0, 2, 2), -1);
        due("it came", x.truth(0, 2, 0), 19953);
        due("first", x.first(1, 0, 0, true), 19953);
        due("by the timetable", x.due(0, 3, 0), 19998);
        due("one that never comes", x.first(1, 0, 15048, true), -1);
    }

    /** Voyage 0 of line 1 is due in port 1 in hour 5; voyage 1 of line 2 leaves there in hour 4. */
    private static OceanMail twoThatMeet() {
        OceanMail x = new OceanMail();
        x.passage(0, 1, 50);
        x.passage(1, 2, 30);
        x.voyage(1, 0, 10, 1, 0);
        x.leg(0, 0);
        x.voyage(2, 1, 10, 1, 4);
        x.leg(1, 1);
        x.meet(1, 0, 0, 1);
        return x;
    }

    private static void leaves(String text, int breaks, int hour) {
        OceanMail x = twoThatMeet();
        x.broken(0, 0, breaks);
        told(x, 2, text);
        due("leaving under " + text, x.truth(1, 0, 1), hour);
        due("waited under " + text, x.truth(1, 0, 2), hour - 4);
        due("share under " + text, x.share(1, 1, 1), hour - 4);
    }

    private static void waiting() {
        promise = 12;
        leaves("", 10, 4);
        leaves("X:t<9", 10, 4);
        leaves("W0:m=0", 10, 4);
        leaves("W1:m=0", 10, 5);
        leaves("W10:m=0", 10, 14);
        leaves("W99:m=0", 10, 15);
        leaves("W3:m=0;W5:m=0;W4:m=0", 10, 9);
        leaves("W99:m=1", 10, 4);
        leaves("W9999:m=0", 500, 505);
        // The other line's contract does not count.
        OceanMail x = twoThatMeet();
        told(x, 1, "W99:m=0");
        due("another line's contract", x.truth(1, 0, 1), 4);
        told(x, 2, "W99:m=0");
        due("it comes in that hour", x.truth(1, 0, 1), 5);
        // One that never comes, and one that waits for the one that waits for it.
        OceanMail y = pairOfTwo();
        y.meet(0, 0, 2, 2);
        y.meet(2, 0, 0, 2);
        told(y, 0, "W9:l>-100");
        told(y, 2, "W9999:m<12");
        due("the one gives up", y.truth(0, 0, 1), 9);
        due("the other waits for it", y.truth(2, 0, 1), y.truth(0, 2, 0));
        told(y, 0, "W9999:m<12");
        due("both give up", y.truth(0, 0, 1), 9999);
        due("in one hour", y.truth(2, 0, 1), 9999);
        due("hours waited", y.share(0, 1, 2), 9999);
        due("hours waited", y.share(2, 1, 0), 9999);
        // A stay at a place between: the waiting begins when it is ready.
        OceanMail z = new OceanMail();
        z.passage(0, 1, 50);
        z.voyage(0, 0, 10, 3, 0);
        z.leg(0, 0);
        z.leg(0, 0);
        z.voyage(1, 0, 10, 3, 6);
        z.leg(1, 0);
        z.meet(0, 1, 1, 1);
        told(z, 0, "W9:t<2");
        due("ready in 8", z.truth(0, 1, 1), 10);
        told(z, 0, "W9:t<3");
        due("u comes in 11", z.truth(0, 1, 1), 11);
        told(z, 0, "W9:t<9");
        due("and it is gone then", z.truth(0, 1, 1), 11);
        due("the way goes on", z.truth(0, 2, 0), 16);
        due("LATE", z.truth(0, 2, 3), 3);
        due("of u's line", z.share(0, 2, 1), 3);
    }

    private static void waitingLetters() {
        promise = 12;
        // l: the hour behind u's due coming, below 0 ahead of it.
        leaves("W99:l<0", 10, 5);
        leaves("W99:l<-1", 10, 4);
        leaves("W99:l=-1", 10, 5);
        leaves("W99:l>-2&l<3", 10, 8);
        leaves("W99:l=-1|l=0|l=1|l=3", 10, 7);
        leaves("W99:!l>6", 10, 12);
        // t: hours waited so far.
        leaves("W99:t=0|t=1|t>2", 10, 6);
        leaves("W99:t<3|t=3&l=2", 10, 8);
        leaves("W99:(t<3|t=3)&l<2", 10, 7);
        leaves("W99:!t=4&!!t<7", 10, 8);
        leaves("W2:l<9;W5:t>1", 10, 9);
        leaves("W2:l<9;W5:t>2", 10, 6);
        // w, k and m: of v's own coming leg.
        OceanMail x = twoThatMeet();
        x.broken(0, 0, 10);
        told(x, 2, "W99:w=-7");
        due("no wind", x.truth(1, 0, 1), 4);
        x.wind(0, 0, -7);
        due("the wind of u's leg", x.truth(1, 0, 1), 4);
        x.wind(1, 0, -7);
        due("the wind of v's leg", x.truth(1, 0, 1), 16);
        told(x, 2, "W99:k>3");
        due("u's break", x.truth(1, 0, 1), 4);
        x.broken(1, 0, 4);
        due("v's break", x.truth(1, 0, 1), 16);
        // The month turns while it waits.
        OceanMail y = new OceanMail();
        y.passage(0, 1, 50);
        y.voyage(1, 0, 10, 1, 700);
        y.leg(0, 0);
        y.voyage(2, 1, 10, 1, 700);
        y.leg(1, 0);
        y.meet(1, 0, 0, 1);
        y.broken(0, 0, 100);
        told(y, 2, "W99:m=0");
        due("till its end", y.truth(1, 0, 1), 720);
        y.wind(0, 1, 5);
        told(y, 2, "W99:!w=5");
        due("till the wind turns", y.truth(1, 0, 1), 720);
        due("with the new wind", y.truth(1, 1, 0), 725);
        y.wind(0, 1, -50);
        due("under another wind", y.truth(1, 0, 1), 799);
        due("with that wind", y.truth(1, 1, 0), 809);
    }

    private static void share() {
        promise = 13;
        OceanMail x = new OceanMail();
        x.passage(0, 1, 100);
        x.passage(1, 2, 100);
        x.passage(2, 3, 100);
        x.passage(3, 4, 100);
        x.voyage(2, 0, 10, 5, 0);
        for (int k = 0; k < 4; k++) x.leg(0, k);
        x.voyage(0, 2, 10, 5, 0);
        x.leg(1, 1);
        x.voyage(3, 3, 10, 5, 0);
        x.leg(2, 2);
        x.meet(0, 1, 1, 1);
        x.meet(0, 2, 2, 1);
        x.broken(1, 0, 10);
        x.broken(2, 0, 500);
        told(x, 2, "W4:l<99;X:k=2");
        x.broken(0, 0, 2);
        // Ready in 17 at place 1; voyage 1 comes in 20. Ready in 35 at place 2; voyage 2 comes in 510.
        due("nobody's", x.share(0, 1, -1), 2);
        due("LATE", x.truth(0, 1, 3), 2);
        due("waited", x.truth(0, 1, 2), 3);
        due("of line 0", x.share(0, 2, 0), 3);
        due("not at the place before", x.share(0, 1, 0), 0);
        due("nobody's", x.share(0, 2, -1), 2);
        due("waited", x.truth(0, 2, 2), 4);
        due("of line 3", x.share(0, 3, 3), 4);
        due("its own", x.share(0, 3, 2), 0);
        x.broken(0, 2, 6);
        due("its own", x.share(0, 3, 2), 6);
        due("LATE", x.truth(0, 3, 3), 15);
        // Taken away: nobody's 2 first, then of its own 6.
        int[][] wind = {{0, 2, 6, 3, 4}, {11, 2, 6, 3, 4}, {24, 1, 6, 3, 4}, {25, 0, 6, 3, 4}, {42, 0, 6, 3, 4}, {43, 0, 5, 3, 4}};
        for (int[] w : wind) {
            x.wind(3, 0, w[0]);
            due("nobody's under " + w[0], x.share(0, 4, -1), w[1]);
            due("its own under " + w[0], x.share(0, 4, 2), w[2]);
            due("line 0's under " + w[0], x.share(0, 4, 0), w[3]);
            due("line 3's under " + w[0], x.share(0, 4, 3), w[4]);
            due("line 1's under " + w[0], x.share(0, 4, 1), 0);
        }
        int[] bad = {-2, 4, LOW, HIGH};
        for (int l : bad) due("no such line", x.share(0, 1, l), -1);
        due("place 0", x.share(0, 0, 2), -1);
        due("no such place", x.share(0, 5, 2), -1);
        due("no such voyage", x.share(3, 1, 2), -1);
        due("no such voyage", x.share(-1, 1, 2), -1);
        takenByNumbers();
    }

    private static void takenByNumbers() {
        OceanMail x = new OceanMail();
        x.passage(0, 1, 10);
        x.passage(1, 0, 100);
        x.voyage(1, 0, 10, 1, 0);
        for (int k = 0; k < 5; k++) x.leg(0, 0);
        x.leg(0, 1);
        int[] lines = {3, 2, 0, 1};
        for (int k = 0; k < 4; k++) {
            x.voyage(lines[k], 0, 1, 1, 5000);
            x.leg(1 + k, 0);
            x.leg(1 + k, 0);
            x.meet(0, k, 1 + k, k % 2 == 0 ? 2 : 1);
        }
        told(x, 1, "W1:m=0");
        x.broken(0, 4, 1);
        int[] winds = {0, 12, 25, 43};
        int[][] left = {{0, 1, 2, 1, 1}, {0, 1, 1, 1, 1}, {0, 1, 0, 1, 1}, {0, 0, 0, 1, 1}};
        for (int k = 0; k < winds.length; k++) {
            x.wind(1, 0, winds[k]);
            for (int l = -1; l < 4; l++) due("left of " + l + " under " + winds[k], x.share(0, 6, l), left[k][1 + l]);
        }
        OceanMail y = new OceanMail();
        y.passage(0, 1, 10);
        y.passage(1, 0, 30);
        y.voyage(1, 0, 10, 1, 0);
        y.leg(0, 0);
        y.leg(0, 1);
        y.broken(0, 0, 1);
        y.wind(1, 0, 50);
        due("one is taken", y.share(0, 2, 1), 0);
        due("not LATE", y.truth(0, 2, 3), 0);
        y.broken(0, 0, 0);
        due("not below 0", y.share(0, 2, 1), 0);
        due("ahead of time", y.truth(0, 2, 0), y.due(0, 2, 0) - 1);
    }

    private static void excused(String text, boolean want) {
        // Leaves in 718 behind 3 hours of waiting, comes in 734: 4 hours of wind and break above the table's 12, LATE 7.
        OceanMail x = new OceanMail();
        x.passage(0, 1, 120);
        x.voyage(1, 1, 10, 1, 0);
        x.leg(0, 0);
        x.voyage(2, 0, 10, 1, 715);
        x.leg(1, 0);
        x.voyage(1, 1, 10, 1, 1000);
        x.leg(2, 0);
        x.meet(1, 0, 2, 1);
        x.wind(0, 0, -20);
        x.wind(0, 1, 11);
        x.broken(1, 0, 1);
        told(x, 2, "W3:m=0;" + text);
        due("waited under " + text, x.truth(1, 0, 2), 3);
        due("LATE under " + text, x.truth(1, 1, 3), 7);
        due("nobody's under " + text, x.share(1, 1, -1), want ? 4 : 0);
        due("its own under " + text, x.share(1, 1, 2), want ? 0 : 4);
        due("line 1's under " + text, x.share(1, 1, 1), 3);
    }

    private static void excuseLetters() {
        promise = 13;
        excused("X:l=7", true);
        excused("X:l=4", false);
        excused("X:t=3", true);
        excused("X:t=0", false);
        excused("X:w=-20", true);
        excused("X:w=11", false);
        excused("X:k=1", true);
        excused("X:k=0", false);
        excused("X:m=1", true);
        excused("X:m=0", false);
        excused("X:m=0;X:k=9;X:t<4", true);
        excused("X:m=0&k=1|l>7|!(t>2)", false);
        excused("W99:k=9", false);
    }

    private static void owed() {
        promise = 14;
        OceanMail x = twoThatMeet();
        x.broken(0, 0, 10);
        x.broken(1, 0, 6);
        told(x, 2, "W3:m=0;P7");
        due("line 1 to voyage 1", x.owed(1), 3 * 7);
        due("line 2 to itself", x.owed(2), 6 * 7);
        told(x, 1, "P5");
        due("line 1", x.owed(1), 3 * 7 + 10 * 5);
        due("line 0", x.owed(0), 0);
        x.leg(1, 1);
        due("at two places", x.owed(2), 2 * 6 * 7);
        due("at two places", x.owed(1), 2 * 3 * 7 + 10 * 5);
        told(x, 2, "W3:m=0;P7;X:k=6");
        due("nobody owes", x.owed(2), 0);
        due("no such line", x.owed(4), -1);
        due("no such line", x.owed(-1), -1);
        due("no such line", x.owed(LOW), -1);
        OceanMail y = new OceanMail();
        y.passage(0, 1, 9999);
        y.passage(0, 1, 1);
        y.wind(0, 0, -50);
        for (int k = 0; k < 10; k++) {
            y.voyage(0, 0, 1, 1, 0);
            y.leg(k, 0);
            for (int l = 0; l < 5; l++) y.leg(k, 1);
            y.broken(k, 0, 0);
        }
        told(y, 0, "P9999");
        // It comes in 19998, one place further in 20000, and no further.
        due("it comes", y.truth(0, 2, 0), 20000);
        due("it does not come", y.truth(0, 3, 0), -1);
        due("more than an int", y.owed(0), 10L * 2 * 9999 * 9999);
    }

    private static OceanMail letters() {
        OceanMail x = new OceanMail();
        x.passage(0, 1, 10);
        x.passage(1, 2, 10);
        x.passage(0, 2, 60);
        x.voyage(0, 0, 10, 2, 10);
        x.leg(0, 0);
        x.leg(0, 1);
        x.voyage(1, 0, 10, 1, 5);
        x.leg(1, 2);
        x.voyage(2, 1, 10, 1, 12);
        x.leg(2, 1);
        return x;
    }

    private static void first() {
        promise = 15;
        OceanMail x = letters();
        due("from ship to ship", x.first(0, 2, 6, false), 13);
        due("the straight one", x.first(0, 2, 0, false), 11);
        due("in that hour", x.first(0, 2, 5, false), 11);
        due("in the last one", x.first(0, 2, 10, false), 13);
        due("too late", x.first(0, 2, 11, false), -1);
        due("between", x.first(0, 1, 0, false), 11);
        due("from a place between", x.first(1, 2, 12, false), 13);
        due("from a place between", x.first(1, 2, 13, false), 14);
        due("nothing goes there", x.first(2, 0, 0, false), -1);
        due("a is b", x.first(1, 1, 0, false), -1);
        int[] bad = {-1, 8, LOW, HIGH};
        for (int port : bad) {
            due("no such port", x.first(port, 1, 0, false), -1);
            due("no such port", x.first(1, port, 0, false), -1);
        }
        int[] hours = {-1, 20001, LOW, HIGH};
        for (int hour : hours) due("no such hour", x.first(0, 2, hour, false), -1);
        x.broken(0, 0, 3);
        due("in truth", x.first(0, 1, 0, true), 14);
        due("by the timetable", x.first(0, 1, 0, false), 11);
        due("in truth", x.first(0, 2, 6, true), 17);
        OceanMail y = new OceanMail();
        y.passage(0, 1, 10);
        y.passage(1, 2, 10);
        y.voyage(0, 0, 10, 1, 5);
        y.leg(0, 0);
        y.voyage(0, 1, 10, 1, 6);
        y.leg(1, 1);
        due("in the hour of its coming it is not ashore", y.first(0, 2, 0, false), -1);
        y.voyage(0, 1, 10, 1, 7);
        y.leg(2, 1);
        due("in the hour behind it is", y.first(0, 2, 0, false), 8);
        OceanMail z = new OceanMail();
        z.passage(0, 1, 9999);
        z.voyage(0, 0, 1, 1, 5000);
        z.leg(0, 0);
        z.leg(0, 0);
        z.leg(0, 0);
        due("h 20000 by the timetable", z.first(0, 1, 20000, false), 5000 + 3 * 9999 + 2);
        due("h 20000 in truth", z.first(0, 1, 20000, true), -1);
    }

    private static void last() {
        promise = 16;
        OceanMail x = letters();
        due("by hour 13", x.last(0, 2, 13, false), 10);
        due("by hour 12", x.last(0, 2, 12, false), 5);
        due("by hour 11", x.last(0, 2, 11, false), 5);
        due("by hour 10", x.last(0, 2, 10, false), -1);
        due("from 1 by 14", x.last(1, 2, 14, false), 13);
        due("from 1 by 13", x.last(1, 2, 13, false), 12);
        due("nothing goes there", x.last(2, 0, 20000, false), -1);
        due("a is b", x.last(1, 1, 100, false), -1);
        int[] bad = {-1, 8, LOW, HIGH};
        for (int port : bad) {
            due("no such port", x.last(port, 1, 100, false), -1);
            due("no such port", x.last(1, port, 100, false), -1);
        }
        int[] hours = {-1, 20001, LOW, HIGH};
        for (int hour : hours) due("no such hour", x.last(0, 2, hour, false), -1);
        due("hour 20000", x.last(0, 2, 20000, false), 10);
        x.broken(0, 0, 3);
        due("in truth", x.last(0, 2, 16, true), 5);
        due("in truth", x.last(0, 2, 17, true), 10);
        due("by the timetable", x.last(0, 2, 16, false), 10);
        x.first(0, 2, 6, false);
        x.last(1, 2, 13, false);
        due("it leaves the rides alone", x.ride(0, 0), 0);
    }

    private static void rides(OceanMail x, int... parts) {
        for (int k = 0; k < parts.length; k++) due("ride(" + k / 3 + ", " + k % 3 + ")", x.ride(k / 3, k % 3), parts[k]);
        for (int what = 0; what < 3; what++) due("one more ride", x.ride(parts.length / 3, what), -1);
    }

    private static void ride() {
        promise = 17;
        OceanMail x = letters();
        x.first(0, 2, 6, false);
        rides(x, 0, 0, 1, 2, 0, 1);
        x.first(1, 2, 0, false);
        rides(x, 2, 0, 1);
        due("what", x.ride(0, 3), -1);
        due("what", x.ride(0, -1), -1);
        due("k", x.ride(-1, 0), -1);
        due("k", x.ride(HIGH, 0), -1);
        due("k", x.ride(LOW, 0), -1);
        x.first(2, 0, 0, false);
        x.first(0, 2, 20001, false);
        rides(x, 2, 0, 1);
        x.broken(2, 0, 50);
        rides(x, 2, 0, 1);
        // Fewer rides first, though their numbers are greater; then the least number, place aboard, place ashore.
        OceanMail y = new OceanMail();
        y.passage(0, 1, 10);
        y.passage(1, 2, 10);
        y.passage(1, 3, 10);
        y.voyage(0, 0, 10, 1, 0);
        y.leg(0, 0);
        y.voyage(0, 1, 10, 1, 9);
        y.leg(1, 1);
        y.voyage(0, 0, 10, 1, 8);
        y.leg(2, 0);
        due("by two rides", y.first(0, 2, 0, false), 10);
        rides(y, 0, 0, 1, 1, 0, 1);
        y.voyage(0, 0, 10, 7, 1);
        y.leg(3, 0);
        y.leg(3, 1);
        due("by one ride", y.first(0, 2, 0, false), 10);
        rides(y, 3, 0, 2);
        OceanMail z = new OceanMail();
        z.passage(0, 1, 10);
        z.passage(1, 2, 10);
        z.voyage(0, 0, 10, 1, 0);
        z.leg(0, 0);
        z.leg(0, 0);
        z.leg(0, 0);
        z.voyage(0, 1, 10, 1, 20);
        z.leg(1, 1);
        due("the least places", z.first(0, 2, 0, false), 21);
        rides(z, 0, 0, 1, 1, 0, 1);
        due("the first place is gone", z.first(0, 2, 1, false), 21);
        rides(z, 0, 2, 3, 1, 0, 1);
        // Seven voyages, one behind the other.
        OceanMail w = new OceanMail();
        for (int p = 0; p < 7; p++) w.passage(p, p + 1, 10);
        for (int v = 0; v < 7; v++) {
            w.voyage(0, 6 - v, 10, 1, 100 - 2 * v);
            w.leg(v, 6 - v);
        }
        due("seven rides", w.first(0, 7, 0, true), 101);
        rides(w, 6, 0, 1, 5, 0, 1, 4, 0, 1, 3, 0, 1, 2, 0, 1, 1, 0, 1, 0, 0, 1);
        due("the last hour", w.last(0, 7, 101, true), 88);
        due("none", w.last(0, 7, 100, true), -1);
    }

    private static void look() {
        promise = 18;
        OceanMail x = new OceanMail();
        x.passage(5, 6, 10);
        x.voyage(3, 6, 17, 29, 4321);
        int[] told = {3, 17, 29, 4321, 0, 6};
        for (int what = 0; what < 6; what++) due("look(0, " + what + ")", x.look(0, what), told[what]);
        due("place 0", x.look(0, 10), 6);
        due("no place 1", x.look(0, 11), -1);
        x.leg(0, 0);
        due("legs", x.look(0, 4), 1);
        due("last port", x.look(0, 5), 5);
        due("place 1", x.look(0, 11), 5);
        due("no place 2", x.look(0, 12), -1);
        int[] others = {-1, 6, 7, 8, 9, 12, 17, 100, LOW, HIGH};
        for (int what : others) due("look(0, " + what + ")", x.look(0, what), -1);
        due("no such voyage", x.look(1, 0), -1);
        due("no such voyage", x.look(-1, 0), -1);
        due("no such voyage", x.look(HIGH, 10), -1);
        for (int k = 0; k < 5; k++) x.leg(0, 0);
        due("place 6", x.look(0, 16), 6);
        due("no place 7", x.look(0, 17), -1);
    }

    private static void count() {
        promise = 19;
        OceanMail x = new OceanMail();
        x.passage(0, 1, 10);
        x.passage(0, 1, 10);
        x.wind(1, 11, -50);
        x.wind(1, 0, 50);
        due("count(0)", x.count(0), 2);
        due("count(112)", x.count(112), 1050);
        due("count(123)", x.count(123), 950);
        due("count(100)", x.count(100), 1000);
        due("no such passage", x.count(124), -1);
        for (int p = 2; p < 12; p++) x.passage(0, 1, 10);
        due("count(243)", x.count(243), 1000);
        due("count(244)", x.count(244), -1);
        told(x, 3, "P77");
        due("count(13)", x.count(13), 77);
        x.feed(0, 0, 0, 0, 0);
        due("count(3)", x.count(3), 20);
        int[] others = {-1, 4, 5, 9, 14, 99, 1000, LOW, HIGH};
        for (int what : others) due("count(" + what + ")", x.count(what), -1);
    }

    private static void face() {
        promise = 0;
        TreeSet<String> seen = new TreeSet<>();
        TreeSet<String> names = new TreeSet<>();
        for (Method m : OceanMail.class.getDeclaredMethods()) {
            if (Modifier.isPrivate(m.getModifiers())) continue;
            due("public " + m.getName(), Modifier.isPublic(m.getModifiers()), true);
            due("static " + m.getName(), Modifier.isStatic(m.getModifiers()), false);
            seen.add(m.getReturnType() + " " + m.getName() + Arrays.toString(m.getParameterTypes()));
            names.add(m.getName());
        }
        for (Method m : OceanMail.class.getDeclaredMethods()) {
            if (Modifier.isPrivate(m.getModifiers())) due("a private " + m.getName(), names.contains(m.getName()), false);
        }
        String[] all = {
            "int feed[int, int, int, int, int]", "int passage[int, int, int]", "boolean wind[int, int, double]",
            "int voyage[int, int, int, int, int]", "int leg[int, int]", "boolean broken[int, int, int]",
            "boolean meet[int, int, int, int]", "int contract[int, int]", "int fault[int]", "int due[int, int, int]",
            "int truth[int, int, int]", "int share[int, int, int]", "long owed[int]", "int first[int, int, int, boolean]",
            "int last[int, int, int, boolean]", "int ride[int, int]", "int look[int, int]", "int count[int]"};
        due("the methods " + seen, seen.equals(new TreeSet<>(Arrays.asList(all))), true);
        for (Field f : OceanMail.class.getDeclaredFields()) {
            due("field " + f.getName(), Modifier.isPrivate(f.getModifiers()), !f.getName().equals("NONE"));
        }
        due("NONE", OceanMail.NONE, -1);
        Constructor<?>[] constructors = OceanMail.class.getDeclaredConstructors();
        due("constructors", constructors.length, 1);
        due("public", Modifier.isPublic(constructors[0].getModifiers()), true);
        due("without parameters", constructors[0].getParameterCount(), 0);
        due("a public class", Modifier.isPublic(OceanMail.class.getModifiers()), true);
        due("final", Modifier.isFinal(OceanMail.class.getModifiers()), true);
    }
}
