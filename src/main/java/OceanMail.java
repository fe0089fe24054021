import java.util.Arrays;

/** An office of ocean mails: timetables, winds, contracts, true times, late hours and letters. */
public final class OceanMail {

    public static final int NONE = -1;

    private static final int PORTS = 8;
    private static final int LINES = 4;
    private static final int MONTHS = 12;
    private static final int MONTH_HOURS = 720;
    private static final int MOST_PASSAGES = 12;
    private static final int MOST_MILES = 9999;
    private static final int MOST_WIND = 50;
    private static final int MOST_VOYAGES = 10;
    private static final int MOST_SPEED = 30;
    private static final int MOST_STAY = 48;
    private static final int MOST_START = 5000;
    private static final int MOST_LEGS = 6;
    private static final int MOST_PLACES = 7;
    private static final int MOST_BREAK = 500;
    private static final int MOST_MEETINGS = 20;
    private static final int MOST_BYTES = 200;
    private static final int FED_BYTES = 20;
    private static final int LAST_HOUR = 20000;

    /** Above every hour that can be reckoned. */
    private static final int NEVER = 1000000;

    /** Shares of late hours: nobody's at 0, then a line's at 1 + its number. */
    private static final int HOLDERS = 5;
    private static final int NOBODY = 0;

    private static final int MOST_CLAUSES = 12;
    private static final int MOST_OPEN = 8;
    private static final int MOST_DIGITS = 4;
    private static final int NO_FAULT = 0;
    private static final int OUT_OF_PLACE = 1;
    private static final int CLAUSE_TOO_MANY = 2;
    private static final int OPEN_TOO_MANY = 3;

    /** What the letters of a contract stand for, as places in a row of facts. */
    private static final int FACTS = 5;
    private static final int FACT_L = 0;
    private static final int FACT_T = 1;
    private static final int FACT_W = 2;
    private static final int FACT_K = 3;
    private static final int FACT_M = 4;

    /** Nobody rides on one voyage twice: staying aboard does as well. */
    private static final int MOST_RIDES = 10;
    private static final int RIDE_PARTS = 3;

    private final Books books;
    private final Tape tape;
    private final Reader reader;
    private final Course course;
    private final Post post;

    public OceanMail() {
        books = new Books();
        tape = new Tape();
        reader = new Reader();
        course = new Course();
        post = new Post();
    }

    public int feed(int a, int b, int c, int d, int e) {
        if (tape.size + FED_BYTES > MOST_BYTES) {
            return NONE;
        }
        tape.addBytes(a);
        tape.addBytes(b);
        tape.addBytes(c);
        tape.addBytes(d);
        tape.addBytes(e);
        return tape.size;
    }

    public int passage(int a, int b, int miles) {
        if (!areTwoPorts(a, b) || miles < 1 || miles > MOST_MILES || books.chart.size >= MOST_PASSAGES) {
            return NONE;
        }
        return books.chart.add(a, b, miles);
    }

    public boolean wind(int p, int month, double percent) {
        if (!books.chart.has(p) || month < 0 || month >= MONTHS) {
            return false;
        }
        double told = percent != percent ? 0.0 : percent;
        if (!(told >= (double) -MOST_WIND && told < (double) (MOST_WIND + 1))) {
            return false;
        }
        books.chart.winds[p * MONTHS + month] = roundedDown(told);
        course.isOld = true;
        return true;
    }

    public int voyage(int line, int port, int speed, int stay, int start) {
        if (!isLine(line) || !isPort(port) || speed < 1 || speed > MOST_SPEED) {
            return NONE;
        }
        if (stay < 1 || stay > MOST_STAY || start < 0 || start > MOST_START) {
            return NONE;
        }
        if (books.voyageCount >= MOST_VOYAGES) {
            return NONE;
        }
        int number = books.voyageCount;
        books.voyages[number].begin(line, port, speed, stay, start);
        books.voyageCount = number + 1;
        course.isOld = true;
        return number;
    }

    public int leg(int v, int p) {
        if (!books.hasVoyage(v) || !books.chart.has(p) || books.voyages[v].legs >= MOST_LEGS) {
            return NONE;
        }
        Voyage voyage = books.voyages[v];
        int port = books.chart.otherEnd(p, voyage.endPort());
        if (port == NONE) {
            return NONE;
        }
        voyage.addLeg(p, port, books.chart.miles[p]);
        course.isOld = true;
        return voyage.legs;
    }

    public boolean broken(int v, int i, int hours) {
        if (!books.hasVoyage(v) || !books.voyages[v].leavesFrom(i) || hours < 0 || hours > MOST_BREAK) {
            return false;
        }
        books.voyages[v].breakHours[i] = hours;
        course.isOld = true;
        return true;
    }

    public boolean meet(int v, int i, int u, int j) {
        if (!books.hasVoyage(v) || !books.hasVoyage(u) || v == u || books.meetings >= MOST_MEETINGS) {
            return false;
        }
        Voyage waiting = books.voyages[v];
        Voyage awaited = books.voyages[u];
        if (!waiting.leavesFrom(i) || !awaited.comesTo(j) || waiting.ports[i] != awaited.ports[j]) {
            return false;
        }
        if (waiting.awaitedVoyage[i] != NONE) {
            return false;
        }
        waiting.awaitedVoyage[i] = u;
        waiting.awaitedPlace[i] = j;
        books.meetings++;
        course.isOld = true;
        return true;
    }

    public int contract(int line, int n) {
        if (!isLine(line) || n < 0 || n > tape.size) {
            return NONE;
        }
        boolean taken = reader.read(tape.bytes, n, books.spare);
        tape.size = 0;
        if (!taken) {
            return -2;
        }
        Contract former = books.contracts[line];
        books.contracts[line] = books.spare;
        books.spare = former;
        course.isOld = true;
        return books.contracts[line].clauses;
    }

    public int fault(int what) {
        switch (what) {
            case 0: return reader.faultNumber;
            case 1: return reader.faultPlace;
            default: return NONE;
        }
    }

    public int due(int v, int i, int what) {
        if (!books.hasVoyage(v)) {
            return NONE;
        }
        Voyage voyage = books.voyages[v];
        if (what == 0 && voyage.comesTo(i)) {
            return voyage.dueCome[i];
        }
        if (what == 1 && voyage.leavesFrom(i)) {
            return voyage.dueLeave[i];
        }
        return NONE;
    }

    public int truth(int v, int i, int what) {
        if (!books.hasVoyage(v) || !books.voyages[v].hasPlace(i)) {
            return NONE;
        }
        course.bringUpToDate(books);
        Sailing sailing = course.sailings[v];
        switch (what) {
            case 0: return sailing.come[i];
            case 1: return sailing.leave[i];
            case 2: return sailing.leave[i] == NONE ? NONE : sailing.waited[i];
            case 3: return sailing.come[i] == NONE ? NONE : books.voyages[v].lateAt(i, sailing.come[i]);
            default: return NONE;
        }
    }

    public int share(int v, int i, int l) {
        if (!books.hasVoyage(v) || !books.voyages[v].comesTo(i) || !(l == NONE || isLine(l))) {
            return NONE;
        }
        course.bringUpToDate(books);
        Sailing sailing = course.sailings[v];
        return sailing.come[i] == NONE ? NONE : sailing.shareAt(i, l == NONE ? NOBODY : 1 + l);
    }

    public long owed(int line) {
        if (!isLine(line)) {
            return NONE;
        }
        course.bringUpToDate(books);
        long pence = 0;
        for (int v = 0; v < books.voyageCount; v++) {
            Voyage voyage = books.voyages[v];
            long hours = course.sailings[v].sharesOverPlaces(voyage.legs, 1 + line);
            pence += hours * books.contracts[voyage.line].pence;
        }
        return pence;
    }

    public int first(int a, int b, int h, boolean truth) {
        if (!areTwoPorts(a, b) || !isAskedHour(h)) {
            return NONE;
        }
        if (truth) {
            course.bringUpToDate(books);
        }
        post.layOut(books, course, truth);
        int hour = post.firstComing(books, a, b, h);
        if (hour != NONE) {
            post.reckonLatest(books, b, hour);
            post.chooseRides(books, a, b, h, hour);
        }
        return hour;
    }

    public int last(int a, int b, int h, boolean truth) {
        if (!areTwoPorts(a, b) || !isAskedHour(h)) {
            return NONE;
        }
        if (truth) {
            course.bringUpToDate(books);
        }
        post.layOut(books, course, truth);
        post.reckonLatest(books, b, h);
        return post.latestFrom(a, post.rounds);
    }

    public int ride(int k, int what) {
        if (k < 0 || k >= post.rideCount || what < 0 || what >= RIDE_PARTS) {
            return NONE;
        }
        return post.rides[k * RIDE_PARTS + what];
    }

    public int look(int v, int what) {
        if (!books.hasVoyage(v)) {
            return NONE;
        }
        Voyage voyage = books.voyages[v];
        switch (what) {
            case 0: return voyage.line;
            case 1: return voyage.speed;
            case 2: return voyage.stay;
            case 3: return voyage.start;
            case 4: return voyage.legs;
            case 5: return voyage.endPort();
            default: return what >= 10 && voyage.hasPlace(what - 10) ? voyage.ports[what - 10] : NONE;
        }
    }

    public int count(int what) {
        switch (what) {
            case 0: return books.chart.size;
            case 1: return books.voyageCount;
            case 2: return books.meetings;
            case 3: return tape.size;
            default: break;
        }
        if (what >= 10 && isLine(what - 10)) {
            return books.contracts[what - 10].pence;
        }
        if (what >= 100 && books.chart.has((what - 100) / MONTHS)) {
            return books.chart.winds[what - 100] + 1000;
        }
        return NONE;
    }

    private static boolean isPort(int port) {
        return port >= 0 && port < PORTS;
    }

    private static boolean areTwoPorts(int a, int b) {
        return isPort(a) && isPort(b) && a != b;
    }

    private static boolean isLine(int line) {
        return line >= 0 && line < LINES;
    }

    private static boolean isAskedHour(int hour) {
        return hour >= 0 && hour <= LAST_HOUR;
    }

    private static int monthOf(int hour) {
        return hour / MONTH_HOURS % MONTHS;
    }

    /** For small numbers alone; a cast cuts towards 0, so what lies below 0 may need one less. */
    private static int roundedDown(double told) {
        int cut = (int) told;
        return (double) cut > told ? cut - 1 : cut;
    }

    /** Rounded up; nothing is divided by what is not above 0. */
    private static int hoursFor(int way, int pace) {
        return pace > 0 ? (way + pace - 1) / pace : NEVER;
    }

    /** The bytes that have been fed and not yet been read as a contract. */
    private static final class Tape {
        final int[] bytes;
        int size;

        Tape() {
            bytes = new int[MOST_BYTES];
            size = 0;
        }

        void addBytes(int four) {
            for (int shift = 24; shift >= 0; shift -= 8) {
                if (size < MOST_BYTES) {
                    bytes[size] = four >>> shift & 255;
                    size++;
                }
            }
        }
    }

    /** All that is told: passages, voyages with their meetings, contracts. */
    private static final class Books {
        final Chart chart;
        final Voyage[] voyages;
        int voyageCount;
        int meetings;
        final Contract[] contracts;
        /** A text is read into this one, so that a fault leaves the line's contract as it was. */
        Contract spare;

        Books() {
            chart = new Chart();
            voyages = new Voyage[MOST_VOYAGES];
            for (int v = 0; v < MOST_VOYAGES; v++) {
                voyages[v] = new Voyage();
            }
            voyageCount = 0;
            meetings = 0;
            contracts = new Contract[LINES];
            for (int line = 0; line < LINES; line++) {
                contracts[line] = new Contract();
            }
            spare = new Contract();
        }

        boolean hasVoyage(int v) {
            return v >= 0 && v < voyageCount;
        }
    }

    /** The passages and their winds. */
    private static final class Chart {
        final int[] fromPort;
        final int[] toPort;
        final int[] miles;
        final int[] winds;
        int size;

        Chart() {
            fromPort = new int[MOST_PASSAGES];
            toPort = new int[MOST_PASSAGES];
            miles = new int[MOST_PASSAGES];
            winds = new int[MOST_PASSAGES * MONTHS];
            size = 0;
        }

        boolean has(int p) {
            return p >= 0 && p < size;
        }

        int add(int a, int b, int length) {
            int number = size;
            fromPort[number] = a;
            toPort[number] = b;
            miles[number] = length;
            size = number + 1;
            return number;
        }

        /** NONE if the passage does not begin at that port. */
        int otherEnd(int p, int port) {
            if (fromPort[p] == port) {
                return toPort[p];
            }
            return toPort[p] == port ? fromPort[p] : NONE;
        }

        int windIn(int p, int hour) {
            return winds[p * MONTHS + monthOf(hour)];
        }
    }

    /** A voyage as it is told, with its timetable. */
    private static final class Voyage {
        int line;
        int speed;
        int stay;
        int start;
        int legs;
        final int[] ports;
        final int[] passages;
        final int[] tableHours;
        final int[] breakHours;
        final int[] awaitedVoyage;
        final int[] awaitedPlace;
        final int[] dueCome;
        final int[] dueLeave;

        Voyage() {
            ports = new int[MOST_PLACES];
            passages = new int[MOST_LEGS];
            tableHours = new int[MOST_LEGS];
            breakHours = new int[MOST_LEGS];
            awaitedVoyage = new int[MOST_LEGS];
            awaitedPlace = new int[MOST_LEGS];
            Arrays.fill(awaitedVoyage, NONE);
            dueCome = new int[MOST_PLACES];
            dueLeave = new int[MOST_PLACES];
        }

        void begin(int itsLine, int port, int itsSpeed, int itsStay, int itsStart) {
            line = itsLine;
            speed = itsSpeed;
            stay = itsStay;
            start = itsStart;
            legs = 0;
            ports[0] = port;
            dueLeave[0] = itsStart;
        }

        boolean hasPlace(int i) {
            return i >= 0 && i <= legs;
        }

        boolean comesTo(int i) {
            return i >= 1 && i <= legs;
        }

        boolean leavesFrom(int i) {
            return i >= 0 && i < legs;
        }

        int endPort() {
            return ports[legs];
        }

        void addLeg(int p, int port, int miles) {
            int from = legs;
            passages[from] = p;
            tableHours[from] = hoursFor(miles, speed);
            ports[from + 1] = port;
            dueCome[from + 1] = dueLeave[from] + tableHours[from];
            dueLeave[from + 1] = dueCome[from + 1] + stay;
            legs = from + 1;
        }

        int lateAt(int i, int hour) {
            return Math.max(0, hour - dueCome[i]);
        }
    }

    /** A contract as steps to be worked off with a stack: comparisons, and the signs ! & | behind what they join. */
    private static final class Contract {
        int clauses;
        int pence;
        final int[] kinds;
        final int[] limits;
        final int[] ends;
        int size;
        final int[] signs;
        final int[] facts;
        final int[] numbers;

        Contract() {
            kinds = new int[MOST_CLAUSES];
            limits = new int[MOST_CLAUSES];
            ends = new int[MOST_CLAUSES];
            signs = new int[MOST_BYTES];
            facts = new int[MOST_BYTES];
            numbers = new int[MOST_BYTES];
            clauses = 0;
            pence = 0;
            size = 0;
        }

        void empty() {
            clauses = 0;
            pence = 0;
            size = 0;
        }

        void addStep(int sign, int fact, int number) {
            if (size < MOST_BYTES) {
                signs[size] = sign;
                facts[size] = fact;
                numbers[size] = number;
                size++;
            }
        }

        void endClause(int kind, int number) {
            if (clauses < MOST_CLAUSES) {
                kinds[clauses] = kind;
                limits[clauses] = number;
                ends[clauses] = size;
                clauses++;
            }
            if (kind == 'P') {
                pence = number;
            }
        }

        boolean excuses(int[] row) {
            for (int c = 0; c < clauses; c++) {
                if (kinds[c] == 'X' && holds(c, row)) {
                    return true;
                }
            }
            return false;
        }

        /** For how many hours from this one on it surely lets a ship wait; 0 if it does not in this one. */
        int waitHours(int[] row, int hour) {
            for (int c = 0; c < clauses; c++) {
                if (kinds[c] == 'W' && limits[c] > row[FACT_T] && holds(c, row)) {
                    return steadyHours(c, row, hour);
                }
            }
            return 0;
        }

        /** Till a comparison of the clause can turn: l and t grow by one each hour, w and m turn with the month. */
        private int steadyHours(int c, int[] row, int hour) {
            int hours = Math.min(limits[c] - row[FACT_T], MONTH_HOURS - hour % MONTH_HOURS);
            for (int s = beginOf(c); s < ends[c]; s++) {
                if (isComparison(signs[s]) && (facts[s] == FACT_L || facts[s] == FACT_T)) {
                    int ahead = numbers[s] - row[facts[s]];
                    if (ahead >= 0) {
                        hours = Math.min(hours, Math.max(1, ahead));
                    }
                }
            }
            return hours;
        }

        private int beginOf(int c) {
            return c > 0 ? ends[c - 1] : 0;
        }

        /** The stack is the bits of one int: brackets nest eight deep, so fewer than 32 are ever open. */
        private boolean holds(int c, int[] row) {
            int stack = 0;
            for (int s = beginOf(c); s < ends[c]; s++) {
                int top = stack & 1;
                switch (signs[s]) {
                    case '!': stack = stack ^ 1; break;
                    case '&': stack = stack >>> 1 & (top | ~1); break;
                    case '|': stack = stack >>> 1 | top; break;
                    default: stack = stack << 1 | (compares(s, row[facts[s]]) ? 1 : 0); break;
                }
            }
            return (stack & 1) == 1;
        }

        private boolean compares(int s, int value) {
            if (signs[s] == '<') {
                return value < numbers[s];
            }
            return signs[s] == '>' ? value > numbers[s] : value == numbers[s];
        }

        private static boolean isComparison(int sign) {
            return sign == '<' || sign == '=' || sign == '>';
        }
    }

    /** Reads a text into a contract, up to its first fault. */
    private static final class Reader {
        private static final int END = -1;

        private int[] text;
        private int size;
        private int at;
        private Contract into;
        /** The latest letter, sign and number that were read. */
        private int fact;
        private int comparison;
        private int number;
        int faultNumber;
        int faultPlace;

        Reader() {
            faultNumber = NO_FAULT;
            faultPlace = NONE;
        }

        boolean read(int[] bytes, int n, Contract contract) {
            text = bytes;
            size = Math.min(n, bytes.length);
            at = 0;
            into = contract;
            into.empty();
            faultNumber = NO_FAULT;
            faultPlace = NONE;
            boolean more = size > 0;
            for (int c = 0; c <= MOST_CLAUSES && more; c++) {
                if (!readClause(c)) {
                    return false;
                }
                more = sign() != END;
                if (more && !take(';')) {
                    return false;
                }
            }
            return true;
        }

        private boolean readClause(int c) {
            int kind = sign();
            if (kind != 'W' && kind != 'X' && kind != 'P') {
                return refuse(OUT_OF_PLACE);
            }
            if (c >= MOST_CLAUSES) {
                return refuse(CLAUSE_TOO_MANY);
            }
            at++;
            number = 0;
            if (kind != 'X' && !readNumber(false)) {
                return false;
            }
            int told = number;
            if (kind != 'P' && !(take(':') && readTest(0))) {
                return false;
            }
            into.endClause(kind, told);
            return true;
        }

        private boolean readTest(int open) {
            if (!readTerm(open)) {
                return false;
            }
            for (int turn = 0; turn < MOST_BYTES && sign() == '|'; turn++) {
                at++;
                if (!readTerm(open)) {
                    return false;
                }
                into.addStep('|', 0, 0);
            }
            return true;
        }

        private boolean readTerm(int open) {
            if (!readFactor(open)) {
                return false;
            }
            for (int turn = 0; turn < MOST_BYTES && sign() == '&'; turn++) {
                at++;
                if (!readFactor(open)) {
                    return false;
                }
                into.addStep('&', 0, 0);
            }
            return true;
        }

        /** open: how many brackets and ! are open round it. */
        private boolean readFactor(int open) {
            int begin = sign();
            if (begin != '!' && begin != '(') {
                if (!readLetter() || !readComparison() || !readNumber(true)) {
                    return false;
                }
                into.addStep(comparison, fact, number);
                return true;
            }
            if (open >= MOST_OPEN) {
                return refuse(OPEN_TOO_MANY);
            }
            at++;
            if (begin == '(') {
                return readTest(open + 1) && take(')');
            }
            if (!readFactor(open + 1)) {
                return false;
            }
            into.addStep('!', 0, 0);
            return true;
        }

        private boolean readLetter() {
            fact = factOf(sign());
            if (fact == NONE) {
                return refuse(OUT_OF_PLACE);
            }
            at++;
            return true;
        }

        private boolean readComparison() {
            comparison = sign();
            if (!Contract.isComparison(comparison)) {
                return refuse(OUT_OF_PLACE);
            }
            at++;
            return true;
        }

        /** A fifth digit is left standing: nothing that may follow a number is a digit. */
        private boolean readNumber(boolean mayBeBelow) {
            boolean below = mayBeBelow && sign() == '-';
            if (below) {
                at++;
            }
            if (!isDigit(sign())) {
                return refuse(OUT_OF_PLACE);
            }
            int told = 0;
            for (int digits = 0; digits < MOST_DIGITS && isDigit(sign()); digits++) {
                told = told * 10 + sign() - '0';
                at++;
            }
            number = below ? -told : told;
            return true;
        }

        private int sign() {
            return text != null && at >= 0 && at < size ? text[at] : END;
        }

        private boolean take(int wanted) {
            if (sign() != wanted) {
                return refuse(OUT_OF_PLACE);
            }
            at++;
            return true;
        }

        private boolean refuse(int why) {
            faultNumber = why;
            faultPlace = at;
            return false;
        }

        private static boolean isDigit(int sign) {
            return sign >= '0' && sign <= '9';
        }

        private static int factOf(int sign) {
            switch (sign) {
                case 'l': return FACT_L;
                case 't': return FACT_T;
                case 'w': return FACT_W;
                case 'k': return FACT_K;
                case 'm': return FACT_M;
                default: return NONE;
            }
        }
    }

    /** A voyage as it goes in truth. */
    private static final class Sailing {
        final int[] come;
        final int[] leave;
        final int[] waited;
        final int[] shares;
        /** The shares as they stand now, on the way. */
        final int[] held;
        int place;
        boolean atSea;
        int ready;
        /** The hour in which it comes or is asked next. */
        int next;

        Sailing() {
            come = new int[MOST_PLACES];
            leave = new int[MOST_PLACES];
            waited = new int[MOST_PLACES];
            shares = new int[MOST_PLACES * HOLDERS];
            held = new int[HOLDERS];
        }

        void begin(Voyage voyage) {
            Arrays.fill(come, NONE);
            Arrays.fill(leave, NONE);
            Arrays.fill(held, 0);
            place = 0;
            lieInPort(voyage.leavesFrom(0) ? voyage.start : NEVER);
        }

        void lieInPort(int readyHour) {
            atSea = false;
            ready = readyHour;
            next = readyHour;
        }

        void putToSea(int hour, int legHours) {
            leave[place] = hour;
            waited[place] = hour - ready;
            atSea = true;
            next = hour + legHours;
        }

        void makeUp(int hours, int ownLine) {
            int left = takeFrom(NOBODY, hours);
            left = takeFrom(1 + ownLine, left);
            for (int line = 0; line < LINES; line++) {
                left = takeFrom(1 + line, left);
            }
        }

        /** How many hours are still to be taken behind this. */
        private int takeFrom(int holder, int hours) {
            int taken = Math.min(held[holder], hours);
            held[holder] -= taken;
            return hours - taken;
        }

        void writeDownShares(int i) {
            for (int holder = 0; holder < HOLDERS; holder++) {
                shares[i * HOLDERS + holder] = held[holder];
            }
        }

        int shareAt(int i, int holder) {
            return shares[i * HOLDERS + holder];
        }

        long sharesOverPlaces(int legs, int holder) {
            long hours = 0;
            for (int i = 1; i <= legs; i++) {
                if (come[i] != NONE) {
                    hours += shareAt(i, holder);
                }
            }
            return hours;
        }
    }

    /** Steps all voyages through the hours, from one in which something can happen to the next such one. */
    private static final class Course {
        final Sailing[] sailings;
        private final int[] facts;
        /** The steps are dear and many calls ask the same course: it is stepped anew only behind a change. */
        boolean isOld;

        Course() {
            sailings = new Sailing[MOST_VOYAGES];
            for (int v = 0; v < MOST_VOYAGES; v++) {
                sailings[v] = new Sailing();
            }
            facts = new int[FACTS];
            isOld = true;
        }

        void bringUpToDate(Books books) {
            if (!isOld) {
                return;
            }
            for (int v = 0; v < books.voyageCount; v++) {
                sailings[v].begin(books.voyages[v]);
            }
            int hour = nextHour(books.voyageCount);
            for (int turn = 0; turn <= LAST_HOUR && hour <= LAST_HOUR; turn++) {
                passHour(books, hour);
                hour = nextHour(books.voyageCount);
            }
            isOld = false;
        }

        private void passHour(Books books, int hour) {
            for (int v = 0; v < books.voyageCount; v++) {
                if (sailings[v].atSea && sailings[v].next <= hour) {
                    comeIn(books, v, hour);
                }
            }
            for (int v = 0; v < books.voyageCount; v++) {
                if (!sailings[v].atSea && sailings[v].ready <= hour) {
                    askOne(books, v, hour);
                }
            }
        }

        private int nextHour(int voyageCount) {
            int hour = NEVER;
            for (int v = 0; v < voyageCount; v++) {
                hour = Math.min(hour, sailings[v].next);
            }
            return hour;
        }

        private void comeIn(Books books, int v, int hour) {
            Voyage voyage = books.voyages[v];
            Sailing sailing = sailings[v];
            int from = sailing.place;
            int more = hour - sailing.leave[from] - voyage.tableHours[from];
            if (more > 0) {
                boolean excused = isExcused(books, v, hour);
                sailing.held[excused ? NOBODY : 1 + voyage.line] += more;
            } else {
                sailing.makeUp(-more, voyage.line);
            }
            int place = from + 1;
            sailing.place = place;
            sailing.come[place] = hour;
            sailing.writeDownShares(place);
            boolean goesOn = voyage.leavesFrom(place);
            sailing.lieInPort(goesOn ? Math.max(hour + voyage.stay, voyage.dueLeave[place]) : NEVER);
        }

        private boolean isExcused(Books books, int v, int hour) {
            Voyage voyage = books.voyages[v];
            Sailing sailing = sailings[v];
            int from = sailing.place;
            facts[FACT_L] = voyage.lateAt(from + 1, hour);
            facts[FACT_T] = sailing.waited[from];
            facts[FACT_W] = books.chart.windIn(voyage.passages[from], sailing.leave[from]);
            facts[FACT_K] = voyage.breakHours[from];
            facts[FACT_M] = monthOf(hour);
            return books.contracts[voyage.line].excuses(facts);
        }

        private void askOne(Books books, int v, int hour) {
            Sailing sailing = sailings[v];
            boolean awaits = isAwaiting(books.voyages[v], sailing.place);
            if (awaits && hour < sailing.next) {
                return;
            }
            int hours = awaits ? waitHours(books, v, hour) : 0;
            if (hours > 0) {
                sailing.next = hour + hours;
            } else {
                leavePort(books, v, hour);
            }
        }

        private boolean isAwaiting(Voyage voyage, int place) {
            int u = voyage.awaitedVoyage[place];
            return u != NONE && sailings[u].come[voyage.awaitedPlace[place]] == NONE;
        }

        private int waitHours(Books books, int v, int hour) {
            Voyage voyage = books.voyages[v];
            Sailing sailing = sailings[v];
            int place = sailing.place;
            Voyage awaited = books.voyages[voyage.awaitedVoyage[place]];
            facts[FACT_L] = hour - awaited.dueCome[voyage.awaitedPlace[place]];
            facts[FACT_T] = hour - sailing.ready;
            facts[FACT_W] = books.chart.windIn(voyage.passages[place], hour);
            facts[FACT_K] = voyage.breakHours[place];
            facts[FACT_M] = monthOf(hour);
            return books.contracts[voyage.line].waitHours(facts, hour);
        }

        private void leavePort(Books books, int v, int hour) {
            Voyage voyage = books.voyages[v];
            Sailing sailing = sailings[v];
            int place = sailing.place;
            int p = voyage.passages[place];
            int pace = voyage.speed * (100 + books.chart.windIn(p, hour));
            sailing.putToSea(hour, hoursFor(100 * books.chart.miles[p], pace) + voyage.breakHours[place]);
            int u = voyage.awaitedVoyage[place];
            if (u != NONE) {
                sailing.held[1 + books.voyages[u].line] += sailing.waited[place];
            }
        }
    }

    /** Letters: their first coming, their rides and their last hour, by the times that were laid out. */
    private static final class Post {
        private final int[] comes;
        private final int[] leaves;
        /** From which hour on the letter can go aboard in a port. */
        private final int[] ashore;
        /** For so many rides at most and a port: the greatest hour in which it must still be there. */
        private final int[] latest;
        int rounds;
        final int[] rides;
        int rideCount;

        Post() {
            comes = new int[MOST_VOYAGES * MOST_PLACES];
            leaves = new int[MOST_VOYAGES * MOST_PLACES];
            ashore = new int[PORTS];
            latest = new int[(MOST_RIDES + 1) * PORTS];
            rides = new int[MOST_RIDES * RIDE_PARTS];
            rounds = 0;
            rideCount = 0;
        }

        void layOut(Books books, Course course, boolean truth) {
            for (int v = 0; v < books.voyageCount; v++) {
                Sailing sailing = course.sailings[v];
                if (truth) {
                    layOutRow(v, books.voyages[v], sailing.come, sailing.leave);
                } else {
                    layOutRow(v, books.voyages[v], books.voyages[v].dueCome, books.voyages[v].dueLeave);
                }
            }
        }

        /** No voyage comes to its first place or leaves its last one, whatever its rows hold there. */
        private void layOutRow(int v, Voyage voyage, int[] come, int[] leave) {
            for (int i = 0; i <= voyage.legs; i++) {
                comes[v * MOST_PLACES + i] = voyage.comesTo(i) ? come[i] : NONE;
                leaves[v * MOST_PLACES + i] = voyage.leavesFrom(i) ? leave[i] : NONE;
            }
        }

        int firstComing(Books books, int a, int b, int h) {
            Arrays.fill(ashore, NEVER);
            ashore[a] = h;
            boolean changed = true;
            for (int round = 0; round < MOST_RIDES && changed; round++) {
                changed = false;
                for (int v = 0; v < books.voyageCount; v++) {
                    if (carry(books.voyages[v], v)) {
                        changed = true;
                    }
                }
            }
            return ashore[b] == NEVER ? NONE : ashore[b] - 1;
        }

        /** Whether a port is reached earlier by this voyage. */
        private boolean carry(Voyage voyage, int v) {
            boolean aboard = false;
            boolean earlier = false;
            for (int i = 0; i <= voyage.legs; i++) {
                int port = voyage.ports[i];
                int come = comes[v * MOST_PLACES + i];
                if (aboard && come != NONE && come + 1 < ashore[port]) {
                    ashore[port] = come + 1;
                    earlier = true;
                }
                if (leaves[v * MOST_PLACES + i] >= ashore[port]) {
                    aboard = true;
                }
            }
            return earlier;
        }

        /** How late the letter can lie in each port and yet come to b in that hour or ahead, by one more ride each round. */
        void reckonLatest(Books books, int b, int hour) {
            Arrays.fill(latest, NONE);
            rounds = 0;
            boolean changed = true;
            for (int r = 1; r <= MOST_RIDES && changed; r++) {
                System.arraycopy(latest, (r - 1) * PORTS, latest, r * PORTS, PORTS);
                changed = false;
                for (int v = 0; v < books.voyageCount; v++) {
                    if (goBack(books.voyages[v], v, r, b, hour)) {
                        changed = true;
                    }
                }
                rounds = r;
            }
        }

        private boolean goBack(Voyage voyage, int v, int r, int b, int hour) {
            boolean arrives = false;
            boolean later = false;
            for (int i = voyage.legs; i >= 0; i--) {
                int at = v * MOST_PLACES + i;
                int row = r * PORTS + voyage.ports[i];
                if (arrives && leaves[at] > latest[row]) {
                    latest[row] = leaves[at];
                    later = true;
                }
                if (goesOnInTime(r - 1, voyage.ports[i], comes[at], b, hour)) {
                    arrives = true;
                }
            }
            return later;
        }

        /** Whether it is at b in time, or ashore, from the hour behind its coming on, in time for what r rides can do. */
        private boolean goesOnInTime(int r, int port, int come, int b, int hour) {
            if (come == NONE) {
                return false;
            }
            return port == b && come <= hour || come < latestFrom(port, r);
        }

        int latestFrom(int port, int r) {
            return latest[r * PORTS + port];
        }

        /** Ride by ride the least one from which the rides that are left still reach b in time. */
        void chooseRides(Books books, int a, int b, int h, int hour) {
            int fewest = 1;
            while (fewest < rounds && latestFrom(a, fewest) < h) {
                fewest++;
            }
            rideCount = 0;
            int port = a;
            int from = h;
            for (int left = fewest - 1; left >= 0; left--) {
                if (!findRide(books, port, from, left, b, hour)) {
                    return;
                }
                int v = rides[rideCount * RIDE_PARTS];
                int j = rides[rideCount * RIDE_PARTS + 2];
                port = books.voyages[v].ports[j];
                from = comes[v * MOST_PLACES + j] + 1;
                rideCount++;
            }
        }

        private boolean findRide(Books books, int port, int from, int left, int b, int hour) {
            for (int v = 0; v < books.voyageCount; v++) {
                Voyage voyage = books.voyages[v];
                for (int i = 0; i < voyage.legs; i++) {
                    if (voyage.ports[i] == port && leaves[v * MOST_PLACES + i] >= from) {
                        int j = findAshore(voyage, v, i, left, b, hour);
                        if (j != NONE) {
                            noteRide(v, i, j);
                            return true;
                        }
                    }
                }
            }
            return false;
        }

        private int findAshore(Voyage voyage, int v, int i, int left, int b, int hour) {
            for (int j = i + 1; j <= voyage.legs; j++) {
                if (goesOnInTime(left, voyage.ports[j], comes[v * MOST_PLACES + j], b, hour)) {
                    return j;
                }
            }
            return NONE;
        }

        private void noteRide(int v, int i, int j) {
            rides[rideCount * RIDE_PARTS] = v;
            rides[rideCount * RIDE_PARTS + 1] = i;
            rides[rideCount * RIDE_PARTS + 2] = j;
        }
    }
}
