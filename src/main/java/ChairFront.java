/** Chairs on the front, as the numbered promises of the document tell it. */
public final class ChairFront {
    public static final int NONE = -1000000, BAD = -1000001, STATE = -1000002, FULL = -1000003, KIND = -1000004;

    private static final int MOST_CHAIRS = 9000;
    private static final int MOST_STRETCHES = 10;
    private static final int MOST_HOURS = 5000;
    private static final int MOST_WIND = 100;
    private static final int MOST_UNPAID = 500;
    private static final int MOST_AMOUNT = 1000000;
    private static final int WEAR_OF_A_CHAIR = 1000;
    private static final int FAULT_AT_START = -1000100;

    private int stack;
    private int lost;
    private int broken;
    private int price = 10;
    private int stop = 60;
    private int hoursGone;
    private int latestWind;
    private int stretchCount;
    private final Stretch[] stretches = new Stretch[MOST_STRETCHES];
    private final TicketBook book = new TicketBook();
    private final Reader reader = new Reader();
    private Rules current = new Rules();
    private Rules draft = new Rules();
    private int latestFault;
    private final BestWalk bestWalk = new BestWalk();
    private final Asks asks = new Asks();

    public ChairFront(int chairs) {
        stack = Math.max(0, Math.min(chairs, MOST_CHAIRS));
        for (int i = 0; i < stretches.length; i++) {
            stretches[i] = new Stretch();
        }
    }

    // ---- the shore

    public int stretch(int height, int zone) {
        if (!within(height, 0, 500) || !within(zone, 0, 3)) {
            return BAD;
        }
        if (stretchCount >= stretches.length) {
            return FULL;
        }
        Stretch made = stretches[stretchCount];
        made.height = height;
        made.zone = zone;
        stretchCount++;
        return stretchCount - 1;
    }

    public int carry(int from, int to, int n) {
        if (!isPlace(from) || !isPlace(to) || from == to || !within(n, 0, MOST_CHAIRS)) {
            return BAD;
        }
        if (chairsToTake(from) < n) {
            return STATE;
        }
        addChairs(from, -n);
        return addChairs(to, n);
    }

    public int told(int stretch, int what) {
        if (!isStretch(stretch)) {
            return BAD;
        }
        Stretch s = stretches[stretch];
        switch (what) {
            case 0: return s.height;
            case 1: return s.zone;
            case 2: return s.standing;
            case 3: return s.free();
            case 4: return s.wear;
            case 5: return s.unpaid;
            default: return BAD;
        }
    }

    public int rule(int what, int v) {
        if (what == 0 && within(v, 1, 100)) {
            int before = price;
            price = v;
            return before;
        }
        if (what == 1 && within(v, 0, MOST_WIND)) {
            int before = stop;
            stop = v;
            return before;
        }
        return BAD;
    }

    public int mend(int n) {
        if (!within(n, 0, MOST_CHAIRS)) {
            return BAD;
        }
        if (broken < n) {
            return STATE;
        }
        broken -= n;
        stack += n;
        return broken;
    }

    // ---- tickets, hours

    public int hire(int stretch, int chairs, int hours) {
        if (!isStretch(stretch) || !within(chairs, 1, 100) || !within(hours, 1, 12)) {
            return BAD;
        }
        if (latestWind > stop) {
            return STATE;
        }
        Stretch s = stretches[stretch];
        if (book.isFull() || s.free() < chairs) {
            return FULL;
        }
        s.hired += chairs;
        Ticket t = book.open();
        t.place = stretch;
        t.zone = s.zone;
        t.chairs = chairs;
        t.hoursLeft = hours;
        t.price = price;
        t.paid = price * chairs * hours;
        book.paid += t.paid;
        return t.number;
    }

    public int shift(int ticket, int stretch) {
        Ticket t = book.find(ticket);
        if (t == null || !isStretch(stretch) || t.place == stretch) {
            return BAD;
        }
        Stretch there = stretches[stretch];
        if (!current.holdsIn(there.zone, t.zone)) {
            return STATE;
        }
        if (there.free() < t.chairs) {
            return FULL;
        }
        stretches[t.place].hired -= t.chairs;
        there.hired += t.chairs;
        t.place = stretch;
        return 1;
    }

    public int ticket(int ticket, int what) {
        Ticket t = book.find(ticket);
        if (t == null) {
            return BAD;
        }
        switch (what) {
            case 0: return t.place;
            case 1: return t.chairs;
            case 2: return t.hoursLeft;
            case 3: return t.paid;
            default: return BAD;
        }
    }

    public int hour(int level, int wind, int rain, int sun) {
        if (!within(level, 0, 1000) || !within(wind, 0, MOST_WIND)
                || !within(rain, 0, 60) || !within(sun, 0, 10)) {
            return BAD;
        }
        if (hoursGone >= MOST_HOURS) {
            return STATE;
        }
        hoursGone++;
        latestWind = wind;
        takeByTide(level);
        if (wind > stop) {
            endAllByWind();
        }
        payBackRain(rain);
        wearAll(sun);
        passAnHour();
        // A ticket that ended in an earlier step has no chairs, so no later step counts it.
        book.dropEnded();
        return book.running;
    }

    // ---- rules, rent

    public int feed(long w, int n) {
        if (!within(n, 1, 8)) {
            return BAD;
        }
        if (!reader.tape.hasRoomFor(n)) {
            return FULL;
        }
        reader.tape.append(w, n);
        return reader.tape.length;
    }

    public int rules() {
        draft.clear();
        boolean sound = reader.readInto(draft);
        reader.tape.length = 0;
        if (!sound) {
            latestFault = reader.faultNumber;
            return FAULT_AT_START - reader.faultPlace;
        }
        Rules before = current;
        current = draft;
        draft = before;
        return current.lines;
    }

    public int fault() {
        return latestFault;
    }

    public int rent(int amount) {
        if (amount == NONE) {
            return current.rentOf(Math.max(0, book.paid - book.back));
        }
        if (!within(amount, 0, MOST_AMOUNT)) {
            return BAD;
        }
        return current.rentOf(amount);
    }

    // ---- walks

    public int unpaid(int stretch, int n, int go) {
        if (!isStretch(stretch) || !within(n, 0, MOST_UNPAID) || !within(go, 0, MOST_UNPAID)) {
            return BAD;
        }
        stretches[stretch].unpaid = n;
        stretches[stretch].going = go;
        return 1;
    }

    public int walk(int set, int i) {
        if (set <= 0 || (set >> stretchCount) != 0 || Integer.bitCount(set) > BestWalk.MOST_STOPS) {
            return BAD;
        }
        bestWalk.plan(set, stretches);
        return i == NONE ? bestWalk.finds() : bestWalk.stopAt(i);
    }

    // ---- asked

    public int kind(int stretch) {
        if (!isStretch(stretch)) {
            return BAD;
        }
        return stretches[stretch].toldKind();
    }

    public int as(int stretch, int kind) {
        if (!isStretch(stretch) || !within(kind, 0, 3)) {
            return BAD;
        }
        Stretch s = stretches[stretch];
        return s.isOf(kind) ? s.height : KIND;
    }

    public int ask(int stretch, int what) {
        if (!isStretch(stretch) || !within(what, 0, 1)) {
            return BAD;
        }
        asks.traced = 0;
        Stretch s = stretches[stretch];
        return what == 0 ? asks.worthOf(s) : asks.markOf(s);
    }

    public int trace(int i) {
        return within(i, 0, asks.traced - 1) ? asks.bodies[i] : NONE;
    }

    public int count(int what) {
        switch (what) {
            case 0: return stretchCount;
            case 1: return stack;
            case 2: return allStanding();
            case 3: return lost;
            case 4: return broken;
            case 5: return book.running;
            case 6: return book.ever;
            case 7: return hoursGone;
            case 8: return book.paid;
            case 9: return book.back;
            default: return BAD;
        }
    }

    // ---- within

    private static boolean within(int v, int least, int most) {
        return v >= least && v <= most;
    }

    private boolean isStretch(int number) {
        return within(number, 0, stretchCount - 1);
    }

    private boolean isPlace(int number) {
        return number == NONE || isStretch(number);
    }

    private int chairsToTake(int place) {
        return place == NONE ? stack : stretches[place].free();
    }

    /** Answers how many chairs are there then. */
    private int addChairs(int place, int n) {
        if (place == NONE) {
            stack += n;
            return stack;
        }
        stretches[place].standing += n;
        return stretches[place].standing;
    }

    private int allStanding() {
        int sum = 0;
        for (int i = 0; i < stretchCount; i++) {
            sum += stretches[i].standing;
        }
        return sum;
    }

    private void takeByTide(int level) {
        for (int i = 0; i < book.running; i++) {
            Ticket t = book.tickets[i];
            if (stretches[t.place].height <= level) {
                endTicket(t);
            }
        }
        for (int i = 0; i < stretchCount; i++) {
            Stretch s = stretches[i];
            if (s.height <= level) {
                lost += s.standing;
                s.standing = 0;
            }
        }
    }

    private void endAllByWind() {
        for (int i = 0; i < book.running; i++) {
            Ticket t = book.tickets[i];
            book.back += t.price * t.chairs * t.hoursLeft;
            endTicket(t);
        }
    }

    private void payBackRain(int minutes) {
        int part = current.partOfRain(minutes);
        for (int i = 0; i < book.running; i++) {
            Ticket t = book.tickets[i];
            book.back += t.price * t.chairs * part / 100;
        }
    }

    private void wearAll(int sun) {
        for (int i = 0; i < stretchCount; i++) {
            Stretch s = stretches[i];
            s.wear += sun * s.standing;
            int toBreak = s.wear / WEAR_OF_A_CHAIR;
            s.wear %= WEAR_OF_A_CHAIR;
            for (int k = 0; k < toBreak; k++) {
                breakChair(i);
            }
        }
    }

    private void breakChair(int place) {
        Stretch s = stretches[place];
        if (s.standing == 0) {
            return;
        }
        if (s.free() == 0) {
            Ticket t = book.latestAt(place);
            if (t == null) {
                return;
            }
            t.chairs--;
            s.hired--;
        }
        s.standing--;
        broken++;
    }

    private void passAnHour() {
        for (int i = 0; i < book.running; i++) {
            Ticket t = book.tickets[i];
            t.hoursLeft--;
            if (t.hoursLeft <= 0) {
                endTicket(t);
            }
        }
    }

    private void endTicket(Ticket t) {
        stretches[t.place].hired -= t.chairs;
        t.chairs = 0;
    }

    /** A part of the shore, and what it can be told as. */
    private static final class Stretch {
        static final int PLAIN = 0, SOLD = 1, CROWD = 2, BARE = 3;

        int height;
        int zone;
        int standing;
        int hired;
        int wear;
        int unpaid;
        int going;

        int free() {
            return standing - hired;
        }

        int toldKind() {
            if (standing == 0) {
                return BARE;
            }
            if (free() > 0) {
                return PLAIN;
            }
            return unpaid >= 1 ? CROWD : SOLD;
        }

        boolean isOf(int kind) {
            int told = toldKind();
            return kind == PLAIN || kind == told || kind == SOLD && told == CROWD;
        }

        int foundAt(int step) {
            return Math.max(0, unpaid - step * going);
        }
    }

    /** A hire that runs as long as it has chairs. */
    private static final class Ticket {
        int number;
        int place;
        /** The zone it was hired in, which it keeps wherever it is used. */
        int zone;
        int chairs;
        int hoursLeft;
        int price;
        int paid;
    }

    /** The tickets that run, in the order of their numbers, and all coins. */
    private static final class TicketBook {
        static final int MOST_RUNNING = 30;

        final Ticket[] tickets = new Ticket[MOST_RUNNING];
        int running;
        int ever;
        int paid;
        int back;

        TicketBook() {
            for (int i = 0; i < tickets.length; i++) {
                tickets[i] = new Ticket();
            }
        }

        boolean isFull() {
            return running >= tickets.length;
        }

        /** To be called only where the book is not full. */
        Ticket open() {
            Ticket t = tickets[running];
            t.number = ever;
            running++;
            ever++;
            return t;
        }

        Ticket find(int number) {
            for (int i = 0; i < running; i++) {
                if (tickets[i].number == number) {
                    return tickets[i];
                }
            }
            return null;
        }

        Ticket latestAt(int place) {
            for (int i = running - 1; i >= 0; i--) {
                if (tickets[i].place == place && tickets[i].chairs > 0) {
                    return tickets[i];
                }
            }
            return null;
        }

        /** Swaps, so that each row of the book stays in it to be used again. */
        void dropEnded() {
            int kept = 0;
            for (int i = 0; i < running; i++) {
                Ticket t = tickets[i];
                if (t.chairs > 0) {
                    tickets[i] = tickets[kept];
                    tickets[kept] = t;
                    kept++;
                }
            }
            running = kept;
        }
    }

    /** What a text told; cleared, it is as at first. */
    private static final class Rules {
        static final int PLACE = 0, ZONE = 1, ANY = 2;
        static final int MOST_LINES = 5;
        static final int MOST_END = 99999;

        int lines;
        int hold;
        int rainLines;
        int rentLines;
        private final int[] rainFrom = new int[MOST_LINES];
        private final int[] rainPart = new int[MOST_LINES];
        private final int[] rentEnd = new int[MOST_LINES];
        private final int[] rentPart = new int[MOST_LINES];

        void clear() {
            lines = 0;
            hold = PLACE;
            rainLines = 0;
            rentLines = 0;
        }

        boolean holdsIn(int zone, int homeZone) {
            return hold == ANY || hold == ZONE && zone == homeZone;
        }

        /** To be called only where there are fewer than MOST_LINES. */
        void addRain(int from, int part) {
            rainFrom[rainLines] = from;
            rainPart[rainLines] = part;
            rainLines++;
        }

        /** To be called only where there are fewer than MOST_LINES. */
        void addRent(int end, int part) {
            rentEnd[rentLines] = end;
            rentPart[rentLines] = part;
            rentLines++;
        }

        int leastNextEnd() {
            return rentLines == 0 ? 0 : rentEnd[rentLines - 1] + 1;
        }

        int partOfRain(int minutes) {
            for (int i = 0; i < rainLines; i++) {
                if (minutes >= rainFrom[i]) {
                    return rainPart[i];
                }
            }
            return 0;
        }

        int rentOf(int amount) {
            int sum = 0;
            int below = 0;
            for (int i = 0; i < rentLines; i++) {
                int between = Math.max(0, Math.min(amount, rentEnd[i]) - below);
                sum += between * rentPart[i] / 100;
                below = rentEnd[i];
            }
            return sum;
        }
    }

    /** The bytes that were fed and not yet read. */
    private static final class Tape {
        static final int MOST_BYTES = 300;
        static final int BEHIND = -1;

        private final byte[] bytes = new byte[MOST_BYTES];
        int length;

        boolean hasRoomFor(int n) {
            return length + n <= bytes.length;
        }

        /** To be called only where there is room. */
        void append(long w, int n) {
            for (int i = n - 1; i >= 0; i--) {
                bytes[length] = (byte) (w >> (8 * i));
                length++;
            }
        }

        int at(int i) {
            return i >= 0 && i < length ? bytes[i] & 255 : BEHIND;
        }
    }

    /** Reads the tape token by token: a method that reads goes past what it read, or refuses at the token it is on. */
    private static final class Reader {
        private static final int END = 0, NAME = 1, NUMBER = 2, SIGN = 3, NO_TOKEN = 4;
        private static final int MOST_LETTERS = 6;
        private static final int MOST_FIGURES = 5;
        private static final int MISPLACED = 1, NOT_AS_TOLD = 2, ONE_LINE_TOO_MANY = 3;

        final Tape tape = new Tape();
        private int token;
        private int start;
        private int next;
        private int value;
        private int bound;
        private int part;
        int faultNumber;
        int faultPlace;

        boolean readInto(Rules rules) {
            next = 0;
            advance();
            // A line has bytes of its own, so there are never more lines than bytes.
            for (int line = 0; line < Tape.MOST_BYTES && token != END; line++) {
                if (!readLine(rules)) {
                    return false;
                }
                if (token != SIGN) {
                    return refuse(MISPLACED);
                }
                advance();
                rules.lines++;
            }
            return true;
        }

        /** A line but for its sign: all lines end alike. */
        private boolean readLine(Rules rules) {
            if (isWord("hold")) {
                return readHold(rules);
            }
            if (isWord("rain")) {
                return readRain(rules);
            }
            if (isWord("rent")) {
                return readRent(rules);
            }
            return refuse(MISPLACED);
        }

        private boolean readHold(Rules rules) {
            advance();
            if (isWord("zone")) {
                rules.hold = Rules.ZONE;
            } else if (isWord("any")) {
                rules.hold = Rules.ANY;
            } else if (isWord("place")) {
                rules.hold = Rules.PLACE;
            } else {
                return refuse(MISPLACED);
            }
            advance();
            return true;
        }

        private boolean readRain(Rules rules) {
            if (rules.rainLines >= Rules.MOST_LINES) {
                return refuse(ONE_LINE_TOO_MANY);
            }
            if (!readPart(1, 60)) {
                return false;
            }
            rules.addRain(bound, part);
            return true;
        }

        private boolean readRent(Rules rules) {
            if (rules.rentLines >= Rules.MOST_LINES) {
                return refuse(ONE_LINE_TOO_MANY);
            }
            if (!readPart(rules.leastNextEnd(), Rules.MOST_END)) {
                return false;
            }
            rules.addRent(bound, part);
            return true;
        }

        /** What stands behind the word of a rain or rent line, the same for both but for the bound's limits. */
        private boolean readPart(int least, int most) {
            advance();
            if (!standsNumber(least, most)) {
                return false;
            }
            bound = value;
            advance();
            if (!isWord("part")) {
                return refuse(MISPLACED);
            }
            advance();
            if (!standsNumber(0, 100)) {
                return false;
            }
            part = value;
            advance();
            return true;
        }

        private boolean standsNumber(int least, int most) {
            if (token != NUMBER) {
                return refuse(MISPLACED);
            }
            return within(value, least, most) || refuse(NOT_AS_TOLD);
        }

        private boolean refuse(int number) {
            faultNumber = number;
            faultPlace = start;
            return false;
        }

        private boolean isWord(String word) {
            if (token != NAME || next - start != word.length()) {
                return false;
            }
            for (int i = 0; i < word.length(); i++) {
                if (tape.at(start + i) != word.charAt(i)) {
                    return false;
                }
            }
            return true;
        }

        private void advance() {
            skipBlanks();
            start = next;
            int first = tape.at(start);
            if (first == Tape.BEHIND) {
                token = END;
            } else if (isLetter(first)) {
                passName();
            } else if (isFigure(first)) {
                passNumber();
            } else {
                next++;
                token = first == ';' ? SIGN : NO_TOKEN;
            }
        }

        private void skipBlanks() {
            while (next < tape.length && isBlank(tape.at(next))) {
                next++;
            }
        }

        private void passName() {
            while (next < tape.length && isLetter(tape.at(next))) {
                next++;
            }
            token = next - start <= MOST_LETTERS ? NAME : NO_TOKEN;
        }

        private void passNumber() {
            value = 0;
            while (next < tape.length && isFigure(tape.at(next))) {
                if (next - start < MOST_FIGURES) {
                    value = value * 10 + (tape.at(next) - '0');
                }
                next++;
            }
            token = next - start <= MOST_FIGURES ? NUMBER : NO_TOKEN;
        }

        private static boolean isBlank(int sign) {
            return sign == 32 || sign == 10;
        }

        private static boolean isLetter(int sign) {
            return sign >= 'a' && sign <= 'z';
        }

        private static boolean isFigure(int sign) {
            return sign >= '0' && sign <= '9';
        }
    }

    /** The walk that finds most; what is left to walk is a set of places in the row of stops. */
    private static final class BestWalk {
        static final int MOST_STOPS = 7;

        private final int[] stops = new int[MOST_STOPS];
        /** What is found at a stop, a row of MOST_STOPS steps for each stop. */
        private final int[] found = new int[MOST_STOPS * MOST_STOPS];
        private final int[] mostOfLeft = new int[1 << MOST_STOPS];
        private int length;

        void plan(int set, Stretch[] stretches) {
            length = 0;
            for (int i = 0; i < stretches.length && length < MOST_STOPS; i++) {
                if ((set >> i & 1) != 0) {
                    addStop(i, stretches[i]);
                }
            }
            int all = allStops();
            for (int left = 1; left <= all; left++) {
                mostOfLeft[left] = findsBy(bestNext(left), left);
            }
        }

        private void addStop(int number, Stretch s) {
            stops[length] = number;
            for (int step = 0; step < MOST_STOPS; step++) {
                found[length * MOST_STOPS + step] = s.foundAt(step);
            }
            length++;
        }

        int finds() {
            return mostOfLeft[allStops()];
        }

        int stopAt(int i) {
            if (!within(i, 0, length - 1)) {
                return NONE;
            }
            int left = allStops();
            for (int step = 0; step < i; step++) {
                left &= ~(1 << bestNext(left));
            }
            return stops[bestNext(left)];
        }

        private int allStops() {
            return (1 << length) - 1;
        }

        /** Stops stand in rising order, so the first of several that are as good is the least stretch. */
        private int bestNext(int left) {
            int best = 0;
            int most = -1;
            for (int j = 0; j < length; j++) {
                if ((left >> j & 1) != 0 && findsBy(j, left) > most) {
                    best = j;
                    most = findsBy(j, left);
                }
            }
            return best;
        }

        private int findsBy(int j, int left) {
            int step = length - Integer.bitCount(left);
            return found[j * MOST_STOPS + step] + mostOfLeft[left & ~(1 << j)];
        }
    }

    /** The bodies of the asks, and the trace that they leave. */
    private static final class Asks {
        private static final int MOST_TRACED = 16;

        final int[] bodies = new int[MOST_TRACED];
        int traced;

        int worthOf(Stretch s) {
            switch (s.toldKind()) {
                case Stretch.CROWD: return worthOfCrowd(s);
                case Stretch.SOLD: return worthOfSold(s);
                case Stretch.BARE: return worthOfBare(s);
                default: return worthLent(s);
            }
        }

        int markOf(Stretch s) {
            switch (s.toldKind()) {
                case Stretch.CROWD: return markOfCrowd(s);
                case Stretch.BARE: return markOfBare(s);
                default: return markLent(s);
            }
        }

        private int worthLent(Stretch s) {
            leave(10);
            return s.standing;
        }

        private int worthOfSold(Stretch s) {
            leave(11);
            return worthLent(s) + 1000;
        }

        /** The mark is asked anew of the same stretch, a crowd still: that begins with the crowd's. */
        private int worthOfCrowd(Stretch s) {
            leave(12);
            int sold = worthOfSold(s);
            return sold + markOfCrowd(s);
        }

        private int worthOfBare(Stretch s) {
            leave(13);
            return s.height;
        }

        private int markLent(Stretch s) {
            leave(20);
            return s.zone;
        }

        private int markOfCrowd(Stretch s) {
            leave(21);
            return markLent(s) + s.unpaid;
        }

        /** The worth is asked anew of the same stretch, a bare one still: that begins with the bare one's. */
        private int markOfBare(Stretch s) {
            leave(22);
            int lent = markLent(s);
            return lent + worthOfBare(s);
        }

        private void leave(int body) {
            if (traced < bodies.length) {
                bodies[traced] = body;
                traced++;
            }
        }
    }
}
