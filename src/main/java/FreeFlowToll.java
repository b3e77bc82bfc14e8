import java.util.Arrays;

/**
 * A back office for free-flow tolling. The document's promises say what each
 * public method does; the classes inside hold the parts of the state:
 * the network, the passages, and the trips with their invoices.
 */
public final class FreeFlowToll {
    public static final int NONE = -1;

    private static final int MAX_TEXT = 900;
    private static final int APPENDED = 20;
    private static final int MAX_GANTRIES = 10;
    private static final int MAX_LINKS = 24;
    private static final int MAX_CLASSES = 4;
    private static final int MAX_TAGS = 12;
    private static final int MAX_ROUTE_LINKS = 3;
    private static final int MAX_PASSAGES = 80;
    private static final int MAX_INVOICES = 40;
    private static final int MAX_CHANGES = 10;
    private static final int SLOTS = 2;

    private static final int LANES = 4;
    private static final int MAX_TIME = 99999;
    private static final int MAX_PLATE = 9999;
    private static final int MAX_CONFIDENCE = 100;
    private static final int MAX_PAYMENT = 100000;
    private static final int MIN_AXLES = 2;
    private static final int MAX_AXLES = 9;
    private static final int AXLE_KINDS = MAX_AXLES - MIN_AXLES + 1;
    private static final int KEPT_PLATES = 4;

    private static final int OPEN = 0;
    private static final int BILLED = 1;
    private static final int DISMISSED = 2;

    private static final int UNDISPUTED = 0;
    private static final int DISPUTED = 1;
    private static final int CREDITED = 2;
    private static final int CONFIRMED = 3;

    private static final int NO_VEHICLE = 1;
    private static final int OTHER_PLATE = 2;
    private static final int OTHER_CLASS = 4;

    private Network network = new Network();
    private final NetworkReader reader = new NetworkReader();
    private final RouteFinder route = new RouteFinder();
    private final BillingPlan plan = new BillingPlan();
    private final Ledger ledger = new Ledger();
    private final History history = new History();
    private final Snapshots snapshots = new Snapshots();

    public FreeFlowToll() {
    }

    // ---- network

    public int append(int a, int b, int c, int d, int e) {
        if (reader.held > MAX_TEXT - APPENDED) {
            return NONE;
        }
        reader.addWord(a);
        reader.addWord(b);
        reader.addWord(c);
        reader.addWord(d);
        reader.addWord(e);
        return reader.held;
    }

    public int parse(int length) throws IllegalArgumentException {
        if (length < 0 || length > reader.held) {
            throw new IllegalArgumentException("no such length of the text");
        }
        reader.readText(length);
        if (reader.failure != 0) {
            return -2 - reader.failure;
        }
        Network old = network;
        network = reader.network;
        reader.network = old;
        ledger.reset();
        history.forget();
        snapshots.discard();
        return network.links;
    }

    public int gantryCount() {
        return network.gantries;
    }

    public int tagCount() {
        return network.tags;
    }

    public int classOf(int axles) throws IllegalArgumentException {
        requireAxles(axles);
        return network.classFor(axles);
    }

    public int routeLinks(int from, int to, int elapsed) throws IllegalArgumentException {
        findRoute(from, to, elapsed);
        return route.links;
    }

    public int routePrice(int from, int to, int elapsed) throws IllegalArgumentException {
        findRoute(from, to, elapsed);
        return route.price;
    }

    public int routeGantry(int from, int to, int elapsed, int index) throws IllegalArgumentException {
        findRoute(from, to, elapsed);
        return route.stopAt(index);
    }

    // ---- passages

    public int passageCount() {
        return ledger.passages.count;
    }

    public int passageGantry(int passage) throws IndexOutOfBoundsException {
        requirePassage(passage);
        return ledger.passages.gantry[passage];
    }

    public int passageTime(int passage) throws IndexOutOfBoundsException {
        requirePassage(passage);
        return ledger.passages.time[passage];
    }

    public int passageTag(int passage) throws IndexOutOfBoundsException {
        requirePassage(passage);
        return ledger.passages.tag[passage];
    }

    public int passagePlate(int passage) throws IndexOutOfBoundsException {
        requirePassage(passage);
        return ledger.passages.plateOf(passage, network);
    }

    public int passageAxles(int passage) throws IndexOutOfBoundsException {
        requirePassage(passage);
        return ledger.passages.axlesOf(passage);
    }

    public int votes(int passage, int plate) throws IndexOutOfBoundsException {
        requirePassage(passage);
        return ledger.passages.sumFor(passage, plate);
    }

    public int exceptions(int passage) throws IndexOutOfBoundsException {
        requirePassage(passage);
        return ledger.passages.exceptionsOf(passage, network);
    }

    public int passageState(int passage) throws IndexOutOfBoundsException {
        requirePassage(passage);
        return ledger.passages.state[passage];
    }

    public int tripOf(int passage) throws IndexOutOfBoundsException {
        requirePassage(passage);
        return ledger.passages.trip[passage];
    }

    public int openPassages() {
        return ledger.passages.openCount();
    }

    public int passagesToReview() {
        return ledger.passages.reviewCount(network);
    }

    // ---- trips and invoices

    public int previewTrips(int cutoff) throws IllegalArgumentException {
        requireTime(cutoff);
        plan.make(network, ledger.passages, cutoff, route);
        return plan.trips;
    }

    public int previewTotal(int cutoff) throws IllegalArgumentException {
        requireTime(cutoff);
        plan.make(network, ledger.passages, cutoff, route);
        return plan.total(network);
    }

    public int tripCount() {
        return ledger.bills.trips;
    }

    public int tripAmount(int trip) throws IndexOutOfBoundsException {
        requireTrip(trip);
        return ledger.bills.amount[trip];
    }

    public int tripClass(int trip) throws IndexOutOfBoundsException {
        requireTrip(trip);
        return ledger.bills.vehicleClass[trip];
    }

    public int tripPassages(int trip) throws IndexOutOfBoundsException {
        requireTrip(trip);
        return ledger.bills.passages[trip];
    }

    public int tripState(int trip) throws IndexOutOfBoundsException {
        requireTrip(trip);
        return ledger.bills.state[trip];
    }

    public int invoiceOf(int trip) throws IndexOutOfBoundsException {
        requireTrip(trip);
        return ledger.bills.invoice[trip];
    }

    public int invoiceCount() {
        return ledger.bills.invoices;
    }

    public int invoiceTag(int invoice) throws IndexOutOfBoundsException {
        requireInvoice(invoice);
        return network.tagWithPlate(ledger.bills.plate[invoice]);
    }

    public int invoicePlate(int invoice) throws IndexOutOfBoundsException {
        requireInvoice(invoice);
        return ledger.bills.plate[invoice];
    }

    public int invoiceTotal(int invoice) throws IndexOutOfBoundsException {
        requireInvoice(invoice);
        return ledger.bills.totalOf(invoice, network);
    }

    public int balance(int invoice) throws IndexOutOfBoundsException {
        requireInvoice(invoice);
        return ledger.bills.balanceOf(invoice, network);
    }

    public int outstanding() {
        int sum = 0;
        for (int invoice = 0; invoice < ledger.bills.invoices; invoice++) {
            sum += Math.max(0, ledger.bills.balanceOf(invoice, network));
        }
        return sum;
    }

    // ---- changes: readings

    public int readTag(int gantry, int lane, int time, int tag)
            throws IllegalArgumentException, IllegalStateException {
        requireReading(gantry, lane, time);
        if (!network.hasTag(tag)) {
            throw new IllegalArgumentException("no such tag");
        }
        int passage = placeReading(gantry, lane, time, tag);
        ledger.passages.tag[passage] = tag;
        return passage;
    }

    public int readPlate(int gantry, int lane, int time, int plate, int confidence)
            throws IllegalArgumentException, IllegalStateException {
        requireReading(gantry, lane, time);
        requirePlate(plate);
        if (confidence < 1 || confidence > MAX_CONFIDENCE) {
            throw new IllegalArgumentException("confidence out of range");
        }
        int passage = placeReading(gantry, lane, time, NONE);
        ledger.passages.addVote(passage, plate, confidence);
        return passage;
    }

    public int readAxles(int gantry, int lane, int time, int axles)
            throws IllegalArgumentException, IllegalStateException {
        requireReading(gantry, lane, time);
        requireAxles(axles);
        int passage = placeReading(gantry, lane, time, NONE);
        ledger.passages.addAxles(passage, axles);
        return passage;
    }

    // ---- changes: review

    public int assignPlate(int passage, int plate)
            throws IndexOutOfBoundsException, IllegalArgumentException, IllegalStateException {
        requirePassage(passage);
        requirePlate(plate);
        requireOpen(passage);
        history.keep(ledger);
        ledger.passages.handPlate[passage] = plate;
        return ledger.passages.exceptionsOf(passage, network);
    }

    public int assignAxles(int passage, int axles)
            throws IndexOutOfBoundsException, IllegalArgumentException, IllegalStateException {
        requirePassage(passage);
        requireAxles(axles);
        requireOpen(passage);
        history.keep(ledger);
        ledger.passages.handAxles[passage] = axles;
        return ledger.passages.exceptionsOf(passage, network);
    }

    public int dismiss(int passage) throws IndexOutOfBoundsException, IllegalStateException {
        requirePassage(passage);
        requireOpen(passage);
        history.keep(ledger);
        ledger.passages.state[passage] = DISMISSED;
        return ledger.passages.openCount();
    }

    // ---- changes: billing

    public int bill(int cutoff) throws IllegalArgumentException, IllegalStateException {
        requireTime(cutoff);
        plan.make(network, ledger.passages, cutoff, route);
        if (ledger.bills.invoices + plan.invoices > MAX_INVOICES) {
            throw new IllegalStateException("too many invoices");
        }
        if (plan.trips > 0) {
            history.keep(ledger);
            plan.enter(ledger);
        }
        return plan.trips;
    }

    public int pay(int invoice, int cents) throws IndexOutOfBoundsException, IllegalArgumentException {
        requireInvoice(invoice);
        if (cents < 1 || cents > MAX_PAYMENT) {
            throw new IllegalArgumentException("cents out of range");
        }
        history.keep(ledger);
        ledger.bills.paid[invoice] += cents;
        return ledger.bills.balanceOf(invoice, network);
    }

    public int dispute(int trip) throws IndexOutOfBoundsException, IllegalStateException {
        requireTrip(trip);
        if (ledger.bills.state[trip] != UNDISPUTED) {
            throw new IllegalStateException("the trip was disputed before");
        }
        history.keep(ledger);
        ledger.bills.state[trip] = DISPUTED;
        return ledger.bills.disputedCount();
    }

    public int resolve(int trip, boolean credited) throws IndexOutOfBoundsException, IllegalStateException {
        requireTrip(trip);
        if (ledger.bills.state[trip] != DISPUTED) {
            throw new IllegalStateException("the trip is not disputed");
        }
        history.keep(ledger);
        ledger.bills.state[trip] = credited ? CREDITED : CONFIRMED;
        return ledger.bills.balanceOf(ledger.bills.invoice[trip], network);
    }

    // ---- undo and snapshots

    public int undo() {
        return history.takeBack(ledger);
    }

    public boolean saveSnapshot(int slot) {
        return snapshots.store(slot, ledger);
    }

    public boolean restoreSnapshot(int slot) {
        boolean restored = snapshots.fetch(slot, ledger);
        if (restored) {
            history.forget();
        }
        return restored;
    }

    // ---- what several calls share

    private void findRoute(int from, int to, int elapsed) {
        if (!network.hasGantry(from) || !network.hasGantry(to)) {
            throw new IllegalArgumentException("no such gantry");
        }
        requireTime(elapsed);
        route.find(network, from, to, elapsed);
    }

    private int placeReading(int gantry, int lane, int time, int tag) {
        int passage = ledger.passages.toJoin(gantry, lane, time - network.window, tag);
        if (passage == NONE && ledger.passages.count >= MAX_PASSAGES) {
            throw new IllegalStateException("too many passages");
        }
        history.keep(ledger);
        ledger.passages.latestTime = time;
        return passage == NONE ? ledger.passages.begin(gantry, lane, time) : passage;
    }

    private void requireReading(int gantry, int lane, int time) {
        if (!network.hasGantry(gantry)) {
            throw new IllegalArgumentException("no such gantry");
        }
        if (lane < 0 || lane >= LANES) {
            throw new IllegalArgumentException("no such lane");
        }
        requireTime(time);
        if (time < ledger.passages.latestTime) {
            throw new IllegalArgumentException("earlier than the latest reading");
        }
    }

    private void requireTime(int time) {
        if (time < 0 || time > MAX_TIME) {
            throw new IllegalArgumentException("time out of range");
        }
    }

    private void requirePlate(int plate) {
        if (plate < 1 || plate > MAX_PLATE) {
            throw new IllegalArgumentException("plate out of range");
        }
    }

    private void requireAxles(int axles) {
        if (axles < MIN_AXLES || axles > MAX_AXLES) {
            throw new IllegalArgumentException("axles out of range");
        }
    }

    private void requirePassage(int passage) {
        if (passage < 0 || passage >= ledger.passages.count) {
            throw new IndexOutOfBoundsException("no such passage");
        }
    }

    private void requireOpen(int passage) {
        if (ledger.passages.state[passage] != OPEN) {
            throw new IllegalStateException("the passage is not open");
        }
    }

    private void requireTrip(int trip) {
        if (trip < 0 || trip >= ledger.bills.trips) {
            throw new IndexOutOfBoundsException("no such trip");
        }
    }

    private void requireInvoice(int invoice) {
        if (invoice < 0 || invoice >= ledger.bills.invoices) {
            throw new IndexOutOfBoundsException("no such invoice");
        }
    }

    /** Gantries, links, classes and tags, and the three settings. */
    private static final class Network {
        private int gantries = 0;
        private int links = 0;
        private int classes = 0;
        private int tags = 0;
        private int window = 1;
        private int confidence = 60;
        private int fee = 0;
        // One cell for each pair of gantries: two links never have the same ends. 0 minutes: no link.
        private final int[] linkMinutes = new int[MAX_GANTRIES * MAX_GANTRIES];
        private final int[] linkPrice = new int[MAX_GANTRIES * MAX_GANTRIES];
        private final int[] classAxles = new int[MAX_CLASSES];
        private final int[] classPercent = new int[MAX_CLASSES];
        private final int[] tagPlate = new int[MAX_TAGS];
        private final int[] tagAxles = new int[MAX_TAGS];

        private void reset() {
            gantries = 0;
            links = 0;
            classes = 0;
            tags = 0;
            window = 1;
            confidence = 60;
            fee = 0;
            Arrays.fill(linkMinutes, 0);
            Arrays.fill(linkPrice, 0);
        }

        private boolean hasGantry(int gantry) {
            return gantry >= 0 && gantry < gantries;
        }

        private boolean hasTag(int tag) {
            return tag >= 0 && tag < tags;
        }

        private int minutesOf(int from, int to) {
            boolean known = from >= 0 && from < gantries && to >= 0 && to < gantries;
            return known ? linkMinutes[from * MAX_GANTRIES + to] : 0;
        }

        private int priceOf(int from, int to) {
            boolean known = from >= 0 && from < gantries && to >= 0 && to < gantries;
            return known ? linkPrice[from * MAX_GANTRIES + to] : 0;
        }

        private void addLink(int from, int to, int minutes, int price) {
            if (hasGantry(from) && hasGantry(to)) {
                linkMinutes[from * MAX_GANTRIES + to] = minutes;
                linkPrice[from * MAX_GANTRIES + to] = price;
                links++;
            }
        }

        private void addClass(int axles, int percent) {
            if (classes < MAX_CLASSES) {
                classAxles[classes] = axles;
                classPercent[classes] = percent;
                classes++;
            }
        }

        private void addTag(int plate, int axles) {
            if (tags < MAX_TAGS) {
                tagPlate[tags] = plate;
                tagAxles[tags] = axles;
                tags++;
            }
        }

        private int lastClassAxles() {
            return classes > 0 ? classAxles[classes - 1] : 0;
        }

        private int classFor(int axles) {
            for (int c = classes - 1; c >= 0; c--) {
                if (classAxles[c] <= axles) {
                    return c;
                }
            }
            return NONE;
        }

        private int priceForClass(int price, int vehicleClass) {
            boolean known = vehicleClass >= 0 && vehicleClass < classes;
            return known ? price * classPercent[vehicleClass] / 100 : price;
        }

        private int tagWithPlate(int plate) {
            for (int tag = 0; tag < tags; tag++) {
                if (tagPlate[tag] == plate) {
                    return tag;
                }
            }
            return NONE;
        }

        private int plateOfTag(int tag) {
            return hasTag(tag) ? tagPlate[tag] : NONE;
        }

        private int axlesOfVehicle(int plate) {
            int tag = tagWithPlate(plate);
            return tag == NONE ? MIN_AXLES : tagAxles[tag];
        }

        private int feeFor(int plate) {
            return tagWithPlate(plate) == NONE ? fee : 0;
        }

        private int lowestPriceAt(int gantry) {
            int lowest = 0;
            for (int other = 0; other < gantries; other++) {
                lowest = lowerPrice(lowest, priceOf(gantry, other));
                lowest = lowerPrice(lowest, priceOf(other, gantry));
            }
            return lowest;
        }

        // 0 stands for no link.
        private static int lowerPrice(int lowest, int price) {
            return price > 0 && (lowest == 0 || price < lowest) ? price : lowest;
        }
    }

    /** Holds the input buffer and reads a network text token by token, up to its first error. */
    private static final class NetworkReader {
        private static final int SYNTAX = 1;
        private static final int RANGE = 2;
        private static final int REPEATED = 3;
        private static final int TOO_MANY = 4;

        private static final int END = 0;
        private static final int WORD = 1;
        private static final int NUMBER = 2;
        private static final int SEMICOLON = 3;
        private static final int ILLEGAL = 4;
        private static final int WHITE = 5;

        private static final int MAX_LETTERS = 10;
        private static final int MAX_DIGITS = 4;

        private final int[] text = new int[MAX_TEXT];
        private int held = 0;
        private int length = 0;
        // The network of its own that a text is read into: an error leaves the current one alone.
        private Network network = new Network();
        // 0, or 8 * offset + kind of the first error, which is never 0.
        private int failure = 0;
        private int token = END;
        private int start = 0;
        private int end = 0;
        private boolean windowSeen = false;
        private boolean confidenceSeen = false;
        private boolean feeSeen = false;

        /** Adds four bytes, the most significant one first. */
        private void addWord(int word) {
            for (int shift = 24; shift >= 0 && held < MAX_TEXT; shift -= 8) {
                text[held] = (word >>> shift) & 255;
                held++;
            }
        }

        /** Empties the buffer; no text at all is the empty network. */
        private void readText(int bytes) {
            length = Math.min(bytes, MAX_TEXT);
            held = 0;
            network.reset();
            failure = 0;
            end = 0;
            windowSeen = false;
            confidenceSeen = false;
            feeSeen = false;
            if (length > 0) {
                readHead();
            }
            // Each statement takes a byte at least, so there are never more statements than bytes.
            for (int n = 0; n < length && failure == 0; n++) {
                advance();
                if (token == END) {
                    return;
                }
                readStatement();
                readSemicolon();
            }
        }

        private void readHead() {
            advance();
            if (!isWord("gantries")) {
                fail(SYNTAX);
            }
            int count = readNumber(2, MAX_GANTRIES);
            if (failure == 0) {
                network.gantries = count;
            }
            readSemicolon();
        }

        private void readStatement() {
            if (isWord("link")) {
                readLink();
            } else if (isWord("class")) {
                readClass();
            } else if (isWord("tag")) {
                readTagStatement();
            } else if (isWord("window")) {
                readWindow();
            } else if (isWord("confidence")) {
                readConfidence();
            } else if (isWord("fee")) {
                readFee();
            } else {
                fail(SYNTAX);
            }
        }

        private void readLink() {
            if (network.links >= MAX_LINKS) {
                fail(TOO_MANY);
            }
            int from = readNumber(0, network.gantries - 1);
            int to = readNumber(0, network.gantries - 1);
            if (from == to || network.minutesOf(from, to) > 0) {
                fail(REPEATED);
            }
            int minutes = readNumber(1, 120);
            int price = readNumber(1, 5000);
            if (failure == 0) {
                network.addLink(from, to, minutes, price);
            }
        }

        private void readClass() {
            if (network.classes >= MAX_CLASSES) {
                fail(TOO_MANY);
            }
            int axles = readNumber(Math.max(MIN_AXLES, network.lastClassAxles() + 1), MAX_AXLES);
            int percent = readNumber(1, 900);
            if (failure == 0) {
                network.addClass(axles, percent);
            }
        }

        private void readTagStatement() {
            if (network.tags >= MAX_TAGS) {
                fail(TOO_MANY);
            }
            int plate = readNumber(1, MAX_PLATE);
            if (network.tagWithPlate(plate) != NONE) {
                fail(REPEATED);
            }
            int axles = readNumber(MIN_AXLES, MAX_AXLES);
            if (failure == 0) {
                network.addTag(plate, axles);
            }
        }

        private void readWindow() {
            if (windowSeen) {
                fail(REPEATED);
            }
            windowSeen = true;
            network.window = readNumber(0, 10);
        }

        private void readConfidence() {
            if (confidenceSeen) {
                fail(REPEATED);
            }
            confidenceSeen = true;
            network.confidence = readNumber(1, 300);
        }

        private void readFee() {
            if (feeSeen) {
                fail(REPEATED);
            }
            feeSeen = true;
            network.fee = readNumber(0, 5000);
        }

        /** After a failure the answer means nothing. */
        private int readNumber(int low, int high) {
            advance();
            if (token != NUMBER) {
                fail(SYNTAX);
                return NONE;
            }
            int value = 0;
            for (int i = start; i < end; i++) {
                value = 10 * value + text[i] - '0';
            }
            if (value < low || value > high) {
                fail(RANGE);
            }
            return value;
        }

        private void readSemicolon() {
            advance();
            if (token != SEMICOLON) {
                fail(SYNTAX);
            }
        }

        // The errors come in the order of their offsets, so only the first one counts.
        private void fail(int kind) {
            if (failure == 0) {
                failure = 8 * start + kind;
            }
        }

        private void advance() {
            start = end;
            while (start < length && kindOf(text[start]) == WHITE) {
                start++;
            }
            end = start;
            if (start >= length) {
                token = END;
                return;
            }
            token = kindOf(text[start]);
            end++;
            boolean run = token == WORD || token == NUMBER;
            while (run && end < length && kindOf(text[end]) == token) {
                end++;
            }
            if (run && end - start > (token == WORD ? MAX_LETTERS : MAX_DIGITS)) {
                token = ILLEGAL;
            }
        }

        private static int kindOf(int sign) {
            if (sign >= 'a' && sign <= 'z') {
                return WORD;
            }
            if (sign >= '0' && sign <= '9') {
                return NUMBER;
            }
            if (sign == ';') {
                return SEMICOLON;
            }
            return sign == ' ' || sign == '\n' ? WHITE : ILLEGAL;
        }

        private boolean isWord(String word) {
            if (token != WORD || end - start != word.length()) {
                return false;
            }
            for (int i = 0; i < word.length(); i++) {
                if (text[start + i] != word.charAt(i)) {
                    return false;
                }
            }
            return true;
        }
    }

    /** Chooses the route for two gantries and an elapsed time. */
    private static final class RouteFinder {
        private int links = NONE;
        private int price = NONE;
        private final int[] stops = new int[MAX_ROUTE_LINKS + 1];

        private void find(Network network, int from, int to, int elapsed) {
            links = NONE;
            price = NONE;
            findDirect(network, from, to, elapsed);
            if (links == NONE) {
                findOverOne(network, from, to, elapsed);
            }
            if (links == NONE) {
                findOverTwo(network, from, to, elapsed);
            }
        }

        private int stopAt(int index) {
            return index >= 0 && index <= links ? stops[index] : NONE;
        }

        private void findDirect(Network network, int from, int to, int elapsed) {
            int minutes = network.minutesOf(from, to);
            if (minutes > 0 && minutes >= elapsed) {
                links = 1;
                price = network.priceOf(from, to);
                stops[0] = from;
                stops[1] = to;
            }
        }

        // The gantries between are tried in ascending order and only a lower price replaces
        // a route, so that of equal prices the lexicographically first one stays.
        private void findOverOne(Network network, int from, int to, int elapsed) {
            for (int second = 0; second < network.gantries; second++) {
                int first = network.minutesOf(from, second);
                int last = network.minutesOf(second, to);
                if (first > 0 && last > 0 && first + last >= elapsed) {
                    int cost = network.priceOf(from, second) + network.priceOf(second, to);
                    if (links == NONE || cost < price) {
                        links = 2;
                        price = cost;
                        stops[0] = from;
                        stops[1] = second;
                        stops[2] = to;
                    }
                }
            }
        }

        private void findOverTwo(Network network, int from, int to, int elapsed) {
            for (int second = 0; second < network.gantries; second++) {
                int first = network.minutesOf(from, second);
                for (int third = 0; first > 0 && third < network.gantries; third++) {
                    int middle = network.minutesOf(second, third);
                    int last = network.minutesOf(third, to);
                    if (middle > 0 && last > 0 && first + middle + last >= elapsed) {
                        offerThree(network, from, second, third, to);
                    }
                }
            }
        }

        private void offerThree(Network network, int from, int second, int third, int to) {
            int cost = network.priceOf(from, second) + network.priceOf(second, third) + network.priceOf(third, to);
            if (links == NONE || cost < price) {
                links = 3;
                price = cost;
                stops[0] = from;
                stops[1] = second;
                stops[2] = third;
                stops[3] = to;
            }
        }
    }

    /** The passages, a column for each of their properties. */
    private static final class Passages {
        private int count = 0;
        private int latestTime = 0;
        private final int[] gantry = new int[MAX_PASSAGES];
        private final int[] lane = new int[MAX_PASSAGES];
        private final int[] time = new int[MAX_PASSAGES];
        private final int[] tag = new int[MAX_PASSAGES];
        private final int[] handPlate = new int[MAX_PASSAGES];
        private final int[] handAxles = new int[MAX_PASSAGES];
        private final int[] state = new int[MAX_PASSAGES];
        private final int[] trip = new int[MAX_PASSAGES];
        // KEPT_PLATES cells for each passage, filled in the order of reading; plate 0: a free cell.
        private final int[] readPlates = new int[MAX_PASSAGES * KEPT_PLATES];
        private final int[] plateSums = new int[MAX_PASSAGES * KEPT_PLATES];
        // AXLE_KINDS cells for each passage: how often each number of axles was read.
        private final int[] axleReadings = new int[MAX_PASSAGES * AXLE_KINDS];

        private void reset() {
            count = 0;
            latestTime = 0;
        }

        private void copyFrom(Passages other) {
            count = other.count;
            latestTime = other.latestTime;
            System.arraycopy(other.gantry, 0, gantry, 0, MAX_PASSAGES);
            System.arraycopy(other.lane, 0, lane, 0, MAX_PASSAGES);
            System.arraycopy(other.time, 0, time, 0, MAX_PASSAGES);
            System.arraycopy(other.tag, 0, tag, 0, MAX_PASSAGES);
            System.arraycopy(other.handPlate, 0, handPlate, 0, MAX_PASSAGES);
            System.arraycopy(other.handAxles, 0, handAxles, 0, MAX_PASSAGES);
            System.arraycopy(other.state, 0, state, 0, MAX_PASSAGES);
            System.arraycopy(other.trip, 0, trip, 0, MAX_PASSAGES);
            System.arraycopy(other.readPlates, 0, readPlates, 0, MAX_PASSAGES * KEPT_PLATES);
            System.arraycopy(other.plateSums, 0, plateSums, 0, MAX_PASSAGES * KEPT_PLATES);
            System.arraycopy(other.axleReadings, 0, axleReadings, 0, MAX_PASSAGES * AXLE_KINDS);
        }

        /** Only the latest passage of a lane can be joined. */
        private int toJoin(int atGantry, int atLane, int earliest, int newTag) {
            for (int p = count - 1; p >= 0; p--) {
                if (gantry[p] == atGantry && lane[p] == atLane) {
                    boolean otherTag = newTag != NONE && tag[p] != NONE && tag[p] != newTag;
                    return state[p] == OPEN && time[p] >= earliest && !otherTag ? p : NONE;
                }
            }
            return NONE;
        }

        /** There must be room for one more passage. */
        private int begin(int atGantry, int atLane, int atTime) {
            int p = Math.min(count, MAX_PASSAGES - 1);
            gantry[p] = atGantry;
            lane[p] = atLane;
            time[p] = atTime;
            tag[p] = NONE;
            handPlate[p] = NONE;
            handAxles[p] = NONE;
            state[p] = OPEN;
            trip[p] = NONE;
            for (int i = p * KEPT_PLATES; i < (p + 1) * KEPT_PLATES; i++) {
                readPlates[i] = 0;
                plateSums[i] = 0;
            }
            for (int i = p * AXLE_KINDS; i < (p + 1) * AXLE_KINDS; i++) {
                axleReadings[i] = 0;
            }
            count = p + 1;
            return p;
        }

        private void addVote(int p, int plate, int confidence) {
            for (int i = p * KEPT_PLATES; i < (p + 1) * KEPT_PLATES; i++) {
                if (readPlates[i] == plate || readPlates[i] == 0) {
                    readPlates[i] = plate;
                    plateSums[i] += confidence;
                    return;
                }
            }
        }

        private void addAxles(int p, int axles) {
            if (axles >= MIN_AXLES && axles <= MAX_AXLES) {
                axleReadings[p * AXLE_KINDS + axles - MIN_AXLES]++;
            }
        }

        private int sumFor(int p, int plate) {
            for (int i = p * KEPT_PLATES; i < (p + 1) * KEPT_PLATES; i++) {
                if (readPlates[i] == plate) {
                    return plateSums[i];
                }
            }
            return 0;
        }

        private int plateOf(int p, Network network) {
            if (handPlate[p] != NONE) {
                return handPlate[p];
            }
            int best = p * KEPT_PLATES;
            for (int i = best + 1; i < (p + 1) * KEPT_PLATES; i++) {
                if (plateSums[i] > plateSums[best]) {
                    best = i;
                }
            }
            return plateSums[best] >= network.confidence ? readPlates[best] : NONE;
        }

        private int axlesOf(int p) {
            if (handAxles[p] != NONE) {
                return handAxles[p];
            }
            int most = 0;
            int axles = NONE;
            for (int kind = 0; kind < AXLE_KINDS; kind++) {
                int readings = axleReadings[p * AXLE_KINDS + kind];
                if (readings > 0 && readings >= most) {
                    most = readings;
                    axles = MIN_AXLES + kind;
                }
            }
            return axles;
        }

        /**
         * A vehicle is known by its plate, be it a tag or not: no two tags have
         * one plate, and a plate that belongs to a tag means this tag.
         */
        private int vehicleOf(int p, Network network) {
            return tag[p] == NONE ? plateOf(p, network) : network.plateOfTag(tag[p]);
        }

        private int exceptionsOf(int p, Network network) {
            int vehicle = vehicleOf(p, network);
            if (vehicle == NONE) {
                return NO_VEHICLE;
            }
            int sum = 0;
            int plate = plateOf(p, network);
            if (plate != NONE && plate != vehicle) {
                sum += OTHER_PLATE;
            }
            int axles = axlesOf(p);
            if (axles != NONE && network.tagWithPlate(vehicle) != NONE
                    && network.classFor(axles) != network.classFor(network.axlesOfVehicle(vehicle))) {
                sum += OTHER_CLASS;
            }
            return sum;
        }

        private int openCount() {
            int open = 0;
            for (int p = 0; p < count; p++) {
                if (state[p] == OPEN) {
                    open++;
                }
            }
            return open;
        }

        private int reviewCount(Network network) {
            int toReview = 0;
            for (int p = 0; p < count; p++) {
                if (state[p] == OPEN && exceptionsOf(p, network) != 0) {
                    toReview++;
                }
            }
            return toReview;
        }
    }

    /** The trips and the invoices, a column for each of their properties. */
    private static final class Bills {
        private int trips = 0;
        private int invoices = 0;
        // Every trip has a passage of its own, so there are never more trips than passages.
        private final int[] amount = new int[MAX_PASSAGES];
        private final int[] vehicleClass = new int[MAX_PASSAGES];
        private final int[] passages = new int[MAX_PASSAGES];
        private final int[] state = new int[MAX_PASSAGES];
        private final int[] invoice = new int[MAX_PASSAGES];
        private final int[] plate = new int[MAX_INVOICES];
        private final int[] paid = new int[MAX_INVOICES];

        private void reset() {
            trips = 0;
            invoices = 0;
        }

        private void copyFrom(Bills other) {
            trips = other.trips;
            invoices = other.invoices;
            System.arraycopy(other.amount, 0, amount, 0, MAX_PASSAGES);
            System.arraycopy(other.vehicleClass, 0, vehicleClass, 0, MAX_PASSAGES);
            System.arraycopy(other.passages, 0, passages, 0, MAX_PASSAGES);
            System.arraycopy(other.state, 0, state, 0, MAX_PASSAGES);
            System.arraycopy(other.invoice, 0, invoice, 0, MAX_PASSAGES);
            System.arraycopy(other.plate, 0, plate, 0, MAX_INVOICES);
            System.arraycopy(other.paid, 0, paid, 0, MAX_INVOICES);
        }

        private void addInvoice(int vehiclePlate) {
            if (invoices < MAX_INVOICES) {
                plate[invoices] = vehiclePlate;
                paid[invoices] = 0;
                invoices++;
            }
        }

        private void addTrip(int ofInvoice, int tripClass, int cents, int passageCount) {
            if (trips < MAX_PASSAGES) {
                invoice[trips] = ofInvoice;
                vehicleClass[trips] = tripClass;
                amount[trips] = cents;
                passages[trips] = passageCount;
                state[trips] = UNDISPUTED;
                trips++;
            }
        }

        private int totalOf(int ofInvoice, Network network) {
            int total = network.feeFor(plate[ofInvoice]);
            for (int t = 0; t < trips; t++) {
                if (invoice[t] == ofInvoice && state[t] != CREDITED) {
                    total += amount[t];
                }
            }
            return total;
        }

        private int balanceOf(int ofInvoice, Network network) {
            return totalOf(ofInvoice, network) - paid[ofInvoice];
        }

        private int disputedCount() {
            int disputed = 0;
            for (int t = 0; t < trips; t++) {
                if (state[t] == DISPUTED) {
                    disputed++;
                }
            }
            return disputed;
        }
    }

    /** Everything that changes are about: what undo takes back and a snapshot holds. */
    private static final class Ledger {
        private final Passages passages = new Passages();
        private final Bills bills = new Bills();

        private void reset() {
            passages.reset();
            bills.reset();
        }

        private void copyFrom(Ledger other) {
            passages.copyFrom(other.passages);
            bills.copyFrom(other.bills);
        }
    }

    /** What billing with a cutoff would make; the limit of invoices is left to the caller. */
    private static final class BillingPlan {
        private int trips = 0;
        private int invoices = 0;
        private final int[] invoicePlate = new int[MAX_PASSAGES];
        private final int[] tripInvoice = new int[MAX_PASSAGES];
        private final int[] tripAxles = new int[MAX_PASSAGES];
        private final int[] tripLength = new int[MAX_PASSAGES];
        private final int[] tripClassNumber = new int[MAX_PASSAGES];
        private final int[] tripCents = new int[MAX_PASSAGES];
        // For each passage: its vehicle, its trip, and the price of the route from the one before.
        private final int[] vehicle = new int[MAX_PASSAGES];
        private final int[] trip = new int[MAX_PASSAGES];
        private final int[] legPrice = new int[MAX_PASSAGES];

        private void make(Network network, Passages passages, int cutoff, RouteFinder route) {
            trips = 0;
            invoices = 0;
            for (int p = 0; p < passages.count; p++) {
                boolean considered = passages.state[p] == OPEN && passages.time[p] <= cutoff;
                vehicle[p] = considered ? passages.vehicleOf(p, network) : NONE;
                trip[p] = NONE;
            }
            for (int p = 0; p < passages.count; p++) {
                if (vehicle[p] != NONE && trip[p] == NONE) {
                    addVehicle(network, passages, p, route);
                }
            }
            priceTrips(network, passages);
        }

        private void addVehicle(Network network, Passages passages, int first, RouteFinder route) {
            if (invoices >= MAX_PASSAGES) {
                return;
            }
            invoicePlate[invoices] = vehicle[first];
            invoices++;
            int before = NONE;
            for (int p = first; p < passages.count; p++) {
                if (vehicle[p] == vehicle[first]) {
                    legPrice[p] = NONE;
                    if (before != NONE) {
                        int elapsed = passages.time[p] - passages.time[before];
                        route.find(network, passages.gantry[before], passages.gantry[p], elapsed);
                        legPrice[p] = route.price;
                    }
                    addPassage(p, passages.axlesOf(p));
                    before = p;
                }
            }
        }

        private void addPassage(int p, int axles) {
            if (legPrice[p] == NONE && trips < MAX_PASSAGES) {
                tripInvoice[trips] = invoices - 1;
                tripAxles[trips] = NONE;
                tripLength[trips] = 0;
                trips++;
            }
            int t = trips - 1;
            if (t >= 0) {
                trip[p] = t;
                tripLength[t]++;
                // NONE is less than any number of axles.
                tripAxles[t] = Math.max(tripAxles[t], axles);
            }
        }

        // The class of a trip is known only when all its passages are.
        private void priceTrips(Network network, Passages passages) {
            for (int t = 0; t < trips; t++) {
                int axles = tripAxles[t];
                if (axles == NONE) {
                    axles = network.axlesOfVehicle(invoicePlate[tripInvoice[t]]);
                }
                tripClassNumber[t] = network.classFor(axles);
                tripCents[t] = 0;
            }
            for (int p = 0; p < passages.count; p++) {
                int t = trip[p];
                if (t != NONE) {
                    int price = legPrice[p];
                    if (price == NONE) {
                        price = tripLength[t] == 1 ? network.lowestPriceAt(passages.gantry[p]) : 0;
                    }
                    tripCents[t] += network.priceForClass(price, tripClassNumber[t]);
                }
            }
        }

        private int total(Network network) {
            int sum = 0;
            for (int i = 0; i < invoices; i++) {
                sum += network.feeFor(invoicePlate[i]);
            }
            for (int t = 0; t < trips; t++) {
                sum += tripCents[t];
            }
            return sum;
        }

        private void enter(Ledger ledger) {
            int firstInvoice = ledger.bills.invoices;
            int firstTrip = ledger.bills.trips;
            for (int i = 0; i < invoices; i++) {
                ledger.bills.addInvoice(invoicePlate[i]);
            }
            for (int t = 0; t < trips; t++) {
                ledger.bills.addTrip(firstInvoice + tripInvoice[t], tripClassNumber[t], tripCents[t], tripLength[t]);
            }
            for (int p = 0; p < ledger.passages.count; p++) {
                if (trip[p] != NONE) {
                    ledger.passages.state[p] = BILLED;
                    ledger.passages.trip[p] = firstTrip + trip[p];
                }
            }
        }
    }

    /** The ledgers before the latest changes, in a ring that forgets the oldest. */
    private static final class History {
        private final Ledger[] ring = new Ledger[MAX_CHANGES];
        private int next = 0;
        private int depth = 0;

        private void keep(Ledger current) {
            Ledger row = ring[next];
            // Most objects see few changes, so a row is made when it is first needed, and then kept.
            if (row == null) {
                row = new Ledger();
                ring[next] = row;
            }
            row.copyFrom(current);
            next = next + 1 < MAX_CHANGES ? next + 1 : 0;
            depth = Math.min(depth + 1, MAX_CHANGES);
        }

        private int takeBack(Ledger current) {
            if (depth == 0) {
                return NONE;
            }
            next = next > 0 ? next - 1 : MAX_CHANGES - 1;
            depth--;
            Ledger row = ring[next];
            if (row != null) {
                current.copyFrom(row);
            }
            return depth;
        }

        private void forget() {
            depth = 0;
        }
    }

    /** The two slots; a slot keeps its row when it is emptied. */
    private static final class Snapshots {
        private final Ledger[] rows = new Ledger[SLOTS];
        private final boolean[] full = new boolean[SLOTS];

        private boolean store(int slot, Ledger current) {
            if (slot < 0 || slot >= SLOTS) {
                return false;
            }
            Ledger row = rows[slot];
            if (row == null) {
                row = new Ledger();
                rows[slot] = row;
            }
            row.copyFrom(current);
            full[slot] = true;
            return true;
        }

        private boolean fetch(int slot, Ledger current) {
            if (slot < 0 || slot >= SLOTS || !full[slot]) {
                return false;
            }
            Ledger row = rows[slot];
            if (row == null) {
                return false;
            }
            current.copyFrom(row);
            return true;
        }

        private void discard() {
            for (int slot = 0; slot < SLOTS; slot++) {
                full[slot] = false;
            }
        }
    }
}
