import java.util.ArrayList;
import java.util.Comparator;
import java.util.HashMap;
import java.util.LinkedHashMap;
import java.util.List;
import java.util.Map;
import java.util.TreeMap;
import java.util.regex.Matcher;
import java.util.regex.Pattern;

/**
 * The document once more, written for plainness and not for room: the state is
 * the list of all changes, and what it comes to is worked out anew after each.
 */
final class Model {
    record Link(int from, int to, int minutes, int price) {
    }

    record Tag(int plate, int axles) {
    }

    record VehicleClass(int axles, int percent) {
    }

    record Route(List<Integer> gantries, int minutes, int price) {
    }

    record Event(String name, int... arguments) {
    }

    static final class Net {
        int gantries = 0;
        final List<Link> links = new ArrayList<>();
        final List<VehicleClass> classes = new ArrayList<>();
        final List<Tag> tags = new ArrayList<>();
        final Map<String, Integer> settings = new HashMap<>();

        int setting(String name, int otherwise) {
            return settings.getOrDefault(name, otherwise);
        }
    }

    static final class Passage {
        final int gantry;
        final int lane;
        final int time;
        int tag = -1;
        int handPlate = -1;
        int handAxles = -1;
        int state = 0;
        int trip = -1;
        final Map<Integer, Integer> votes = new LinkedHashMap<>();
        final Map<Integer, Integer> axleReadings = new TreeMap<>();

        Passage(int gantry, int lane, int time) {
            this.gantry = gantry;
            this.lane = lane;
            this.time = time;
        }
    }

    static final class Trip {
        final List<Integer> passages = new ArrayList<>();
        int amount = 0;
        int vehicleClass = -1;
        int state = 0;
        int invoice = -1;
    }

    static final class Invoice {
        int tag = -1;
        int plate = -1;
        int paid = 0;
    }

    static final class State {
        int latest = 0;
        final List<Passage> passages = new ArrayList<>();
        final List<Trip> trips = new ArrayList<>();
        final List<Invoice> invoices = new ArrayList<>();
    }

    static final class SyntaxError extends Exception {
        private static final long serialVersionUID = 1L;
        final int code;

        SyntaxError(int offset, int kind) {
            code = -2 - (8 * offset + kind);
        }
    }

    private final StringBuilder buffer = new StringBuilder();
    private Net net = new Net();
    private List<Event> events = new ArrayList<>();
    private final List<List<Event>> history = new ArrayList<>();
    private final Map<Integer, List<Event>> slots = new HashMap<>();
    private State now = new State();

    // ---- the answers, by the names of the calls

    int ask(String call, int... a) {
        return switch (call) {
            case "append" -> append(a);
            case "parse" -> parse(a[0]);
            case "gantryCount" -> net.gantries;
            case "tagCount" -> net.tags.size();
            case "classOf" -> classNumber(argument(a[0], 2, 9));
            case "routeLinks" -> route(a) == null ? -1 : route(a).gantries.size() - 1;
            case "routePrice" -> route(a) == null ? -1 : route(a).price;
            case "routeGantry" -> routeGantry(a);
            case "passageCount" -> now.passages.size();
            case "passageGantry" -> passage(a[0]).gantry;
            case "passageTime" -> passage(a[0]).time;
            case "passageTag" -> passage(a[0]).tag;
            case "passagePlate" -> plate(passage(a[0]));
            case "passageAxles" -> axles(passage(a[0]));
            case "votes" -> passage(a[0]).votes.getOrDefault(a[1], 0);
            case "exceptions" -> exceptions(passage(a[0]));
            case "passageState" -> passage(a[0]).state;
            case "tripOf" -> passage(a[0]).trip;
            case "openPassages" -> (int) now.passages.stream().filter(p -> p.state == 0).count();
            case "passagesToReview" ->
                (int) now.passages.stream().filter(p -> p.state == 0 && exceptions(p) != 0).count();
            case "previewTrips" -> preview(a[0]).trips.size() - now.trips.size();
            case "previewTotal" -> previewTotal(a[0]);
            default -> askBills(call, a);
        };
    }

    private int askBills(String call, int... a) {
        return switch (call) {
            case "tripCount" -> now.trips.size();
            case "tripAmount" -> trip(a[0]).amount;
            case "tripClass" -> trip(a[0]).vehicleClass;
            case "tripPassages" -> trip(a[0]).passages.size();
            case "tripState" -> trip(a[0]).state;
            case "invoiceOf" -> trip(a[0]).invoice;
            case "invoiceCount" -> now.invoices.size();
            case "invoiceTag" -> invoice(a[0]).tag;
            case "invoicePlate" -> invoice(a[0]).plate;
            case "invoiceTotal" -> total(now, a[0]);
            case "balance" -> balance(a[0]);
            case "outstanding" -> outstanding();
            case "undo" -> undo();
            case "saveSnapshot" -> saveSnapshot(a[0]);
            case "restoreSnapshot" -> restoreSnapshot(a[0]);
            default -> change(call, a);
        };
    }

    private static int argument(int value, int low, int high) {
        if (value < low || value > high) {
            throw new IllegalArgumentException();
        }
        return value;
    }

    private static <T> T item(List<T> list, int index) {
        if (index < 0 || index >= list.size()) {
            throw new IndexOutOfBoundsException();
        }
        return list.get(index);
    }

    private Passage passage(int index) {
        return item(now.passages, index);
    }

    private Trip trip(int index) {
        return item(now.trips, index);
    }

    private Invoice invoice(int index) {
        return item(now.invoices, index);
    }

    // ---- network

    private int append(int... words) {
        if (buffer.length() + 20 > 900) {
            return -1;
        }
        for (int word : words) {
            buffer.append((char) (word >> 24 & 255)).append((char) (word >> 16 & 255));
            buffer.append((char) (word >> 8 & 255)).append((char) (word & 255));
        }
        return buffer.length();
    }

    private int parse(int length) {
        argument(length, 0, buffer.length());
        String text = buffer.substring(0, length);
        buffer.setLength(0);
        Net read;
        try {
            read = length == 0 ? new Net() : new Text(text).network();
        } catch (SyntaxError e) {
            return e.code;
        }
        net = read;
        events = new ArrayList<>();
        history.clear();
        slots.clear();
        now = new State();
        return net.links.size();
    }

    /** The tokens of a text, each with its offset, and the grammar over them. */
    private static final class Text {
        private static final Pattern TOKEN = Pattern.compile("[ \\n]+|[a-z]+|[0-9]+|.", Pattern.DOTALL);
        private final List<String> tokens = new ArrayList<>();
        private final List<Integer> offsets = new ArrayList<>();
        private int at = 0;
        private final Net net = new Net();

        Text(String text) {
            Matcher m = TOKEN.matcher(text);
            while (m.find()) {
                if (!m.group().isBlank() || !m.group().matches("[ \\n]+")) {
                    tokens.add(m.group());
                    offsets.add(m.start());
                }
            }
            tokens.add("");
            offsets.add(text.length());
        }

        Net network() throws SyntaxError {
            expect("gantries");
            net.gantries = number(2, 10);
            expect(";");
            while (!tokens.get(at).isEmpty()) {
                statement();
                expect(";");
            }
            return net;
        }

        private void expect(String token) throws SyntaxError {
            if (!tokens.get(at).equals(token)) {
                throw new SyntaxError(offsets.get(at), 1);
            }
            at++;
        }

        private int number(int low, int high) throws SyntaxError {
            String token = tokens.get(at);
            if (!token.matches("[0-9]{1,4}")) {
                throw new SyntaxError(offsets.get(at), 1);
            }
            int value = Integer.parseInt(token);
            if (value < low || value > high) {
                throw new SyntaxError(offsets.get(at), 2);
            }
            at++;
            return value;
        }

        /** The error of the token before. */
        private void refuse(boolean wrong, int kind) throws SyntaxError {
            if (wrong) {
                throw new SyntaxError(offsets.get(at - 1), kind);
            }
        }

        private void statement() throws SyntaxError {
            String word = tokens.get(at);
            if (!word.matches("link|class|tag|window|confidence|fee")) {
                throw new SyntaxError(offsets.get(at), 1);
            }
            at++;
            switch (word) {
                case "link" -> {
                    refuse(net.links.size() == 24, 4);
                    int from = number(0, net.gantries - 1);
                    int to = number(0, net.gantries - 1);
                    refuse(from == to || net.links.stream().anyMatch(l -> l.from == from && l.to == to), 3);
                    net.links.add(new Link(from, to, number(1, 120), number(1, 5000)));
                }
                case "class" -> {
                    refuse(net.classes.size() == 4, 4);
                    int least = net.classes.stream().mapToInt(c -> c.axles + 1).max().orElse(2);
                    net.classes.add(new VehicleClass(number(least, 9), number(1, 900)));
                }
                case "tag" -> {
                    refuse(net.tags.size() == 12, 4);
                    int plate = number(1, 9999);
                    refuse(net.tags.stream().anyMatch(t -> t.plate == plate), 3);
                    net.tags.add(new Tag(plate, number(2, 9)));
                }
                default -> {
                    refuse(net.settings.containsKey(word), 3);
                    int high = word.equals("window") ? 10 : word.equals("confidence") ? 300 : 5000;
                    net.settings.put(word, number(word.equals("confidence") ? 1 : 0, high));
                }
            }
        }
    }

    private int classNumber(int axles) {
        int found = -1;
        for (VehicleClass c : net.classes) {
            if (c.axles <= axles) {
                found = net.classes.indexOf(c);
            }
        }
        return found;
    }

    private int priced(int price, int vehicleClass) {
        return vehicleClass < 0 ? price : price * net.classes.get(vehicleClass).percent / 100;
    }

    private Route route(int... a) {
        argument(a[0], 0, net.gantries - 1);
        argument(a[1], 0, net.gantries - 1);
        argument(a[2], 0, 99999);
        List<Route> all = new ArrayList<>();
        collect(new Route(List.of(a[0]), 0, 0), a[1], a[2], all);
        Comparator<Route> best = Comparator.comparingInt((Route r) -> r.gantries.size())
                .thenComparingInt(r -> r.price).thenComparing(r -> r.gantries.toString());
        return all.stream().min(best).orElse(null);
    }

    // Gantries have one digit each, so their lists as texts are ordered as they are.
    private void collect(Route begun, int to, int elapsed, List<Route> all) {
        int last = begun.gantries.get(begun.gantries.size() - 1);
        if (begun.gantries.size() > 1 && last == to && begun.minutes >= elapsed) {
            all.add(begun);
        }
        if (begun.gantries.size() == 4) {
            return;
        }
        for (Link link : net.links) {
            if (link.from == last) {
                List<Integer> gantries = new ArrayList<>(begun.gantries);
                gantries.add(link.to);
                collect(new Route(gantries, begun.minutes + link.minutes, begun.price + link.price), to, elapsed, all);
            }
        }
    }

    private int routeGantry(int... a) {
        Route route = route(a);
        return route == null || a[3] < 0 || a[3] >= route.gantries.size() ? -1 : route.gantries.get(a[3]);
    }

    // ---- passages

    private int plate(Passage p) {
        if (p.handPlate != -1) {
            return p.handPlate;
        }
        int best = p.votes.values().stream().mapToInt(v -> v).max().orElse(0);
        if (best < net.setting("confidence", 60)) {
            return -1;
        }
        return p.votes.keySet().stream().filter(plate -> p.votes.get(plate) == best).findFirst().orElse(-1);
    }

    private int axles(Passage p) {
        if (p.handAxles != -1) {
            return p.handAxles;
        }
        int most = p.axleReadings.values().stream().mapToInt(n -> n).max().orElse(0);
        return p.axleReadings.keySet().stream().filter(n -> p.axleReadings.get(n) == most)
                .reduce((one, other) -> other).orElse(-1);
    }

    private int vehicleTag(Passage p) {
        if (p.tag != -1) {
            return p.tag;
        }
        for (int t = 0; t < net.tags.size(); t++) {
            if (net.tags.get(t).plate == plate(p)) {
                return t;
            }
        }
        return -1;
    }

    /** A name for a vehicle, or null without one. */
    private String vehicle(Passage p) {
        if (vehicleTag(p) != -1) {
            return "tag " + vehicleTag(p);
        }
        return plate(p) == -1 ? null : "plate " + plate(p);
    }

    private int exceptions(Passage p) {
        int sum = vehicle(p) == null ? 1 : 0;
        if (p.tag != -1 && plate(p) != -1 && plate(p) != net.tags.get(p.tag).plate) {
            sum += 2;
        }
        if (vehicleTag(p) != -1 && axles(p) != -1
                && classNumber(axles(p)) != classNumber(net.tags.get(vehicleTag(p)).axles)) {
            sum += 4;
        }
        return sum;
    }

    // ---- billing

    /** The state as it would be after billing, without the limit of invoices. */
    private State preview(int cutoff) {
        argument(cutoff, 0, 99999);
        State then = replay(events);
        billAll(then, cutoff);
        return then;
    }

    private int previewTotal(int cutoff) {
        State then = preview(cutoff);
        int sum = 0;
        for (int i = now.invoices.size(); i < then.invoices.size(); i++) {
            sum += total(then, i);
        }
        return sum;
    }

    private void billAll(State s, int cutoff) {
        Map<String, List<Integer>> byVehicle = new LinkedHashMap<>();
        for (int n = 0; n < s.passages.size(); n++) {
            Passage p = s.passages.get(n);
            if (p.state == 0 && p.time <= cutoff && vehicle(p) != null) {
                byVehicle.computeIfAbsent(vehicle(p), v -> new ArrayList<>()).add(n);
            }
        }
        for (List<Integer> numbers : byVehicle.values()) {
            Passage first = s.passages.get(numbers.get(0));
            Invoice invoice = new Invoice();
            invoice.tag = vehicleTag(first);
            invoice.plate = invoice.tag == -1 ? plate(first) : net.tags.get(invoice.tag).plate;
            s.invoices.add(invoice);
            Trip trip = null;
            for (int k = 0; k < numbers.size(); k++) {
                Passage p = s.passages.get(numbers.get(k));
                Passage before = k == 0 ? null : s.passages.get(numbers.get(k - 1));
                if (before == null || route(before.gantry, p.gantry, p.time - before.time) == null) {
                    trip = new Trip();
                    trip.invoice = s.invoices.size() - 1;
                    s.trips.add(trip);
                }
                trip.passages.add(numbers.get(k));
                p.trip = s.trips.size() - 1;
            }
        }
        byVehicle.values().forEach(numbers -> numbers.forEach(n -> s.passages.get(n).state = 1));
        s.trips.stream().filter(t -> t.amount == 0 && t.state == 0).forEach(t -> price(s, t));
    }

    private void price(State s, Trip trip) {
        int axles = trip.passages.stream().mapToInt(n -> axles(s.passages.get(n))).max().orElse(-1);
        int tag = s.invoices.get(trip.invoice).tag;
        if (axles == -1) {
            axles = tag == -1 ? 2 : net.tags.get(tag).axles;
        }
        trip.vehicleClass = classNumber(axles);
        trip.amount = 0;
        Passage before = null;
        for (int n : trip.passages) {
            Passage p = s.passages.get(n);
            if (before != null) {
                Route route = route(before.gantry, p.gantry, p.time - before.time);
                trip.amount += priced(route.price, trip.vehicleClass);
            }
            before = p;
        }
        if (trip.passages.size() == 1) {
            int gantry = before.gantry;
            int lowest = net.links.stream().filter(l -> l.from == gantry || l.to == gantry)
                    .mapToInt(Link::price).min().orElse(0);
            trip.amount = priced(lowest, trip.vehicleClass);
        }
    }

    private int total(State s, int index) {
        Invoice invoice = item(s.invoices, index);
        int fee = invoice.tag == -1 ? net.setting("fee", 0) : 0;
        return fee + s.trips.stream().filter(t -> t.invoice == index && t.state != 2).mapToInt(t -> t.amount).sum();
    }

    private int balance(int index) {
        return total(now, index) - invoice(index).paid;
    }

    private int outstanding() {
        int sum = 0;
        for (int i = 0; i < now.invoices.size(); i++) {
            sum += Math.max(0, balance(i));
        }
        return sum;
    }

    // ---- changes

    private int change(String call, int... a) {
        Event event = new Event(call, a.clone());
        check(event);
        if (call.equals("bill")) {
            int made = preview(a[0]).trips.size() - now.trips.size();
            if (made == 0) {
                return 0;
            }
            enter(event);
            return made;
        }
        enter(event);
        return switch (call) {
            case "readTag", "readPlate", "readAxles" -> latestAt(now, a[0], a[1]);
            case "assignPlate", "assignAxles" -> exceptions(passage(a[0]));
            case "dismiss" -> ask("openPassages");
            case "pay" -> balance(a[0]);
            case "dispute" -> (int) now.trips.stream().filter(t -> t.state == 1).count();
            case "resolve" -> balance(trip(a[0]).invoice);
            default -> throw new AssertionError(call);
        };
    }

    private void enter(Event event) {
        history.add(events);
        if (history.size() > 10) {
            history.remove(0);
        }
        events = new ArrayList<>(events);
        events.add(event);
        apply(now, event);
    }

    private void check(Event event) {
        int[] a = event.arguments;
        switch (event.name) {
            case "readTag", "readPlate", "readAxles" -> checkReading(event);
            case "assignPlate", "assignAxles", "dismiss" -> {
                Passage p = passage(a[0]);
                if (event.name.equals("assignPlate")) {
                    argument(a[1], 1, 9999);
                }
                if (event.name.equals("assignAxles")) {
                    argument(a[1], 2, 9);
                }
                refuse(p.state != 0);
            }
            case "bill" -> {
                argument(a[0], 0, 99999);
                refuse(preview(a[0]).invoices.size() > 40);
            }
            case "pay" -> {
                invoice(a[0]);
                argument(a[1], 1, 100000);
            }
            case "dispute" -> refuse(trip(a[0]).state != 0);
            case "resolve" -> refuse(trip(a[0]).state != 1);
            default -> throw new AssertionError(event.name);
        }
    }

    private static void refuse(boolean wrong) {
        if (wrong) {
            throw new IllegalStateException();
        }
    }

    private void checkReading(Event event) {
        int[] a = event.arguments;
        argument(a[0], 0, net.gantries - 1);
        argument(a[1], 0, 3);
        argument(a[2], now.latest, 99999);
        switch (event.name) {
            case "readTag" -> argument(a[3], 0, net.tags.size() - 1);
            case "readAxles" -> argument(a[3], 2, 9);
            default -> {
                argument(a[3], 1, 9999);
                argument(a[4], 1, 100);
            }
        }
        refuse(now.passages.size() == 80 && joined(now, event) == -1);
    }

    private static int latestAt(State s, int gantry, int lane) {
        int latest = -1;
        for (int n = 0; n < s.passages.size(); n++) {
            if (s.passages.get(n).gantry == gantry && s.passages.get(n).lane == lane) {
                latest = n;
            }
        }
        return latest;
    }

    private int joined(State s, Event event) {
        int[] a = event.arguments;
        int latest = latestAt(s, a[0], a[1]);
        if (latest == -1) {
            return -1;
        }
        Passage p = s.passages.get(latest);
        boolean otherTag = event.name.equals("readTag") && p.tag != -1 && p.tag != a[3];
        return p.state == 0 && a[2] - p.time <= net.setting("window", 1) && !otherTag ? latest : -1;
    }

    private State replay(List<Event> list) {
        State s = new State();
        list.forEach(e -> apply(s, e));
        return s;
    }

    private void apply(State s, Event event) {
        int[] a = event.arguments;
        switch (event.name) {
            case "readTag", "readPlate", "readAxles" -> applyReading(s, event);
            case "assignPlate" -> s.passages.get(a[0]).handPlate = a[1];
            case "assignAxles" -> s.passages.get(a[0]).handAxles = a[1];
            case "dismiss" -> s.passages.get(a[0]).state = 2;
            case "bill" -> billAll(s, a[0]);
            case "pay" -> s.invoices.get(a[0]).paid += a[1];
            case "dispute" -> s.trips.get(a[0]).state = 1;
            case "resolve" -> s.trips.get(a[0]).state = a[1] == 1 ? 2 : 3;
            default -> throw new AssertionError(event.name);
        }
    }

    private void applyReading(State s, Event event) {
        int[] a = event.arguments;
        int number = joined(s, event);
        s.latest = a[2];
        if (number == -1) {
            s.passages.add(new Passage(a[0], a[1], a[2]));
            number = s.passages.size() - 1;
        }
        Passage p = s.passages.get(number);
        switch (event.name) {
            case "readTag" -> p.tag = a[3];
            case "readAxles" -> p.axleReadings.merge(a[3], 1, Integer::sum);
            default -> {
                if (p.votes.containsKey(a[3]) || p.votes.size() < 4) {
                    p.votes.merge(a[3], a[4], Integer::sum);
                }
            }
        }
    }

    // ---- undo and snapshots

    private int undo() {
        if (history.isEmpty()) {
            return -1;
        }
        events = history.remove(history.size() - 1);
        now = replay(events);
        return history.size();
    }

    private int saveSnapshot(int slot) {
        if (slot != 0 && slot != 1) {
            return 0;
        }
        slots.put(slot, events);
        return 1;
    }

    private int restoreSnapshot(int slot) {
        if (!slots.containsKey(slot)) {
            return 0;
        }
        events = slots.get(slot);
        history.clear();
        now = replay(events);
        return 1;
    }
}
