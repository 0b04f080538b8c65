import java.util.ArrayDeque;
import java.util.ArrayList;
import java.util.Arrays;
import java.util.Comparator;
import java.util.Deque;
import java.util.HashMap;
import java.util.List;
import java.util.Map;
import java.util.TreeSet;

/**
 * The document once more, written as slowly and as differently as it can be: trees in place of code,
 * objects in place of rows, every row and every set tried. ModelTest holds the program against it.
 */
final class Model {
    static final class Fault extends RuntimeException {
        private static final long serialVersionUID = 1L;
        final int number;

        Fault(int place, int kind) {
            number = 1 + 8 * place + kind;
        }
    }

    /** A sum or a test: operands, and what joins them. */
    record Node(String join, long number, Node left, Node right) {
        long value(Map<String, Long> words) {
            if (join.equals("number")) {
                return number;
            }
            if (left == null) {
                return words.get(join);
            }
            long a = left.value(words);
            long b = right == null ? 0 : right.value(words);
            return switch (join) {
                case "+" -> a + b;
                case "-" -> a - b;
                case "*" -> a * b;
                case "/" -> b == 0 ? 0 : a / b;
                case "%" -> b == 0 ? 0 : a % b;
                case "<" -> a < b ? 1 : 0;
                case "<=" -> a <= b ? 1 : 0;
                case "=" -> a == b ? 1 : 0;
                case ">=" -> a >= b ? 1 : 0;
                case ">" -> a > b ? 1 : 0;
                case "and" -> a != 0 && b != 0 ? 1 : 0;
                case "or" -> a != 0 || b != 0 ? 1 : 0;
                default -> a == 0 ? 1 : 0;
            };
        }
    }

    record Clause(Node sum, Node test) {
    }

    /** Reads along the bytes of a text. */
    static final class Reader {
        static final List<String> WORDS = List.of("officer", "house", "warmth", "wood", "heat", "tenth", "room", "here",
                "beside", "since", "night", "frozen");
        final String text;
        int at = 0;
        int parts = 0;

        Reader(String text) {
            this.text = text;
        }

        char peek() {
            while (at < text.length() && text.charAt(at) == ' ') {
                at++;
            }
            return at < text.length() ? text.charAt(at) : '\uffff';
        }

        String word() {
            peek();
            int to = at;
            while (to < text.length() && text.charAt(to) >= 'a' && text.charAt(to) <= 'z') {
                to++;
            }
            return text.substring(at, to);
        }

        boolean take(String word) {
            boolean there = word().equals(word);
            at += there ? word.length() : 0;
            return there;
        }

        int number(int least, int most, int butNot) {
            peek();
            int from = at;
            int to = at;
            while (to < text.length() && text.charAt(to) >= '0' && text.charAt(to) <= '9') {
                to++;
            }
            if (from == to) {
                throw new Fault(from, 0);
            }
            int value = to - from > 5 ? -1 : Integer.parseInt(text.substring(from, to));
            if (value < least || value > most || value == butNot) {
                throw new Fault(from, 1);
            }
            at = to;
            return value;
        }

        /** Whether another clause follows. */
        boolean more() {
            char c = peek();
            if (c != ';' && at < text.length()) {
                throw new Fault(at, 0);
            }
            at += c == ';' ? 1 : 0;
            return c == ';';
        }

        void part(int place) {
            if (++parts > 60) {
                throw new Fault(place, 3);
            }
        }

        Node value() {
            char c = peek();
            int place = at;
            String word = word();
            Node node;
            if (c >= '0' && c <= '9') {
                node = new Node("number", number(0, 99999, -1), null, null);
            } else if (WORDS.contains(word)) {
                take(word);
                node = new Node(word, 0, null, null);
            } else {
                throw new Fault(place, 0);
            }
            part(place);
            return node;
        }

        Node joined(String signs) {
            boolean term = signs.equals("*/%");
            Node node = term ? value() : joined("*/%");
            while (signs.indexOf(peek()) >= 0) {
                String sign = String.valueOf(text.charAt(at++));
                node = new Node(sign, 0, node, term ? value() : joined("*/%"));
            }
            return node;
        }

        Node sum() {
            return joined("+-");
        }

        Node test(int depth) {
            Node node = both(depth);
            while (take("or")) {
                node = new Node("or", 0, node, both(depth));
            }
            return node;
        }

        Node both(int depth) {
            Node node = fact(depth);
            while (take("and")) {
                node = new Node("and", 0, node, fact(depth));
            }
            return node;
        }

        Node fact(int depth) {
            boolean bracket = peek() == '[';
            if (bracket || word().equals("not")) {
                if (depth == 10) {
                    throw new Fault(at, 2);
                }
                at += bracket ? 1 : 3;
                if (!bracket) {
                    return new Node("not", 0, fact(depth + 1), null);
                }
                Node inside = test(depth + 1);
                if (peek() != ']') {
                    throw new Fault(at, 0);
                }
                at++;
                return inside;
            }
            Node left = sum();
            peek();
            for (String sign : new String[] {"<=", ">=", "<", "=", ">"}) {
                if (text.startsWith(sign, at)) {
                    part(at);
                    at += sign.length();
                    return new Node(sign, 0, left, sum());
                }
            }
            throw new Fault(at, 0);
        }
    }

    static final class House {
        int warmth;
        int wood;
        int heat;
        int hidden;
        boolean frozen;
        int called = -1;
        TreeSet<Integer> beside = new TreeSet<>();
    }

    static final class Officer {
        int at;
        int stomach;
        int has;
    }

    /** A duchy on a night. */
    static final class Land {
        int tenth;
        int loss;
        int freeze;
        int lanes;
        List<Integer> snow = new ArrayList<>();
        List<House> houses = new ArrayList<>();
        List<Officer> officers = new ArrayList<>();
        int night;
        int hill;

        Land copy() {
            Land land = new Land();
            land.tenth = tenth;
            land.loss = loss;
            land.freeze = freeze;
            land.lanes = lanes;
            land.snow = snow;
            land.night = night;
            land.hill = hill;
            for (House h : houses) {
                House g = new House();
                g.warmth = h.warmth;
                g.wood = h.wood;
                g.heat = h.heat;
                g.hidden = h.hidden;
                g.frozen = h.frozen;
                g.called = h.called;
                g.beside = h.beside;
                land.houses.add(g);
            }
            for (Officer o : officers) {
                Officer p = new Officer();
                p.at = o.at;
                p.stomach = o.stomach;
                p.has = o.has;
                land.officers.add(p);
            }
            return land;
        }

        int frozen() {
            int bits = 0;
            for (int h = 0; h < houses.size(); h++) {
                bits |= houses.get(h).frozen ? 1 << h : 0;
            }
            return bits;
        }

        int share(Officer o, House h) {
            return Math.min(h.warmth * tenth / 100, o.stomach - o.has);
        }

        boolean canCall(Officer o, int h) {
            boolean near = o.at == h || houses.get(o.at).beside.contains(h);
            return near && !houses.get(h).frozen && houses.get(h).called != night;
        }

        int call(Officer o, int at) {
            House h = houses.get(at);
            int taken = share(o, h);
            h.warmth -= taken;
            h.called = night;
            o.has += taken;
            o.at = at;
            return taken;
        }

        void burn(boolean drawn) {
            int lost = drawn || snow.contains(night) ? loss * 2 : loss;
            for (House h : houses) {
                if (!h.frozen) {
                    if (h.wood > 0) {
                        h.wood--;
                        h.warmth = Math.min(999, h.warmth + h.heat);
                    }
                    h.warmth = Math.max(0, h.warmth - lost);
                    h.frozen = h.warmth < freeze;
                }
            }
            night++;
        }

        int pass(List<Clause> rule, boolean drawn) {
            int taken = 0;
            for (int o = 0; rule != null && o < officers.size(); o++) {
                long most = 0;
                int best = -1;
                for (int h = 0; h < houses.size(); h++) {
                    long worth = canCall(officers.get(o), h) ? worth(rule, words(o, h)) : 0;
                    if (worth > most) {
                        most = worth;
                        best = h;
                    }
                }
                taken += best < 0 ? 0 : call(officers.get(o), best);
            }
            burn(drawn);
            return taken;
        }

        private static long worth(List<Clause> rule, Map<String, Long> words) {
            for (Clause c : rule) {
                if (c.test() == null || c.test().value(words) != 0) {
                    return c.sum().value(words);
                }
            }
            return 0;
        }

        private Map<String, Long> words(int officer, int house) {
            Officer o = officers.get(officer);
            House h = houses.get(house);
            Map<String, Long> words = new HashMap<>();
            long[] values = {officer, house, h.warmth, h.wood, h.heat, share(o, h), o.stomach - o.has, o.at == house ? 1 : 0,
                h.beside.size(), h.called < 0 ? 99 : Math.min(99, night - h.called), night, Integer.bitCount(frozen())};
            for (int i = 0; i < values.length; i++) {
                words.put(Reader.WORDS.get(i), values[i]);
            }
            return words;
        }
    }

    record Book(int n, int house, int warmth) {
    }

    record Image(Land begin, Land land, List<Land> past, List<Book> books, int inForce, int x) {
    }

    private String tape = "";
    private final List<List<Clause>> rules = new ArrayList<>();
    private Land begin = null;
    private Land land = null;
    private List<Land> past = new ArrayList<>();
    private List<Book> books = new ArrayList<>();
    private int inForce = -1;
    private int x = 0;
    private final Map<Integer, Image> images = new HashMap<>();

    int answer(String call, int... a) {
        return switch (call) {
            case "feed" -> feed(a);
            case "end" -> end(a[0]);
            case "duchy" -> duchy();
            case "rule" -> rule();
            case "force" -> force(a[0]);
            case "house" -> house(a[0], a[1]);
            case "officer" -> officer(a[0], a[1]);
            case "night" -> night();
            case "fell" -> fell(a[0], a[1]);
            case "lend" -> lend(a[0], a[1], a[2]);
            case "hide" -> hide(a[0], a[1]);
            case "lift" -> lift(a[0]);
            case "spit" -> spit(a[0]);
            case "undo" -> undo();
            case "ahead" -> ahead(a[0], a[1], a[2]);
            case "freezes" -> freezes(a[0]);
            case "round" -> round(a[0], a[1], a[2]);
            case "span" -> span(a[0], a[1], a[2]);
            case "logs" -> logs(a[0], a[1]);
            case "rate" -> rate(a[0]);
            case "levy" -> levy(a[0], a[1]);
            case "district" -> district(a[0], a[1]);
            case "hats" -> hats(a[0], a[1]);
            case "loan" -> loan(a[0], a[1], a[2]);
            case "book" -> book(a[0], a[1], a[2]);
            case "ruled" -> ruled(a[0]);
            case "look" -> look(a[0], a[1]);
            case "seed" -> seed(a[0]);
            case "winters" -> winters(a[0], a[1], a[2], a[3]);
            case "count" -> count(a[0]);
            case "image" -> image(a[0]);
            default -> back(a[0]);
        };
    }

    private int feed(int[] numbers) {
        if (tape.length() + 20 > 400) {
            return -1;
        }
        StringBuilder more = new StringBuilder(tape);
        for (int n : numbers) {
            for (int shift = 24; shift >= 0; shift -= 8) {
                more.append((char) (n >> shift & 255));
            }
        }
        tape = more.toString();
        return tape.length();
    }

    private int end(int n) {
        if (n < 0 || n > tape.length()) {
            return -1;
        }
        tape = tape.substring(0, n);
        return n;
    }

    private int duchy() {
        String text = tape;
        tape = "";
        try {
            begin = readDuchy(new Reader(text));
        } catch (Fault f) {
            return -2 - f.number;
        }
        land = begin.copy();
        past = new ArrayList<>();
        books = new ArrayList<>();
        return land.houses.size();
    }

    private static Land readDuchy(Reader r) {
        Land d = new Land();
        int clauses = 0;
        do {
            String word = r.word();
            if (!List.of("duchy", "house", "lane", "hat", "officer", "snow").contains(word)) {
                throw new Fault(r.at, 0);
            }
            clauses++;
            boolean full = word.equals("house") && d.houses.size() == 8 || word.equals("lane") && d.lanes == 12
                    || word.equals("officer") && d.officers.size() == 3 || word.equals("snow") && d.snow.size() == 6;
            if (clauses > 40 || full || word.equals("duchy") != (clauses == 1)) {
                throw new Fault(r.at, 4);
            }
            r.take(word);
            readClause(r, d, word);
        } while (r.more());
        return d;
    }

    private static void readClause(Reader r, Land d, String word) {
        int last = d.houses.size() - 1;
        switch (word) {
            case "duchy" -> {
                d.tenth = r.number(0, 100, -1);
                d.loss = r.number(0, 20, -1);
                d.freeze = r.number(0, 50, -1);
            }
            case "house" -> {
                House h = new House();
                h.warmth = r.number(0, 99, -1);
                h.wood = r.number(0, 99, -1);
                h.heat = r.number(0, 20, -1);
                d.houses.add(h);
            }
            case "lane" -> {
                int a = r.number(0, last, -1);
                int b = r.number(0, last, a);
                d.lanes += d.houses.get(a).beside.add(b) ? 1 : 0;
                d.houses.get(b).beside.add(a);
            }
            case "hat" -> {
                int h = r.number(0, last, -1);
                d.houses.get(h).hidden = r.number(0, 50, -1);
            }
            case "officer" -> {
                Officer o = new Officer();
                o.at = r.number(0, last, -1);
                o.stomach = r.number(1, 200, -1);
                d.officers.add(o);
            }
            default -> d.snow.add(r.number(0, 99, -1));
        }
    }

    private int rule() {
        if (rules.size() == 6) {
            return -1;
        }
        String text = tape;
        tape = "";
        try {
            rules.add(readRule(new Reader(text)));
        } catch (Fault f) {
            return -2 - f.number;
        }
        return rules.size() - 1;
    }

    private static List<Clause> readRule(Reader r) {
        List<Clause> clauses = new ArrayList<>();
        do {
            if (!r.word().equals("call")) {
                throw new Fault(r.at, 0);
            }
            if (clauses.size() == 12) {
                throw new Fault(r.at, 4);
            }
            r.take("call");
            Node sum = r.sum();
            clauses.add(new Clause(sum, r.take("if") ? r.test(0) : null));
        } while (r.more());
        return clauses;
    }

    private int force(int rule) {
        if (rule < -1 || rule >= rules.size()) {
            return -2;
        }
        int before = inForce;
        inForce = rule;
        return before;
    }

    private List<Clause> inForce() {
        return inForce < 0 ? null : rules.get(inForce);
    }

    private House houseAt(int h) {
        return land != null && h >= 0 && h < land.houses.size() ? land.houses.get(h) : null;
    }

    private Officer officerAt(int o) {
        return land != null && o >= 0 && o < land.officers.size() ? land.officers.get(o) : null;
    }

    private int house(int house, int what) {
        House h = houseAt(house);
        if (h == null || what < 0 || what > 6) {
            return -2;
        }
        int bits = 0;
        for (int b : h.beside) {
            bits += 1 << b;
        }
        return new int[] {h.warmth, h.wood, h.heat, h.hidden, h.frozen ? 1 : 0, bits, h.called}[what];
    }

    private int officer(int officer, int what) {
        Officer o = officerAt(officer);
        return o == null || what < 0 || what > 2 ? -1 : new int[] {o.at, o.stomach, o.has}[what];
    }

    private void act() {
        past.add(land.copy());
        if (past.size() > 20) {
            past.remove(0);
        }
    }

    private int night() {
        if (land == null || land.night == 999) {
            return -1;
        }
        act();
        return land.pass(inForce(), false);
    }

    private int fell(int house, int logs) {
        House h = houseAt(house);
        if (h == null || logs < 1 || logs > 9 || h.wood + logs > 99) {
            return -1;
        }
        act();
        return h.wood += logs;
    }

    private int lend(int house, int to, int much) {
        House h = houseAt(house);
        House g = houseAt(to);
        if (h == null || g == null || !h.beside.contains(to) || h.frozen || much < 1 || much > h.warmth) {
            return -1;
        }
        act();
        h.warmth -= much;
        g.warmth = Math.min(999, g.warmth + much);
        g.frozen = g.frozen && g.warmth < land.freeze;
        return g.warmth;
    }

    private int hide(int house, int much) {
        House h = houseAt(house);
        if (h == null || h.frozen || much < 1 || much > h.warmth || h.hidden + much > 99) {
            return -1;
        }
        act();
        h.warmth -= much;
        return h.hidden += much;
    }

    private int lift(int officer) {
        Officer o = officerAt(officer);
        if (o == null || houseAt(o.at).hidden == 0) {
            return -1;
        }
        act();
        House h = houseAt(o.at);
        int taken = Math.min(h.hidden / 2, o.stomach - o.has);
        o.has += taken;
        h.warmth = Math.min(999, h.warmth + h.hidden - taken);
        h.hidden = 0;
        return taken;
    }

    private int spit(int officer) {
        Officer o = officerAt(officer);
        if (o == null || o.has == 0) {
            return -1;
        }
        act();
        land.hill = Math.min(99999, land.hill + o.has);
        o.has = 0;
        return land.hill;
    }

    private int undo() {
        if (past.isEmpty()) {
            return -2;
        }
        land = past.remove(past.size() - 1);
        return past.size();
    }

    private static Land walk(Land from, List<Clause> rule, int n) {
        Land l = from.copy();
        for (int i = 0; i < n; i++) {
            l.pass(rule, false);
        }
        return l;
    }

    private int ahead(int number, int n, int what) {
        boolean known = what == 0 ? houseAt(number) != null : what == 1 ? officerAt(number) != null : what == 2 && land != null;
        if (!known || n < 0 || n > 100) {
            return -2;
        }
        Land l = walk(land, inForce(), n);
        return what == 0 ? l.houses.get(number).warmth : what == 1 ? l.officers.get(number).has : Integer.bitCount(l.frozen());
    }

    private int freezes(int house) {
        if (houseAt(house) == null || houseAt(house).frozen) {
            return -1;
        }
        for (int n = 1; n <= 200; n++) {
            if (walk(land, inForce(), n).houses.get(house).frozen) {
                return land.night + n - 1;
            }
        }
        return -2;
    }

    private record Row(int[] houses, int taken, boolean freezesNobody) {
    }

    /** All rows, the first first. */
    private List<Row> rows(int officer, int n) {
        List<Row> rows = new ArrayList<>();
        int base = land.houses.size();
        for (int code = 0; code < Math.pow(base, n); code++) {
            int[] row = new int[n];
            for (int i = n - 1, rest = code; i >= 0; i--, rest /= base) {
                row[i] = rest % base;
            }
            Land l = land.copy();
            int taken = 0;
            boolean possible = true;
            for (int h : row) {
                possible = possible && l.canCall(l.officers.get(officer), h);
                if (possible) {
                    taken += l.call(l.officers.get(officer), h);
                    l.burn(false);
                }
            }
            if (possible) {
                rows.add(new Row(row, taken, l.frozen() == land.frozen()));
            }
        }
        return rows;
    }

    private int round(int officer, int n, int what) {
        if (officerAt(officer) == null || n < 1 || n > 4 || what < -1 || what > 3) {
            return -3;
        }
        Row best = null;
        for (Row r : rows(officer, n)) {
            best = r.freezesNobody && (best == null || r.taken > best.taken) ? r : best;
        }
        return best == null || what >= n ? -2 : what < 0 ? best.taken : best.houses[what];
    }

    private int span(int officer, int n, int what) {
        if (officerAt(officer) == null || n < 1 || n > 4 || what < 0 || what > 1) {
            return -1;
        }
        int[] taken = rows(officer, n).stream().mapToInt(Row::taken).sorted().toArray();
        return taken.length == 0 ? -2 : taken[what == 0 ? 0 : taken.length - 1];
    }

    private int logs(int house, int n) {
        if (houseAt(house) == null || houseAt(house).frozen || n < 1 || n > 60) {
            return -1;
        }
        for (int wood = 0; wood < 100; wood++) {
            Land l = land.copy();
            l.houses.get(house).wood = wood;
            if (!walk(l, inForce(), n).houses.get(house).frozen) {
                return wood;
            }
        }
        return -2;
    }

    private int rate(int n) {
        if (land == null || n < 1 || n > 60) {
            return -1;
        }
        int greatest = -2;
        for (int tenth = 0; tenth <= 100; tenth++) {
            Land l = land.copy();
            l.tenth = tenth;
            greatest = walk(l, inForce(), n).frozen() == land.frozen() ? tenth : greatest;
        }
        return greatest;
    }

    private int levy(int much, int house) {
        if (houseAt(house) == null || much < 0 || much > 9999) {
            return -1;
        }
        List<Integer> who = new ArrayList<>();
        int all = 0;
        for (int h = 0; h < land.houses.size(); h++) {
            if (!land.houses.get(h).frozen) {
                who.add(h);
                all += land.houses.get(h).warmth;
            }
        }
        int[] part = new int[8];
        int[] lost = new int[8];
        int left = much;
        for (int h : who) {
            if (all == 0) {
                return 0;
            }
            part[h] = much * land.houses.get(h).warmth / all;
            lost[h] = much * land.houses.get(h).warmth % all;
            left -= part[h];
        }
        who.sort(Comparator.comparingInt((Integer h) -> -lost[h]).thenComparingInt(h -> h));
        for (int i = 0; i < left && i < who.size(); i++) {
            part[who.get(i)]++;
        }
        return part[house];
    }

    private int district(int house, int what) {
        if (houseAt(house) == null || what < 0 || what > 1) {
            return -1;
        }
        Map<Integer, Integer> far = new HashMap<>(Map.of(house, 0));
        Deque<Integer> open = new ArrayDeque<>(List.of(house));
        while (!open.isEmpty()) {
            int h = open.remove();
            for (int b : land.houses.get(h).beside) {
                if (far.putIfAbsent(b, far.get(h) + 1) == null) {
                    open.add(b);
                }
            }
        }
        int best = -2;
        for (int o = 0; o < land.officers.size(); o++) {
            Integer lanes = far.get(land.officers.get(o).at);
            if (lanes != null && (best < 0 || lanes < far.get(land.officers.get(best).at))) {
                best = o;
            }
        }
        return best < 0 || what == 0 ? best : far.get(land.officers.get(best).at);
    }

    private int hats(int much, int what) {
        if (land == null || much < 1 || much > 400 || what < 0 || what > 1) {
            return -1;
        }
        for (int size = 1; size <= 8; size++) {
            for (int set = 0; set < 1 << land.houses.size(); set++) {
                int hidden = 0;
                for (int h = 0; h < land.houses.size(); h++) {
                    hidden += (set & 1 << h) != 0 ? land.houses.get(h).hidden : 0;
                }
                if (Integer.bitCount(set) == size && hidden >= much) {
                    return what == 0 ? size : set;
                }
            }
        }
        return -2;
    }

    private int loan(int house, int to, int n) {
        House h = houseAt(house);
        House g = houseAt(to);
        if (h == null || g == null || !h.beside.contains(to) || h.frozen || g.frozen || n < 1 || n > 60) {
            return -1;
        }
        for (int much = 0; much <= h.warmth; much++) {
            Land l = land.copy();
            l.houses.get(house).warmth -= much;
            l.houses.get(to).warmth = Math.min(999, l.houses.get(to).warmth + much);
            l = walk(l, inForce(), n);
            if (!l.houses.get(house).frozen && !l.houses.get(to).frozen) {
                return much;
            }
        }
        return -2;
    }

    private int book(int n, int house, int warmth) {
        if (n == -1) {
            books = new ArrayList<>();
            return 0;
        }
        if (n < 0 || n > 60 || houseAt(house) == null || warmth < 0 || warmth > 999 || books.size() == 10) {
            return -2;
        }
        books.add(new Book(n, house, warmth));
        return books.size();
    }

    private Land behind(int rule, int n) {
        return walk(begin, rule < 0 ? null : rules.get(rule), n + 1);
    }

    private List<Integer> fitting() {
        List<Integer> fitting = new ArrayList<>();
        for (int r = -1; r < rules.size(); r++) {
            int rule = r;
            if (books.stream().allMatch(b -> behind(rule, b.n).houses.get(b.house).warmth == b.warmth)) {
                fitting.add(r);
            }
        }
        return fitting;
    }

    private int ruled(int what) {
        if (land == null || what < 0 || what > 1) {
            return -3;
        }
        List<Integer> fitting = fitting();
        return what == 0 ? fitting.size() : fitting.isEmpty() ? -2 : fitting.get(0);
    }

    private int look(int n, int what) {
        if (land == null || n < 0 || n > 60 || what < 0 || what > 1) {
            return -1;
        }
        List<Integer> fitting = fitting();
        int best = -2;
        int fewest = -2;
        for (int h = 0; h < land.houses.size() && !fitting.isEmpty(); h++) {
            Map<Integer, Integer> alike = new HashMap<>();
            for (int r : fitting) {
                alike.merge(behind(r, n).houses.get(h).warmth, 1, Integer::sum);
            }
            int most = alike.values().stream().mapToInt(v -> v).max().getAsInt();
            if (best < 0 || most < fewest) {
                best = h;
                fewest = most;
            }
        }
        return what == 0 ? best : fewest;
    }

    private int seed(int seed) {
        int before = x;
        x = seed < 0 ? x : seed;
        return seed < 0 ? -1 : before;
    }

    private int winters(int m, int n, int p, int what) {
        if (land == null || m < 1 || m > 10 || n < 1 || n > 60 || p < 0 || p > 100 || what < 0 || what > 1) {
            return -1;
        }
        long y = x;
        int sum = 0;
        for (int i = 0; i < m; i++) {
            Land l = land.copy();
            for (int k = 0; k < n; k++) {
                y = (y * 1103515245L + 12345) & 0x7fffffffL;
                l.pass(inForce(), (y >> 16) % 100 < p);
            }
            sum += what == 0 ? Integer.bitCount(l.frozen()) : l.officers.stream().mapToInt(o -> o.has).sum();
        }
        return sum;
    }

    private int count(int what) {
        if (what < 0 || what > 15) {
            return -1;
        }
        int[] of = new int[16];
        if (land != null) {
            of = Arrays.copyOf(new int[] {land.tenth, land.loss, land.freeze, land.houses.size(), land.lanes, land.officers.size(),
                0, 0, land.night, land.frozen(), land.hill, land.snow.contains(land.night) ? 1 : 0}, 16);
        }
        of[6] = rules.size();
        of[7] = inForce;
        of[12] = books.size();
        of[13] = past.size();
        of[14] = x;
        of[15] = tape.length();
        return of[what];
    }

    private static List<Land> copies(List<Land> lands) {
        List<Land> copies = new ArrayList<>();
        lands.forEach(l -> copies.add(l.copy()));
        return copies;
    }

    private int image(int k) {
        if (k < 0 || k > 3) {
            return -1;
        }
        images.put(k, new Image(begin, land == null ? null : land.copy(), copies(past), List.copyOf(books), inForce, x));
        return count(8);
    }

    private int back(int k) {
        Image i = images.get(k);
        if (i == null) {
            return -1;
        }
        begin = i.begin;
        land = i.land == null ? null : i.land.copy();
        past = copies(i.past);
        books = new ArrayList<>(i.books);
        inForce = i.inForce;
        x = i.x;
        return count(8);
    }
}
