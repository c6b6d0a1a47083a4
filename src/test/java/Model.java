import java.nio.charset.StandardCharsets;
import java.util.ArrayList;
import java.util.Arrays;
import java.util.HashSet;
import java.util.List;
import java.util.NoSuchElementException;
import java.util.Set;
import java.util.TreeMap;
import java.util.regex.Matcher;
import java.util.regex.Pattern;

/**
 * The document told once more, in the plainest and slowest way: whatever a term says would be is made and
 * looked at, whatever is the least of many is searched among all of them. ModelTests compares with it.
 */
final class Model {
    static final int NONE = -1;

    private record Cable(int first, int second, int price, int firm, boolean sound) {
        Cable at(int newPrice) {
            return new Cable(first, second, newPrice, firm, sound);
        }

        Cable as(boolean newSound) {
            return new Cable(first, second, price, firm, newSound);
        }

        boolean endsAt(int site) {
            return first == site || second == site;
        }

        int otherEnd(int site) {
            return first == site ? second : first;
        }
    }

    private record Swap(int why, int cable, int out, int in, int total) {
    }

    private record Noted(int cable, boolean in) {
    }

    /** All that ACTS change. */
    private static final class World {
        int sites = 4;
        List<Cable> cables = new ArrayList<>();
        List<Swap> swaps = new ArrayList<>();

        World copy() {
            World copy = new World();
            copy.sites = sites;
            copy.cables = new ArrayList<>(cables);
            copy.swaps = new ArrayList<>(swaps);
            return copy;
        }

        World withPrice(int cable, int price) {
            World copy = copy();
            copy.cables.set(cable, cables.get(cable).at(price));
            return copy;
        }

        World withBroken(Set<Integer> broken) {
            World copy = copy();
            for (int cable : broken) {
                copy.cables.set(cable, cables.get(cable).as(false));
            }
            return copy;
        }

        List<Integer> sound() {
            List<Integer> sound = new ArrayList<>();
            for (int cable = 0; cable < cables.size(); cable++) {
                if (cables.get(cable).sound()) {
                    sound.add(cable);
                }
            }
            return sound;
        }

        List<Integer> net() {
            List<Integer> looked = sound();
            looked.sort((a, b) -> cheaper(a, b) ? -1 : a.equals(b) ? 0 : 1);
            List<Integer> net = new ArrayList<>();
            for (int cable : looked) {
                if (path(net, cables.get(cable).first(), cables.get(cable).second()) == null) {
                    net.add(cable);
                }
            }
            return net;
        }

        boolean cheaper(int a, int b) {
            int priceA = cables.get(a).price();
            int priceB = cables.get(b).price();
            return priceA < priceB || priceA == priceB && a < b;
        }

        /** The first way found over these cables; null where there is none. */
        List<Integer> path(List<Integer> over, int from, int to) {
            return path(over, from, to, new HashSet<>());
        }

        private List<Integer> path(List<Integer> over, int from, int to, Set<Integer> seen) {
            if (from == to) {
                return new ArrayList<>();
            }
            seen.add(from);
            for (int cable : over) {
                Cable c = cables.get(cable);
                if (c.endsAt(from) && !seen.contains(c.otherEnd(from))) {
                    List<Integer> rest = path(over, c.otherEnd(from), to, seen);
                    if (rest != null) {
                        rest.add(0, cable);
                        return rest;
                    }
                }
            }
            return null;
        }

        int leastJoined(List<Integer> over, int site) {
            for (int other = 0; other < site; other++) {
                if (path(over, other, site) != null) {
                    return other;
                }
            }
            return site;
        }

        int pieces(List<Integer> over) {
            int pieces = 0;
            for (int site = 0; site < sites; site++) {
                if (leastJoined(over, site) == site) {
                    pieces++;
                }
            }
            return pieces;
        }

        int pieces() {
            return pieces(sound());
        }

        int cost(List<Integer> over) {
            int cost = 0;
            for (int cable : over) {
                cost += cables.get(cable).price();
            }
            return cost;
        }

        int total() {
            return cost(net());
        }
    }

    private World world = new World();
    private List<World> acts = new ArrayList<>();
    private List<Noted> noted = new ArrayList<>();
    private int[] status = new int[3];
    private World imageWorld = null;
    private List<World> imageActs;
    private List<Noted> imageNoted;
    private int[] imageStatus;
    private final List<Byte> tape = new ArrayList<>();
    private int faultAt = NONE;
    private TreeMap<Integer, Integer> totals = null;

    int feed(int a, int b, int c, int d, int e) {
        if (tape.size() > 680) {
            return NONE;
        }
        for (int number : new int[] {a, b, c, d, e}) {
            for (int i = 3; i >= 0; i--) {
                tape.add((byte) (number >> 8 * i));
            }
        }
        return tape.size();
    }

    int net(int n) {
        if (n < 0 || n > tape.size()) {
            throw new IllegalArgumentException();
        }
        byte[] bytes = new byte[n];
        for (int i = 0; i < n; i++) {
            bytes[i] = tape.get(i);
        }
        tape.clear();
        World told = new World();
        int[] fault = read(new String(bytes, StandardCharsets.ISO_8859_1), told);
        if (fault != null) {
            faultAt = fault[1];
            status[0]++;
            return fault[0];
        }
        faultAt = NONE;
        world = told;
        acts.clear();
        noted.clear();
        imageWorld = null;
        totals = null;
        return 0;
    }

    /** What stands at each place of a clause: its word, w; a number of some kind; an optional one; the end. */
    private static final String[] FORMS = {"sites N ;", "cable A B P F ;", "broken C ;"};

    private static int[] read(String text, World told) {
        Matcher matcher = Pattern.compile("[a-z]+|[0-9]+|[^ \\n]", Pattern.DOTALL).matcher(text);
        String[] form = null;
        int at = 0;
        int clauses = 0;
        List<Integer> numbers = new ArrayList<>();
        while (matcher.find()) {
            String token = matcher.group();
            int fault;
            if (form == null) {
                for (String each : FORMS) {
                    if (each.startsWith(token + " ") && token.matches("[a-z]+")) {
                        form = each.split(" ");
                    }
                }
                at = 0;
                numbers.clear();
                fault = form == null ? 1 : wordFault(token, told, clauses);
            } else {
                at++;
                if (form[at].equals("F") && token.equals(";")) {
                    at++;
                }
                fault = tokenFault(form[at], token, numbers, told);
            }
            if (fault != 0) {
                return new int[] {fault, matcher.start()};
            }
            if (token.equals(";")) {
                finish(form[0], numbers, told);
                clauses++;
                form = null;
            }
        }
        return form == null ? null : new int[] {1, text.length()};
    }

    private static int wordFault(String word, World told, int clauses) {
        if (word.equals("cable") && told.cables.size() == 24) {
            return 2;
        }
        return word.equals("sites") && clauses > 0 ? 4 : 0;
    }

    private static int tokenFault(String place, String token, List<Integer> numbers, World told) {
        if (place.equals(";")) {
            return token.equals(";") ? 0 : 1;
        }
        if (!token.matches("[0-9]+")) {
            return 1;
        }
        if (token.length() > 3) {
            return 2;
        }
        int number = Integer.parseInt(token);
        int kind = "NABPFC".indexOf(place);
        int least = new int[] {2, 0, 0, 1, 0, 0}[kind];
        int most = new int[] {10, 9, 9, 999, 3, 23}[kind];
        if (number < least || number > most) {
            return 2;
        }
        boolean isSite = place.equals("A") || place.equals("B");
        if (isSite && number >= told.sites || place.equals("C") && number >= told.cables.size()) {
            return 3;
        }
        if (place.equals("C") && !told.cables.get(number).sound()) {
            return 4;
        }
        if (place.equals("B") && numbers.get(0) == number) {
            return 5;
        }
        numbers.add(number);
        return 0;
    }

    private static void finish(String word, List<Integer> n, World told) {
        if (word.equals("sites")) {
            told.sites = n.get(0);
        } else if (word.equals("broken")) {
            told.cables.set(n.get(0), told.cables.get(n.get(0)).as(false));
        } else {
            told.cables.add(new Cable(n.get(0), n.get(1), n.get(2), n.size() > 3 ? n.get(3) : 0, true));
        }
    }

    int fault() {
        return faultAt;
    }

    private static int bits(Iterable<Integer> numbers) {
        int bits = 0;
        for (int number : numbers) {
            bits |= 1 << number;
        }
        return bits;
    }

    int count(int what) {
        return switch (what) {
            case 0 -> world.sites;
            case 1 -> world.cables.size();
            case 2 -> bits(world.sound());
            case 3 -> bits(world.net());
            case 4 -> world.total();
            case 5 -> world.pieces();
            case 6 -> Math.min(60, world.swaps.size());
            case 7 -> world.swaps.size();
            case 8 -> nextBest();
            case 9 -> hub();
            case 10 -> longest();
            case 11 -> twins();
            case 12 -> acts.size();
            case 13 -> noted.size();
            case 14 -> tape.size();
            case 15 -> status[0];
            case 16 -> status[1];
            case 17 -> status[2];
            case 18 -> weak().size();
            case 19 -> weak().isEmpty() ? NONE : weak().get(0);
            case 20 -> centre();
            case 21 -> greatestSpan(centre());
            case 22 -> detours();
            default -> throw new NoSuchElementException();
        };
    }

    /** All nets there are, by what they cost. */
    private TreeMap<Integer, Integer> netTotals() {
        if (totals == null) {
            totals = new TreeMap<>();
            int[] piece = new int[world.sites];
            for (int site = 0; site < world.sites; site++) {
                piece[site] = site;
            }
            countNets(world.sound(), 0, world.net().size(), piece, 0);
        }
        return totals;
    }

    private void countNets(List<Integer> sound, int i, int missing, int[] piece, int cost) {
        if (missing == 0) {
            totals.merge(cost, 1, Integer::sum);
            return;
        }
        if (sound.size() - i < missing) {
            return;
        }
        Cable c = world.cables.get(sound.get(i));
        countNets(sound, i + 1, missing, piece, cost);
        int from = piece[c.first()];
        int to = piece[c.second()];
        if (from != to) {
            int[] united = piece.clone();
            for (int site = 0; site < united.length; site++) {
                if (united[site] == from) {
                    united[site] = to;
                }
            }
            countNets(sound, i + 1, missing - 1, united, cost + c.price());
        }
    }

    private int nextBest() {
        int left = 1;
        for (var each : netTotals().entrySet()) {
            if (each.getValue() > left) {
                return each.getKey();
            }
            left -= each.getValue();
        }
        return NONE;
    }

    long alike() {
        return netTotals().get(world.total());
    }

    private int endsAt(int site) {
        int ends = 0;
        for (int cable : world.net()) {
            if (world.cables.get(cable).endsAt(site)) {
                ends++;
            }
        }
        return ends;
    }

    private int hub() {
        int hub = 0;
        for (int site = 0; site < world.sites; site++) {
            if (endsAt(site) > endsAt(hub)) {
                hub = site;
            }
        }
        return hub;
    }

    private int greatestSpan(int site) {
        int most = 0;
        for (int other = 0; other < world.sites; other++) {
            most = Math.max(most, way(site, other, 1));
        }
        return most;
    }

    private int longest() {
        int most = 0;
        for (int site = 0; site < world.sites; site++) {
            most = Math.max(most, greatestSpan(site));
        }
        return most;
    }

    private int centre() {
        int centre = 0;
        for (int site = 0; site < world.sites; site++) {
            if (greatestSpan(site) < greatestSpan(centre)) {
                centre = site;
            }
        }
        return centre;
    }

    private int twins() {
        World turned = world.copy();
        turned.cables.replaceAll(c -> c.at(1000 - c.price()));
        return bits(world.net()) & bits(turned.net());
    }

    private List<Integer> weak() {
        List<Integer> weak = new ArrayList<>();
        List<Integer> sound = world.sound();
        for (int a : sound) {
            for (int b : sound) {
                if (a < b && piecesWithout(a, b) > world.pieces()
                        && piecesWithout(a, a) == world.pieces() && piecesWithout(b, b) == world.pieces()) {
                    weak.add(100 * a + b);
                }
            }
        }
        return weak;
    }

    private int piecesWithout(int a, int b) {
        return world.withBroken(new HashSet<>(Arrays.asList(a, b))).pieces();
    }

    private int detours() {
        int detours = 0;
        for (int site = 0; site < world.sites; site++) {
            for (int other = site + 1; other < world.sites; other++) {
                if (way(site, other, 1) > way(site, other, 3)) {
                    detours++;
                }
            }
        }
        return detours;
    }

    private Cable need(int cable) {
        if (cable < 0 || cable >= world.cables.size()) {
            throw new NoSuchElementException();
        }
        return world.cables.get(cable);
    }

    private void needSite(int site) {
        if (site < 0 || site >= world.sites) {
            throw new NoSuchElementException();
        }
    }

    int cable(int cable, int what) {
        Cable c = need(cable);
        return switch (what) {
            case 0 -> c.first();
            case 1 -> c.second();
            case 2 -> c.price();
            case 3 -> c.firm();
            case 4 -> c.sound() ? 1 : 0;
            case 5 -> world.net().contains(cable) ? 1 : 0;
            case 6 -> ringOf(cable).size();
            case 7 -> dearest(ringOf(cable));
            case 8 -> bits(cutOf(cable));
            case 9 -> rivalOf(cable);
            case 10 -> barOf(cable);
            case 11 -> lossOf(cable);
            default -> throw new NoSuchElementException();
        };
    }

    private List<Integer> ringOf(int cable) {
        Cable c = world.cables.get(cable);
        if (!c.sound() || world.net().contains(cable)) {
            return new ArrayList<>();
        }
        return world.path(world.net(), c.first(), c.second());
    }

    private int dearest(List<Integer> among) {
        int dearest = NONE;
        for (int cable : among) {
            if (dearest == NONE || world.cheaper(dearest, cable)) {
                dearest = cable;
            }
        }
        return dearest;
    }

    private List<Integer> cutOf(int cable) {
        List<Integer> cut = new ArrayList<>();
        List<Integer> net = world.net();
        if (net.remove((Integer) cable)) {
            for (int site = 0; site < world.sites; site++) {
                if (world.path(net, world.cables.get(cable).first(), site) != null) {
                    cut.add(site);
                }
            }
        }
        return cut;
    }

    private int rivalOf(int cable) {
        List<Integer> cut = cutOf(cable);
        int rival = NONE;
        for (int other : world.sound()) {
            Cable c = world.cables.get(other);
            boolean over = cut.contains(c.first()) != cut.contains(c.second());
            if (other != cable && over && (rival == NONE || world.cheaper(other, rival))) {
                rival = other;
            }
        }
        return rival;
    }

    private int barOf(int cable) {
        for (int price = 999; price >= 1; price--) {
            if (world.withPrice(cable, price).net().contains(cable)) {
                return price;
            }
        }
        return NONE;
    }

    private int lossOf(int cable) {
        if (!world.cables.get(cable).sound()) {
            return NONE;
        }
        World broken = world.withBroken(Set.of(cable));
        return broken.pieces() > world.pieces() ? NONE : broken.total() - world.total();
    }

    int ring(int cable, int i) {
        need(cable);
        List<Integer> ring = ringOf(cable);
        if (i < 0 || i >= ring.size()) {
            throw new NoSuchElementException();
        }
        return ring.get(i);
    }

    int taken(int i) {
        if (i < 0 || i >= world.net().size()) {
            throw new NoSuchElementException();
        }
        return world.net().get(i);
    }

    int site(int site, int what) {
        needSite(site);
        return switch (what) {
            case 0 -> endsAt(site);
            case 1 -> endsAt(site) == 1 ? 1 : 0;
            case 2 -> world.leastJoined(world.net(), site);
            case 3 -> aloneOf(site);
            default -> throw new NoSuchElementException();
        };
    }

    private Set<Integer> endingAt(int site) {
        Set<Integer> ending = new HashSet<>();
        for (int cable = 0; cable < world.cables.size(); cable++) {
            if (world.cables.get(cable).endsAt(site)) {
                ending.add(cable);
            }
        }
        return ending;
    }

    private int aloneOf(int site) {
        Set<Integer> ending = endingAt(site);
        int cheapest = NONE;
        for (int cable : ending) {
            boolean sound = world.cables.get(cable).sound();
            if (sound && (cheapest == NONE || world.cheaper(cable, cheapest))) {
                cheapest = cable;
            }
        }
        if (cheapest == NONE) {
            return NONE;
        }
        ending.remove(cheapest);
        World alone = world.withBroken(ending);
        return alone.pieces() > world.pieces() ? NONE : alone.total() - world.total();
    }

    int way(int site, int other, int what) {
        needSite(site);
        needSite(other);
        List<Integer> way = world.path(world.net(), site, other);
        return switch (what) {
            case 0 -> site == other ? 0 : way == null ? NONE : world.cables.get(dearest(way)).price();
            case 1 -> way == null ? NONE : world.cost(way);
            case 2 -> way == null ? NONE : way.size();
            case 3 -> shortest(site, other, 1 << site);
            case 4 -> site == other ? 0 : apart(site, other);
            default -> throw new NoSuchElementException();
        };
    }

    /** Tries every way that meets no site twice. */
    private int shortest(int site, int other, int seen) {
        if (site == other) {
            return 0;
        }
        int least = NONE;
        for (int next = 0; next < world.sites; next++) {
            int price = cheapestBetween(site, next);
            if (price != NONE && (seen >> next & 1) == 0) {
                int rest = shortest(next, other, seen | 1 << next);
                if (rest != NONE && (least == NONE || price + rest < least)) {
                    least = price + rest;
                }
            }
        }
        return least;
    }

    private int cheapestBetween(int site, int other) {
        int least = NONE;
        for (Cable c : world.cables) {
            boolean between = site != other && c.endsAt(site) && c.endsAt(other);
            if (c.sound() && between && (least == NONE || c.price() < least)) {
                least = c.price();
            }
        }
        return least;
    }

    /** As many ways as the fewest cables that part the two sites. */
    private int apart(int site, int other) {
        int fewest = 24;
        for (int side = 0; side < 1 << world.sites; side++) {
            if ((side >> site & 1) == 1 && (side >> other & 1) == 0) {
                int cut = 0;
                for (Cable c : world.cables) {
                    if (c.sound() && (side >> c.first() & 1) != (side >> c.second() & 1)) {
                        cut++;
                    }
                }
                fewest = Math.min(fewest, cut);
            }
        }
        return fewest;
    }

    int firm(int firm, int what) {
        if (firm < 0 || firm > 3) {
            throw new NoSuchElementException();
        }
        List<Integer> own = world.sound();
        own.removeIf(cable -> world.cables.get(cable).firm() != firm);
        List<Integer> ownNet = world.net();
        ownNet.retainAll(own);
        return switch (what) {
            case 0 -> bits(own);
            case 1 -> world.cost(ownNet);
            case 2 -> pay(own);
            default -> throw new NoSuchElementException();
        };
    }

    private int pay(List<Integer> own) {
        World broken = world.withBroken(new HashSet<>(own));
        List<Integer> others = world.net();
        others.removeAll(own);
        return broken.pieces() > world.pieces() ? NONE : broken.total() - world.cost(others);
    }

    int share(int site) {
        needSite(site);
        List<Integer> way = world.path(world.net(), site, 0);
        if (way == null) {
            return NONE;
        }
        return way.isEmpty() ? 0 : world.cables.get(way.get(0)).price();
    }

    int group(int k, int site) {
        if (k < 1 || k > world.sites) {
            throw new IllegalArgumentException();
        }
        List<Integer> left = world.net();
        int gap = 0;
        while (world.pieces(left) < k) {
            Integer dearest = dearest(left);
            gap = world.cables.get(dearest).price();
            left.remove(dearest);
        }
        if (site == NONE) {
            return gap;
        }
        needSite(site);
        return world.leastJoined(left, site);
    }

    int without(int site, int what) {
        needSite(site);
        World broken = world.withBroken(endingAt(site));
        return switch (what) {
            case 0 -> broken.total();
            case 1 -> broken.pieces() - 1;
            default -> throw new NoSuchElementException();
        };
    }

    private String text() {
        StringBuilder text = new StringBuilder("sites " + world.sites + ";");
        for (Cable c : world.cables) {
            text.append(String.format("cable %d %d %d %d;", c.first(), c.second(), c.price(), c.firm()));
        }
        for (int cable = 0; cable < world.cables.size(); cable++) {
            if (!world.cables.get(cable).sound()) {
                text.append("broken ").append(cable).append(";");
            }
        }
        return text.toString();
    }

    int told(int i) {
        if (i == NONE) {
            return text().length();
        }
        if (i < 0 || i >= text().length()) {
            throw new NoSuchElementException();
        }
        return text().charAt(i);
    }

    int joined(int set) {
        if (set < 0 || set >= 1 << world.sites) {
            throw new IllegalArgumentException();
        }
        if (Integer.bitCount(set) < 2) {
            return 0;
        }
        return world.sound().size() <= 11 ? joinedByCables(set) : joinedBySites(set);
    }

    /** Tries every set of cables. */
    private int joinedByCables(int set) {
        List<Integer> sound = world.sound();
        int least = NONE;
        for (int tried = 0; tried < 1 << sound.size(); tried++) {
            List<Integer> over = new ArrayList<>();
            for (int i = 0; i < sound.size(); i++) {
                if ((tried >> i & 1) == 1) {
                    over.add(sound.get(i));
                }
            }
            int cost = world.cost(over);
            if ((least == NONE || cost < least) && joins(over, set)) {
                least = cost;
            }
        }
        return least;
    }

    private boolean joins(List<Integer> over, int set) {
        int start = Integer.numberOfTrailingZeros(set);
        for (int site = 0; site < world.sites; site++) {
            if ((set >> site & 1) == 1 && world.path(over, start, site) == null) {
                return false;
            }
        }
        return true;
    }

    /** Tries the cheapest net of every set of sites that has all of these. */
    private int joinedBySites(int set) {
        int least = NONE;
        for (int sites = 0; sites < 1 << world.sites; sites++) {
            if ((sites & set) == set) {
                Set<Integer> away = new HashSet<>();
                for (int cable = 0; cable < world.cables.size(); cable++) {
                    Cable c = world.cables.get(cable);
                    if ((sites >> c.first() & sites >> c.second() & 1) == 0) {
                        away.add(cable);
                    }
                }
                List<Integer> net = world.withBroken(away).net();
                int cost = world.cost(net);
                if (joins(net, sites) && (least == NONE || cost < least)) {
                    least = cost;
                }
            }
        }
        return least;
    }

    int swap(int ago, int what) {
        if (ago < 0 || ago >= Math.min(60, world.swaps.size())) {
            throw new NoSuchElementException();
        }
        Swap swap = world.swaps.get(world.swaps.size() - 1 - ago);
        return switch (what) {
            case 0 -> swap.why();
            case 1 -> swap.cable();
            case 2 -> swap.out();
            case 3 -> swap.in();
            case 4 -> swap.total();
            default -> throw new NoSuchElementException();
        };
    }

    private int refuse(int kind) {
        status[kind]++;
        return NONE;
    }

    private boolean has(int cable) {
        return cable >= 0 && cable < world.cables.size();
    }

    private void keepAct() {
        totals = null;
        acts.add(world.copy());
        if (acts.size() > 40) {
            acts.remove(0);
        }
    }

    /** Tells the swap between two nets, if there is one. */
    private static void change(World world, int why, int cable, List<Integer> before) {
        List<Integer> out = new ArrayList<>(before);
        out.removeAll(world.net());
        List<Integer> in = world.net();
        in.removeAll(before);
        if (out.size() > 1 || in.size() > 1) {
            throw new AssertionError("more than one cable went or came");
        }
        if (!out.isEmpty() || !in.isEmpty()) {
            int went = out.isEmpty() ? NONE : out.get(0);
            int came = in.isEmpty() ? NONE : in.get(0);
            world.swaps.add(new Swap(why, cable, went, came, world.total()));
        }
    }

    private static void changePrice(World world, int cable, int price) {
        List<Integer> before = world.net();
        int was = world.cables.get(cable).price();
        world.cables.set(cable, world.cables.get(cable).at(price));
        change(world, price > was ? 1 : 2, cable, before);
    }

    private static void changeSound(World world, int cable, boolean sound) {
        List<Integer> before = world.net();
        world.cables.set(cable, world.cables.get(cable).as(sound));
        change(world, sound ? 4 : 3, cable, before);
    }

    private static int clamp(int price) {
        return price < 1 ? 1 : price > 999 ? 999 : price;
    }

    int price(int cable, int price) {
        if (!has(cable) || price < 1 || price > 999 || world.cables.get(cable).price() == price) {
            return refuse(1);
        }
        keepAct();
        int was = world.cables.get(cable).price();
        changePrice(world, cable, price);
        return was;
    }

    int all(int firm, int hundredths) {
        boolean some = world.cables.stream().anyMatch(c -> c.firm() == firm);
        if (firm < 0 || firm > 3 || hundredths < -50 || hundredths > 100 || !some) {
            return refuse(1);
        }
        keepAct();
        for (int cable = 0; cable < world.cables.size(); cable++) {
            Cable c = world.cables.get(cable);
            if (c.firm() == firm) {
                changePrice(world, cable, clamp(c.price() * (100 + hundredths) / 100));
            }
        }
        return world.total();
    }

    int breaks(int cable) {
        if (!has(cable) || !world.cables.get(cable).sound()) {
            return refuse(1);
        }
        keepAct();
        changeSound(world, cable, false);
        return world.pieces();
    }

    int mend(int cable) {
        if (!has(cable) || world.cables.get(cable).sound()) {
            return refuse(1);
        }
        keepAct();
        changeSound(world, cable, true);
        return world.pieces();
    }

    int lay(int site, int other, int price, int firm) {
        boolean sites = site >= 0 && site < world.sites && other >= 0 && other < world.sites;
        boolean rest = price >= 1 && price <= 999 && firm >= 0 && firm <= 3 && world.cables.size() < 24;
        if (!sites || site == other || !rest) {
            return refuse(1);
        }
        keepAct();
        List<Integer> before = world.net();
        world.cables.add(new Cable(site, other, price, firm, true));
        change(world, 5, world.cables.size() - 1, before);
        return world.cables.size() - 1;
    }

    int undo() {
        if (acts.isEmpty()) {
            return NONE;
        }
        totals = null;
        world = acts.remove(acts.size() - 1).copy();
        return acts.size();
    }

    int note(int cable, boolean in) {
        if (noted.size() == 8 || !has(cable)) {
            return refuse(2);
        }
        noted.add(new Noted(cable, in));
        return noted.size();
    }

    private List<List<Integer>> netsThatFit(int cable, List<Integer> prices) {
        List<List<Integer>> nets = new ArrayList<>();
        for (int price = 1; price <= 999; price++) {
            List<Integer> net = world.withPrice(cable, price).net();
            boolean fits = true;
            for (Noted each : noted) {
                fits &= net.contains(each.cable()) == each.in();
            }
            if (fits) {
                nets.add(net);
                prices.add(price);
            }
        }
        return nets;
    }

    int fits(int cable, int what) {
        need(cable);
        if (what != 0 && what != 1) {
            throw new NoSuchElementException();
        }
        if (!world.cables.get(cable).sound()) {
            throw new IllegalStateException();
        }
        List<Integer> prices = new ArrayList<>();
        netsThatFit(cable, prices);
        if (what == 0) {
            return prices.size();
        }
        return prices.isEmpty() ? NONE : prices.get(0);
    }

    int look(int cable) {
        need(cable);
        if (!world.cables.get(cable).sound()) {
            throw new IllegalStateException();
        }
        List<List<Integer>> nets = netsThatFit(cable, new ArrayList<>());
        for (int other = 0; other < world.cables.size(); other++) {
            int in = 0;
            for (List<Integer> net : nets) {
                in += net.contains(other) ? 1 : 0;
            }
            if (other != cable && in > 0 && in < nets.size()) {
                return other;
            }
        }
        return NONE;
    }

    void forget() {
        noted.clear();
    }

    int years(int seed, int n, int what) {
        if (what < 0 || what > 2) {
            throw new NoSuchElementException();
        }
        if (n < 0 || n > 60) {
            throw new IllegalArgumentException();
        }
        World trial = world.copy();
        trial.swaps.clear();
        int[] drawn = {seed};
        for (int i = 0; i < n; i++) {
            int kind = draw(drawn, 8);
            int many = trial.cables.size();
            if (many > 0) {
                int cable = draw(drawn, many);
                Cable c = trial.cables.get(cable);
                if (kind < 6) {
                    changePrice(trial, cable, clamp(c.price() + draw(drawn, 41) - 20));
                } else {
                    changeSound(trial, cable, !c.sound());
                }
            }
        }
        return what == 0 ? trial.total() : what == 1 ? trial.swaps.size() : trial.pieces();
    }

    private static int draw(int[] seed, int n) {
        long product = (long) seed[0] * 1103515245L + 12345L;
        seed[0] = (int) (product & 0xffffffffL);
        return (int) ((product & 0x7fff0000L) >> 16) % n;
    }

    void image() {
        imageWorld = world.copy();
        imageActs = new ArrayList<>(acts);
        imageNoted = new ArrayList<>(noted);
        imageStatus = status.clone();
    }

    boolean restore() {
        if (imageWorld == null) {
            return false;
        }
        totals = null;
        world = imageWorld.copy();
        acts = new ArrayList<>(imageActs);
        noted = new ArrayList<>(imageNoted);
        status = imageStatus.clone();
        return true;
    }
}
