import java.util.NoSuchElementException;

/**
 * A keeper of the cheapest net of cables between sites. The promises that it keeps are those of the
 * project's document; its words in capitals are used in the comments here.
 */
public final class CableKeeper {
    public static final int NONE = -1;

    private static final int MOST_SITES = 10;
    private static final int SITES_UNTOLD = 4;
    private static final int MOST_CABLES = 24;
    private static final int MOST_PRICE = 999;
    private static final int FIRMS = 4;
    private static final int TAPE_BYTES = 700;
    private static final int FEED_BYTES = 20;
    private static final int MOST_NOTES = 8;
    private static final int MOST_YEARS = 60;

    private static final int TEXTS = 0;
    private static final int ACTS = 1;
    private static final int NOTES = 2;

    private static final int DEARER = 1;
    private static final int CHEAPER = 2;
    private static final int BROKE = 3;
    private static final int MENDED = 4;
    private static final int LAID = 5;

    private final byte[] tape = new byte[TAPE_BYTES];
    private int fed = 0;
    private int faultAt = NONE;
    private final State now = new State();
    private final State kept = new State();
    private boolean imaged = false;
    /** THE NET as it is, and the ways in it: both follow from the cables, so no image keeps them. */
    private final Forest forest = new Forest();
    private final Ways ways = new Ways();
    /** Cables and a net that only would be, made anew by each call that asks for them. */
    private final Cables trial = new Cables();
    private final Forest trialNet = new Forest();
    private final int[] rings = new int[MOST_CABLES];
    private final Roads roads = new Roads();
    private final Likes likes = new Likes();
    private final Teller teller = new Teller();

    public CableKeeper() {
        settle();
    }

    public int feed(int a, int b, int c, int d, int e) {
        if (fed + FEED_BYTES > TAPE_BYTES) {
            return NONE;
        }
        putOnTape(a);
        putOnTape(b);
        putOnTape(c);
        putOnTape(d);
        putOnTape(e);
        return fed;
    }

    private void putOnTape(int number) {
        for (int shift = 24; shift >= 0 && fed < TAPE_BYTES; shift -= 8) {
            tape[fed] = (byte) (number >> shift);
            fed++;
        }
    }

    public int net(int n) throws IllegalArgumentException {
        if (n < 0 || n > fed) {
            throw new IllegalArgumentException();
        }
        Reader reader = new Reader(tape, n, trial);
        int fault = reader.readText();
        fed = 0;
        faultAt = reader.faultAt;
        if (fault != 0) {
            now.refused[TEXTS]++;
            return fault;
        }
        now.begin(trial);
        imaged = false;
        settle();
        return 0;
    }

    public int fault() {
        return faultAt;
    }

    public int count(int what) throws NoSuchElementException {
        switch (what) {
            case 0: return now.cables.sites;
            case 1: return now.cables.count;
            case 2: return now.cables.sound;
            case 3: return forest.bits;
            case 4: return forest.total;
            case 5: return forest.pieces;
            case 6: return now.swaps.shown();
            case 7: return now.swaps.ever;
            case 8: return nextBest();
            case 9: return hub();
            case 10: return ways.longest();
            case 11: return twins();
            case 12: return now.acts.held;
            case 13: return now.noted;
            case 14: return fed;
            case 15: return now.refused[TEXTS];
            case 16: return now.refused[ACTS];
            case 17: return now.refused[NOTES];
            case 18: return weakCouples();
            case 19: return firstWeak();
            case 20: return ways.centre();
            case 21: return ways.farthest(ways.centre());
            case 22: return detours();
            default: throw new NoSuchElementException();
        }
    }

    public int cable(int cable, int what) throws NoSuchElementException {
        needCable(cable);
        Cables cables = now.cables;
        switch (what) {
            case 0: return cables.first[cable];
            case 1: return cables.second[cable];
            case 2: return cables.price[cable];
            case 3: return cables.firm[cable];
            case 4: return cables.isSound(cable) ? 1 : 0;
            case 5: return isInside(cable) ? 1 : 0;
            case 6: return ringSize(cable);
            case 7: return dearestOf(cable);
            case 8: return cutOf(cable);
            case 9: return rivalOf(cable);
            case 10: return barOf(cable);
            case 11: return lossOf(cable);
            default: throw new NoSuchElementException();
        }
    }

    public int ring(int cable, int i) throws NoSuchElementException {
        needCable(cable);
        if (i < 0 || i >= ringSize(cable)) {
            throw new NoSuchElementException();
        }
        int goal = now.cables.second[cable];
        int site = now.cables.first[cable];
        int next = ways.firstCable(site, goal);
        for (int passed = 0; passed < i && next != NONE; passed++) {
            site = now.cables.otherEnd(next, site);
            next = ways.firstCable(site, goal);
        }
        return next;
    }

    public int taken(int i) throws NoSuchElementException {
        if (i < 0 || i >= forest.size) {
            throw new NoSuchElementException();
        }
        return forest.order[i];
    }

    public int site(int site, int what) throws NoSuchElementException {
        needSite(site);
        switch (what) {
            case 0: return endsAt(site);
            case 1: return endsAt(site) == 1 ? 1 : 0;
            case 2: return forest.piece[site];
            case 3: return aloneOf(site);
            default: throw new NoSuchElementException();
        }
    }

    public int way(int site, int other, int what) throws NoSuchElementException {
        needSite(site);
        needSite(other);
        switch (what) {
            case 0: return narrowOf(site, other);
            case 1: return ways.spanOf(site, other);
            case 2: return ways.cablesBetween(site, other);
            case 3: return roads.shortest(now.cables, site, other);
            case 4: return roads.apart(now.cables, site, other);
            default: throw new NoSuchElementException();
        }
    }

    public int firm(int firm, int what) throws NoSuchElementException {
        if (!isFirm(firm)) {
            throw new NoSuchElementException();
        }
        int own = now.cables.ofFirm(firm);
        switch (what) {
            case 0: return own & now.cables.sound;
            case 1: return now.cables.pricesOf(own & forest.bits);
            case 2: return payOf(own);
            default: throw new NoSuchElementException();
        }
    }

    public int share(int site) throws NoSuchElementException {
        needSite(site);
        if (site == 0) {
            return 0;
        }
        int cable = ways.firstCable(site, 0);
        return cable == NONE ? NONE : now.cables.price[cable];
    }

    public int group(int k, int site) throws IllegalArgumentException, NoSuchElementException {
        Cables cables = now.cables;
        if (k < 1 || k > cables.sites) {
            throw new IllegalArgumentException();
        }
        int left = Math.min(forest.size, cables.sites - k);
        if (site == NONE) {
            return left == forest.size ? 0 : cables.price[forest.order[left]];
        }
        needSite(site);
        trialNet.grow(cables, forest.cheapest(left));
        return trialNet.piece[site];
    }

    public int without(int site, int what) throws NoSuchElementException {
        needSite(site);
        trialNet.grow(now.cables, now.cables.sound & ~now.cables.endingAt(site));
        switch (what) {
            case 0: return trialNet.total;
            case 1: return trialNet.pieces - 1;
            default: throw new NoSuchElementException();
        }
    }

    public long alike() {
        return likes.countNets(now.cables);
    }

    public int told(int i) throws NoSuchElementException {
        teller.tell(now.cables);
        if (i == NONE) {
            return teller.length;
        }
        if (i < 0 || i >= teller.length) {
            throw new NoSuchElementException();
        }
        return teller.text[i];
    }

    public int joined(int set) throws IllegalArgumentException {
        if (set < 0 || set >> now.cables.sites != 0) {
            throw new IllegalArgumentException();
        }
        return roads.joining(now.cables, set);
    }

    public int swap(int ago, int what) throws NoSuchElementException {
        if (ago < 0 || ago >= now.swaps.shown()) {
            throw new NoSuchElementException();
        }
        int row = now.swaps.rowOf(ago);
        switch (what) {
            case 0: return Swaps.whyIn(row);
            case 1: return Swaps.cableIn(row);
            case 2: return Swaps.outIn(row);
            case 3: return Swaps.inIn(row);
            case 4: return Swaps.totalIn(row);
            default: throw new NoSuchElementException();
        }
    }

    public int price(int cable, int price) {
        Cables cables = now.cables;
        if (!cables.has(cable) || !isPrice(price) || cables.price[cable] == price) {
            return refuse(ACTS);
        }
        int was = cables.price[cable];
        now.keepAct();
        tellPrice(cable, price);
        ways.trace(cables, forest);
        return was;
    }

    public int all(int firm, int hundredths) {
        Cables cables = now.cables;
        if (!isFirm(firm) || hundredths < -50 || hundredths > 100 || cables.ofFirm(firm) == 0) {
            return refuse(ACTS);
        }
        now.keepAct();
        for (int cable = 0; cable < cables.count; cable++) {
            if (cables.firm[cable] == firm) {
                tellPrice(cable, asPrice(cables.price[cable] * (100 + hundredths) / 100));
            }
        }
        ways.trace(cables, forest);
        return forest.total;
    }

    public int breaks(int cable) {
        Cables cables = now.cables;
        if (!cables.has(cable) || !cables.isSound(cable)) {
            return refuse(ACTS);
        }
        now.keepAct();
        cables.sound &= ~(1 << cable);
        regrow(BROKE, cable);
        ways.trace(cables, forest);
        return forest.pieces;
    }

    public int mend(int cable) {
        Cables cables = now.cables;
        if (!cables.has(cable) || cables.isSound(cable)) {
            return refuse(ACTS);
        }
        now.keepAct();
        cables.sound |= 1 << cable;
        regrow(MENDED, cable);
        ways.trace(cables, forest);
        return forest.pieces;
    }

    public int lay(int site, int other, int price, int firm) {
        Cables cables = now.cables;
        boolean fit = cables.hasSite(site) && cables.hasSite(other) && site != other
                && isPrice(price) && isFirm(firm) && cables.count < MOST_CABLES;
        if (!fit) {
            return refuse(ACTS);
        }
        now.keepAct();
        int cable = cables.add(site, other, price, firm);
        cables.sort();
        regrow(LAID, cable);
        ways.trace(cables, forest);
        return cable;
    }

    public int undo() {
        if (now.acts.held == 0) {
            return NONE;
        }
        now.swaps.ever = now.acts.takeBack(now.cables);
        settle();
        return now.acts.held;
    }

    public int note(int cable, boolean in) {
        if (now.noted >= MOST_NOTES || !now.cables.has(cable)) {
            return refuse(NOTES);
        }
        if (in) {
            now.notedIn |= 1 << cable;
        } else {
            now.notedOut |= 1 << cable;
        }
        now.noted++;
        return now.noted;
    }

    public int fits(int cable, int what) throws NoSuchElementException, IllegalStateException {
        needCable(cable);
        if (what < 0 || what > 1) {
            throw new NoSuchElementException();
        }
        needSound(cable);
        int bar = Math.max(barOf(cable), 0);
        int low = now.fitsNoted(netWith(cable)) ? bar : 0;
        int high = now.fitsNoted(netWithout(cable)) ? MOST_PRICE - bar : 0;
        if (what == 0) {
            return low + high;
        }
        if (low > 0) {
            return 1;
        }
        return high > 0 ? bar + 1 : NONE;
    }

    public int look(int cable) throws NoSuchElementException, IllegalStateException {
        needCable(cable);
        needSound(cable);
        int bar = barOf(cable);
        boolean low = bar > 0 && now.fitsNoted(netWith(cable));
        boolean high = bar < MOST_PRICE && now.fitsNoted(netWithout(cable));
        return low && high ? partnerOf(cable) : NONE;
    }

    public void forget() {
        now.forgetNoted();
    }

    public int years(int seed, int n, int what) throws NoSuchElementException, IllegalArgumentException {
        if (what < 0 || what > 2) {
            throw new NoSuchElementException();
        }
        if (n < 0 || n > MOST_YEARS) {
            throw new IllegalArgumentException();
        }
        trial.copy(now.cables);
        trialNet.grow(trial, trial.sound);
        int swaps = 0;
        int drawn = seed;
        for (int year = 0; year < n; year++) {
            int before = trialNet.bits;
            drawn = passYear(drawn);
            if (trialNet.bits != before) {
                swaps++;
            }
        }
        if (what == 0) {
            return trialNet.total;
        }
        return what == 1 ? swaps : trialNet.pieces;
    }

    public void image() {
        kept.copy(now);
        imaged = true;
    }

    public boolean restore() {
        if (!imaged) {
            return false;
        }
        now.copy(kept);
        settle();
        return true;
    }

    private void needCable(int cable) {
        if (!now.cables.has(cable)) {
            throw new NoSuchElementException();
        }
    }

    private void needSite(int site) {
        if (!now.cables.hasSite(site)) {
            throw new NoSuchElementException();
        }
    }

    private void needSound(int cable) {
        if (!now.cables.isSound(cable)) {
            throw new IllegalStateException();
        }
    }

    private int refuse(int kind) {
        now.refused[kind]++;
        return NONE;
    }

    private static boolean isPrice(int price) {
        return price >= 1 && price <= MOST_PRICE;
    }

    private static boolean isFirm(int firm) {
        return firm >= 0 && firm < FIRMS;
    }

    private static int asPrice(int number) {
        return Math.max(1, Math.min(MOST_PRICE, number));
    }

    /** Makes THE NET and its ways anew where no SWAP is to be told. */
    private void settle() {
        forest.grow(now.cables, now.cables.sound);
        ways.trace(now.cables, forest);
    }

    private void tellPrice(int cable, int price) {
        int was = now.cables.price[cable];
        if (price == was) {
            return;
        }
        now.cables.price[cable] = price;
        now.cables.sort();
        regrow(price > was ? DEARER : CHEAPER, cable);
    }

    private void regrow(int why, int cable) {
        int before = forest.bits;
        forest.grow(now.cables, now.cables.sound);
        int out = lowestOf(before & ~forest.bits);
        int in = lowestOf(forest.bits & ~before);
        if (out != NONE || in != NONE) {
            now.swaps.tell(why, cable, out, in, forest.total);
        }
    }

    private static int lowestOf(int bits) {
        for (int i = 0; i < MOST_CABLES; i++) {
            if ((bits >> i & 1) == 1) {
                return i;
            }
        }
        return NONE;
    }

    private boolean isInside(int cable) {
        return (forest.bits >> cable & 1) == 1;
    }

    private boolean isOutside(int cable) {
        return now.cables.isSound(cable) && !isInside(cable);
    }

    private int ringSize(int cable) {
        if (!isOutside(cable)) {
            return 0;
        }
        return ways.cablesBetween(now.cables.first[cable], now.cables.second[cable]);
    }

    private int dearestOf(int cable) {
        if (!isOutside(cable)) {
            return NONE;
        }
        return ways.dearestCable(now.cables.first[cable], now.cables.second[cable]);
    }

    private int cutOf(int cable) {
        if (!isInside(cable)) {
            return 0;
        }
        int from = now.cables.first[cable];
        int cut = 0;
        for (int site = 0; site < now.cables.sites; site++) {
            boolean joins = ways.spanOf(from, site) != NONE;
            if (joins && ways.firstCable(from, site) != cable) {
                cut |= 1 << site;
            }
        }
        return cut;
    }

    private int rivalOf(int cable) {
        int cut = cutOf(cable);
        if (cut == 0) {
            return NONE;
        }
        Cables cables = now.cables;
        for (int i = 0; i < cables.count; i++) {
            int rival = cables.order[i];
            if (rival != cable && cables.isSound(rival) && cables.crosses(rival, cut)) {
                return rival;
            }
        }
        return NONE;
    }

    /** The one CABLE that changes places with this one, if its PRICE passes the BAR. */
    private int partnerOf(int cable) {
        return isInside(cable) ? rivalOf(cable) : dearestOf(cable);
    }

    private int barOf(int cable) {
        if (!now.cables.isSound(cable)) {
            return NONE;
        }
        int partner = partnerOf(cable);
        if (partner == NONE) {
            return MOST_PRICE;
        }
        int price = now.cables.price[partner];
        int bar = cable < partner ? price : price - 1;
        return bar < 1 ? NONE : bar;
    }

    private int lossOf(int cable) {
        if (isOutside(cable)) {
            return 0;
        }
        int rival = rivalOf(cable);
        return rival == NONE ? NONE : now.cables.price[rival] - now.cables.price[cable];
    }

    /** By the PRICE of one CABLE alone there are two nets at most: this one up to its BAR .. */
    private int netWith(int cable) {
        if (isInside(cable)) {
            return forest.bits;
        }
        return swapped(dearestOf(cable), cable);
    }

    /** .. and this one above it. */
    private int netWithout(int cable) {
        if (isInside(cable)) {
            return swapped(cable, rivalOf(cable));
        }
        return forest.bits;
    }

    private int swapped(int out, int in) {
        int bits = forest.bits;
        if (out != NONE) {
            bits &= ~(1 << out);
        }
        if (in != NONE) {
            bits |= 1 << in;
        }
        return bits;
    }

    private int nextBest() {
        int best = NONE;
        for (int cable = 0; cable < now.cables.count; cable++) {
            int dearest = dearestOf(cable);
            if (dearest != NONE) {
                int total = forest.total + now.cables.price[cable] - now.cables.price[dearest];
                best = best == NONE ? total : Math.min(best, total);
            }
        }
        return best;
    }

    private int endsAt(int site) {
        return Integer.bitCount(forest.bits & now.cables.endingAt(site));
    }

    private int hub() {
        int hub = 0;
        int most = endsAt(0);
        for (int site = 1; site < now.cables.sites; site++) {
            int ends = endsAt(site);
            if (ends > most) {
                hub = site;
                most = ends;
            }
        }
        return hub;
    }

    private int twins() {
        trial.copy(now.cables);
        for (int cable = 0; cable < trial.count; cable++) {
            trial.price[cable] = MOST_PRICE + 1 - trial.price[cable];
        }
        trial.sort();
        trialNet.grow(trial, trial.sound);
        return forest.bits & trialNet.bits;
    }

    /** Of a CABLE the rings it is on, as bits of the CABLES outside that close them; 0 of one in no ring. */
    private int ringsWith(int cable) {
        if (isOutside(cable)) {
            return 1 << cable;
        }
        int cut = cutOf(cable);
        int closings = 0;
        for (int closing = 0; closing < now.cables.count; closing++) {
            if (isOutside(closing) && now.cables.crosses(closing, cut)) {
                closings |= 1 << closing;
            }
        }
        return closings;
    }

    private void markRings() {
        for (int cable = 0; cable < now.cables.count; cable++) {
            rings[cable] = ringsWith(cable);
        }
    }

    /** Two CABLES are a WEAK couple just when some ring holds them and every ring holds both or neither. */
    private boolean isWeak(int lesser, int greater) {
        return rings[lesser] != 0 && rings[lesser] == rings[greater];
    }

    private int weakCouples() {
        markRings();
        int couples = 0;
        for (int lesser = 0; lesser < now.cables.count; lesser++) {
            for (int greater = lesser + 1; greater < now.cables.count; greater++) {
                if (isWeak(lesser, greater)) {
                    couples++;
                }
            }
        }
        return couples;
    }

    private int firstWeak() {
        markRings();
        for (int lesser = 0; lesser < now.cables.count; lesser++) {
            for (int greater = lesser + 1; greater < now.cables.count; greater++) {
                if (isWeak(lesser, greater)) {
                    return 100 * lesser + greater;
                }
            }
        }
        return NONE;
    }

    private int detours() {
        Cables cables = now.cables;
        roads.measure(cables);
        int couples = 0;
        for (int site = 0; site < cables.sites; site++) {
            for (int far = site + 1; far < cables.sites; far++) {
                if (ways.spanOf(site, far) > roads.length(site, far)) {
                    couples++;
                }
            }
        }
        return couples;
    }

    private int narrowOf(int site, int far) {
        if (site == far) {
            return 0;
        }
        int dearest = ways.dearestCable(site, far);
        return dearest == NONE ? NONE : now.cables.price[dearest];
    }

    private int aloneOf(int site) {
        Cables cables = now.cables;
        int ending = cables.endingAt(site);
        int cheapest = cables.cheapestOf(ending & cables.sound);
        if (cheapest == NONE) {
            return NONE;
        }
        trialNet.grow(cables, (cables.sound & ~ending) | (1 << cheapest));
        return trialNet.pieces > forest.pieces ? NONE : trialNet.total - forest.total;
    }

    private int payOf(int own) {
        trialNet.grow(now.cables, now.cables.sound & ~own);
        if (trialNet.pieces > forest.pieces) {
            return NONE;
        }
        return trialNet.total - now.cables.pricesOf(forest.bits & ~own);
    }

    /** Lets one of the YEARS pass over the trial cables; answers what the seed became. */
    private int passYear(int seed) {
        int drawn = nextSeed(seed);
        int kind = draw(drawn, 8);
        if (trial.count == 0) {
            return drawn;
        }
        drawn = nextSeed(drawn);
        int cable = draw(drawn, trial.count);
        if (kind > 5) {
            trial.sound ^= 1 << cable;
        } else {
            drawn = nextSeed(drawn);
            trial.price[cable] = asPrice(trial.price[cable] + draw(drawn, 41) - 20);
            trial.sort();
        }
        trialNet.grow(trial, trial.sound);
        return drawn;
    }

    /** Makes two PIECES one, each told by its least SITE; false where they are one already. */
    private static boolean unite(int[] piece, int site, int far) {
        int low = Math.min(piece[site], piece[far]);
        int high = Math.max(piece[site], piece[far]);
        if (low == high) {
            return false;
        }
        for (int each = high; each < piece.length; each++) {
            if (piece[each] == high) {
                piece[each] = low;
            }
        }
        return true;
    }

    private static int nextSeed(int seed) {
        return seed * 1103515245 + 12345;
    }

    private static int draw(int seed, int n) {
        return n < 1 ? 0 : (seed >>> 16 & 0x7fff) % n;
    }

    /** SITES and CABLES as a TEXT tells them and ACTS change them. */
    private static final class Cables {
        int sites = SITES_UNTOLD;
        int count = 0;
        int sound = 0;
        final int[] first = new int[MOST_CABLES];
        final int[] second = new int[MOST_CABLES];
        final int[] price = new int[MOST_CABLES];
        final int[] firm = new int[MOST_CABLES];
        /** The CABLES, the CHEAPEST first: kept, since most answers ask for nets of the same PRICES. */
        final int[] order = new int[MOST_CABLES];

        void clear() {
            sites = SITES_UNTOLD;
            count = 0;
            sound = 0;
        }

        void copy(Cables from) {
            sites = from.sites;
            count = from.count;
            sound = from.sound;
            System.arraycopy(from.first, 0, first, 0, MOST_CABLES);
            System.arraycopy(from.second, 0, second, 0, MOST_CABLES);
            System.arraycopy(from.price, 0, price, 0, MOST_CABLES);
            System.arraycopy(from.firm, 0, firm, 0, MOST_CABLES);
            System.arraycopy(from.order, 0, order, 0, MOST_CABLES);
        }

        boolean has(int cable) {
            return cable >= 0 && cable < count;
        }

        boolean hasSite(int site) {
            return site >= 0 && site < sites;
        }

        boolean isSound(int cable) {
            return (sound >> cable & 1) == 1;
        }

        /** Puts a SOUND CABLE behind the others; NONE where there is no room for it. */
        int add(int from, int to, int cost, int owner) {
            if (count >= MOST_CABLES) {
                return NONE;
            }
            first[count] = from;
            second[count] = to;
            price[count] = cost;
            firm[count] = owner;
            sound |= 1 << count;
            count++;
            return count - 1;
        }

        void sort() {
            for (int cable = 0; cable < count; cable++) {
                int place = cable;
                while (place > 0 && price[order[place - 1]] > price[cable]) {
                    order[place] = order[place - 1];
                    place--;
                }
                order[place] = cable;
            }
        }

        int otherEnd(int cable, int site) {
            return first[cable] == site ? second[cable] : first[cable];
        }

        boolean crosses(int cable, int cut) {
            return (cut >> first[cable] & 1) != (cut >> second[cable] & 1);
        }

        int endingAt(int site) {
            int bits = 0;
            for (int cable = 0; cable < count; cable++) {
                if (first[cable] == site || second[cable] == site) {
                    bits |= 1 << cable;
                }
            }
            return bits;
        }

        int ofFirm(int owner) {
            int bits = 0;
            for (int cable = 0; cable < count; cable++) {
                if (firm[cable] == owner) {
                    bits |= 1 << cable;
                }
            }
            return bits;
        }

        int pricesOf(int bits) {
            int sum = 0;
            for (int cable = 0; cable < count; cable++) {
                if ((bits >> cable & 1) == 1) {
                    sum += price[cable];
                }
            }
            return sum;
        }

        int cheapestOf(int bits) {
            for (int i = 0; i < count; i++) {
                if ((bits >> order[i] & 1) == 1) {
                    return order[i];
                }
            }
            return NONE;
        }
    }

    /** The cheapest net that some of the CABLES make. */
    private static final class Forest {
        final int[] order = new int[MOST_SITES - 1];
        int size = 0;
        int bits = 0;
        int total = 0;
        int pieces = 0;
        /** Of each SITE the least one of its PIECE. */
        final int[] piece = new int[MOST_SITES];

        void grow(Cables cables, int among) {
            size = 0;
            bits = 0;
            total = 0;
            pieces = cables.sites;
            for (int site = 0; site < MOST_SITES; site++) {
                piece[site] = site;
            }
            for (int i = 0; i < cables.count && size < order.length; i++) {
                int cable = cables.order[i];
                if ((among >> cable & 1) == 1 && unite(piece, cables.first[cable], cables.second[cable])) {
                    order[size] = cable;
                    size++;
                    bits |= 1 << cable;
                    total += cables.price[cable];
                    pieces--;
                }
            }
        }

        int cheapest(int many) {
            int chosen = 0;
            for (int i = 0; i < many && i < size; i++) {
                chosen |= 1 << order[i];
            }
            return chosen;
        }
    }

    /** The ways in a net, of each two SITES; NONE where it doesn't join them. */
    private static final class Ways {
        private int sites = 0;
        private final int[] span = new int[MOST_SITES * MOST_SITES];
        private final int[] hops = new int[MOST_SITES * MOST_SITES];
        private final int[] step = new int[MOST_SITES * MOST_SITES];
        private final int[] dearest = new int[MOST_SITES * MOST_SITES];

        private static int at(int site, int far) {
            return site * MOST_SITES + far;
        }

        int spanOf(int site, int far) {
            return span[at(site, far)];
        }

        int cablesBetween(int site, int far) {
            return hops[at(site, far)];
        }

        int firstCable(int site, int far) {
            return step[at(site, far)];
        }

        int dearestCable(int site, int far) {
            return dearest[at(site, far)];
        }

        void trace(Cables cables, Forest net) {
            sites = cables.sites;
            for (int i = 0; i < span.length; i++) {
                span[i] = NONE;
                hops[i] = NONE;
                step[i] = NONE;
                dearest[i] = NONE;
            }
            for (int site = 0; site < sites; site++) {
                span[at(site, site)] = 0;
                hops[at(site, site)] = 0;
            }
            for (int i = 0; i < net.size; i++) {
                connect(cables, net.order[i]);
            }
        }

        private void connect(Cables cables, int cable) {
            int near = joinedWith(cables.first[cable]);
            int beyond = joinedWith(cables.second[cable]);
            for (int site = 0; site < sites; site++) {
                boolean isNear = (near >> site & 1) == 1;
                for (int far = 0; far < sites && isNear; far++) {
                    if ((beyond >> far & 1) == 1) {
                        link(cables, cable, site, far);
                    }
                }
            }
        }

        private int joinedWith(int site) {
            int bits = 0;
            for (int far = 0; far < sites; far++) {
                if (span[at(site, far)] != NONE) {
                    bits |= 1 << far;
                }
            }
            return bits;
        }

        private void link(Cables cables, int cable, int site, int far) {
            int first = cables.first[cable];
            int second = cables.second[cable];
            int there = at(site, far);
            int back = at(far, site);
            span[there] = span[at(site, first)] + cables.price[cable] + span[at(second, far)];
            span[back] = span[there];
            hops[there] = hops[at(site, first)] + 1 + hops[at(second, far)];
            hops[back] = hops[there];
            step[there] = site == first ? cable : step[at(site, first)];
            step[back] = far == second ? cable : step[at(far, second)];
            // The CHEAPEST were taken first, so no CABLE on this way is DEARER than the one that closes it.
            dearest[there] = cable;
            dearest[back] = cable;
        }

        int farthest(int site) {
            int most = 0;
            for (int far = 0; far < sites; far++) {
                most = Math.max(most, span[at(site, far)]);
            }
            return most;
        }

        int longest() {
            int most = 0;
            for (int site = 0; site < sites; site++) {
                most = Math.max(most, farthest(site));
            }
            return most;
        }

        int centre() {
            int centre = 0;
            int least = farthest(0);
            for (int site = 1; site < sites; site++) {
                int far = farthest(site);
                if (far < least) {
                    centre = site;
                    least = far;
                }
            }
            return centre;
        }
    }

    /** Ways over all SOUND CABLES, in THE NET or not. */
    private static final class Roads {
        /** More than any way costs: 9 CABLES at most are on one. */
        private static final int FAR = 1000000;
        private int sites = 0;
        private final int[] lengths = new int[MOST_SITES * MOST_SITES];
        private final int[] near = new int[MOST_SITES];
        private final int[] flow = new int[MOST_CABLES];
        private final int[] reachedBy = new int[MOST_SITES];

        int length(int site, int far) {
            return lengths[site * MOST_SITES + far];
        }

        private void shorten(int site, int far, int cost) {
            int there = site * MOST_SITES + far;
            lengths[there] = Math.min(lengths[there], cost);
        }

        void measure(Cables cables) {
            sites = cables.sites;
            for (int i = 0; i < lengths.length; i++) {
                lengths[i] = FAR;
            }
            for (int site = 0; site < sites; site++) {
                shorten(site, site, 0);
            }
            for (int cable = 0; cable < cables.count; cable++) {
                if (cables.isSound(cable)) {
                    shorten(cables.first[cable], cables.second[cable], cables.price[cable]);
                    shorten(cables.second[cable], cables.first[cable], cables.price[cable]);
                }
            }
            for (int over = 0; over < sites; over++) {
                measureOver(over);
            }
        }

        private void measureOver(int over) {
            for (int site = 0; site < sites; site++) {
                int start = length(site, over);
                for (int far = 0; far < sites && start < FAR; far++) {
                    shorten(site, far, start + length(over, far));
                }
            }
        }

        private static int orNone(int cost) {
            return cost < FAR ? cost : NONE;
        }

        int shortest(Cables cables, int site, int far) {
            measure(cables);
            return orNone(length(site, far));
        }

        int joining(Cables cables, int set) {
            int members = Integer.bitCount(set);
            if (members < 2) {
                return 0;
            }
            measure(cables);
            int best = FAR;
            for (int extra = 0; extra < 1 << sites; extra++) {
                // Where only shortest ways are taken, a further SITE serves if three ways meet there: so
                // there are two less of these than members.
                if ((extra & set) == 0 && Integer.bitCount(extra) <= members - 2) {
                    best = Math.min(best, spread(set | extra));
                }
            }
            return orNone(best);
        }

        /** What the cheapest net of these SITES costs if each two are joined by their shortest way. */
        private int spread(int set) {
            for (int site = 0; site < sites; site++) {
                near[site] = FAR;
            }
            int left = set;
            int cost = 0;
            int next = nearest(left);
            for (int legs = 0; legs < MOST_SITES && next != NONE; legs++) {
                left &= ~(1 << next);
                for (int site = 0; site < sites; site++) {
                    near[site] = Math.min(near[site], length(next, site));
                }
                next = nearest(left);
                cost += next == NONE ? 0 : near[next];
            }
            return cost;
        }

        private int nearest(int left) {
            int best = NONE;
            for (int site = 0; site < sites; site++) {
                boolean nearer = best == NONE || near[site] < near[best];
                if ((left >> site & 1) == 1 && nearer) {
                    best = site;
                }
            }
            return best;
        }

        int apart(Cables cables, int from, int to) {
            if (from == to) {
                return 0;
            }
            for (int cable = 0; cable < MOST_CABLES; cable++) {
                flow[cable] = 0;
            }
            int many = 0;
            while (many < MOST_CABLES && reach(cables, from, to)) {
                use(cables, from, to);
                many++;
            }
            return many;
        }

        /** Looks for one way more, over CABLES that are free or (which frees them) used the other way. */
        private boolean reach(Cables cables, int from, int to) {
            for (int site = 0; site < MOST_SITES; site++) {
                reachedBy[site] = NONE;
            }
            int seen = 1 << from;
            for (int round = 0; round < MOST_SITES && (seen >> to & 1) == 0; round++) {
                for (int cable = 0; cable < cables.count; cable++) {
                    seen = reachOver(cables, cable, seen);
                }
            }
            return (seen >> to & 1) == 1;
        }

        private int reachOver(Cables cables, int cable, int seen) {
            if (!cables.isSound(cable)) {
                return seen;
            }
            int first = cables.first[cable];
            int second = cables.second[cable];
            boolean atFirst = (seen >> first & 1) == 1;
            boolean atSecond = (seen >> second & 1) == 1;
            if (atFirst && !atSecond && flow[cable] < 1) {
                reachedBy[second] = cable;
                return seen | 1 << second;
            }
            if (atSecond && !atFirst && flow[cable] > -1) {
                reachedBy[first] = cable;
                return seen | 1 << first;
            }
            return seen;
        }

        private void use(Cables cables, int from, int to) {
            int site = to;
            for (int steps = 0; steps < MOST_SITES && site != from; steps++) {
                int cable = reachedBy[site];
                if (cable == NONE) {
                    return;
                }
                flow[cable] += cables.second[cable] == site ? 1 : -1;
                site = cables.otherEnd(cable, site);
            }
        }
    }

    /** LIKE NETS, counted for the CABLES of one PRICE after the other. */
    private static final class Likes {
        /** The PIECES that CABLES of lesser PRICES make .. */
        private final int[] before = new int[MOST_SITES];
        /** .. and those that CABLES of this PRICE make of them. */
        private final int[] behind = new int[MOST_SITES];
        private final long[] matrix = new long[MOST_SITES * MOST_SITES];
        private final int[] rows = new int[MOST_SITES];

        long countNets(Cables cables) {
            for (int site = 0; site < MOST_SITES; site++) {
                before[site] = site;
                behind[site] = site;
            }
            clearMatrix();
            long nets = 1;
            for (int i = 0; i < cables.count; i++) {
                int cable = cables.order[i];
                if (cables.isSound(cable)) {
                    enter(cables.first[cable], cables.second[cable]);
                }
                boolean last = i + 1 == cables.count;
                if (last || cables.price[cables.order[i + 1]] != cables.price[cable]) {
                    nets *= choices();
                    passPrice();
                }
            }
            return nets;
        }

        private void clearMatrix() {
            for (int i = 0; i < matrix.length; i++) {
                matrix[i] = 0;
            }
        }

        private void passPrice() {
            System.arraycopy(behind, 0, before, 0, MOST_SITES);
            clearMatrix();
        }

        private void enter(int site, int far) {
            int piece = before[site];
            int other = before[far];
            if (piece == other) {
                return;
            }
            matrix[piece * MOST_SITES + piece]++;
            matrix[other * MOST_SITES + other]++;
            matrix[piece * MOST_SITES + other]--;
            matrix[other * MOST_SITES + piece]--;
            unite(behind, piece, other);
        }

        /** How many nets of this PRICE's CABLES there are: a determinant, one PIECE of each new one left out. */
        private long choices() {
            int size = 0;
            for (int site = 0; site < MOST_SITES; site++) {
                if (before[site] == site && behind[site] != site) {
                    rows[size] = site;
                    size++;
                }
            }
            long pivot = 1;
            for (int k = 0; k < size; k++) {
                long divisor = pivot;
                pivot = matrix[rows[k] * MOST_SITES + rows[k]];
                eliminate(k, size, divisor);
            }
            return pivot;
        }

        /** One step without fractions: what is divided here is always a multiple of the divisor. */
        private void eliminate(int k, int size, long divisor) {
            if (divisor == 0) {
                return;
            }
            int top = rows[k];
            for (int i = k + 1; i < size; i++) {
                int row = rows[i] * MOST_SITES;
                for (int j = k + 1; j < size; j++) {
                    long product = matrix[row + rows[j]] * matrix[top * MOST_SITES + top];
                    long less = matrix[row + top] * matrix[top * MOST_SITES + rows[j]];
                    matrix[row + rows[j]] = (product - less) / divisor;
                }
            }
        }
    }

    /** All that AN IMAGE keeps. */
    private static final class State {
        final Cables cables = new Cables();
        final Swaps swaps = new Swaps();
        final Acts acts = new Acts();
        int noted = 0;
        int notedIn = 0;
        int notedOut = 0;
        final int[] refused = new int[3];

        void begin(Cables from) {
            cables.copy(from);
            swaps.ever = 0;
            acts.clear();
            forgetNoted();
        }

        void forgetNoted() {
            noted = 0;
            notedIn = 0;
            notedOut = 0;
        }

        boolean fitsNoted(int net) {
            return (net & notedIn) == notedIn && (net & notedOut) == 0;
        }

        void keepAct() {
            acts.keep(cables, swaps.ever);
        }

        void copy(State from) {
            cables.copy(from.cables);
            swaps.copy(from.swaps);
            acts.copy(from.acts);
            noted = from.noted;
            notedIn = from.notedIn;
            notedOut = from.notedOut;
            System.arraycopy(from.refused, 0, refused, 0, refused.length);
        }
    }

    /** The SWAPS, each one packed into a number. */
    private static final class Swaps {
        private static final int SHOWN = 60;
        /** A power of two: 40 ACTS of 24 SWAPS may be UNDONE, and the 60 ahead of these are shown then. */
        private static final int ROOM = 1024;
        private final int[] rows = new int[ROOM];
        int ever = 0;

        void copy(Swaps from) {
            ever = from.ever;
            System.arraycopy(from.rows, 0, rows, 0, ROOM);
        }

        void tell(int why, int cable, int out, int in, int total) {
            rows[ever & (ROOM - 1)] = (total << 18) | (why << 15) | (cable << 10) | ((out + 1) << 5) | (in + 1);
            ever++;
        }

        int shown() {
            return Math.min(ever, SHOWN);
        }

        int rowOf(int ago) {
            return rows[(ever - 1 - ago) & (ROOM - 1)];
        }

        static int whyIn(int row) {
            return row >>> 15 & 7;
        }

        static int cableIn(int row) {
            return row >>> 10 & 31;
        }

        static int outIn(int row) {
            return (row >>> 5 & 31) - 1;
        }

        static int inIn(int row) {
            return (row & 31) - 1;
        }

        static int totalIn(int row) {
            return row >>> 18;
        }
    }

    /** Of each ACT that is kept, what was ahead of it; the ends of a CABLE never change, so they aren't here. */
    private static final class Acts {
        private static final int MOST = 40;
        private final int[] prices = new int[MOST * MOST_CABLES];
        private final int[] counts = new int[MOST];
        private final int[] sounds = new int[MOST];
        private final int[] swaps = new int[MOST];
        private int oldest = 0;
        int held = 0;

        void clear() {
            oldest = 0;
            held = 0;
        }

        void copy(Acts from) {
            System.arraycopy(from.prices, 0, prices, 0, prices.length);
            System.arraycopy(from.counts, 0, counts, 0, MOST);
            System.arraycopy(from.sounds, 0, sounds, 0, MOST);
            System.arraycopy(from.swaps, 0, swaps, 0, MOST);
            oldest = from.oldest;
            held = from.held;
        }

        void keep(Cables cables, int swapsEver) {
            if (held == MOST) {
                oldest = (oldest + 1) % MOST;
                held--;
            }
            int place = (oldest + held) % MOST;
            System.arraycopy(cables.price, 0, prices, place * MOST_CABLES, MOST_CABLES);
            counts[place] = cables.count;
            sounds[place] = cables.sound;
            swaps[place] = swapsEver;
            held++;
        }

        /** Answers how many SWAPS there had been. */
        int takeBack(Cables cables) {
            held = Math.max(0, held - 1);
            int place = (oldest + held) % MOST;
            System.arraycopy(prices, place * MOST_CABLES, cables.price, 0, MOST_CABLES);
            cables.count = counts[place];
            cables.sound = sounds[place];
            cables.sort();
            return swaps[place];
        }
    }

    /** TOLD, written anew whenever it is asked for. */
    private static final class Teller {
        final byte[] text = new byte[TAPE_BYTES];
        int length = 0;

        void tell(Cables cables) {
            length = 0;
            put("sites ");
            put(cables.sites);
            put(";");
            for (int cable = 0; cable < cables.count; cable++) {
                put("cable ");
                put(cables.first[cable]);
                put(" ");
                put(cables.second[cable]);
                put(" ");
                put(cables.price[cable]);
                put(" ");
                put(cables.firm[cable]);
                put(";");
            }
            for (int cable = 0; cable < cables.count; cable++) {
                if (!cables.isSound(cable)) {
                    put("broken ");
                    put(cable);
                    put(";");
                }
            }
        }

        private void put(String words) {
            for (int i = 0; i < words.length(); i++) {
                putSign(words.charAt(i));
            }
        }

        /** Of 3 digits at most. */
        private void put(int number) {
            if (number > 99) {
                putSign('0' + number / 100);
            }
            if (number > 9) {
                putSign('0' + number / 10 % 10);
            }
            putSign('0' + number % 10);
        }

        private void putSign(int sign) {
            if (length < text.length) {
                text[length] = (byte) sign;
                length++;
            }
        }
    }

    /** Reads a TEXT; behind a FAULT it reads on, but tells no further one. */
    private static final class Reader {
        private static final int END = 0;
        private static final int WORD = 1;
        private static final int NUMBER = 2;
        private static final int SEMICOLON = 3;
        private static final int STRANGE = 4;

        private final byte[] tape;
        private final int length;
        private final Cables into;
        private int place = 0;
        private int kind = END;
        private int start = 0;
        private int value = 0;
        private int fault = 0;
        int faultAt = NONE;

        Reader(byte[] tape, int length, Cables into) {
            this.tape = tape;
            this.length = length;
            this.into = into;
        }

        int readText() {
            into.clear();
            toNext();
            for (int clauses = 0; clauses < TAPE_BYTES && kind != END && fault == 0; clauses++) {
                readClause(clauses == 0);
            }
            into.sort();
            return fault;
        }

        private void readClause(boolean isFirst) {
            if (isWord("sites")) {
                readSites(isFirst);
            } else if (isWord("cable")) {
                readCable();
            } else if (isWord("broken")) {
                readBroken();
            } else {
                fail(1);
            }
            if (kind != SEMICOLON) {
                fail(1);
            }
            toNext();
        }

        private void readSites(boolean isFirst) {
            if (!isFirst) {
                fail(4);
            }
            toNext();
            int sites = readNumber(2, MOST_SITES);
            if (fault == 0) {
                into.sites = sites;
            }
            toNext();
        }

        private void readCable() {
            if (into.count >= MOST_CABLES) {
                fail(2);
            }
            toNext();
            int first = readSite();
            toNext();
            int second = readSite();
            if (first == second) {
                fail(5);
            }
            toNext();
            int price = readNumber(1, MOST_PRICE);
            toNext();
            int firm = 0;
            if (kind == NUMBER) {
                firm = readNumber(0, FIRMS - 1);
                toNext();
            }
            if (fault == 0) {
                into.add(first, second, price, firm);
            }
        }

        private int readSite() {
            int site = readNumber(0, MOST_SITES - 1);
            if (site >= into.sites) {
                fail(3);
            }
            return site;
        }

        private void readBroken() {
            toNext();
            int cable = readNumber(0, MOST_CABLES - 1);
            if (cable >= into.count) {
                fail(3);
            } else if (!into.isSound(cable)) {
                fail(4);
            }
            if (fault == 0) {
                into.sound &= ~(1 << cable);
            }
            toNext();
        }

        private int readNumber(int least, int most) {
            if (kind != NUMBER) {
                fail(1);
                return least;
            }
            if (place - start > 3 || value < least || value > most) {
                fail(2);
                return least;
            }
            return value;
        }

        private void fail(int what) {
            if (fault == 0) {
                fault = what;
                faultAt = start;
            }
        }

        private void toNext() {
            while (place < length && (tape[place] == ' ' || tape[place] == 10)) {
                place++;
            }
            start = place;
            if (place >= length) {
                kind = END;
            } else if (isLetter(place)) {
                kind = WORD;
                passWord();
            } else if (isDigit(place)) {
                kind = NUMBER;
                passNumber();
            } else {
                kind = tape[place] == ';' ? SEMICOLON : STRANGE;
                place++;
            }
        }

        private void passWord() {
            while (place < length && isLetter(place)) {
                place++;
            }
        }

        private void passNumber() {
            value = 0;
            while (place < length && isDigit(place)) {
                // Of a longer row the value is not asked for, and might be too much for an int.
                if (place - start < 3) {
                    value = value * 10 + tape[place] - '0';
                }
                place++;
            }
        }

        private boolean isLetter(int i) {
            return tape[i] >= 'a' && tape[i] <= 'z';
        }

        private boolean isDigit(int i) {
            return tape[i] >= '0' && tape[i] <= '9';
        }

        private boolean isWord(String word) {
            if (kind != WORD || place - start != word.length()) {
                return false;
            }
            for (int i = 0; i < word.length(); i++) {
                if (tape[start + i] != word.charAt(i)) {
                    return false;
                }
            }
            return true;
        }
    }
}
