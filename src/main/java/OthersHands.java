/**
 * A town in which nobody may have what his own hands, or his partner's, have had to do with.
 *
 * Sets of men and of things are bits: man or thing k is bit k. All rows are made in the constructor and
 * used again; only the first use of an image makes an object.
 */
public final class OthersHands {
    public static final int NONE = -6, UNKNOWN = -1, OUTSIDE = -2, STATE = -3, FULL = -4, NO = -5;
    public static final long LOST = -1000000000000000000L;

    private static final int MEN = 6;
    private static final int ALL_MEN = (1 << MEN) - 1;
    private static final int THINGS = 10;
    private static final int SIGNS = 60;
    private static final int ASKS = 4;
    private static final int SIGHTS = 6;
    private static final int IMAGES = 2;

    private final Pad pad;
    private final Reader reader;
    private final Town town;
    private final Town[] images;
    private final Shares shares;
    private final Filling filling;
    private final Bread bread;
    private final Matchmaker matchmaker;

    public OthersHands() {
        pad = new Pad();
        reader = new Reader();
        town = new Town();
        images = new Town[IMAGES];
        shares = new Shares();
        filling = new Filling();
        bread = new Bread();
        matchmaker = new Matchmaker();
    }

    // ---- 1 books

    public int say(int sign) {
        if (sign < 33 || sign > 126) {
            return OUTSIDE;
        }
        return pad.put(sign);
    }

    public int wipe() {
        return pad.clear();
    }

    public int fault() {
        return reader.read(pad);
    }

    public int book() {
        if (reader.read(pad) != NONE) {
            return NO;
        }
        pad.clear();
        town.open(reader.draft);
        return town.pages.count;
    }

    public int thing(int thing, int what) {
        if (!isThing(thing)) {
            return UNKNOWN;
        }
        switch (what) {
            case 0: return town.pages.hands[thing];
            case 1: return town.pages.first[thing];
            case 2: return town.pages.second[thing];
            case 3: return town.pages.tool[thing];
            case 4: return town.pages.asked[thing];
            default: return OUTSIDE;
        }
    }

    public int join(int man, int other) {
        if (!isMan(man) || !isMan(other) || man == other) {
            return UNKNOWN;
        }
        if (town.partner[man] != NONE || town.partner[other] != NONE) {
            return STATE;
        }
        town.partner[man] = other;
        town.partner[other] = man;
        return 1;
    }

    public int part(int man) {
        if (!isMan(man)) {
            return UNKNOWN;
        }
        int other = town.partner[man];
        town.partner[man] = NONE;
        if (isMan(other)) {
            town.partner[other] = NONE;
        }
        return other;
    }

    public int set(int which, int v) {
        if (which < 0 || which > 2 || v < 0 || v > Town.mostOf(which)) {
            return OUTSIDE;
        }
        return town.change(which, v);
    }

    public int loaves(int thing, int v) {
        if (!isThing(thing)) {
            return UNKNOWN;
        }
        if (v < 0 || v > 9) {
            return OUTSIDE;
        }
        int before = town.stock[thing];
        town.stock[thing] = v;
        return before;
    }

    // ---- 2 touches

    public int touched(int thing, int what) {
        if (!isThing(thing)) {
            return UNKNOWN;
        }
        switch (what) {
            case 0: return town.touchers(thing);
            case 1: return town.barredMen(thing);
            case 2: return town.withPartners(shares.holders(town.pages, thing, town.tenths));
            default: return OUTSIDE;
        }
    }

    public int may(int man, int what) {
        if (!isMan(man)) {
            return UNKNOWN;
        }
        switch (what) {
            case 0: return town.lawfulThings(man);
            case 1: return town.taintOf(man);
            default: return OUTSIDE;
        }
    }

    public int near(int thing, int man) {
        if (!isThing(thing) || !isMan(man)) {
            return UNKNOWN;
        }
        return town.fewestSteps(thing, 1 << man);
    }

    public long share(int thing, int man, int part) {
        if (!isThing(thing) || !isMan(man)) {
            return LOST + UNKNOWN;
        }
        if (part < 0 || part > 1) {
            return LOST + OUTSIDE;
        }
        int upper = shares.partsOf(town.pages, thing, man);
        return Shares.lowest(upper, Shares.WHOLE, part);
    }

    public int seen(int man, int thing) {
        if (!isMan(man) || !isThing(thing)) {
            return UNKNOWN;
        }
        return town.addSight(man, thing);
    }

    public int forget() {
        return town.dropSights();
    }

    public int filled(int i) {
        filling.weigh(town);
        if (i == -1) {
            return filling.ways();
        }
        return filling.firstMan(i);
    }

    public int sure(int thing, int what) {
        if (!isThing(thing)) {
            return UNKNOWN;
        }
        if (what < 0 || what > 1) {
            return OUTSIDE;
        }
        filling.weigh(town);
        if (filling.ways() == 0) {
            return STATE;
        }
        return what == 0 ? filling.barredInAll(town, thing) : filling.barredInSome(town, thing);
    }

    // ---- 3 bread

    public int fed(int i) {
        bread.layOut(town);
        int most = bread.serve();
        if (i == -1) {
            return most;
        }
        return isMan(i) ? bread.meal[i] : NONE;
    }

    public int lack() {
        bread.layOut(town);
        return bread.leastShortSet();
    }

    public int makers(int c, int what) {
        if (c < 1 || c > 6 || what < 0 || what > 1) {
            return OUTSIDE;
        }
        int bakers = Bakers.fewest(town, c);
        return what == 1 || bakers == NONE ? bakers : Integer.bitCount(bakers);
    }

    public int washed(int thing, int man) {
        if (!isThing(thing) || !isMan(man)) {
            return UNKNOWN;
        }
        // Each washing moves every touch one step further back, and the washer himself bars neither
        // the man nor his partner: so washing ends when the nearest of both lies beyond DEPTH.
        int nearest = town.fewestSteps(thing, town.couple(man));
        return nearest == NONE ? 0 : Math.max(0, town.depth + 1 - nearest);
    }

    public int married(int i) {
        int more = matchmaker.arrange(town);
        if (i == -1) {
            return more;
        }
        return isMan(i) ? matchmaker.plan[i] : NONE;
    }

    // ---- 4 days

    public int days(int seed, int n, int thing) {
        if (thing != -1 && !isThing(thing)) {
            return UNKNOWN;
        }
        if (seed < 0 || seed > 9999 || n < 1 || n > 99) {
            return OUTSIDE;
        }
        bread.layOut(town);
        int eaten = bread.live(seed, n);
        return thing == -1 ? eaten : bread.left[thing];
    }

    public int image(int n) {
        if (n < 0 || n >= IMAGES) {
            return OUTSIDE;
        }
        Town image = images[n];
        if (image == null) {
            image = new Town();
            images[n] = image;
        }
        image.become(town);
        return 1;
    }

    public int restore(int n) {
        if (n < 0 || n >= IMAGES) {
            return OUTSIDE;
        }
        Town image = images[n];
        if (image == null) {
            return STATE;
        }
        town.become(image);
        return 1;
    }

    public int told(int what) {
        if (what >= 10 && what < 10 + MEN) {
            return town.partner[what - 10];
        }
        if (what >= 20 && isThing(what - 20)) {
            return town.stock[what - 20];
        }
        switch (what) {
            case 0: return pad.count;
            case 1: return town.pages.count;
            case 2: return town.depth;
            case 3: return town.tools;
            case 4: return town.tenths;
            case 5: return town.sights;
            default: return OUTSIDE;
        }
    }

    private static boolean isMan(int man) {
        return man >= 0 && man < MEN;
    }

    private boolean isThing(int thing) {
        return thing >= 0 && thing < town.pages.count;
    }

    private static boolean has(int bits, int k) {
        return (bits >> k & 1) != 0;
    }

    /** The least number in a set; NONE if it is empty. */
    private static int leastOf(int bits) {
        for (int k = 0; k < THINGS; k++) {
            if (has(bits, k)) {
                return k;
            }
        }
        return NONE;
    }

    /** The signs that have been said and not yet read. */
    private static final class Pad {
        final int[] signs = new int[SIGNS];
        int count;

        int put(int sign) {
            if (count >= SIGNS) {
                return FULL;
            }
            signs[count] = sign;
            count++;
            return count;
        }

        int clear() {
            int before = count;
            count = 0;
            return before;
        }
    }

    /** The makings, the k-th of thing k; what stands behind a making is always of smaller number. */
    private static final class Pages {
        final int[] hands = new int[THINGS];
        final int[] first = new int[THINGS];
        final int[] second = new int[THINGS];
        final int[] tool = new int[THINGS];
        final int[] asked = new int[THINGS];
        int count;

        void become(Pages other) {
            System.arraycopy(other.hands, 0, hands, 0, THINGS);
            System.arraycopy(other.first, 0, first, 0, THINGS);
            System.arraycopy(other.second, 0, second, 0, THINGS);
            System.arraycopy(other.tool, 0, tool, 0, THINGS);
            System.arraycopy(other.asked, 0, asked, 0, THINGS);
            count = other.count;
        }

        void clearMaking(int k) {
            hands[k] = 0;
            first[k] = NONE;
            second[k] = NONE;
            tool[k] = NONE;
            asked[k] = 0;
        }

        /** The men whose hands made one of a set of things. */
        int handsOf(int things) {
            int men = 0;
            for (int k = 0; k < count; k++) {
                if (has(things, k)) {
                    men |= hands[k];
                }
            }
            return men;
        }

        /** What is one step behind a set of things. */
        int behind(int things, boolean withTools) {
            int back = 0;
            for (int k = 0; k < count; k++) {
                if (has(things, k)) {
                    back |= bitOf(first[k]) | bitOf(second[k]);
                    back |= withTools ? bitOf(tool[k]) : 0;
                }
            }
            return back;
        }

        private static int bitOf(int thing) {
            return thing == NONE ? 0 : 1 << thing;
        }
    }

    /** Reads a pad sign by sign into a draft; row draft.count is the making that is being read. */
    private static final class Reader {
        static final int AT_START = 0, AT_FROM = 1, AT_TOOL = 2, AT_HANDS = 3, AT_END = 4;
        static final int MOST_HANDS = 3;

        final Pages draft = new Pages();
        int stage;
        int asks;

        /** The place of the first sign that can not stand, the number of signs if more must come, NONE. */
        int read(Pad pad) {
            draft.count = 0;
            draft.clearMaking(0);
            stage = AT_START;
            asks = 0;
            for (int i = 0; i < pad.count; i++) {
                if (!takes(pad.signs[i])) {
                    return i;
                }
            }
            return stage == AT_START ? NONE : pad.count;
        }

        private boolean takes(int sign) {
            int k = draft.count;
            if (k >= THINGS) {
                return false;
            }
            if (sign >= 'a' && sign < 'a' + k) {
                return stage == AT_TOOL ? takesTool(k, sign - 'a') : takesFrom(k, sign - 'a');
            }
            if (sign >= 'A' && sign < 'A' + MEN) {
                return takesMan(k, sign - 'A');
            }
            switch (sign) {
                case '+': return takesPlus(k);
                case '?': return takesAsk(k);
                case ';': return takesEnd(k);
                default: return false;
            }
        }

        private boolean takesFrom(int k, int thing) {
            if (stage > AT_FROM) {
                return false;
            }
            if (draft.first[k] == NONE) {
                draft.first[k] = thing;
            } else if (draft.second[k] == NONE && thing > draft.first[k]) {
                draft.second[k] = thing;
            } else {
                return false;
            }
            stage = AT_FROM;
            return true;
        }

        private boolean takesPlus(int k) {
            // The first making has no thing ahead of it that could be its tool.
            if (stage > AT_FROM || k == 0) {
                return false;
            }
            stage = AT_TOOL;
            return true;
        }

        private boolean takesTool(int k, int thing) {
            draft.tool[k] = thing;
            stage = AT_HANDS;
            return true;
        }

        private boolean hasRoomForHand(int k) {
            return stage != AT_TOOL && stage != AT_END && Integer.bitCount(draft.hands[k]) < MOST_HANDS;
        }

        private boolean takesMan(int k, int man) {
            boolean rises = draft.hands[k] >> man == 0;
            if (!hasRoomForHand(k) || !rises) {
                return false;
            }
            draft.hands[k] |= 1 << man;
            stage = AT_HANDS;
            return true;
        }

        private boolean takesAsk(int k) {
            if (!hasRoomForHand(k) || asks >= ASKS) {
                return false;
            }
            draft.asked[k] = 1;
            asks++;
            stage = AT_END;
            return true;
        }

        private boolean takesEnd(int k) {
            if (draft.hands[k] == 0 && draft.asked[k] == 0) {
                return false;
            }
            draft.count = k + 1;
            if (k + 1 < THINGS) {
                draft.clearMaking(k + 1);
            }
            stage = AT_START;
            return true;
        }
    }

    /** All that an image keeps: the book, the partners, the laws, the loaves and the sights. */
    private static final class Town {
        static final int FIRST_DEPTH = 2, FIRST_TENTHS = 1;

        final Pages pages = new Pages();
        final int[] partner = new int[MEN];
        final int[] stock = new int[THINGS];
        final int[] seer = new int[SIGHTS];
        final int[] had = new int[SIGHTS];
        int sights;
        int depth = FIRST_DEPTH;
        int tools;
        int tenths = FIRST_TENTHS;

        Town() {
            for (int man = 0; man < MEN; man++) {
                partner[man] = NONE;
            }
        }

        void become(Town other) {
            pages.become(other.pages);
            System.arraycopy(other.partner, 0, partner, 0, MEN);
            System.arraycopy(other.stock, 0, stock, 0, THINGS);
            System.arraycopy(other.seer, 0, seer, 0, SIGHTS);
            System.arraycopy(other.had, 0, had, 0, SIGHTS);
            sights = other.sights;
            depth = other.depth;
            tools = other.tools;
            tenths = other.tenths;
        }

        void open(Pages draft) {
            pages.become(draft);
            for (int k = 0; k < THINGS; k++) {
                stock[k] = 0;
            }
            sights = 0;
        }

        static int mostOf(int which) {
            switch (which) {
                case 0: return 9;
                case 1: return 1;
                default: return 10;
            }
        }

        /** Sets DEPTH (0), TOOLS (1) or TENTHS (2); which it was. */
        int change(int which, int v) {
            int before;
            if (which == 0) {
                before = depth;
                depth = v;
            } else if (which == 1) {
                before = tools;
                tools = v;
            } else {
                before = tenths;
                tenths = v;
            }
            return before;
        }

        int addSight(int man, int thing) {
            if (sights >= SIGHTS) {
                return FULL;
            }
            seer[sights] = man;
            had[sights] = thing;
            sights++;
            return sights;
        }

        int dropSights() {
            int before = sights;
            sights = 0;
            return before;
        }

        /** A man and his partner. */
        int couple(int man) {
            int other = partner[man];
            return 1 << man | (other == NONE ? 0 : 1 << other);
        }

        int withPartners(int men) {
            int all = 0;
            for (int man = 0; man < MEN; man++) {
                if (has(men, man)) {
                    all |= couple(man);
                }
            }
            return all;
        }

        /** The things whose hands count for a thing: itself and what is behind it, back to DEPTH steps. */
        int reach(int thing) {
            int all = 0;
            int layer = 1 << thing;
            for (int step = 0; step <= depth && layer != 0; step++) {
                all |= layer;
                layer = pages.behind(layer, tools == 1);
            }
            return all;
        }

        int touchers(int thing) {
            return pages.handsOf(reach(thing));
        }

        int barredMen(int thing) {
            return withPartners(touchers(thing));
        }

        int lawfulThings(int man) {
            int things = 0;
            for (int k = 0; k < pages.count; k++) {
                if ((touchers(k) & couple(man)) == 0) {
                    things |= 1 << k;
                }
            }
            return things;
        }

        int taintOf(int man) {
            int things = 0;
            for (int k = 0; k < pages.count; k++) {
                if (has(touchers(k), man)) {
                    things |= 1 << k;
                }
            }
            return things;
        }

        /** The fewest steps back from a thing to hands of one of some men, DEPTH or not; NONE. */
        int fewestSteps(int thing, int men) {
            int layer = 1 << thing;
            for (int step = 0; step < THINGS && layer != 0; step++) {
                if ((pages.handsOf(layer) & men) != 0) {
                    return step;
                }
                layer = pages.behind(layer, tools == 1);
            }
            return NONE;
        }
    }

    /** Shares as so many of WHOLE equal parts, which never have to be split further. */
    private static final class Shares {
        // Hands divide by 1, 2 or 3, and each thing halves at most once more: 6 times 2 by 10 is enough.
        static final int WHOLE = 6144;

        final int[] parts = new int[THINGS];

        int partsOf(Pages pages, int thing, int man) {
            for (int k = 0; k <= thing && k < THINGS; k++) {
                int first = pages.first[k];
                int second = pages.second[k];
                if (!isAhead(first, k)) {
                    parts[k] = partsOfHands(pages.hands[k], man);
                } else if (!isAhead(second, k)) {
                    parts[k] = parts[first];
                } else {
                    parts[k] = (parts[first] + parts[second]) / 2;
                }
            }
            return parts[thing];
        }

        private static boolean isAhead(int thing, int k) {
            return thing >= 0 && thing < k;
        }

        private static int partsOfHands(int hands, int man) {
            int told = Integer.bitCount(hands);
            return told == 0 || !has(hands, man) ? 0 : WHOLE / told;
        }

        /** The men whose share is some tenths or more, and above nothing. */
        int holders(Pages pages, int thing, int tenths) {
            int men = 0;
            for (int man = 0; man < MEN; man++) {
                int upper = partsOf(pages, thing, man);
                if (upper > 0 && upper * 10 >= tenths * WHOLE) {
                    men |= 1 << man;
                }
            }
            return men;
        }

        /** The upper (0) or lower (1) number of a fraction in lowest terms. */
        static int lowest(int upper, int lower, int part) {
            int divisor = lower;
            int rest = upper;
            for (int turn = 0; turn < 64 && rest != 0; turn++) {
                int next = divisor % rest;
                divisor = rest;
                rest = next;
            }
            if (divisor == 0) {
                return 0;
            }
            return (part == 0 ? upper : lower) / divisor;
        }
    }

    /**
     * The ways to write a man for each hand that is not told. A sight only takes a man and his partner
     * out of the choices of the hands that it reaches, so the choices do not depend on one another: the
     * ways are all their combinations.
     */
    private static final class Filling {
        final int[] making = new int[ASKS];
        final int[] choices = new int[ASKS];
        int asks;
        boolean toldHandsHold;

        void weigh(Town town) {
            findAsks(town.pages);
            toldHandsHold = true;
            for (int s = 0; s < town.sights; s++) {
                applySight(town.reach(town.had[s]), town.couple(town.seer[s]), town.pages);
            }
        }

        private void findAsks(Pages pages) {
            asks = 0;
            for (int k = 0; k < pages.count; k++) {
                if (pages.asked[k] == 1 && asks < ASKS) {
                    making[asks] = k;
                    choices[asks] = ALL_MEN & ~pages.hands[k];
                    asks++;
                }
            }
        }

        private void applySight(int reached, int couple, Pages pages) {
            if ((pages.handsOf(reached) & couple) != 0) {
                toldHandsHold = false;
            }
            for (int a = 0; a < asks; a++) {
                if (has(reached, making[a])) {
                    choices[a] &= ~couple;
                }
            }
        }

        int ways() {
            int ways = toldHandsHold ? 1 : 0;
            for (int a = 0; a < asks; a++) {
                ways *= Integer.bitCount(choices[a]);
            }
            return ways;
        }

        /** The man of the i-th ? in the first way; NONE if there is no such ? or no way. */
        int firstMan(int i) {
            if (i < 0 || i >= asks || ways() == 0) {
                return NONE;
            }
            return leastOf(choices[i]);
        }

        /** Men who are barred from a thing in all ways, of which there is at least one. */
        int barredInAll(Town town, int thing) {
            int reached = town.reach(thing);
            int told = town.pages.handsOf(reached);
            int men = 0;
            for (int man = 0; man < MEN; man++) {
                int couple = town.couple(man);
                if ((told & couple) != 0 || isForced(reached, couple)) {
                    men |= 1 << man;
                }
            }
            return men;
        }

        /** Whether one of the hands that are reached can be nobody but one of a couple. */
        private boolean isForced(int reached, int couple) {
            for (int a = 0; a < asks; a++) {
                if (has(reached, making[a]) && (choices[a] & ~couple) == 0) {
                    return true;
                }
            }
            return false;
        }

        /** Men who are barred from a thing in some way, if there is any. */
        int barredInSome(Town town, int thing) {
            int reached = town.reach(thing);
            int men = town.pages.handsOf(reached);
            for (int a = 0; a < asks; a++) {
                if (has(reached, making[a])) {
                    men |= choices[a];
                }
            }
            return town.withPartners(men);
        }
    }

    /** A day's loaves, what each man may have of them, and who has which. */
    private static final class Bread {
        final int[] lawful = new int[MEN];
        final int[] left = new int[THINGS];
        final int[] meal = new int[MEN];

        void layOut(Town town) {
            for (int man = 0; man < MEN; man++) {
                lawful[man] = town.lawfulThings(man);
            }
            System.arraycopy(town.stock, 0, left, 0, THINGS);
        }

        /** How many loaves some men, all together, may have. */
        private int loavesFor(int men) {
            int things = 0;
            for (int man = 0; man < MEN; man++) {
                if (has(men, man)) {
                    things |= lawful[man];
                }
            }
            int sum = 0;
            for (int k = 0; k < THINGS; k++) {
                if (has(things, k)) {
                    sum += left[k];
                }
            }
            return sum;
        }

        /** How many of some men can be fed: all but the greatest shortage of a set among them (Hall). */
        private int mostFed(int men) {
            int shortage = 0;
            for (int group = 1; group <= ALL_MEN; group++) {
                if ((group & ~men) == 0) {
                    shortage = Math.max(shortage, Integer.bitCount(group) - loavesFor(group));
                }
            }
            return Integer.bitCount(men) - shortage;
        }

        int leastShortSet() {
            for (int group = 1; group <= ALL_MEN; group++) {
                if (loavesFor(group) < Integer.bitCount(group)) {
                    return group;
                }
            }
            return NONE;
        }

        /** Gives out the meals, the first plan by men; how many are fed. */
        int serve() {
            int most = mostFed(ALL_MEN);
            int still = most;
            for (int man = 0; man < MEN; man++) {
                meal[man] = takeLeastMeal(man, still);
                if (meal[man] != NONE) {
                    still--;
                }
            }
            return most;
        }

        /** Takes the least thing for a man by which still so many, of him and the men behind him, are fed. */
        private int takeLeastMeal(int man, int still) {
            int menBehind = ALL_MEN & -(2 << man);
            for (int k = 0; k < THINGS; k++) {
                if (has(lawful[man], k) && left[k] > 0) {
                    left[k]--;
                    if (1 + mostFed(menBehind) == still) {
                        return k;
                    }
                    left[k]++;
                }
            }
            return NONE;
        }

        /** Lives some days by draws; how many loaves were eaten. */
        int live(int seed, int n) {
            int x = seed;
            int eaten = 0;
            for (int day = 0; day < n; day++) {
                x = (75 * x + 74) % 65537;
                if (eats(x % MEN)) {
                    eaten++;
                }
            }
            return eaten;
        }

        private boolean eats(int man) {
            for (int k = 0; k < THINGS; k++) {
                if (has(lawful[man], k) && left[k] > 0) {
                    left[k]--;
                    return true;
                }
            }
            return false;
        }
    }

    /** The fewest men by whose baking all are fed. */
    private static final class Bakers {
        /** The least set of the fewest who feed all by c loaves each; NONE: not even all of them do. */
        static int fewest(Town town, int c) {
            int best = NONE;
            for (int bakers = 1; bakers <= ALL_MEN; bakers++) {
                boolean fewer = best == NONE || Integer.bitCount(bakers) < Integer.bitCount(best);
                if (fewer && feedAll(town, bakers, c)) {
                    best = bakers;
                }
            }
            return best;
        }

        /** All are fed if no set of eaters is greater than the number of loaves that they may have (Hall). */
        private static boolean feedAll(Town town, int bakers, int c) {
            for (int eaters = ALL_MEN; eaters > 0; eaters--) {
                int useful = bakers & ~barredForEach(town, eaters);
                if (c * Integer.bitCount(useful) < Integer.bitCount(eaters)) {
                    return false;
                }
            }
            return true;
        }

        /** The bakers whose loaves none of the eaters may have. */
        private static int barredForEach(Town town, int eaters) {
            int bakers = ALL_MEN;
            for (int man = 0; man < MEN; man++) {
                if (has(eaters, man)) {
                    bakers &= town.couple(man);
                }
            }
            return bakers;
        }
    }

    /**
     * The marriages that bar least. A marriage bars one man more from each thing that just one of both
     * has touched, whoever else marries: so the plan is a pairing by least sum.
     */
    private static final class Matchmaker {
        final int[] taint = new int[MEN];
        final int[] least = new int[ALL_MEN + 1];
        final int[] plan = new int[MEN];

        /** Makes the first plan by men; how many more are barred by it. */
        int arrange(Town town) {
            int singles = 0;
            for (int man = 0; man < MEN; man++) {
                taint[man] = town.taintOf(man);
                plan[man] = town.partner[man];
                if (plan[man] == NONE) {
                    singles |= 1 << man;
                }
            }
            sumUp(singles);
            choose(singles);
            return least[singles];
        }

        /** Finds the least sum for each even set of single men, smaller sets first. */
        private void sumUp(int singles) {
            for (int men = 1; men <= singles; men++) {
                if ((men & ~singles) == 0 && Integer.bitCount(men) % 2 == 0) {
                    least[men] = leastSum(men);
                }
            }
        }

        private int leastSum(int men) {
            int man = leastOf(men);
            int other = isMan(man) ? bestOther(men, man) : NONE;
            return isMan(other) ? sumWith(men, man, other) : 0;
        }

        private int sumWith(int men, int man, int other) {
            int more = Integer.bitCount(taint[man] ^ taint[other]);
            return more + least[men & ~(1 << man) & ~(1 << other)];
        }

        /** The least partner for the least of some men by which the sum is least. */
        private int bestOther(int men, int man) {
            int best = NONE;
            for (int other = man + 1; other < MEN; other++) {
                if (has(men, other) && (best == NONE || sumWith(men, man, other) < sumWith(men, man, best))) {
                    best = other;
                }
            }
            return best;
        }

        private void choose(int singles) {
            int men = singles;
            for (int man = 0; man < MEN; man++) {
                int other = has(men, man) ? bestOther(men, man) : NONE;
                if (isMan(other)) {
                    plan[man] = other;
                    plan[other] = man;
                    men &= ~(1 << man) & ~(1 << other);
                }
            }
        }
    }
}
