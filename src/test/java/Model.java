import java.math.BigInteger;
import java.util.ArrayList;
import java.util.Arrays;
import java.util.HashMap;
import java.util.HashSet;
import java.util.List;
import java.util.Map;
import java.util.Set;

/**
 * The document's words, followed as plainly as can be: texts are looked up among all makings that there
 * are, plans and ways are tried one by one. It shares no thought with the class that it is held against.
 */
final class Model {
    static final int NONE = -6, UNKNOWN = -1, OUTSIDE = -2, STATE = -3, FULL = -4, NO = -5;
    static final long LOST = -1000000000000000000L;

    private static final int MEN = 6;
    private static final List<Set<String>> MAKINGS = new ArrayList<>();
    private static final List<Set<String>> BEGINNINGS = new ArrayList<>();

    static {
        for (int k = 0; k < 10; k++) {
            Set<String> makings = allMakings(k);
            Set<String> beginnings = new HashSet<>();
            for (String making : makings) {
                for (int end = 1; end <= making.length(); end++) {
                    beginnings.add(making.substring(0, end));
                }
            }
            MAKINGS.add(makings);
            BEGINNINGS.add(beginnings);
        }
    }

    /** What an image keeps. */
    private static final class Kept {
        List<String> makings = new ArrayList<>();
        int[] partner = {NONE, NONE, NONE, NONE, NONE, NONE};
        int depth = 2;
        int tools = 0;
        int tenths = 1;
        int[] loaves = new int[0];
        List<int[]> sights = new ArrayList<>();

        Kept copy() {
            Kept other = new Kept();
            other.makings = new ArrayList<>(makings);
            other.partner = partner.clone();
            other.depth = depth;
            other.tools = tools;
            other.tenths = tenths;
            other.loaves = loaves.clone();
            other.sights = new ArrayList<>(sights);
            return other;
        }
    }

    private final StringBuilder pad = new StringBuilder();
    private Kept now = new Kept();
    private final Kept[] images = new Kept[2];

    // ---- texts

    private static Set<String> allMakings(int k) {
        List<String> froms = new ArrayList<>(List.of(""));
        List<String> tools = new ArrayList<>(List.of(""));
        for (char a = 'a'; a < 'a' + k; a++) {
            froms.add("" + a);
            tools.add("+" + a);
            for (char b = (char) (a + 1); b < 'a' + k; b++) {
                froms.add("" + a + b);
            }
        }
        Set<String> all = new HashSet<>();
        for (String from : froms) {
            for (String tool : tools) {
                for (String hands : allHands()) {
                    all.add(from + tool + hands + ";");
                }
            }
        }
        return all;
    }

    private static List<String> allHands() {
        List<String> all = new ArrayList<>();
        for (int bits = 0; bits < 64; bits++) {
            StringBuilder hands = new StringBuilder();
            for (int man = 0; man < MEN; man++) {
                if ((bits >> man & 1) == 1) {
                    hands.append((char) ('A' + man));
                }
            }
            if (hands.length() >= 1 && hands.length() <= 3) {
                all.add(hands.toString());
            }
            if (hands.length() <= 2) {
                all.add(hands + "?");
            }
        }
        return all;
    }

    /** THE FAULT of the pad, or NONE; the makings that it tells ahead of it are added to a list. */
    private int read(List<String> makings) {
        String begun = "";
        int asks = 0;
        for (int i = 0; i < pad.length(); i++) {
            char sign = pad.charAt(i);
            int k = makings.size();
            asks += sign == '?' ? 1 : 0;
            begun += sign;
            if (k == 10 || asks > 4 || !BEGINNINGS.get(k).contains(begun)) {
                return i;
            }
            if (MAKINGS.get(k).contains(begun)) {
                makings.add(begun);
                begun = "";
            }
        }
        return begun.isEmpty() ? NONE : pad.length();
    }

    int say(int sign) {
        if (sign < 33 || sign > 126) {
            return OUTSIDE;
        }
        if (pad.length() == 60) {
            return FULL;
        }
        pad.append((char) sign);
        return pad.length();
    }

    int wipe() {
        int before = pad.length();
        pad.setLength(0);
        return before;
    }

    int fault() {
        return read(new ArrayList<>());
    }

    int book() {
        List<String> makings = new ArrayList<>();
        if (read(makings) != NONE) {
            return NO;
        }
        pad.setLength(0);
        now.makings = makings;
        now.loaves = new int[makings.size()];
        now.sights.clear();
        return makings.size();
    }

    // ---- what a making tells

    private static int handsOf(String making) {
        int bits = 0;
        for (char sign : making.toCharArray()) {
            bits |= sign >= 'A' && sign <= 'F' ? 1 << (sign - 'A') : 0;
        }
        return bits;
    }

    private static List<Integer> fromsOf(String making) {
        List<Integer> froms = new ArrayList<>();
        for (int i = 0; i < making.length() && Character.isLowerCase(making.charAt(i)); i++) {
            froms.add(making.charAt(i) - 'a');
        }
        return froms;
    }

    private static int toolOf(String making) {
        int plus = making.indexOf('+');
        return plus < 0 ? NONE : making.charAt(plus + 1) - 'a';
    }

    private boolean noThing(int thing) {
        return thing < 0 || thing >= now.makings.size();
    }

    private static boolean noMan(int man) {
        return man < 0 || man >= MEN;
    }

    int thing(int thing, int what) {
        if (noThing(thing)) {
            return UNKNOWN;
        }
        if (what < 0 || what > 4) {
            return OUTSIDE;
        }
        String making = now.makings.get(thing);
        List<Integer> froms = fromsOf(making);
        if (what == 0) {
            return handsOf(making);
        }
        if (what < 3) {
            return froms.size() >= what ? froms.get(what - 1) : NONE;
        }
        return what == 3 ? toolOf(making) : making.contains("?") ? 1 : 0;
    }

    int join(int man, int other) {
        if (noMan(man) || noMan(other) || man == other) {
            return UNKNOWN;
        }
        if (now.partner[man] != NONE || now.partner[other] != NONE) {
            return STATE;
        }
        now.partner[man] = other;
        now.partner[other] = man;
        return 1;
    }

    int part(int man) {
        if (noMan(man)) {
            return UNKNOWN;
        }
        int other = now.partner[man];
        if (other != NONE) {
            now.partner[man] = NONE;
            now.partner[other] = NONE;
        }
        return other;
    }

    int set(int which, int v) {
        if (which < 0 || which > 2 || v < 0 || v > new int[] {9, 1, 10}[which]) {
            return OUTSIDE;
        }
        int[] was = {now.depth, now.tools, now.tenths};
        int[] is = was.clone();
        is[which] = v;
        now.depth = is[0];
        now.tools = is[1];
        now.tenths = is[2];
        return was[which];
    }

    int loaves(int thing, int v) {
        if (noThing(thing)) {
            return UNKNOWN;
        }
        if (v < 0 || v > 9) {
            return OUTSIDE;
        }
        int before = now.loaves[thing];
        now.loaves[thing] = v;
        return before;
    }

    // ---- touches

    private List<Integer> behind(List<String> makings, int thing) {
        List<Integer> back = fromsOf(makings.get(thing));
        int tool = toolOf(makings.get(thing));
        if (now.tools == 1 && tool != NONE) {
            back.add(tool);
        }
        return back;
    }

    private int touchers(List<String> makings, int thing, int steps) {
        int men = handsOf(makings.get(thing));
        if (steps > 0) {
            for (int back : behind(makings, thing)) {
                men |= touchers(makings, back, steps - 1);
            }
        }
        return men;
    }

    private static int withPartners(int men, int[] partner) {
        int all = men;
        for (int man = 0; man < MEN; man++) {
            if ((men >> man & 1) == 1 && partner[man] != NONE) {
                all |= 1 << partner[man];
            }
        }
        return all;
    }

    private int barred(List<String> makings, int thing, int[] partner) {
        return withPartners(touchers(makings, thing, now.depth), partner);
    }

    private int barred(int thing) {
        return barred(now.makings, thing, now.partner);
    }

    private BigInteger[] shareOf(int thing, int man) {
        String making = now.makings.get(thing);
        List<Integer> froms = fromsOf(making);
        int hands = handsOf(making);
        if (froms.isEmpty()) {
            boolean his = (hands >> man & 1) == 1;
            return his ? fraction(BigInteger.ONE, BigInteger.valueOf(Integer.bitCount(hands)))
                : fraction(BigInteger.ZERO, BigInteger.ONE);
        }
        BigInteger[] sum = {BigInteger.ZERO, BigInteger.ONE};
        for (int from : froms) {
            BigInteger[] one = shareOf(from, man);
            sum = fraction(sum[0].multiply(one[1]).add(one[0].multiply(sum[1])), sum[1].multiply(one[1]));
        }
        return fraction(sum[0], sum[1].multiply(BigInteger.valueOf(froms.size())));
    }

    private static BigInteger[] fraction(BigInteger upper, BigInteger lower) {
        BigInteger divisor = upper.gcd(lower);
        return new BigInteger[] {upper.divide(divisor), lower.divide(divisor)};
    }

    private int byTenths(int thing) {
        int men = 0;
        for (int man = 0; man < MEN; man++) {
            BigInteger[] share = shareOf(thing, man);
            BigInteger tenTimes = share[0].multiply(BigInteger.TEN);
            BigInteger law = share[1].multiply(BigInteger.valueOf(now.tenths));
            if (share[0].signum() > 0 && tenTimes.compareTo(law) >= 0) {
                men |= 1 << man;
            }
        }
        return withPartners(men, now.partner);
    }

    int touched(int thing, int what) {
        if (noThing(thing)) {
            return UNKNOWN;
        }
        if (what < 0 || what > 2) {
            return OUTSIDE;
        }
        return what == 0 ? touchers(now.makings, thing, now.depth) : what == 1 ? barred(thing) : byTenths(thing);
    }

    int may(int man, int what) {
        if (noMan(man)) {
            return UNKNOWN;
        }
        if (what < 0 || what > 1) {
            return OUTSIDE;
        }
        int things = 0;
        for (int thing = 0; thing < now.makings.size(); thing++) {
            int men = what == 0 ? ~barred(thing) : touchers(now.makings, thing, now.depth);
            things |= (men >> man & 1) << thing;
        }
        return things;
    }

    int near(int thing, int man) {
        if (noThing(thing) || noMan(man)) {
            return UNKNOWN;
        }
        for (int steps = 0; steps < 20; steps++) {
            if ((touchers(now.makings, thing, steps) >> man & 1) == 1) {
                return steps;
            }
        }
        return NONE;
    }

    long share(int thing, int man, int part) {
        if (noThing(thing) || noMan(man)) {
            return LOST + UNKNOWN;
        }
        if (part < 0 || part > 1) {
            return LOST + OUTSIDE;
        }
        return shareOf(thing, man)[part].longValueExact();
    }

    int seen(int man, int thing) {
        if (noMan(man) || noThing(thing)) {
            return UNKNOWN;
        }
        if (now.sights.size() == 6) {
            return FULL;
        }
        now.sights.add(new int[] {man, thing});
        return now.sights.size();
    }

    int forget() {
        int before = now.sights.size();
        now.sights.clear();
        return before;
    }

    // ---- hands that are not told: every way is written out, in order, and looked at

    private List<List<String>> ways() {
        List<List<String>> ways = new ArrayList<>();
        fill(new ArrayList<>(now.makings), 0, ways);
        return ways;
    }

    private void fill(List<String> makings, int from, List<List<String>> ways) {
        for (int thing = from; thing < makings.size(); thing++) {
            String making = makings.get(thing);
            if (making.contains("?")) {
                for (char man = 'A'; man <= 'F'; man++) {
                    if (making.indexOf(man) < 0) {
                        List<String> filled = new ArrayList<>(makings);
                        filled.set(thing, making.replace('?', man));
                        fill(filled, thing + 1, ways);
                    }
                }
                return;
            }
        }
        for (int[] sight : now.sights) {
            if ((barred(makings, sight[1], now.partner) >> sight[0] & 1) == 1) {
                return;
            }
        }
        ways.add(makings);
    }

    int filled(int i) {
        List<List<String>> ways = ways();
        if (i == -1) {
            return ways.size();
        }
        int place = -1;
        for (int thing = 0; thing < now.makings.size(); thing++) {
            String making = now.makings.get(thing);
            int asked = making.indexOf('?');
            place += asked >= 0 ? 1 : 0;
            if (asked >= 0 && place == i) {
                return ways.isEmpty() ? NONE : ways.get(0).get(thing).charAt(asked) - 'A';
            }
        }
        return NONE;
    }

    int sure(int thing, int what) {
        if (noThing(thing)) {
            return UNKNOWN;
        }
        if (what < 0 || what > 1) {
            return OUTSIDE;
        }
        List<List<String>> ways = ways();
        if (ways.isEmpty()) {
            return STATE;
        }
        int inAll = 63;
        int inSome = 0;
        for (List<String> makings : ways) {
            int men = barred(makings, thing, now.partner);
            inAll &= men;
            inSome |= men;
        }
        return what == 0 ? inAll : inSome;
    }

    // ---- bread: who has what is tried man by man

    /** How many men, from one on, can be fed by the loaves that are left. */
    private static int most(int man, int[] lawful, int[] left, Map<String, Integer> known) {
        if (man == MEN) {
            return 0;
        }
        String key = man + Arrays.toString(left);
        Integer before = known.get(key);
        if (before != null) {
            return before;
        }
        int best = most(man + 1, lawful, left, known);
        for (int thing = 0; thing < left.length; thing++) {
            if ((lawful[man] >> thing & 1) == 1 && left[thing] > 0) {
                left[thing]--;
                best = Math.max(best, 1 + most(man + 1, lawful, left, known));
                left[thing]++;
            }
        }
        known.put(key, best);
        return best;
    }

    private int[] lawful() {
        int[] lawful = new int[MEN];
        for (int man = 0; man < MEN; man++) {
            lawful[man] = may(man, 0);
        }
        return lawful;
    }

    int fed(int i) {
        int[] lawful = lawful();
        int[] left = now.loaves.clone();
        Map<String, Integer> known = new HashMap<>();
        int most = most(0, lawful, left, known);
        if (i == -1 || noMan(i)) {
            return i == -1 ? most : NONE;
        }
        int[] meal = new int[MEN];
        int still = most;
        for (int man = 0; man < MEN; man++) {
            meal[man] = NONE;
            for (int thing = 0; thing < left.length && meal[man] == NONE; thing++) {
                if ((lawful[man] >> thing & 1) == 1 && left[thing] > 0) {
                    left[thing]--;
                    if (1 + most(man + 1, lawful, left, known) == still) {
                        meal[man] = thing;
                        still--;
                    } else {
                        left[thing]++;
                    }
                }
            }
        }
        return meal[i];
    }

    int lack() {
        for (int men = 1; men < 64; men++) {
            int sum = 0;
            for (int thing = 0; thing < now.makings.size(); thing++) {
                boolean oneMay = (men & ~barred(thing)) != 0;
                sum += oneMay ? now.loaves[thing] : 0;
            }
            if (sum < Integer.bitCount(men)) {
                return men;
            }
        }
        return NONE;
    }

    int makers(int c, int what) {
        if (c < 1 || c > 6 || what < 0 || what > 1) {
            return OUTSIDE;
        }
        for (int size = 0; size <= MEN; size++) {
            for (int bakers = 0; bakers < 64; bakers++) {
                if (Integer.bitCount(bakers) == size && feeds(bakers, c)) {
                    return what == 0 ? size : bakers;
                }
            }
        }
        return NONE;
    }

    private boolean feeds(int bakers, int c) {
        int[] baked = new int[MEN];
        int[] lawful = new int[MEN];
        for (int man = 0; man < MEN; man++) {
            baked[man] = (bakers >> man & 1) * c;
            lawful[man] = ~withPartners(1 << man, now.partner);
        }
        return most(0, lawful, baked, new HashMap<>()) == MEN;
    }

    int washed(int thing, int man) {
        if (noThing(thing) || noMan(man)) {
            return UNKNOWN;
        }
        int stranger = 0;
        while (stranger == man || stranger == now.partner[man]) {
            stranger++;
        }
        List<String> makings = new ArrayList<>(now.makings);
        int last = thing;
        for (int washings = 0; ; washings++) {
            if ((barred(makings, last, now.partner) >> man & 1) == 0) {
                return washings;
            }
            makings.add("" + (char) ('a' + last) + (char) ('A' + stranger) + ";");
            last = makings.size() - 1;
        }
    }

    // ---- marriages: all plans are made

    private void marry(int[] partner, int man, List<int[]> plans) {
        if (man == MEN) {
            plans.add(partner.clone());
            return;
        }
        if (partner[man] != NONE) {
            marry(partner, man + 1, plans);
            return;
        }
        for (int other = man + 1; other < MEN; other++) {
            if (partner[other] == NONE) {
                partner[man] = other;
                partner[other] = man;
                marry(partner, man + 1, plans);
                partner[man] = NONE;
                partner[other] = NONE;
            }
        }
        marry(partner, man + 1, plans);
    }

    private int allBarred(int[] partner) {
        int sum = 0;
        for (int thing = 0; thing < now.makings.size(); thing++) {
            sum += Integer.bitCount(barred(now.makings, thing, partner));
        }
        return sum;
    }

    private static int married(int[] plan, int single) {
        int men = 0;
        for (int partner : plan) {
            men += partner == single ? 0 : 1;
        }
        return men;
    }

    int married(int i) {
        List<int[]> plans = new ArrayList<>();
        marry(now.partner.clone(), 0, plans);
        int[] best = null;
        for (int[] plan : plans) {
            if (best == null || married(plan, NONE) > married(best, NONE)
                || married(plan, NONE) == married(best, NONE) && allBarred(plan) < allBarred(best)) {
                best = plan;
            }
        }
        if (i == -1) {
            return allBarred(best) - allBarred(now.partner);
        }
        return noMan(i) ? NONE : best[i];
    }

    // ---- days

    int days(int seed, int n, int thing) {
        if (thing != -1 && noThing(thing)) {
            return UNKNOWN;
        }
        if (seed < 0 || seed > 9999 || n < 1 || n > 99) {
            return OUTSIDE;
        }
        int[] lawful = lawful();
        int[] left = now.loaves.clone();
        long x = seed;
        int eaten = 0;
        for (int day = 1; day <= n; day++) {
            x = (75 * x + 74) % 65537;
            int man = (int) (x % 6);
            int least = 0;
            while (least < left.length && ((lawful[man] >> least & 1) == 0 || left[least] == 0)) {
                least++;
            }
            if (least < left.length) {
                left[least]--;
                eaten++;
            }
        }
        return thing == -1 ? eaten : left[thing];
    }

    int image(int n) {
        if (n < 0 || n > 1) {
            return OUTSIDE;
        }
        images[n] = now.copy();
        return 1;
    }

    int restore(int n) {
        if (n < 0 || n > 1) {
            return OUTSIDE;
        }
        if (images[n] == null) {
            return STATE;
        }
        now = images[n].copy();
        return 1;
    }

    int told(int what) {
        int[] first = {pad.length(), now.makings.size(), now.depth, now.tools, now.tenths, now.sights.size()};
        if (what >= 0 && what < first.length) {
            return first[what];
        }
        if (what >= 10 && what <= 15) {
            return now.partner[what - 10];
        }
        return what >= 20 && !noThing(what - 20) ? now.loaves[what - 20] : OUTSIDE;
    }
}
