import java.math.BigInteger;
import java.util.ArrayList;
import java.util.List;
import java.util.regex.Matcher;
import java.util.regex.Pattern;

/**
 * The document once more, as slowly and plainly as it reads: every order, every set and every row is tried.
 * It shares no code and no way of counting with the class, so that both would have to be wrong alike.
 */
final class Model {
    static final int UNKNOWN = -1, OUTSIDE = -2, STATE = -3, FULL = -4, NONE = -9;
    private static final Pattern FEN = Pattern.compile("C[01](G[a-l][0-3]|L[0-4]{3}|B[1-9][0-3]|V[a-l-]{4})*");
    private static final Pattern PART = Pattern.compile("G..|L...|B..|V....");

    static final class World {
        int[] notes = new int[0];
        int[] passed = new int[0];
        boolean[] open = new boolean[0];
        boolean[] oiled = new boolean[0];
        boolean[] home = new boolean[0];
        boolean frost;
        List<Integer> sung = new ArrayList<>();

        World copy() {
            World other = new World();
            other.notes = notes.clone();
            other.passed = passed.clone();
            other.open = open.clone();
            other.oiled = oiled.clone();
            other.home = home.clone();
            other.frost = frost;
            other.sung = new ArrayList<>(sung);
            return other;
        }

        int homes() {
            int many = 0;
            for (boolean is : home) {
                many += is ? 1 : 0;
            }
            return many;
        }
    }

    String text = "";
    List<String> gates = new ArrayList<>();
    List<String> lanes = new ArrayList<>();
    List<String> beasts = new ArrayList<>();
    List<String> verses = new ArrayList<>();
    World now = new World();
    List<World> acts = new ArrayList<>();
    World[] kept = new World[2];
    List<int[]> heard = new ArrayList<>();
    BigInteger seed = BigInteger.ZERO;

    // ---- the fen

    int write(int letter) {
        if (letter < 0 || letter > 255) {
            return OUTSIDE;
        }
        if (text.length() == 60) {
            return FULL;
        }
        text += (char) letter;
        return text.length();
    }

    int wipe() {
        int was = text.length();
        text = "";
        return was;
    }

    private static List<String> partsOf(String text, char first) {
        List<String> parts = new ArrayList<>();
        Matcher part = PART.matcher(text.substring(2));
        while (part.find()) {
            if (part.group().charAt(0) == first) {
                parts.add(part.group());
            }
        }
        return parts;
    }

    private static boolean isFen(String text) {
        if (!FEN.matcher(text).matches()) {
            return false;
        }
        int gatesAhead = 0;
        Matcher part = PART.matcher(text.substring(2));
        while (part.find()) {
            gatesAhead += part.group().charAt(0) == 'G' ? 1 : 0;
            for (int i = 1; part.group().charAt(0) == 'L' && i < 4; i++) {
                if (part.group().charAt(i) - '0' >= gatesAhead) {
                    return false;
                }
            }
        }
        return gatesAhead <= 5 && partsOf(text, 'L').size() <= 3
                && partsOf(text, 'B').size() <= 5 && partsOf(text, 'V').size() <= 2;
    }

    /** Whether some four letters or fewer behind it make a fen; 0, 1, a and C are enough for that. */
    private static boolean canBecomeFen(String text, int more) {
        if (isFen(text)) {
            return true;
        }
        for (int i = 0; more > 0 && i < 4; i++) {
            if (canBecomeFen(text + "01aC".charAt(i), more - 1)) {
                return true;
            }
        }
        return false;
    }

    int fault() {
        if (isFen(text)) {
            return NONE;
        }
        for (int i = 0; i < text.length(); i++) {
            if (!canBecomeFen(text.substring(0, i + 1), 4)) {
                return i;
            }
        }
        return text.length();
    }

    int fen() {
        if (!isFen(text)) {
            return STATE;
        }
        gates = partsOf(text, 'G');
        lanes = partsOf(text, 'L');
        beasts = partsOf(text, 'B');
        verses = partsOf(text, 'V');
        now = new World();
        now.notes = new int[gates.size()];
        for (int i = 0; i < gates.size(); i++) {
            now.notes[i] = "abcdefghijkl".indexOf(gates.get(i).charAt(1));
        }
        now.passed = new int[gates.size()];
        now.open = new boolean[gates.size()];
        now.oiled = new boolean[gates.size()];
        now.home = new boolean[beasts.size()];
        now.frost = text.charAt(1) == '1';
        acts.clear();
        kept = new World[2];
        return Integer.parseInt("" + gates.size() + lanes.size() + beasts.size() + verses.size());
    }

    private boolean isNo(List<String> those, int which) {
        return which < 0 || which >= those.size();
    }

    private int figure(String part, int at) {
        return part.charAt(at) - '0';
    }

    int gate(int gate, int what) {
        if (isNo(gates, gate)) {
            return UNKNOWN;
        }
        int in = 0;
        for (int lane = 0; lane < lanes.size(); lane++) {
            in += lanes.get(lane).indexOf((char) ('0' + gate)) > 0 ? Math.pow(2, lane) : 0;
        }
        int[] all = {now.notes[gate], figure(gates.get(gate), 2), now.passed[gate],
            now.open[gate] ? 1 : 0, now.oiled[gate] ? 1 : 0, in};
        return what < 0 || what > 5 ? OUTSIDE : all[what];
    }

    int beast(int beast, int what) {
        if (isNo(beasts, beast)) {
            return UNKNOWN;
        }
        int[] all = {figure(beasts.get(beast), 1), figure(beasts.get(beast), 2), now.home[beast] ? 1 : 0};
        return what < 0 || what > 2 ? OUTSIDE : all[what];
    }

    private int toneIn(World world, int gate, int weight, int kind) {
        boolean stiff = figure(gates.get(gate), 2) == 3;
        if (world.open[gate] || world.oiled[gate] || stiff && weight < 5) {
            return 12;
        }
        int tone = world.notes[gate];
        tone += kind == 3 ? weight / 4 : weight / 2;
        tone += world.frost ? 4 : 0;
        tone -= figure(gates.get(gate), 2) == 2 ? world.passed[gate] : 0;
        tone -= kind == 2 ? 5 : 0;
        return (tone + 120) % 12;
    }

    int tone(int gate, int beast) {
        if (isNo(gates, gate) || isNo(beasts, beast)) {
            return UNKNOWN;
        }
        return toneIn(now, gate, figure(beasts.get(beast), 1), figure(beasts.get(beast), 2));
    }

    private List<Integer> songIn(World world, int beast, int lane) {
        List<Integer> song = new ArrayList<>();
        for (int i = 1; i <= 3; i++) {
            int gate = figure(lanes.get(lane), i);
            int kind = figure(beasts.get(beast), 2);
            int tone = toneIn(world, gate, figure(beasts.get(beast), 1), kind);
            List<Integer> here = new ArrayList<>(List.of(tone));
            if (kind == 1 && tone != 12) {
                here.add(tone == 11 ? 0 : tone + 1);
            }
            song.addAll(here);
            if (figure(gates.get(gate), 2) == 1) {
                song.addAll(here);
            }
        }
        return song;
    }

    int song(int beast, int lane, int place) {
        if (isNo(beasts, beast) || isNo(lanes, lane)) {
            return UNKNOWN;
        }
        if (place < 0 || place > 12) {
            return OUTSIDE;
        }
        List<Integer> song = songIn(now, beast, lane);
        return place == 12 ? song.size() : place < song.size() ? song.get(place) : NONE;
    }

    int sung(int place) {
        if (place < 0 || place > 11) {
            return OUTSIDE;
        }
        return place < now.sung.size() ? now.sung.get(now.sung.size() - 1 - place) : NONE;
    }

    // ---- acts

    private void act() {
        acts.add(now.copy());
        if (acts.size() > 14) {
            acts.remove(0);
        }
    }

    private static int notResting(List<Integer> song) {
        int many = 0;
        for (int tone : song) {
            many += tone == 12 ? 0 : 1;
        }
        return many;
    }

    private int driveIn(World world, int beast, int lane) {
        List<Integer> song = songIn(world, beast, lane);
        world.sung.addAll(song);
        while (world.sung.size() > 12) {
            world.sung.remove(0);
        }
        for (int i = 1; i <= 3; i++) {
            int gate = figure(lanes.get(lane), i);
            world.passed[gate] = Math.min(3, world.passed[gate] + 1);
        }
        world.home[beast] = true;
        return notResting(song);
    }

    int drive(int beast, int lane) {
        if (isNo(beasts, beast) || isNo(lanes, lane)) {
            return UNKNOWN;
        }
        if (now.home[beast]) {
            return STATE;
        }
        act();
        return driveIn(now, beast, lane);
    }

    int open(int gate) {
        if (isNo(gates, gate)) {
            return UNKNOWN;
        }
        act();
        now.open[gate] = !now.open[gate];
        return now.open[gate] ? 1 : 0;
    }

    int oil(int gate) {
        if (isNo(gates, gate)) {
            return UNKNOWN;
        }
        act();
        now.oiled[gate] = !now.oiled[gate];
        return now.oiled[gate] ? 1 : 0;
    }

    int hang(int gate, boolean higher) {
        if (isNo(gates, gate)) {
            return UNKNOWN;
        }
        act();
        now.notes[gate] = (now.notes[gate] + (higher ? 1 : 11)) % 12;
        return now.notes[gate];
    }

    int turnOut(int beast) {
        if (isNo(beasts, beast)) {
            return UNKNOWN;
        }
        if (!now.home[beast]) {
            return STATE;
        }
        act();
        now.home[beast] = false;
        return now.homes();
    }

    int frost() {
        act();
        now.frost = !now.frost;
        return now.frost ? 1 : 0;
    }

    int undo() {
        if (acts.isEmpty()) {
            return STATE;
        }
        now = acts.remove(acts.size() - 1);
        return acts.size();
    }

    // ---- verses

    private int verseTone(int verse, int place) {
        char letter = verses.get(verse).charAt(1 + place);
        return letter == '-' ? 12 : letter - 'a';
    }

    private int fitIn(World world, int verse) {
        int many = Math.min(4, world.sung.size());
        List<Integer> last = world.sung.subList(world.sung.size() - many, world.sung.size());
        int fit = 0;
        for (int i = 0; i < many; i++) {
            fit += last.get(i) == verseTone(verse, 4 - many + i) ? 1 : 0;
        }
        return fit;
    }

    int fit(int verse) {
        return isNo(verses, verse) ? UNKNOWN : fitIn(now, verse);
    }

    private int harmonyOf(int one, int lane, int other, int otherLane) {
        List<Integer> song = songIn(now, one, lane);
        List<Integer> otherSong = songIn(now, other, otherLane);
        int harmony = 0;
        for (int i = 0; i < song.size() && i < otherSong.size(); i++) {
            int a = song.get(i);
            int b = otherSong.get(i);
            int apart = a > b ? a - b : b - a;
            harmony += a != 12 && b != 12 && List.of(0, 3, 4, 5, 7, 8, 9).contains(apart) ? 1 : 0;
        }
        return harmony;
    }

    int harmony(int one, int lane, int other, int otherLane) {
        if (isNo(beasts, one) || isNo(lanes, lane) || isNo(beasts, other) || isNo(lanes, otherLane)) {
            return UNKNOWN;
        }
        return harmonyOf(one, lane, other, otherLane);
    }

    /** Every number of 2 n figures that tells a row that can be driven: its fit; the best, and the least such number. */
    private int[] bestOf(int verse, int n) {
        List<String> rows = new ArrayList<>(List.of(""));
        for (int i = 0; i < n; i++) {
            List<String> longer = new ArrayList<>();
            for (String row : rows) {
                for (int beast = beasts.size(); beast >= 1; beast--) {
                    for (int lane = lanes.size(); lane >= 1; lane--) {
                        longer.add(row + beast + lane);
                    }
                }
            }
            rows = longer;
        }
        int most = NONE;
        int least = NONE;
        for (String row : rows) {
            World world = now.copy();
            boolean can = true;
            for (int i = 0; can && i < 2 * n; i += 2) {
                int beast = row.charAt(i) - '1';
                can = !world.home[beast];
                if (can) {
                    driveIn(world, beast, row.charAt(i + 1) - '1');
                }
            }
            int number = Integer.parseInt(row);
            int fit = can ? fitIn(world, verse) : NONE;
            if (can && (fit > most || fit == most && number < least)) {
                most = fit;
                least = number;
            }
        }
        return new int[] {most, least};
    }

    int best(int verse, int n, boolean row) {
        if (isNo(verses, verse)) {
            return UNKNOWN;
        }
        if (n < 1 || n > 3) {
            return OUTSIDE;
        }
        return bestOf(verse, n)[row ? 1 : 0];
    }

    int fewest(int verse) {
        if (isNo(verses, verse)) {
            return UNKNOWN;
        }
        if (fitIn(now, verse) == 4) {
            return 0;
        }
        for (int n = 1; n <= 3; n++) {
            if (bestOf(verse, n)[0] == 4) {
                return n;
            }
        }
        return NONE;
    }

    int has(int verse, int lane) {
        if (isNo(verses, verse) || isNo(lanes, lane)) {
            return UNKNOWN;
        }
        int bits = 0;
        for (int beast = 0; beast < beasts.size(); beast++) {
            boolean all = true;
            for (int i = 0; i < 4; i++) {
                int tone = verseTone(verse, i);
                all &= tone == 12 || songIn(now, beast, lane).contains(tone);
            }
            bits += all ? 1 << beast : 0;
        }
        return bits;
    }

    int silence(int lane) {
        if (isNo(lanes, lane)) {
            return UNKNOWN;
        }
        int fewest = -1;
        for (int bits = 0; bits < 1 << gates.size(); bits++) {
            World world = now.copy();
            for (int gate = 0; gate < gates.size(); gate++) {
                world.oiled[gate] |= (bits >> gate & 1) == 1;
            }
            int tones = 0;
            for (int beast = 0; beast < beasts.size(); beast++) {
                tones += notResting(songIn(world, beast, lane));
            }
            if (tones == 0 && (fewest < 0 || Integer.bitCount(bits) < Integer.bitCount(fewest))) {
                fewest = bits;
            }
        }
        return fewest;
    }

    private boolean does(World world, int figure, int which) {
        if (figure <= 4) {
            boolean can = !isNo(beasts, figure) && !isNo(lanes, which) && !world.home[figure];
            if (can) {
                driveIn(world, figure, which);
            }
            return can;
        }
        if (figure == 5 && !isNo(gates, which)) {
            world.open[which] = !world.open[which];
            return true;
        }
        if (figure == 6 && !isNo(gates, which)) {
            world.oiled[which] = !world.oiled[which];
            return true;
        }
        if (figure == 7 && !isNo(beasts, which) && world.home[which]) {
            world.home[which] = false;
            return true;
        }
        return figure == 8 && !isNo(verses, which) && fitIn(world, which) >= 3;
    }

    int judge(int n, int row) {
        if (n < 1 || n > 4 || row < 0 || String.valueOf(row).length() > 2 * n) {
            return OUTSIDE;
        }
        String figures = String.format("%0" + 2 * n + "d", row);
        World world = now.copy();
        for (int i = 0; i < n; i++) {
            if (!does(world, figures.charAt(2 * i) - '0', figures.charAt(2 * i + 1) - '0')) {
                return i;
            }
        }
        return NONE;
    }

    // ---- heard

    int hear(int kind, int gate, int tone) {
        if (isNo(gates, gate)) {
            return UNKNOWN;
        }
        if (kind < 0 || kind > 3 || tone < 0 || tone > 12) {
            return OUTSIDE;
        }
        if (heard.size() == 6) {
            return FULL;
        }
        heard.add(new int[] {kind, gate, tone});
        return heard.size();
    }

    int unhear() {
        int was = heard.size();
        heard.clear();
        return was;
    }

    int weights(int kind) {
        if (kind < 0 || kind > 3) {
            return OUTSIDE;
        }
        int bits = 0;
        for (int weight = 1; weight <= 9; weight++) {
            boolean so = true;
            for (int[] one : heard) {
                so &= one[0] != kind || isNo(gates, one[1]) || toneIn(now, one[1], weight, kind) == one[2];
            }
            bits += so ? 1 << weight : 0;
        }
        return bits;
    }

    // ---- shares, rests, chances

    private static int fraction(long above, long below, boolean upper) {
        long common = BigInteger.valueOf(above).gcd(BigInteger.valueOf(below)).longValue();
        return (int) ((upper ? above : below) / common);
    }

    private static void orders(List<Integer> order, int many, List<List<Integer>> all) {
        if (order.size() == many) {
            all.add(new ArrayList<>(order));
            return;
        }
        for (int i = 0; i < many; i++) {
            if (!order.contains(i)) {
                order.add(i);
                orders(order, many, all);
                order.remove(order.size() - 1);
            }
        }
    }

    int share(int beast, int lane, boolean upper) {
        if (isNo(beasts, beast) || isNo(lanes, lane)) {
            return UNKNOWN;
        }
        List<List<Integer>> all = new ArrayList<>();
        orders(new ArrayList<>(), beasts.size(), all);
        long more = 0;
        for (List<Integer> order : all) {
            List<Integer> tones = new ArrayList<>(List.of(12));
            for (int who : order) {
                for (int tone : songIn(now, who, lane)) {
                    if (!tones.contains(tone)) {
                        tones.add(tone);
                        more += who == beast ? 1 : 0;
                    }
                }
            }
        }
        return fraction(more, all.size(), upper);
    }

    private int payOf(int own, int ownLane, int other, int otherLane) {
        if (ownLane == otherLane) {
            return 0;
        }
        return harmonyOf(own, ownLane, other, otherLane) + (songIn(now, own, ownLane).contains(12) ? 0 : 1);
    }

    int rests(int one, int other, int what) {
        if (isNo(beasts, one) || isNo(beasts, other)) {
            return UNKNOWN;
        }
        if (one == other || what < 0 || what > 1) {
            return OUTSIDE;
        }
        List<Integer> pairs = new ArrayList<>();
        for (int a = 0; a < lanes.size(); a++) {
            for (int b = 0; b < lanes.size(); b++) {
                boolean rest = true;
                for (int c = 0; c < lanes.size(); c++) {
                    rest &= payOf(one, c, other, b) <= payOf(one, a, other, b);
                    rest &= payOf(other, c, one, a) <= payOf(other, b, one, a);
                }
                if (rest) {
                    pairs.add(10 * a + b);
                }
            }
        }
        return what == 0 ? pairs.size() : pairs.isEmpty() ? NONE : pairs.get(0);
    }

    int drips(int beast, int lane, int m, int x, boolean upper) {
        if (isNo(beasts, beast) || isNo(lanes, lane)) {
            return UNKNOWN;
        }
        if (m < 0 || m > 12 || x < 0 || x > 10) {
            return OUTSIDE;
        }
        long above = 0;
        for (int bits = 0; bits < 1 << gates.size(); bits++) {
            World world = now.copy();
            long chance = 1;
            for (int gate = 0; gate < gates.size(); gate++) {
                boolean drips = (bits >> gate & 1) == 1;
                // One that is oiled already is not oiled anew: all of its chance is told once.
                chance *= now.oiled[gate] ? (drips ? 0 : 10) : drips ? x : 10 - x;
                world.oiled[gate] |= drips;
            }
            above += notResting(songIn(world, beast, lane)) <= m ? chance : 0;
        }
        return fraction(above, (long) Math.pow(10, gates.size()), upper);
    }

    long seed(long v) {
        long was = seed.longValue();
        seed = BigInteger.valueOf(v);
        return was;
    }

    int winters(int m) {
        if (m < 1 || m > 30) {
            return OUTSIDE;
        }
        BigInteger whole = BigInteger.ONE.shiftLeft(64);
        World world = now.copy();
        int tones = 0;
        for (int i = 0; i < m; i++) {
            seed = seed.multiply(new BigInteger("6364136223846793005")).add(new BigInteger("1442695040888963407")).mod(whole);
            int chance = seed.shiftRight(33).mod(BigInteger.valueOf(21)).intValue();
            if (chance == 20) {
                world.frost = !world.frost;
            } else if (chance >= 15) {
                if (!isNo(beasts, chance - 15)) {
                    world.home[chance - 15] = false;
                }
            } else if (!isNo(beasts, chance / 3) && !isNo(lanes, chance % 3) && !world.home[chance / 3]) {
                tones += driveIn(world, chance / 3, chance % 3);
            }
        }
        return tones;
    }

    // ---- slots

    int keep(int slot) {
        if (slot < 0 || slot > 1) {
            return UNKNOWN;
        }
        kept[slot] = now.copy();
        return now.homes();
    }

    int again(int slot) {
        if (slot < 0 || slot > 1) {
            return UNKNOWN;
        }
        if (kept[slot] == null) {
            return STATE;
        }
        now = kept[slot].copy();
        acts.clear();
        return now.homes();
    }

    int count(int what) {
        int home = 0;
        for (int i = 0; i < now.home.length; i++) {
            home += now.home[i] ? 1 << i : 0;
        }
        int[] all = {text.length(), gates.size(), lanes.size(), beasts.size(), verses.size(),
            now.frost ? 1 : 0, now.sung.size(), home, acts.size(), heard.size()};
        return what < 0 || what > 9 ? OUTSIDE : all[what];
    }
}
