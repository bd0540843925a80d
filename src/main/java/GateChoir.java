/**
 * A choir of gates: gates sing by how they are hung when beasts are driven through lanes.
 * The promises are numbered in DOC.md; the words in capitals there are the names here.
 */
public final class GateChoir {
    public static final int UNKNOWN = -1, OUTSIDE = -2, STATE = -3, FULL = -4, NONE = -9;

    private static final int MOST_LETTERS = 60;
    private static final int MOST_GATES = 5;
    private static final int MOST_LANES = 3;
    private static final int MOST_BEASTS = 5;
    private static final int MOST_VERSES = 2;
    private static final int MOST_SUNG = 12;
    private static final int MOST_PASSED = 3;
    private static final int MOST_ACTS = 14;
    private static final int MOST_HEARD = 6;
    private static final int MOST_DRIVES = 3;
    private static final int MOST_DOINGS = 4;
    private static final int MOST_WINTERS = 30;
    private static final int MOST_WEIGHT = 9;
    private static final int SLOTS = 2;
    private static final int KINDS = 4;
    private static final int LANE_GATES = 3;
    private static final int VERSE_TONES = 4;
    private static final int TONES = 12;
    private static final int REST = 12;

    private static final int SWINGING = 1, DRY = 2, STIFF = 3;
    private static final int CALF = 1, BULL = 2, PONY = 3;

    // Bit d is set where two tones that are d apart are in harmony: 0, 3, 4, 5, 7, 8, 9.
    private static final int HARMONIC = 0b11_1011_1001;

    // Every 1/k for k of 1 to 5 beasts is a whole number of sixtieths.
    private static final int SHARE_PARTS = 60;

    private static final long SEED_TIMES = 6364136223846793005L;
    private static final long SEED_MORE = 1442695040888963407L;

    private final int[] letters;
    private int length;
    private Fen fen;
    // The text is read into the draft, so that a fault leaves the fen as it is.
    private Fen draft;
    private final Moment now;
    // What is only tried out is done to this one.
    private final Moment trial;
    private final Acts acts;
    private final Moment[] kept;
    private final boolean[] isKept;
    private final Heard heard;
    private final Search search;
    private final Herdsmen herdsmen;
    private final Song song;
    private final Song otherSong;
    private long seed;

    public GateChoir() {
        letters = new int[MOST_LETTERS];
        fen = new Fen();
        draft = new Fen();
        now = new Moment();
        trial = new Moment();
        acts = new Acts();
        kept = new Moment[SLOTS];
        for (int i = 0; i < SLOTS; i++) {
            kept[i] = new Moment();
        }
        isKept = new boolean[SLOTS];
        heard = new Heard();
        search = new Search();
        herdsmen = new Herdsmen();
        song = new Song();
        otherSong = new Song();
    }

    // ---- the fen

    public int write(int letter) {
        if (letter < 0 || letter > 255) {
            return OUTSIDE;
        }
        if (length >= MOST_LETTERS) {
            return FULL;
        }
        letters[length] = letter;
        length++;
        return length;
    }

    public int wipe() {
        int was = length;
        length = 0;
        return was;
    }

    public int fault() {
        return draft.read(letters, length);
    }

    public int fen() {
        if (draft.read(letters, length) != NONE) {
            return STATE;
        }
        Fen old = fen;
        fen = draft;
        draft = old;
        now.begin(fen);
        acts.forgetAll();
        for (int i = 0; i < SLOTS; i++) {
            isKept[i] = false;
        }
        return 1000 * fen.gates + 100 * fen.lanes + 10 * fen.beasts + fen.verses;
    }

    public int gate(int gate, int what) {
        if (!fen.isGate(gate)) {
            return UNKNOWN;
        }
        switch (what) {
            case 0: return now.noteOf(gate);
            case 1: return fen.gateKinds[gate];
            case 2: return now.passedOf(gate);
            case 3: return now.open >> gate & 1;
            case 4: return now.oiled >> gate & 1;
            case 5: return fen.lanesWith(gate);
            default: return OUTSIDE;
        }
    }

    public int beast(int beast, int what) {
        if (!fen.isBeast(beast)) {
            return UNKNOWN;
        }
        switch (what) {
            case 0: return fen.weights[beast];
            case 1: return fen.beastKinds[beast];
            case 2: return now.home >> beast & 1;
            default: return OUTSIDE;
        }
    }

    public int tone(int gate, int beast) {
        if (!fen.isGate(gate) || !fen.isBeast(beast)) {
            return UNKNOWN;
        }
        return fen.toneBy(now, gate, fen.weights[beast], fen.beastKinds[beast]);
    }

    public int song(int beast, int lane, int place) {
        if (!fen.isBeast(beast) || !fen.isLane(lane)) {
            return UNKNOWN;
        }
        if (place < 0 || place > MOST_SUNG) {
            return OUTSIDE;
        }
        fen.sing(now, beast, lane, song);
        if (place == MOST_SUNG) {
            return song.length;
        }
        return place < song.length ? song.tones[place] : NONE;
    }

    public int sung(int place) {
        if (place < 0 || place >= MOST_SUNG) {
            return OUTSIDE;
        }
        return now.fromLast(place);
    }

    // ---- acts

    public int drive(int beast, int lane) {
        if (!fen.isBeast(beast) || !fen.isLane(lane)) {
            return UNKNOWN;
        }
        if (now.isHome(beast)) {
            return STATE;
        }
        acts.add(now);
        fen.sendHome(now, beast, lane, song);
        return song.toneCount();
    }

    public int open(int gate) {
        if (!fen.isGate(gate)) {
            return UNKNOWN;
        }
        acts.add(now);
        now.open ^= 1 << gate;
        return now.open >> gate & 1;
    }

    public int oil(int gate) {
        if (!fen.isGate(gate)) {
            return UNKNOWN;
        }
        acts.add(now);
        now.oiled ^= 1 << gate;
        return now.oiled >> gate & 1;
    }

    public int hang(int gate, boolean higher) {
        if (!fen.isGate(gate)) {
            return UNKNOWN;
        }
        acts.add(now);
        int step = higher ? 1 : -1;
        now.setNote(gate, Math.floorMod(now.noteOf(gate) + step, TONES));
        return now.noteOf(gate);
    }

    public int turnOut(int beast) {
        if (!fen.isBeast(beast)) {
            return UNKNOWN;
        }
        if (!now.isHome(beast)) {
            return STATE;
        }
        acts.add(now);
        now.home ^= 1 << beast;
        return now.homeCount();
    }

    public int frost() {
        acts.add(now);
        now.frost ^= 1;
        return now.frost;
    }

    public int undo() {
        if (acts.count <= 0) {
            return STATE;
        }
        acts.takeLast(now);
        return acts.count;
    }

    // ---- verses

    public int fit(int verse) {
        if (!fen.isVerse(verse)) {
            return UNKNOWN;
        }
        return fitIn(now, verse);
    }

    public int harmony(int one, int lane, int other, int otherLane) {
        if (!fen.isBeast(one) || !fen.isLane(lane) || !fen.isBeast(other) || !fen.isLane(otherLane)) {
            return UNKNOWN;
        }
        fen.sing(now, one, lane, song);
        fen.sing(now, other, otherLane, otherSong);
        return song.harmonyWith(otherSong);
    }

    public int best(int verse, int n, boolean row) {
        if (!fen.isVerse(verse)) {
            return UNKNOWN;
        }
        if (n < 1 || n > MOST_DRIVES) {
            return OUTSIDE;
        }
        search.look(fen, now, verse, n);
        return row ? search.row : search.most;
    }

    public int fewest(int verse) {
        if (!fen.isVerse(verse)) {
            return UNKNOWN;
        }
        if (fitIn(now, verse) == VERSE_TONES) {
            return 0;
        }
        for (int n = 1; n <= MOST_DRIVES; n++) {
            search.look(fen, now, verse, n);
            if (search.most == VERSE_TONES) {
                return n;
            }
        }
        return NONE;
    }

    public int has(int verse, int lane) {
        if (!fen.isVerse(verse) || !fen.isLane(lane)) {
            return UNKNOWN;
        }
        int wanted = fen.verseBits(verse);
        int those = 0;
        for (int beast = 0; beast < fen.beasts; beast++) {
            fen.sing(now, beast, lane, song);
            if ((wanted & ~song.toneBits()) == 0) {
                those |= 1 << beast;
            }
        }
        return those;
    }

    public int silence(int lane) {
        if (!fen.isLane(lane)) {
            return UNKNOWN;
        }
        // Oil silences no gate but its own, so there is one least set: the gates that still sound.
        int sounding = 0;
        for (int gate = 0; gate < fen.gates; gate++) {
            if ((fen.lanesWith(gate) >> lane & 1) != 0 && sounds(gate)) {
                sounding |= 1 << gate;
            }
        }
        return sounding;
    }

    public int judge(int n, int row) {
        if (n < 1 || n > MOST_DOINGS) {
            return OUTSIDE;
        }
        int place = 1;
        for (int i = 1; i < n; i++) {
            place *= 100;
        }
        if (row < 0 || row / 100 >= place) {
            return OUTSIDE;
        }
        trial.become(now);
        for (int i = 0; i < n && place > 0; i++) {
            int doing = row / place % 100;
            if (!doesDoing(trial, doing / 10, doing % 10)) {
                return i;
            }
            place /= 100;
        }
        return NONE;
    }

    // ---- heard

    public int hear(int kind, int gate, int tone) {
        if (!fen.isGate(gate)) {
            return UNKNOWN;
        }
        if (!isKind(kind) || tone < 0 || tone > REST) {
            return OUTSIDE;
        }
        if (heard.count >= MOST_HEARD) {
            return FULL;
        }
        heard.add(kind, gate, tone);
        return heard.count;
    }

    public int unhear() {
        int was = heard.count;
        heard.count = 0;
        return was;
    }

    public int weights(int kind) {
        if (!isKind(kind)) {
            return OUTSIDE;
        }
        int those = 0;
        for (int weight = 1; weight <= MOST_WEIGHT; weight++) {
            if (heard.agrees(fen, now, weight, kind)) {
                those |= 1 << weight;
            }
        }
        return those;
    }

    // ---- shares, rests, chances

    public int share(int beast, int lane, boolean upper) {
        if (!fen.isBeast(beast) || !fen.isLane(lane)) {
            return UNKNOWN;
        }
        fen.sing(now, beast, lane, song);
        int own = song.toneBits();
        int parts = 0;
        for (int tone = 0; tone < TONES; tone++) {
            if ((own >> tone & 1) != 0) {
                // Of those who sing a tone each is as likely to be the first to bring it.
                int singers = singersOf(tone, lane);
                parts += singers > 0 ? SHARE_PARTS / singers : 0;
            }
        }
        return fraction(parts, SHARE_PARTS, upper);
    }

    public int rests(int one, int other, int what) {
        if (!fen.isBeast(one) || !fen.isBeast(other)) {
            return UNKNOWN;
        }
        if (one == other || what < 0 || what > 1) {
            return OUTSIDE;
        }
        for (int lane = 0; lane < fen.lanes; lane++) {
            fen.sing(now, one, lane, song);
            for (int otherLane = 0; otherLane < fen.lanes; otherLane++) {
                fen.sing(now, other, otherLane, otherSong);
                herdsmen.meet(lane, song, otherLane, otherSong);
            }
        }
        herdsmen.settle(fen.lanes);
        return what == 0 ? herdsmen.resting : herdsmen.first;
    }

    public int drips(int beast, int lane, int m, int x, boolean upper) {
        if (!fen.isBeast(beast) || !fen.isLane(lane)) {
            return UNKNOWN;
        }
        if (m < 0 || m > MOST_SUNG || x < 0 || x > 10) {
            return OUTSIDE;
        }
        int unoiled = fen.gatesOf(lane) & ~now.oiled;
        int above = 0;
        int below = 0;
        for (int oiled = 0; oiled < 1 << MOST_GATES; oiled++) {
            if ((oiled & ~unoiled) == 0) {
                int chance = chanceOf(oiled, unoiled, x);
                below += chance;
                above += tonesWhenOiled(beast, lane, oiled) <= m ? chance : 0;
            }
        }
        return fraction(above, below, upper);
    }

    public long seed(long v) {
        long was = seed;
        seed = v;
        return was;
    }

    public int winters(int m) {
        if (m < 1 || m > MOST_WINTERS) {
            return OUTSIDE;
        }
        trial.become(now);
        int tones = 0;
        for (int i = 0; i < m; i++) {
            seed = seed * SEED_TIMES + SEED_MORE;
            tones += doChance(trial, (int) ((seed >>> 33) % 21));
        }
        return tones;
    }

    // ---- slots

    public int keep(int slot) {
        if (!isSlot(slot)) {
            return UNKNOWN;
        }
        kept[slot].become(now);
        isKept[slot] = true;
        return now.homeCount();
    }

    public int again(int slot) {
        if (!isSlot(slot)) {
            return UNKNOWN;
        }
        if (!isKept[slot]) {
            return STATE;
        }
        now.become(kept[slot]);
        acts.forgetAll();
        return now.homeCount();
    }

    public int count(int what) {
        switch (what) {
            case 0: return length;
            case 1: return fen.gates;
            case 2: return fen.lanes;
            case 3: return fen.beasts;
            case 4: return fen.verses;
            case 5: return now.frost;
            case 6: return now.sungCount;
            case 7: return now.home;
            case 8: return acts.count;
            case 9: return heard.count;
            default: return OUTSIDE;
        }
    }

    // ---- what the calls above share

    private static boolean isSlot(int slot) {
        return slot >= 0 && slot < SLOTS;
    }

    private static boolean isKind(int kind) {
        return kind >= 0 && kind < KINDS;
    }

    private int fitIn(Moment moment, int verse) {
        song.length = 0;
        return fen.fitBehind(moment, song, verse);
    }

    private boolean sounds(int gate) {
        for (int beast = 0; beast < fen.beasts; beast++) {
            if (fen.toneBy(now, gate, fen.weights[beast], fen.beastKinds[beast]) != REST) {
                return true;
            }
        }
        return false;
    }

    /** Does one of the doings that are judged; false if it can not be, or is not so. */
    private boolean doesDoing(Moment moment, int figure, int which) {
        switch (figure) {
            case 5:
                return togglesOpen(moment, which);
            case 6:
                return togglesOil(moment, which);
            case 7:
                return turnsOut(moment, which);
            case 8:
                return fen.isVerse(which) && fitIn(moment, which) >= 3;
            default:
                return goesHome(moment, figure, which);
        }
    }

    private boolean togglesOpen(Moment moment, int gate) {
        if (!fen.isGate(gate)) {
            return false;
        }
        moment.open ^= 1 << gate;
        return true;
    }

    private boolean togglesOil(Moment moment, int gate) {
        if (!fen.isGate(gate)) {
            return false;
        }
        moment.oiled ^= 1 << gate;
        return true;
    }

    private boolean turnsOut(Moment moment, int beast) {
        if (!fen.isBeast(beast) || !moment.isHome(beast)) {
            return false;
        }
        moment.home ^= 1 << beast;
        return true;
    }

    private boolean goesHome(Moment moment, int beast, int lane) {
        if (!fen.canGoHome(moment, beast, lane)) {
            return false;
        }
        fen.sendHome(moment, beast, lane, song);
        return true;
    }

    private int singersOf(int tone, int lane) {
        int singers = 0;
        for (int beast = 0; beast < fen.beasts; beast++) {
            fen.sing(now, beast, lane, otherSong);
            singers += otherSong.toneBits() >> tone & 1;
        }
        return singers;
    }

    /** In tenths for each gate that may drip: how likely just these are oiled. */
    private static int chanceOf(int oiled, int unoiled, int x) {
        int chance = 1;
        for (int gate = 0; gate < MOST_GATES; gate++) {
            if ((unoiled >> gate & 1) != 0) {
                chance *= (oiled >> gate & 1) != 0 ? x : 10 - x;
            }
        }
        return chance;
    }

    private int tonesWhenOiled(int beast, int lane, int oiled) {
        trial.become(now);
        trial.oiled |= oiled;
        fen.sing(trial, beast, lane, song);
        return song.toneCount();
    }

    /** Does what one winter's chance tells, if it can be; how many tones were sung by it. */
    private int doChance(Moment moment, int chance) {
        if (chance == 20) {
            moment.frost ^= 1;
        } else if (chance >= 15) {
            turnsOut(moment, chance - 15);
        } else if (goesHome(moment, chance / 3, chance % 3)) {
            return song.toneCount();
        }
        return 0;
    }

    private static int fraction(int above, int below, boolean upper) {
        int common = greatestCommon(above, below);
        if (common == 0) {
            return upper ? 0 : 1;
        }
        return upper ? above / common : below / common;
    }

    private static int greatestCommon(int a, int b) {
        int one = a;
        int other = b;
        // Each two steps at least halve the greater one: 64 are more than any ints need.
        for (int i = 0; i < 64 && other != 0; i++) {
            int left = one % other;
            one = other;
            other = left;
        }
        return one;
    }

    /** What a text tells and no act changes. */
    private static final class Fen {
        int gates;
        int lanes;
        int beasts;
        int verses;
        int frostAtFirst;
        final int[] notesAtFirst = new int[MOST_GATES];
        final int[] gateKinds = new int[MOST_GATES];
        final int[] laneGates = new int[MOST_LANES * LANE_GATES];
        final int[] weights = new int[MOST_BEASTS];
        final int[] beastKinds = new int[MOST_BEASTS];
        final int[] verseTones = new int[MOST_VERSES * VERSE_TONES];
        // The part that is being read (its first letter; 0: none) and how many letters it has behind that.
        private int part;
        private int partPlace;

        /** Reads all letters; the place of the fault, or NONE. */
        int read(int[] letters, int length) {
            gates = 0;
            lanes = 0;
            beasts = 0;
            verses = 0;
            part = 0;
            for (int i = 0; i < length && i < letters.length; i++) {
                if (!takes(letters[i], i)) {
                    return i;
                }
            }
            return length < 2 || part != 0 ? length : NONE;
        }

        private boolean takes(int letter, int place) {
            if (place == 0) {
                return letter == 'C';
            }
            if (place == 1) {
                frostAtFirst = letter - '0';
                return letter == '0' || letter == '1';
            }
            if (part == 0) {
                part = letter;
                partPlace = 0;
                return mayStart(letter);
            }
            return goesOn(letter);
        }

        private boolean mayStart(int letter) {
            switch (letter) {
                case 'G': return gates < MOST_GATES;
                // Without a gate told ahead no lane can be ended.
                case 'L': return lanes < MOST_LANES && gates > 0;
                case 'B': return beasts < MOST_BEASTS;
                case 'V': return verses < MOST_VERSES;
                default: return false;
            }
        }

        private boolean goesOn(int letter) {
            switch (part) {
                case 'G': return takesGate(letter);
                case 'L': return takesLane(letter);
                case 'B': return takesBeast(letter);
                case 'V': return takesVerse(letter);
                default: return false;
            }
        }

        private boolean takesGate(int letter) {
            if (gates >= MOST_GATES) {
                return false;
            }
            if (partPlace == 0) {
                partPlace = 1;
                notesAtFirst[gates] = letter - 'a';
                return isNote(letter);
            }
            gateKinds[gates] = letter - '0';
            gates++;
            part = 0;
            return isKind(letter - '0');
        }

        private boolean takesLane(int letter) {
            int at = lanes * LANE_GATES + partPlace;
            if (at >= laneGates.length || !isGate(letter - '0')) {
                return false;
            }
            laneGates[at] = letter - '0';
            partPlace++;
            if (partPlace == LANE_GATES) {
                lanes++;
                part = 0;
            }
            return true;
        }

        private boolean takesBeast(int letter) {
            if (beasts >= MOST_BEASTS) {
                return false;
            }
            if (partPlace == 0) {
                partPlace = 1;
                weights[beasts] = letter - '0';
                return letter >= '1' && letter <= '9';
            }
            beastKinds[beasts] = letter - '0';
            beasts++;
            part = 0;
            return isKind(letter - '0');
        }

        private boolean takesVerse(int letter) {
            int at = verses * VERSE_TONES + partPlace;
            if (at >= verseTones.length || letter != '-' && !isNote(letter)) {
                return false;
            }
            verseTones[at] = letter == '-' ? REST : letter - 'a';
            partPlace++;
            if (partPlace == VERSE_TONES) {
                verses++;
                part = 0;
            }
            return true;
        }

        private static boolean isNote(int letter) {
            return letter >= 'a' && letter <= 'l';
        }

        boolean isGate(int gate) {
            return gate >= 0 && gate < gates;
        }

        boolean isLane(int lane) {
            return lane >= 0 && lane < lanes;
        }

        boolean isBeast(int beast) {
            return beast >= 0 && beast < beasts;
        }

        boolean isVerse(int verse) {
            return verse >= 0 && verse < verses;
        }

        int gatesOf(int lane) {
            int those = 0;
            for (int i = 0; i < LANE_GATES; i++) {
                those |= 1 << laneGates[lane * LANE_GATES + i];
            }
            return those;
        }

        int lanesWith(int gate) {
            int those = 0;
            for (int lane = 0; lane < lanes; lane++) {
                those |= (gatesOf(lane) >> gate & 1) << lane;
            }
            return those;
        }

        int verseBits(int verse) {
            int bits = 0;
            for (int i = 0; i < VERSE_TONES; i++) {
                bits |= 1 << verseTones[verse * VERSE_TONES + i];
            }
            return bits & ~(1 << REST);
        }

        int toneBy(Moment moment, int gate, int weight, int kind) {
            boolean stuck = gateKinds[gate] == STIFF && weight < 5;
            if (stuck || ((moment.open | moment.oiled) >> gate & 1) != 0) {
                return REST;
            }
            int height = moment.noteOf(gate) + weight / (kind == PONY ? 4 : 2) + 4 * moment.frost;
            if (gateKinds[gate] == DRY) {
                height -= moment.passedOf(gate);
            }
            if (kind == BULL) {
                height -= 5;
            }
            return Math.floorMod(height, TONES);
        }

        void sing(Moment moment, int beast, int lane, Song into) {
            into.length = 0;
            for (int i = 0; i < LANE_GATES; i++) {
                int gate = laneGates[lane * LANE_GATES + i];
                int tone = toneBy(moment, gate, weights[beast], beastKinds[beast]);
                int times = gateKinds[gate] == SWINGING ? 2 : 1;
                for (int k = 0; k < times; k++) {
                    into.add(tone);
                    if (beastKinds[beast] == CALF && tone != REST) {
                        into.add((tone + 1) % TONES);
                    }
                }
            }
        }

        boolean canGoHome(Moment moment, int beast, int lane) {
            return isBeast(beast) && isLane(lane) && !moment.isHome(beast);
        }

        /** Drives a beast that can go home; its song is in the last one then. */
        void sendHome(Moment moment, int beast, int lane, Song into) {
            sing(moment, beast, lane, into);
            for (int i = 0; i < into.length; i++) {
                moment.addSung(into.tones[i]);
            }
            for (int i = 0; i < LANE_GATES; i++) {
                moment.pass(laneGates[lane * LANE_GATES + i]);
            }
            moment.home |= 1 << beast;
        }

        /** The fit of a verse, had the song been sung behind what is sung at that moment. */
        int fitBehind(Moment moment, Song behind, int verse) {
            int like = 0;
            for (int back = 0; back < VERSE_TONES; back++) {
                int last = back < behind.length
                        ? behind.tones[behind.length - 1 - back]
                        : moment.fromLast(back - behind.length);
                if (last == verseTones[verse * VERSE_TONES + VERSE_TONES - 1 - back]) {
                    like++;
                }
            }
            return like;
        }
    }

    /** All that acts change, in a few numbers, so that it is cheaply kept and tried out. */
    private static final class Moment {
        // Four bits a gate.
        private int notes;
        // Two bits a gate.
        private int passed;
        int open;
        int oiled;
        int home;
        int frost;
        // Four bits each, the last one lowest; sungCount tells how many of them count.
        private long sung;
        int sungCount;

        void begin(Fen fen) {
            notes = 0;
            for (int gate = 0; gate < fen.gates; gate++) {
                setNote(gate, fen.notesAtFirst[gate]);
            }
            passed = 0;
            open = 0;
            oiled = 0;
            home = 0;
            frost = fen.frostAtFirst;
            sung = 0;
            sungCount = 0;
        }

        void become(Moment other) {
            notes = other.notes;
            passed = other.passed;
            open = other.open;
            oiled = other.oiled;
            home = other.home;
            frost = other.frost;
            sung = other.sung;
            sungCount = other.sungCount;
        }

        int noteOf(int gate) {
            return notes >> 4 * gate & 15;
        }

        void setNote(int gate, int note) {
            notes = notes & ~(15 << 4 * gate) | note << 4 * gate;
        }

        int passedOf(int gate) {
            return passed >> 2 * gate & 3;
        }

        void pass(int gate) {
            if (passedOf(gate) < MOST_PASSED) {
                passed += 1 << 2 * gate;
            }
        }

        boolean isHome(int beast) {
            return (home >> beast & 1) != 0;
        }

        int homeCount() {
            return Integer.bitCount(home);
        }

        void addSung(int tone) {
            sung = sung << 4 | tone;
            sungCount = Math.min(sungCount + 1, MOST_SUNG);
        }

        int fromLast(int back) {
            return back < sungCount ? (int) (sung >>> 4 * back) & 15 : NONE;
        }
    }

    /** A song of one beast in one lane; made once and sung anew. */
    private static final class Song {
        final int[] tones = new int[MOST_SUNG];
        int length;

        void add(int tone) {
            if (length < MOST_SUNG) {
                tones[length] = tone;
                length++;
            }
        }

        int toneCount() {
            int those = 0;
            for (int i = 0; i < length; i++) {
                those += tones[i] != REST ? 1 : 0;
            }
            return those;
        }

        int toneBits() {
            int bits = 0;
            for (int i = 0; i < length; i++) {
                bits |= 1 << tones[i];
            }
            return bits & ~(1 << REST);
        }

        int harmonyWith(Song other) {
            int places = Math.min(length, other.length);
            int those = 0;
            for (int i = 0; i < places; i++) {
                if (tones[i] != REST && other.tones[i] != REST) {
                    those += HARMONIC >> Math.abs(tones[i] - other.tones[i]) & 1;
                }
            }
            return those;
        }
    }

    /** The moments ahead of the last acts, in a ring, so that the first one can be forgotten. */
    private static final class Acts {
        private final Moment[] ahead = new Moment[MOST_ACTS];
        private int first;
        int count;

        Acts() {
            for (int i = 0; i < MOST_ACTS; i++) {
                ahead[i] = new Moment();
            }
        }

        void forgetAll() {
            first = 0;
            count = 0;
        }

        void add(Moment moment) {
            ahead[(first + count) % MOST_ACTS].become(moment);
            if (count < MOST_ACTS) {
                count++;
            } else {
                first = (first + 1) % MOST_ACTS;
            }
        }

        void takeLast(Moment into) {
            if (count > 0) {
                count--;
                into.become(ahead[(first + count) % MOST_ACTS]);
            }
        }
    }

    /** What was heard: told of a gate's number, and looked at as that gate is when it is asked. */
    private static final class Heard {
        private final int[] kinds = new int[MOST_HEARD];
        private final int[] gates = new int[MOST_HEARD];
        private final int[] tones = new int[MOST_HEARD];
        int count;

        void add(int kind, int gate, int tone) {
            if (count < MOST_HEARD) {
                kinds[count] = kind;
                gates[count] = gate;
                tones[count] = tone;
                count++;
            }
        }

        boolean agrees(Fen fen, Moment moment, int weight, int kind) {
            for (int i = 0; i < count; i++) {
                boolean counts = kinds[i] == kind && fen.isGate(gates[i]);
                if (counts && fen.toneBy(moment, gates[i], weight, kind) != tones[i]) {
                    return false;
                }
            }
            return true;
        }
    }

    /** Looks through all rows of drives for the one by which a verse fits most. */
    private static final class Search {
        // The last drive of a row is not carried out, only sung: one moment fewer than drives.
        private final Moment[] tried = new Moment[MOST_DRIVES - 1];
        private final Song song = new Song();
        int most;
        int row;

        Search() {
            for (int i = 0; i < tried.length; i++) {
                tried[i] = new Moment();
            }
        }

        void look(Fen fen, Moment from, int verse, int n) {
            most = NONE;
            row = NONE;
            tryRows(this, fen, from, verse, Math.min(n, MOST_DRIVES), 0);
        }

        // Rows are tried from the least number up, so the first of the best is the least.
        private static void tryRows(Search search, Fen fen, Moment from, int verse, int left, int row) {
            for (int beast = 0; beast < fen.beasts; beast++) {
                if (from.isHome(beast)) {
                    continue;
                }
                for (int lane = 0; lane < fen.lanes && search.most < VERSE_TONES; lane++) {
                    int longer = 100 * row + 10 * (beast + 1) + lane + 1;
                    if (left <= 1) {
                        fen.sing(from, beast, lane, search.song);
                        search.take(fen.fitBehind(from, search.song, verse), longer);
                    } else {
                        Moment next = search.tried[left - 2];
                        next.become(from);
                        fen.sendHome(next, beast, lane, search.song);
                        tryRows(search, fen, next, verse, left - 1, longer);
                    }
                }
            }
        }

        private void take(int fitting, int itsRow) {
            if (fitting > most) {
                most = fitting;
                row = itsRow;
            }
        }
    }

    /** What two herdsmen have for each pair of lanes, and the pairs at which they rest. */
    private static final class Herdsmen {
        private final int[] ones = new int[MOST_LANES * MOST_LANES];
        private final int[] others = new int[MOST_LANES * MOST_LANES];
        int resting;
        int first;

        void meet(int lane, Song song, int otherLane, Song otherSong) {
            int pair = lane * MOST_LANES + otherLane;
            if (pair < 0 || pair >= ones.length) {
                return;
            }
            if (lane == otherLane) {
                ones[pair] = 0;
                others[pair] = 0;
                return;
            }
            int both = song.harmonyWith(otherSong);
            ones[pair] = both + (isUnbroken(song) ? 1 : 0);
            others[pair] = both + (isUnbroken(otherSong) ? 1 : 0);
        }

        void settle(int lanes) {
            resting = 0;
            first = NONE;
            for (int lane = 0; lane < lanes; lane++) {
                for (int otherLane = 0; otherLane < lanes; otherLane++) {
                    if (isAtRest(lane, otherLane, lanes)) {
                        first = resting == 0 ? 10 * lane + otherLane : first;
                        resting++;
                    }
                }
            }
        }

        private boolean isAtRest(int lane, int otherLane, int lanes) {
            int pair = lane * MOST_LANES + otherLane;
            for (int another = 0; another < lanes; another++) {
                if (ones[another * MOST_LANES + otherLane] > ones[pair]
                        || others[lane * MOST_LANES + another] > others[pair]) {
                    return false;
                }
            }
            return true;
        }

        private static boolean isUnbroken(Song song) {
            return song.toneCount() == song.length;
        }
    }
}
