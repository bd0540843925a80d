import java.util.Random;

/** Runs of calls by chance (always the same ones), each answer against that of the Model. */
final class RandomRunsTest {
    private static final int RUNS = 500;
    private static final int CALLS = 512;

    private final Random random;
    private final int run;
    private final GateChoir choir = new GateChoir();
    private final Model model = new Model();
    private int calls = 0;

    private RandomRunsTest(int run) {
        this.run = run;
        this.random = new Random(run);
    }

    public static void main(String[] args) {
        for (int run = 0; run < RUNS; run++) {
            new RandomRunsTest(run).go();
        }
        Check.end("RandomRunsTest");
    }

    private void go() {
        if (random.nextInt(10) > 0) {
            tellText(fenText());
            same("fen()", choir::fen, model::fen);
        }
        while (calls < CALLS) {
            one();
        }
    }

    private void same(String call, java.util.function.LongSupplier got, java.util.function.LongSupplier want) {
        calls++;
        Check.due("run " + run + ", call " + calls + " " + call, want.getAsLong(), got);
    }

    private void tellText(String text) {
        same("wipe()", choir::wipe, model::wipe);
        for (int i = 0; i < text.length(); i++) {
            int letter = text.charAt(i);
            same("write(" + letter + ")", () -> choir.write(letter), () -> model.write(letter));
        }
    }

    private char of(String letters) {
        return letters.charAt(random.nextInt(letters.length()));
    }

    /** A fen, mostly a full one; few notes, so that verses are sung now and then. */
    private String fenText() {
        String notes = random.nextBoolean() ? "abcdefghijkl" : "abl";
        StringBuilder text = new StringBuilder("C").append(of("01"));
        int gates = random.nextInt(8) == 0 ? random.nextInt(6) : 2 + random.nextInt(4);
        for (int i = 0; i < gates; i++) {
            text.append('G').append(of(notes)).append(of("0123"));
        }
        int lanes = gates == 0 ? 0 : random.nextInt(4) == 0 ? random.nextInt(4) : 3;
        for (int i = 0; i < lanes; i++) {
            text.append('L');
            for (int k = 0; k < 3; k++) {
                text.append(random.nextInt(gates));
            }
        }
        String weights = random.nextBoolean() ? "123456789" : "1245";
        int beasts = random.nextInt(4) == 0 ? random.nextInt(6) : 4 + random.nextInt(2);
        for (int i = 0; i < beasts; i++) {
            text.append('B').append(of(weights)).append(of("0123"));
        }
        int verses = random.nextInt(4) == 0 ? random.nextInt(3) : 2;
        for (int i = 0; i < verses; i++) {
            String tones = of("01") == '0' ? notes + "-" : String.valueOf(of("abcdl-"));
            text.append('V').append(of(tones)).append(of(tones)).append(of(tones)).append(of(tones));
        }
        return text.toString();
    }

    /** A fen with a letter changed, put in, taken out, or cut off. */
    private String nearlyFenText() {
        StringBuilder text = new StringBuilder(fenText());
        int at = random.nextInt(text.length());
        char letter = of("CGLBV012345689abklm`-/: ");
        switch (random.nextInt(4)) {
            case 0: text.setCharAt(at, letter); break;
            case 1: text.insert(at, letter); break;
            case 2: text.deleteCharAt(at); break;
            default: text.setLength(at); break;
        }
        return text.toString();
    }

    /** Mostly 0 to most; now and then one beside that, or far away. */
    private int upTo(int most) {
        switch (random.nextInt(40)) {
            case 0: return -1;
            case 1: return most + 1;
            case 2: return random.nextBoolean() ? Integer.MIN_VALUE : Integer.MAX_VALUE;
            case 3: return random.nextInt();
            default: return random.nextInt(most + 1);
        }
    }

    /** Mostly one of those that there are. */
    private int among(int many, int most) {
        return many > 0 && random.nextInt(12) > 0 ? random.nextInt(many) : upTo(most);
    }

    private int gate() {
        return among(model.gates.size(), 4);
    }

    private int lane() {
        return among(model.lanes.size(), 2);
    }

    private int beast() {
        return among(model.beasts.size(), 4);
    }

    private int verse() {
        return among(model.verses.size(), 1);
    }

    private void one() {
        int kind = random.nextInt(100);
        if (kind < 1 && calls < CALLS - 70) {
            tellText(random.nextBoolean() ? fenText() : nearlyFenText());
            same("fault()", choir::fault, model::fault);
            same("fen()", choir::fen, model::fen);
        } else if (kind < 4) {
            ofTheText();
        } else if (kind < 45) {
            act();
        } else if (kind < 65) {
            ofTheFen();
        } else if (kind < 80) {
            ofVerses();
        } else if (kind < 85) {
            ofHeard();
        } else if (kind < 95) {
            ofShares();
        } else {
            ofSlots();
        }
    }

    private void ofTheText() {
        int letter = upTo(255);
        switch (random.nextInt(3)) {
            case 0: same("fault()", choir::fault, model::fault); break;
            case 1: same("write(" + letter + ")", () -> choir.write(letter), () -> model.write(letter)); break;
            default: same("count(0)", () -> choir.count(0), () -> model.count(0)); break;
        }
    }

    private void act() {
        int a = random.nextInt(100);
        int gate = gate();
        int beast = beast();
        int lane = lane();
        boolean higher = random.nextBoolean();
        if (a < 35) {
            same("drive(" + beast + ", " + lane + ")", () -> choir.drive(beast, lane), () -> model.drive(beast, lane));
        } else if (a < 60) {
            same("turnOut(" + beast + ")", () -> choir.turnOut(beast), () -> model.turnOut(beast));
        } else if (a < 66) {
            same("open(" + gate + ")", () -> choir.open(gate), () -> model.open(gate));
        } else if (a < 73) {
            same("oil(" + gate + ")", () -> choir.oil(gate), () -> model.oil(gate));
        } else if (a < 82) {
            same("hang(" + gate + ", " + higher + ")", () -> choir.hang(gate, higher), () -> model.hang(gate, higher));
        } else if (a < 87) {
            same("frost()", choir::frost, model::frost);
        } else {
            same("undo()", choir::undo, model::undo);
        }
    }

    private void ofTheFen() {
        int gate = gate();
        int beast = beast();
        int lane = lane();
        int place = upTo(12);
        int what = upTo(9);
        switch (random.nextInt(6)) {
            case 0: same("gate(" + gate + ", " + what + ")", () -> choir.gate(gate, what), () -> model.gate(gate, what)); break;
            case 1: same("beast(" + beast + ", " + what + ")", () -> choir.beast(beast, what), () -> model.beast(beast, what)); break;
            case 2: same("tone(" + gate + ", " + beast + ")", () -> choir.tone(gate, beast), () -> model.tone(gate, beast)); break;
            case 3:
                same("song(" + beast + ", " + lane + ", " + place + ")",
                        () -> choir.song(beast, lane, place), () -> model.song(beast, lane, place));
                break;
            case 4: same("sung(" + place + ")", () -> choir.sung(place), () -> model.sung(place)); break;
            default: same("count(" + what + ")", () -> choir.count(what), () -> model.count(what)); break;
        }
    }

    private void ofVerses() {
        int verse = verse();
        int lane = lane();
        int beast = beast();
        int other = beast();
        int otherLane = lane();
        int n = 1 + upTo(2);
        boolean row = random.nextBoolean();
        switch (random.nextInt(8)) {
            case 0:
            case 1: same("fit(" + verse + ")", () -> choir.fit(verse), () -> model.fit(verse)); break;
            case 2:
                same("harmony(" + beast + ", " + lane + ", " + other + ", " + otherLane + ")",
                        () -> choir.harmony(beast, lane, other, otherLane), () -> model.harmony(beast, lane, other, otherLane));
                break;
            case 3:
                same("best(" + verse + ", " + n + ", " + row + ")", () -> choir.best(verse, n, row), () -> model.best(verse, n, row));
                break;
            case 4: same("fewest(" + verse + ")", () -> choir.fewest(verse), () -> model.fewest(verse)); break;
            case 5: same("has(" + verse + ", " + lane + ")", () -> choir.has(verse, lane), () -> model.has(verse, lane)); break;
            case 6: same("silence(" + lane + ")", () -> choir.silence(lane), () -> model.silence(lane)); break;
            default: judged(); break;
        }
    }

    private void judged() {
        int n = random.nextInt(20) == 0 ? upTo(4) : 1 + random.nextInt(4);
        int row = 0;
        for (int i = 0; i < n && i < 4; i++) {
            int figure = random.nextInt(10);
            int which = figure < 5 ? random.nextInt(3) : figure == 8 ? random.nextInt(2) : random.nextInt(6);
            row = row * 100 + figure * 10 + which;
        }
        int all = random.nextInt(20) == 0 ? upTo(100000000) : row;
        same("judge(" + n + ", " + all + ")", () -> choir.judge(n, all), () -> model.judge(n, all));
    }

    private void ofHeard() {
        int kind = upTo(3);
        int gate = gate();
        boolean real = !model.gates.isEmpty() && !model.beasts.isEmpty() && random.nextInt(4) > 0;
        int beast = real ? random.nextInt(model.beasts.size()) : 0;
        int tone = real && gate >= 0 && gate < model.gates.size() ? model.tone(gate, beast) : upTo(12);
        int heardKind = real ? model.beast(beast, 1) : kind;
        switch (random.nextInt(8)) {
            case 0: same("unhear()", choir::unhear, model::unhear); break;
            case 1:
            case 2:
            case 3:
                same("hear(" + heardKind + ", " + gate + ", " + tone + ")",
                        () -> choir.hear(heardKind, gate, tone), () -> model.hear(heardKind, gate, tone));
                break;
            default: same("weights(" + kind + ")", () -> choir.weights(kind), () -> model.weights(kind)); break;
        }
    }

    private void ofShares() {
        int beast = beast();
        int other = beast();
        int lane = lane();
        int m = upTo(12);
        int x = upTo(10);
        int what = upTo(1);
        boolean upper = random.nextBoolean();
        long v = random.nextLong();
        int times = upTo(31);
        switch (random.nextInt(9)) {
            case 0:
            case 1:
                same("share(" + beast + ", " + lane + ", " + upper + ")",
                        () -> choir.share(beast, lane, upper), () -> model.share(beast, lane, upper));
                break;
            case 2:
            case 3:
                same("rests(" + beast + ", " + other + ", " + what + ")",
                        () -> choir.rests(beast, other, what), () -> model.rests(beast, other, what));
                break;
            case 4:
            case 5:
                same("drips(" + beast + ", " + lane + ", " + m + ", " + x + ", " + upper + ")",
                        () -> choir.drips(beast, lane, m, x, upper), () -> model.drips(beast, lane, m, x, upper));
                break;
            case 6: same("seed(" + v + ")", () -> choir.seed(v), () -> model.seed(v)); break;
            default: same("winters(" + times + ")", () -> choir.winters(times), () -> model.winters(times)); break;
        }
    }

    private void ofSlots() {
        int slot = upTo(1);
        if (random.nextBoolean()) {
            same("keep(" + slot + ")", () -> choir.keep(slot), () -> model.keep(slot));
        } else {
            same("again(" + slot + ")", () -> choir.again(slot), () -> model.again(slot));
        }
    }
}
