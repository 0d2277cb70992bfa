import java.util.Arrays;

/** Parts, pages and a book made of a score; README.md says how to use it. */
public final class PartPages {
    public static final int NONE = -100, UNKNOWN = -101, OUTSIDE = -102, STATE = -103, ROOM = -104;

    private static final int MOST_VOICES = 6;
    private static final int MOST_BARS = 40;
    private static final int MOST_NOTES = 8;
    private static final int TICKS = 48;

    private static final int START = 0, LENGTH = 1, PITCH = 2, SPELLING = 3, NOTE_FIGURES = 4;
    private static final int HIGHEST_PITCH = 127;
    private static final int LEAST_SPELLING = -15, MOST_SPELLING = 19;

    private static final int KEY = 0, WORD = 4, KINDS = 5;
    private static final int MOST_KEY = 7;
    private static final int MOST_VALUE = 999;

    private static final int MOST_FIFTHS = 6, MOST_OCTAVES = 2;

    private static final int SORT = 0, FIRST_BAR = 1, BARS_LONG = 2, WIDTH = 3, ROW_KEY = 4, NOTES_HELD = 5, CUE_FROM = 6;
    private static final int ROW_FIGURES = 7;
    private static final int SORT_NOTES = 0, SORT_REST = 1, SORT_CUE = 2, SORT_TACET = 3;

    private static final int FIRST_ROW = 0, ROWS_HELD = 1, SYSTEMS_HELD = 2, TURNS = 3, PAGE_FIGURES = 4;
    private static final int BOOK_NUMBER = 4;

    private static final int BOTH_EMPTY = 0, UNISON = 1, JOINED = 2, FIRST_ALONE = 3, SECOND_ALONE = 4, DIVIDED = 5;

    private final Score score = new Score();
    private final Layout layout = new Layout();
    private final Layout layoutAnew = new Layout();
    // What a PART would be now; renew() trades it for the old one, so that no call needs a new one.
    private Part draft = new Part();
    private int wide = 24;
    private int high = 4;

    public PartPages() {
    }

    // ---- the score

    public int voice() {
        return score.addVoice();
    }

    public int bars(int n) {
        if (!isWithin(n, 0, MOST_BARS)) {
            return OUTSIDE;
        }
        return score.resize(n);
    }

    public int note(int voice, int bar, int start, int length, int pitch, int spelling) {
        Voice player = score.voiceAt(voice);
        if (player == null || !score.hasBar(bar)) {
            return UNKNOWN;
        }
        if (!isNote(start, length, pitch, spelling)) {
            return OUTSIDE;
        }
        if (player.notes.hasAt(bar, start, pitch)) {
            return STATE;
        }
        if (player.notes.size(bar) >= MOST_NOTES) {
            return ROOM;
        }
        player.notes.insert(bar, start, length, pitch, spelling);
        return player.notes.size(bar);
    }

    public int drop(int voice, int bar) {
        Voice player = score.voiceAt(voice);
        if (player == null || !score.hasBar(bar)) {
            return UNKNOWN;
        }
        int gone = player.notes.size(bar);
        player.notes.clearFrom(bar, bar + 1);
        return gone;
    }

    public int mark(int bar, int kind, int value) {
        if (!score.hasBar(bar)) {
            return UNKNOWN;
        }
        if (!isMark(kind, value)) {
            return OUTSIDE;
        }
        return score.marks.replace(bar, kind, value);
    }

    public int unmark(int bar, int kind) {
        if (!score.hasBar(bar)) {
            return UNKNOWN;
        }
        if (!isWithin(kind, 0, KINDS - 1)) {
            return OUTSIDE;
        }
        return score.marks.replace(bar, kind, NONE);
    }

    public int instrument(int voice, int fifths, int octaves) {
        Voice player = score.voiceAt(voice);
        if (player == null) {
            return UNKNOWN;
        }
        if (!isWithin(fifths, -MOST_FIFTHS, MOST_FIFTHS) || !isWithin(octaves, -MOST_OCTAVES, MOST_OCTAVES)) {
            return OUTSIDE;
        }
        player.fifths = fifths;
        player.octaves = octaves;
        return 1;
    }

    public int cueing(int bars) {
        if (!isWithin(bars, 1, MOST_BARS)) {
            return OUTSIDE;
        }
        int before = score.cueAfter;
        score.cueAfter = bars;
        return before;
    }

    // ---- parts

    public int extract(int voice) {
        Voice player = score.voiceAt(voice);
        if (player == null) {
            return UNKNOWN;
        }
        if (player.part == null) {
            player.part = new Part();
        }
        Copyist.make(score, player, player.part);
        return player.part.rowCount;
    }

    public int row(int voice, int i, int what) {
        Part part = score.partOf(voice);
        if (part == null || !part.hasRow(i)) {
            return UNKNOWN;
        }
        if (!isWithin(what, 0, ROW_FIGURES - 1)) {
            return OUTSIDE;
        }
        return part.figure(i, what);
    }

    public int written(int voice, int i, int k, int what) {
        Part part = score.partOf(voice);
        if (part == null || !part.hasRow(i) || !isWithin(k, 0, part.notes.size(i) - 1)) {
            return UNKNOWN;
        }
        if (!isWithin(what, 0, NOTE_FIGURES - 1)) {
            return OUTSIDE;
        }
        return part.notes.figure(i, k, what);
    }

    public int unlike(int voice) {
        Voice player = score.voiceAt(voice);
        Part part = score.partOf(voice);
        if (player == null || part == null) {
            return UNKNOWN;
        }
        Copyist.make(score, player, draft);
        return part.firstUnlike(draft);
    }

    public int renew(int voice) {
        Voice player = score.voiceAt(voice);
        Part part = score.partOf(voice);
        if (player == null || part == null) {
            return UNKNOWN;
        }
        Copyist.make(score, player, draft);
        int kept = pagesAlike(part, draft);
        player.part = draft;
        draft = part;
        return kept;
    }

    public int tacet(int voice) {
        Voice player = score.voiceAt(voice);
        if (player == null) {
            return UNKNOWN;
        }
        return player.notes.total() == 0 ? 1 : 0;
    }

    // ---- pages

    public int lay(int wide, int high) {
        if (!isWithin(wide, 8, 60) || !isWithin(high, 1, 12)) {
            return OUTSIDE;
        }
        this.wide = wide;
        this.high = high;
        int all = 0;
        for (int v = 0; v < MOST_VOICES; v++) {
            all += pageCountOf(v);
        }
        return all;
    }

    public int pages(int voice) {
        if (score.partOf(voice) == null) {
            return UNKNOWN;
        }
        return pageCountOf(voice);
    }

    public int page(int voice, int p, int what) {
        if (score.partOf(voice) == null || !isWithin(p, 0, pageCountOf(voice) - 1)) {
            return UNKNOWN;
        }
        if (!isWithin(what, 0, BOOK_NUMBER)) {
            return OUTSIDE;
        }
        if (what == BOOK_NUMBER) {
            return nextOdd(lastNumberAhead(voice)) + p;
        }
        return layout.figure(p, what);
    }

    // ---- two voices

    public int condensed(int voice, int other, int bar) {
        Voice first = score.voiceAt(voice);
        Voice second = score.voiceAt(other);
        if (first == null || second == null || !score.hasBar(bar)) {
            return UNKNOWN;
        }
        if (voice == other) {
            return STATE;
        }
        return condense(first.notes, second.notes, bar);
    }

    public int together(int voice, int other) {
        Voice first = score.voiceAt(voice);
        Voice second = score.voiceAt(other);
        if (first == null || second == null) {
            return UNKNOWN;
        }
        if (voice == other) {
            return STATE;
        }
        int shared = 0;
        for (int bar = 0; bar < score.barCount; bar++) {
            if (condense(first.notes, second.notes, bar) != DIVIDED) {
                shared++;
            }
        }
        return shared;
    }

    public int count(int what) {
        switch (what) {
            case 0:
                return score.voiceCount;
            case 1:
                return score.barCount;
            case 2:
                return score.noteTotal();
            case 3:
                return score.partTotal();
            case 4:
                return lastNumberAhead(MOST_VOICES);
            case 5:
                return score.marks.total();
            default:
                return OUTSIDE;
        }
    }

    // ---- what is within the document's numbers

    private static boolean isWithin(int number, int least, int most) {
        return number >= least && number <= most;
    }

    private static boolean isNote(int start, int length, int pitch, int spelling) {
        return isWithin(start, 0, TICKS - 1)
                && isWithin(length, 1, TICKS - start)
                && isWithin(pitch, 0, HIGHEST_PITCH)
                && isWithin(spelling, LEAST_SPELLING, MOST_SPELLING)
                && Math.floorMod(7 * spelling, 12) == pitch % 12;
    }

    private static boolean isMark(int kind, int value) {
        if (kind == KEY) {
            return isWithin(value, -MOST_KEY, MOST_KEY);
        }
        return isWithin(kind, 0, KINDS - 1) && isWithin(value, 0, MOST_VALUE);
    }

    // ---- pages of parts, and the book

    /** Leaves the PART's PAGES in layout. */
    private int pageCountOf(int voice) {
        Part part = score.partOf(voice);
        if (part == null) {
            return 0;
        }
        layout.arrange(part, wide, high);
        return layout.pageCount;
    }

    /** The last number in THE BOOK of all PARTS of VOICES before this one; 0 without. */
    private int lastNumberAhead(int voice) {
        int last = 0;
        for (int v = 0; v < voice && v < MOST_VOICES; v++) {
            int held = pageCountOf(v);
            // A PART without PAGES has no number, so the last one stays.
            if (held > 0) {
                last = nextOdd(last) + held - 1;
            }
        }
        return last;
    }

    private static int nextOdd(int last) {
        return last + 1 + (last & 1);
    }

    private int pagesAlike(Part before, Part after) {
        layout.arrange(before, wide, high);
        layoutAnew.arrange(after, wide, high);
        int most = Math.min(layout.pageCount, layoutAnew.pageCount);
        int alike = 0;
        while (alike < most && isPageAlike(before, after, alike)) {
            alike++;
        }
        return alike;
    }

    private boolean isPageAlike(Part before, Part after, int p) {
        for (int what = 0; what < PAGE_FIGURES; what++) {
            if (layout.figure(p, what) != layoutAnew.figure(p, what)) {
                return false;
            }
        }
        int first = layout.figure(p, FIRST_ROW);
        int behind = first + layout.figure(p, ROWS_HELD);
        for (int i = first; i < behind; i++) {
            if (!before.isRowAlike(after, i)) {
                return false;
            }
        }
        return true;
    }

    // ---- two voices on one staff

    private static int condense(NoteTable first, NoteTable second, int bar) {
        boolean firstRests = first.size(bar) == 0;
        boolean secondRests = second.size(bar) == 0;
        if (firstRests && secondRests) {
            return BOTH_EMPTY;
        }
        if (secondRests) {
            return FIRST_ALONE;
        }
        if (firstRests) {
            return SECOND_ALONE;
        }
        if (first.isAlike(second, bar)) {
            return UNISON;
        }
        return first.hasRhythmIn(second, bar) && second.hasRhythmIn(first, bar) ? JOINED : DIVIDED;
    }

    /** NOTES by BARS (of a VOICE) or by ROWS (of a PART): each is a slot here, in order by START, then PITCH. */
    private static final class NoteTable {
        private final int[] sizes = new int[MOST_BARS];
        private final int[] figures = new int[MOST_BARS * MOST_NOTES * NOTE_FIGURES];

        int size(int slot) {
            return slot >= 0 && slot < MOST_BARS ? sizes[slot] : 0;
        }

        int figure(int slot, int k, int what) {
            if (slot < 0 || slot >= MOST_BARS || k < 0 || k >= sizes[slot] || what < 0 || what >= NOTE_FIGURES) {
                return NONE;
            }
            return figures[(slot * MOST_NOTES + k) * NOTE_FIGURES + what];
        }

        int total() {
            int all = 0;
            for (int slot = 0; slot < MOST_BARS; slot++) {
                all += sizes[slot];
            }
            return all;
        }

        boolean hasAt(int slot, int start, int pitch) {
            for (int k = 0; k < size(slot); k++) {
                if (figure(slot, k, START) == start && figure(slot, k, PITCH) == pitch) {
                    return true;
                }
            }
            return false;
        }

        void insert(int slot, int start, int length, int pitch, int spelling) {
            int held = size(slot);
            if (slot < 0 || slot >= MOST_BARS || held >= MOST_NOTES) {
                return;
            }
            int k = held;
            while (k > 0 && isBehind(slot, k - 1, start, pitch)) {
                System.arraycopy(figures, placeOf(slot, k - 1), figures, placeOf(slot, k), NOTE_FIGURES);
                k--;
            }
            int place = placeOf(slot, k);
            figures[place + START] = start;
            figures[place + LENGTH] = length;
            figures[place + PITCH] = pitch;
            figures[place + SPELLING] = spelling;
            sizes[slot] = held + 1;
        }

        /** Slots from first on, up to but not with end, lose their NOTES. */
        void clearFrom(int first, int end) {
            for (int slot = Math.max(0, first); slot < end && slot < MOST_BARS; slot++) {
                sizes[slot] = 0;
            }
        }

        int unlikeStarts(int slot) {
            int unlike = 0;
            for (int k = 0; k < size(slot); k++) {
                // They are in order by START, so a like one can only stand just ahead.
                if (k == 0 || figure(slot, k, START) != figure(slot, k - 1, START)) {
                    unlike++;
                }
            }
            return unlike;
        }

        boolean isAlike(NoteTable other, int slot) {
            if (size(slot) != other.size(slot)) {
                return false;
            }
            for (int k = 0; k < size(slot); k++) {
                for (int what = 0; what < NOTE_FIGURES; what++) {
                    if (figure(slot, k, what) != other.figure(slot, k, what)) {
                        return false;
                    }
                }
            }
            return true;
        }

        /** Whether each START and LENGTH here is there in the other, too. */
        boolean hasRhythmIn(NoteTable other, int slot) {
            for (int k = 0; k < size(slot); k++) {
                if (!other.hasRhythm(slot, figure(slot, k, START), figure(slot, k, LENGTH))) {
                    return false;
                }
            }
            return true;
        }

        private boolean hasRhythm(int slot, int start, int length) {
            for (int k = 0; k < size(slot); k++) {
                if (figure(slot, k, START) == start && figure(slot, k, LENGTH) == length) {
                    return true;
                }
            }
            return false;
        }

        private boolean isBehind(int slot, int k, int start, int pitch) {
            int there = figure(slot, k, START);
            return there > start || (there == start && figure(slot, k, PITCH) > pitch);
        }

        private static int placeOf(int slot, int k) {
            return (slot * MOST_NOTES + k) * NOTE_FIGURES;
        }
    }

    /** MARKS by BARS and KINDS; NONE stands where there is none, as no MARK can have that value. */
    private static final class Marks {
        private final int[] held = new int[MOST_BARS * KINDS];

        Marks() {
            Arrays.fill(held, NONE);
        }

        int valueAt(int bar, int kind) {
            return isPlace(bar, kind) ? held[bar * KINDS + kind] : NONE;
        }

        int replace(int bar, int kind, int value) {
            if (!isPlace(bar, kind)) {
                return NONE;
            }
            int before = held[bar * KINDS + kind];
            held[bar * KINDS + kind] = value;
            return before;
        }

        void clearFrom(int first, int end) {
            for (int bar = Math.max(0, first); bar < end && bar < MOST_BARS; bar++) {
                for (int kind = 0; kind < KINDS; kind++) {
                    replace(bar, kind, NONE);
                }
            }
        }

        /** Whether players NEED a MARK of this BAR. */
        boolean isNeeded(int bar) {
            for (int kind = 0; kind < KINDS; kind++) {
                if (kind != WORD && valueAt(bar, kind) != NONE) {
                    return true;
                }
            }
            return false;
        }

        int keyAt(int bar) {
            for (int at = bar; at >= 0; at--) {
                int key = valueAt(at, KEY);
                if (key != NONE) {
                    return key;
                }
            }
            return 0;
        }

        int total() {
            int all = 0;
            for (int place = 0; place < held.length; place++) {
                if (held[place] != NONE) {
                    all++;
                }
            }
            return all;
        }

        private static boolean isPlace(int bar, int kind) {
            return bar >= 0 && bar < MOST_BARS && kind >= 0 && kind < KINDS;
        }
    }

    /** A VOICE with its INSTRUMENT, and its PART, if that is made. */
    private static final class Voice {
        private final int number;
        private final NoteTable notes = new NoteTable();
        private int fifths;
        private int octaves;
        private Part part;

        Voice(int number) {
            this.number = number;
        }

        int pitchFor(int pitch) {
            int up = Math.floorMod(7 * fifths, 12);
            return pitch + (up > 6 ? up - 12 : up) + 12 * octaves;
        }

        int keyFor(int key) {
            return key + fifths + keyTurn(key);
        }

        int spellingFor(int spelling, int key) {
            int anew = spelling + fifths + keyTurn(key);
            while (anew > MOST_SPELLING) {
                anew -= 12;
            }
            while (anew < LEAST_SPELLING) {
                anew += 12;
            }
            return anew;
        }

        /** What a KEY is made less or more by, so that it stays within 7. */
        private int keyTurn(int key) {
            if (key + fifths > MOST_KEY) {
                return -12;
            }
            return key + fifths < -MOST_KEY ? 12 : 0;
        }
    }

    private static final class Score {
        private final Voice[] voices = new Voice[MOST_VOICES];
        private final Marks marks = new Marks();
        private int voiceCount;
        private int barCount;
        private int cueAfter = 8;

        int addVoice() {
            if (voiceCount >= MOST_VOICES) {
                return ROOM;
            }
            int number = voiceCount;
            voices[number] = new Voice(number);
            voiceCount++;
            return number;
        }

        Voice voiceAt(int number) {
            return number >= 0 && number < MOST_VOICES ? voices[number] : null;
        }

        Part partOf(int number) {
            Voice player = voiceAt(number);
            return player == null ? null : player.part;
        }

        boolean hasBar(int bar) {
            return bar >= 0 && bar < barCount;
        }

        int resize(int n) {
            int before = barCount;
            for (int v = 0; v < MOST_VOICES; v++) {
                Voice player = voiceAt(v);
                if (player != null) {
                    player.notes.clearFrom(n, before);
                }
            }
            marks.clearFrom(n, before);
            barCount = n;
            return before;
        }

        int noteTotal() {
            int all = 0;
            for (int v = 0; v < MOST_VOICES; v++) {
                Voice player = voiceAt(v);
                if (player != null) {
                    all += player.notes.total();
                }
            }
            return all;
        }

        int partTotal() {
            int all = 0;
            for (int v = 0; v < MOST_VOICES; v++) {
                if (partOf(v) != null) {
                    all++;
                }
            }
            return all;
        }

        /** The VOICE that a CUE in this BAR is from, for a player; null if no CUE tells it. */
        Voice cueFor(Voice player, int bar) {
            boolean isLastEmpty = player.notes.size(bar) == 0 && player.notes.size(bar + 1) > 0;
            if (!isLastEmpty || emptyUpTo(player, bar) < cueAfter) {
                return null;
            }
            Voice fullest = null;
            int most = 0;
            for (int v = 0; v < MOST_VOICES; v++) {
                Voice other = voiceAt(v);
                if (other != null && other.notes.size(bar) > most) {
                    fullest = other;
                    most = other.notes.size(bar);
                }
            }
            return fullest;
        }

        private static int emptyUpTo(Voice player, int bar) {
            int empty = 0;
            for (int at = bar; at >= 0 && player.notes.size(at) == 0; at--) {
                empty++;
            }
            return empty;
        }
    }

    /** ROWS and what is WRITTEN, as they were when the PART was made. */
    private static final class Part {
        private final int[] figures = new int[MOST_BARS * ROW_FIGURES];
        private final NoteTable notes = new NoteTable();
        private int rowCount;

        void clear() {
            rowCount = 0;
            notes.clearFrom(0, MOST_BARS);
        }

        boolean hasRow(int i) {
            return i >= 0 && i < rowCount;
        }

        int figure(int i, int what) {
            if (!hasRow(i) || what < 0 || what >= ROW_FIGURES) {
                return NONE;
            }
            return figures[i * ROW_FIGURES + what];
        }

        void setFigure(int i, int what, int value) {
            if (hasRow(i) && what >= 0 && what < ROW_FIGURES) {
                figures[i * ROW_FIGURES + what] = value;
            }
        }

        /** A ROW more: its number; NONE if there is no place. */
        int addRow(int sort, int firstBar, int barsLong) {
            if (rowCount >= MOST_BARS) {
                return NONE;
            }
            int i = rowCount;
            rowCount++;
            setFigure(i, SORT, sort);
            setFigure(i, FIRST_BAR, firstBar);
            setFigure(i, BARS_LONG, barsLong);
            setFigure(i, NOTES_HELD, 0);
            setFigure(i, CUE_FROM, NONE);
            return i;
        }

        boolean isRowAlike(Part other, int i) {
            for (int what = 0; what < ROW_FIGURES; what++) {
                if (figure(i, what) != other.figure(i, what)) {
                    return false;
                }
            }
            return notes.isAlike(other.notes, i);
        }

        int firstUnlike(Part other) {
            int most = Math.max(rowCount, other.rowCount);
            for (int i = 0; i < most; i++) {
                if (!hasRow(i) || !other.hasRow(i) || !isRowAlike(other, i)) {
                    return i;
                }
            }
            return NONE;
        }

        /** Whether a PAGE may end beside this ROW, as its player has time to turn. */
        boolean isLongRest(int i) {
            return i >= 0 && i < rowCount && figures[i * ROW_FIGURES + SORT] == SORT_REST
                    && figures[i * ROW_FIGURES + BARS_LONG] >= 2;
        }
    }

    /** Makes PARTS of THE SCORE as it is. */
    private static final class Copyist {
        private Copyist() {
        }

        static void make(Score score, Voice player, Part part) {
            part.clear();
            int behind = 0;
            if (player.notes.total() == 0 && score.barCount > 0) {
                finishRow(score, player, part, part.addRow(SORT_TACET, 0, score.barCount));
                behind = score.barCount;
            }
            for (int bar = 0; bar < score.barCount; bar++) {
                if (bar >= behind) {
                    behind = bar + addRowAt(score, player, part, bar);
                }
            }
        }

        /** How many BARS the ROW has that begins here. */
        private static int addRowAt(Score score, Voice player, Part part, int bar) {
            int sort = SORT_NOTES;
            int barsLong = 1;
            Voice source = player;
            if (player.notes.size(bar) == 0) {
                source = score.cueFor(player, bar);
                sort = source == null ? SORT_REST : SORT_CUE;
            }
            if (sort == SORT_REST) {
                barsLong = restLength(score, player, bar);
            }
            int i = part.addRow(sort, bar, barsLong);
            if (source != null) {
                writeNotes(score, player, source, part, i);
            }
            if (source != null && sort == SORT_CUE) {
                part.setFigure(i, CUE_FROM, source.number);
            }
            finishRow(score, player, part, i);
            return barsLong;
        }

        private static int restLength(Score score, Voice player, int first) {
            int next = first + 1;
            while (next < score.barCount && player.notes.size(next) == 0
                    && !score.marks.isNeeded(next) && score.cueFor(player, next) == null) {
                next++;
            }
            return next - first;
        }

        private static void writeNotes(Score score, Voice player, Voice source, Part part, int i) {
            int bar = part.figure(i, FIRST_BAR);
            int key = score.marks.keyAt(bar);
            int held = source.notes.size(bar);
            for (int k = 0; k < held; k++) {
                part.notes.insert(i, source.notes.figure(bar, k, START), source.notes.figure(bar, k, LENGTH),
                        player.pitchFor(source.notes.figure(bar, k, PITCH)),
                        player.spellingFor(source.notes.figure(bar, k, SPELLING), key));
            }
            part.setFigure(i, NOTES_HELD, held);
        }

        private static void finishRow(Score score, Voice player, Part part, int i) {
            int bar = part.figure(i, FIRST_BAR);
            int needed = score.marks.isNeeded(bar) ? 1 : 0;
            part.setFigure(i, WIDTH, bareWidth(part, i) + needed);
            part.setFigure(i, ROW_KEY, player.keyFor(score.marks.keyAt(bar)));
        }

        private static int bareWidth(Part part, int i) {
            int starts = part.notes.unlikeStarts(i);
            switch (part.figure(i, SORT)) {
                case SORT_NOTES:
                    return 1 + starts;
                case SORT_CUE:
                    return 1 + (starts + 1) / 2;
                case SORT_REST:
                    return 2;
                default:
                    return 4;
            }
        }
    }

    /** SYSTEMS and PAGES of one PART. */
    private static final class Layout {
        // The first ROW of each SYSTEM, and behind the last one how many ROWS there are.
        private final int[] systemRows = new int[MOST_BARS + 1];
        private final int[] figures = new int[MOST_BARS * PAGE_FIGURES];
        private int systemCount;
        private int pageCount;

        void arrange(Part part, int wide, int high) {
            fillSystems(part, wide);
            pageCount = 0;
            int behind = 0;
            for (int system = 0; system < systemCount; system++) {
                if (system >= behind) {
                    behind = system + addPage(part, system, high);
                }
            }
        }

        int figure(int p, int what) {
            if (p < 0 || p >= pageCount || what < 0 || what >= PAGE_FIGURES) {
                return NONE;
            }
            return figures[p * PAGE_FIGURES + what];
        }

        private void fillSystems(Part part, int wide) {
            systemCount = 0;
            int used = 0;
            for (int i = 0; i < part.rowCount && i < MOST_BARS; i++) {
                int width = part.figure(i, WIDTH);
                if (i == 0 || used + width > wide) {
                    beginSystem(i);
                    used = 0;
                }
                used += width;
            }
            // One place is kept behind the last SYSTEM that there can be.
            systemRows[Math.min(systemCount, MOST_BARS)] = part.rowCount;
        }

        private void beginSystem(int row) {
            if (systemCount < MOST_BARS) {
                systemRows[systemCount] = row;
                systemCount++;
            }
        }

        /** How many SYSTEMS the PAGE has that begins with this one. */
        private int addPage(Part part, int system, int high) {
            int left = systemCount - system;
            if (left <= high) {
                putPage(system, left, 1);
                return left;
            }
            for (int held = high; held >= 1 && held >= high - 2; held--) {
                if (turnsWell(part, system + held)) {
                    putPage(system, held, 1);
                    return held;
                }
            }
            putPage(system, high, 0);
            return high;
        }

        private boolean turnsWell(Part part, int nextSystem) {
            int behind = rowAt(nextSystem);
            return part.isLongRest(behind - 1) || part.isLongRest(behind);
        }

        private void putPage(int system, int held, int turns) {
            if (pageCount >= MOST_BARS) {
                return;
            }
            int place = pageCount * PAGE_FIGURES;
            pageCount++;
            figures[place + FIRST_ROW] = rowAt(system);
            figures[place + ROWS_HELD] = rowAt(system + held) - rowAt(system);
            figures[place + SYSTEMS_HELD] = held;
            figures[place + TURNS] = turns;
        }

        private int rowAt(int system) {
            return system >= 0 && system <= systemCount ? systemRows[system] : NONE;
        }
    }
}
