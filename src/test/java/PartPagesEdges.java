// Each sentence of the document that names a boundary case which is no refusal of its own (those are in
// PartPagesRefusals): what is empty, full, first, last, just enough, one too few, or turned round.
// A method begins with the words that it tests.
public final class PartPagesEdges {
    private static final int NONE = PartPages.NONE;
    private static final int UNKNOWN = PartPages.UNKNOWN;
    private static final int OUTSIDE = PartPages.OUTSIDE;
    private static final int STATE = PartPages.STATE;
    private static final int ROOM = PartPages.ROOM;

    private static final String SORTS = "NRCT";

    private static String words = "";
    private static int wrong = 0;

    public static void main(String[] args) {
        theScore();
        theNotes();
        theMarks();
        theInstruments();
        theRows();
        theCues();
        theWidths();
        theSystems();
        thePages();
        theBook();
        thePartsAsTheyWere();
        twoVoices();
        thePromises();
        System.out.println(wrong == 0 ? "all edges are as due" : wrong + " answers are not as due");
        if (wrong != 0) {
            System.exit(1);
        }
    }

    private static void theScore() {
        voicesAsTheyCome();
        barsUpToForty();
        fiveHundredAndTwelveCalls();
    }

    private static void theNotes() {
        eightNotes();
        startsAndLengths();
        pitches();
        spellings();
        noTwoOfOneStartAndPitch();
        orderOfNotes();
        emptyForAVoice();
    }

    private static void theMarks() {
        oneOfEachKind();
        valuesOfMarks();
        playersNeedAllButWords();
        latestKey();
    }

    private static void theInstruments() {
        instrumentAtFirst();
        pitchesWritten();
        keysWritten();
        spellingsWritten();
        spellingsTurnedRound();
    }

    private static void theRows() {
        tacetRow();
        notesRows();
        restsJoined();
        restsParted();
    }

    private static void theCues() {
        cueTellsTheLastEmptyBar();
        asManyAsCueing();
        cueingAtItsBounds();
        anotherVoiceThere();
        cueFromTheFullest();
        cueWritten();
    }

    private static void theWidths() {
        widthOfNotes();
        widthOfRestAndTacet();
        widthOfCue();
        oneMoreForMarks();
    }

    private static void theSystems() {
        notAboveWide();
        widerStandsAlone();
        wideAndHighAtFirst();
    }

    private static void thePages() {
        allThatAreLeft();
        highOneOrTwoLess();
        oneAtLeast();
        theMostThatTurns();
        restOfTwoBars();
        onlyRowsBesideTheTurn();
        noRowsNoPages();
        fortySystems();
    }

    private static void theBook() {
        oddNumbers();
        onlyPartsThatAreMade();
        bookWithoutPages();
        fullBook();
    }

    private static void thePartsAsTheyWere() {
        partStays();
        pagesAreAsTheyAre();
    }

    private static void twoVoices() {
        bothEmptyOrOneAlone();
        unison();
        joined();
        divided();
    }

    private static void thePromises() {
        newObject();
        barsGoAndCome();
        dropped();
        markInPlace();
        unmarked();
        instrumentInPlace();
        cueingWas();
        extractAnew();
        rowFigures();
        writtenBelowZero();
        unlikeFirst();
        unlikeThereOrNot();
        renewedPages();
        renewedByPresentLayout();
        renewedTurnsAndBook();
        tacetOrNot();
        layAll();
        togetherBars();
        counts();
    }

    // ---- helpers

    private static void says(String document) {
        words = document;
    }

    private static void due(String call, int want, int got) {
        if (got != want) {
            wrong++;
            System.out.println("\"" + words + "\": " + call + " answered " + got + ", due is " + want);
        }
    }

    private static void due(String call, String want, String got) {
        if (!got.equals(want)) {
            wrong++;
            System.out.println("\"" + words + "\": " + call + " is [" + got + "], due is [" + want + "]");
        }
    }

    private static PartPages empty(int voices, int bars) {
        PartPages x = new PartPages();
        for (int v = 0; v < voices; v++) {
            x.voice();
        }
        x.bars(bars);
        return x;
    }

    /** VOICES of letters, one a BAR: '.' is EMPTY, a digit has that many NOTES, at unlike STARTS. */
    private static PartPages score(String... voices) {
        PartPages x = empty(voices.length, voices[0].length());
        for (int v = 0; v < voices.length; v++) {
            for (int bar = 0; bar < voices[v].length(); bar++) {
                if (voices[v].charAt(bar) != '.') {
                    fill(x, v, bar, voices[v].charAt(bar) - '0');
                }
            }
        }
        return x;
    }

    private static void fill(PartPages x, int voice, int bar, int many) {
        for (int k = 0; k < many; k++) {
            due("note " + k, k + 1, x.note(voice, bar, 6 * k, 6, 60, 0));
        }
    }

    private static String times(String text, int many) {
        return text.repeat(many);
    }

    /** A PART made now: of each ROW its sort, first BAR, BARS, and the VOICE of a CUE. */
    private static String made(PartPages x, int voice) {
        int rows = x.extract(voice);
        String text = standing(x, voice);
        due("extract", text.isEmpty() ? 0 : text.split(" ").length, rows);
        return text;
    }

    private static String standing(PartPages x, int voice) {
        StringBuilder text = new StringBuilder();
        for (int i = 0; x.row(voice, i, 0) != UNKNOWN; i++) {
            text.append(i == 0 ? "" : " ").append(SORTS.charAt(x.row(voice, i, 0)));
            text.append(x.row(voice, i, 1)).append('x').append(x.row(voice, i, 2));
            if (x.row(voice, i, 6) != NONE) {
                text.append('<').append(x.row(voice, i, 6));
            }
        }
        return text.toString();
    }

    /** Of each PAGE its first ROW, ROWS, SYSTEMS, and whether it turns. */
    private static String laid(PartPages x, int voice, int wide, int high) {
        x.lay(wide, high);
        StringBuilder text = new StringBuilder();
        int pages = x.pages(voice);
        for (int p = 0; p < pages; p++) {
            text.append(p == 0 ? "" : " ").append(x.page(voice, p, 0)).append(':').append(x.page(voice, p, 1));
            text.append(':').append(x.page(voice, p, 2)).append(x.page(voice, p, 3) == 1 ? "t" : "-");
        }
        due("the page behind the last", UNKNOWN, x.page(voice, pages, 0));
        return text.toString();
    }

    private static String laidAnew(PartPages x, int wide, int high) {
        x.extract(0);
        return laid(x, 0, wide, high);
    }

    private static String note(PartPages x, int voice, int i, int k) {
        return x.written(voice, i, k, 0) + " " + x.written(voice, i, k, 1) + " " + x.written(voice, i, k, 2) + " "
                + x.written(voice, i, k, 3);
    }

    // ---- the score

    private static void voicesAsTheyCome() {
        says("VOICES 0, 1, .. as they come, 6 at most");
        PartPages x = new PartPages();
        for (int v = 0; v < 6; v++) {
            due("tacet ahead of voice " + v, UNKNOWN, x.tacet(v));
            due("voice", v, x.voice());
            due("tacet behind voice " + v, 1, x.tacet(v));
            due("count", v + 1, x.count(0));
        }
        due("a seventh", ROOM, x.voice());
        due("a seventh, again", ROOM, x.voice());
        due("count", 6, x.count(0));
        due("tacet of a seventh", UNKNOWN, x.tacet(6));
    }

    private static void barsUpToForty() {
        says("B BARS (0 at first, 40 at most), 0 .. B - 1, the same for all");
        PartPages x = empty(6, 0);
        due("count at first", 0, x.count(1));
        due("bar 0 at first", UNKNOWN, x.drop(0, 0));
        due("bars at first", 0, x.bars(1));
        for (int v = 0; v < 6; v++) {
            due("bar 0 of 1", 1, x.note(v, 0, 0, 1, 60, 0));
            due("bar 1 of 1", UNKNOWN, x.note(v, 1, 0, 1, 60, 0));
        }
        due("bars", 1, x.bars(40));
        due("41", OUTSIDE, x.bars(41));
        for (int v = 0; v < 6; v++) {
            due("bar 39 of 40", 1, x.note(v, 39, 0, 1, 60, 0));
            due("bar 40 of 40", UNKNOWN, x.note(v, 40, 0, 1, 60, 0));
            due("bar -1", UNKNOWN, x.note(v, -1, 0, 1, 60, 0));
        }
        due("count", 40, x.count(1));
        due("a mark in bar 39", NONE, x.mark(39, 0, 0));
        due("a mark in bar 40", UNKNOWN, x.mark(40, 0, 0));
    }

    private static void fiveHundredAndTwelveCalls() {
        says("An object is used for at most 512 calls after it has been made");
        PartPages x = new PartPages();
        x.voice();
        x.bars(40);
        for (int bar = 0; bar < 40; bar++) {
            fill(x, 0, bar, 8);
        }
        // 322 calls so far.
        due("extract", 40, x.extract(0));
        for (int call = 324; call < 512; call++) {
            due("call " + call, NONE, x.unlike(0));
        }
        due("call 512", 320, x.count(2));
    }

    // ---- notes

    private static void eightNotes() {
        says("A NOTE of a VOICE in a BAR (8 at most)");
        PartPages x = score("88", "7.");
        due("a ninth", ROOM, x.note(0, 0, 47, 1, 60, 0));
        due("a ninth in the last bar", ROOM, x.note(0, 1, 47, 1, 60, 0));
        due("an eighth of another voice", 8, x.note(1, 0, 47, 1, 60, 0));
        due("its ninth", ROOM, x.note(1, 0, 46, 1, 60, 0));
        due("a first one elsewhere", 1, x.note(1, 1, 47, 1, 60, 0));
        due("drop", 8, x.drop(0, 0));
        due("room again", 1, x.note(0, 0, 47, 1, 60, 0));
        due("all", 18, x.count(2));
    }

    private static void startsAndLengths() {
        says("a START (0 .. 47), a LENGTH (1 .. 48 less START)");
        for (int start = 0; start < 48; start++) {
            PartPages x = empty(1, 1);
            due("length 0 at " + start, OUTSIDE, x.note(0, 0, start, 0, 60, 0));
            due("too long at " + start, OUTSIDE, x.note(0, 0, start, 49 - start, 60, 0));
            due("longest at " + start, 1, x.note(0, 0, start, 48 - start, 60, 0));
            due("shortest at " + start, 2, x.note(0, 0, start, 1, 72, 0));
            x.extract(0);
            due("longest at " + start, start + " " + (48 - start) + " 60 0", note(x, 0, 0, 0));
            due("shortest at " + start, start + " 1 72 0", note(x, 0, 0, 1));
        }
        PartPages x = empty(1, 1);
        due("start -1", OUTSIDE, x.note(0, 0, -1, 1, 60, 0));
        due("start 48", OUTSIDE, x.note(0, 0, 48, 1, 60, 0));
        due("start 48 without length", OUTSIDE, x.note(0, 0, 48, 0, 60, 0));
    }

    private static void pitches() {
        says("a PITCH (0 .. 127)");
        PartPages x = empty(1, 1);
        due("-1", OUTSIDE, x.note(0, 0, 0, 1, -1, 5));
        due("128", OUTSIDE, x.note(0, 0, 0, 1, 128, 8));
        due("0", 1, x.note(0, 0, 0, 1, 0, 0));
        due("127", 2, x.note(0, 0, 0, 1, 127, 1));
        x.extract(0);
        due("0", "0 1 0 0", note(x, 0, 0, 0));
        due("127", "0 1 127 1", note(x, 0, 0, 1));
    }

    private static void spellings() {
        says("a SPELLING: - 15 .. 19, by fifths, 7 times which is as PITCH modulo 12");
        int[] pitchOf = {0, 7, 2, 9, 4, 11, 6, 1, 8, 3, 10, 5};
        for (int spelling = -16; spelling <= 20; spelling++) {
            PartPages x = empty(1, 1);
            boolean isSpelling = spelling >= -15 && spelling <= 19;
            int own = 48 + pitchOf[(spelling + 24) % 12];
            for (int pitch = 48; pitch < 60; pitch++) {
                int want = isSpelling && pitch == own ? 1 : OUTSIDE;
                due("pitch " + pitch + " as " + spelling, want, x.note(0, 0, 0, 1, pitch, spelling));
            }
            if (isSpelling) {
                x.extract(0);
                due("written", "0 1 " + own + " " + spelling, note(x, 0, 0, 0));
            }
        }
    }

    private static void noTwoOfOneStartAndPitch() {
        says("No two have one START and PITCH there.");
        PartPages x = empty(2, 2);
        due("first", 1, x.note(0, 0, 0, 12, 60, 0));
        due("the same", STATE, x.note(0, 0, 0, 12, 60, 0));
        due("longer", STATE, x.note(0, 0, 0, 48, 60, 0));
        due("spelled otherwise", STATE, x.note(0, 0, 0, 12, 60, -12));
        due("another start", 2, x.note(0, 0, 1, 12, 60, 0));
        due("another pitch", 3, x.note(0, 0, 0, 12, 72, 0));
        due("the same of these", STATE, x.note(0, 0, 1, 12, 60, 0));
        due("the same of these", STATE, x.note(0, 0, 0, 12, 72, 0));
        due("another bar", 1, x.note(0, 1, 0, 12, 60, 0));
        due("another voice", 1, x.note(1, 0, 0, 12, 60, 0));
        due("drop", 3, x.drop(0, 0));
        due("not there any more", 1, x.note(0, 0, 0, 12, 60, 0));
    }

    private static void orderOfNotes() {
        says("They are in order by START, then PITCH.");
        int[] startOf = {0, 0, 0, 5, 5, 46, 47, 47};
        int[] pitchOf = {0, 60, 120, 0, 12, 108, 0, 120};
        // Each step goes through all eight, from the first to the last, from the last to the first, and across.
        for (int step = 1; step < 8; step += 2) {
            for (int first = 0; first < 8; first++) {
                PartPages x = empty(1, 1);
                for (int k = 0; k < 8; k++) {
                    int n = (first + step * k) % 8;
                    x.note(0, 0, startOf[n], 1, pitchOf[n], 0);
                }
                x.extract(0);
                for (int n = 0; n < 8; n++) {
                    due("note " + n, startOf[n] + " 1 " + pitchOf[n] + " 0", note(x, 0, 0, n));
                }
            }
        }
    }

    private static void emptyForAVoice() {
        says("A BAR is EMPTY (for a VOICE), if it has none of its NOTES.");
        PartPages x = score("1.", ".1");
        due("part 0", "N0x1 R1x1", made(x, 0));
        due("part 1", "R0x1 N1x1", made(x, 1));
        x.drop(0, 0);
        fill(x, 0, 1, 1);
        due("part 0", "R0x1 N1x1", made(x, 0));
    }

    // ---- marks

    private static void oneOfEachKind() {
        says("MARKS stand at a BAR's beginning, one of each KIND at most");
        PartPages x = empty(0, 2);
        for (int kind = 0; kind <= 4; kind++) {
            due("kind " + kind, NONE, x.mark(0, kind, kind));
            due("count", kind + 1, x.count(5));
            due("kind " + kind + " again", kind, x.mark(0, kind, kind + 1));
            due("count", kind + 1, x.count(5));
        }
        due("another bar", NONE, x.mark(1, 0, 0));
        due("count", 6, x.count(5));
        for (int kind = 0; kind <= 4; kind++) {
            due("unmark " + kind, kind + 1, x.unmark(0, kind));
        }
        due("count", 1, x.count(5));
    }

    private static void valuesOfMarks() {
        says("0 KEY (- 7 .. 7), 1 TEMPO, 2 LETTER, 3 LINE, 4 WORD (1 to 4: 0 .. 999)");
        PartPages x = empty(0, 40);
        for (int kind = 0; kind <= 4; kind++) {
            int least = kind == 0 ? -7 : 0;
            int most = kind == 0 ? 7 : 999;
            due("below of " + kind, OUTSIDE, x.mark(39, kind, least - 1));
            due("above of " + kind, OUTSIDE, x.mark(39, kind, most + 1));
            due("least of " + kind, NONE, x.mark(39, kind, least));
            due("below of " + kind, OUTSIDE, x.mark(39, kind, least - 1));
            due("most of " + kind, least, x.mark(39, kind, most));
            due("above of " + kind, OUTSIDE, x.mark(39, kind, most + 1));
            due("unmark", most, x.unmark(39, kind));
        }
        due("kind -1", OUTSIDE, x.mark(39, -1, 0));
        due("kind 5", OUTSIDE, x.mark(39, 5, 0));
        due("count", 0, x.count(5));
    }

    private static void playersNeedAllButWords() {
        says("Players NEED all but WORDS.");
        for (int kind = 0; kind <= 4; kind++) {
            PartPages x = score("..1");
            x.mark(1, kind, 0);
            due("a rest over kind " + kind, kind == 4 ? "R0x2 N2x1" : "R0x1 R1x1 N2x1", made(x, 0));
            x.mark(2, kind, 0);
            x.extract(0);
            due("width with kind " + kind, kind == 4 ? 2 : 3, x.row(0, kind == 4 ? 1 : 2, 3));
        }
        PartPages x = score("..1");
        x.mark(1, 4, 0);
        x.mark(1, 3, 0);
        due("a word beside a line", "R0x1 R1x1 N2x1", made(x, 0));
    }

    private static void latestKey() {
        says("A BAR's KEY is that of the latest KEY MARK there or before; 0 without.");
        PartPages x = score(times("1", 40));
        x.extract(0);
        due("bar 0 without", 0, x.row(0, 0, 4));
        due("bar 39 without", 0, x.row(0, 39, 4));
        x.mark(1, 0, -7);
        x.mark(38, 0, 0);
        x.mark(39, 0, 7);
        x.extract(0);
        due("before the first", 0, x.row(0, 0, 4));
        due("there", -7, x.row(0, 1, 4));
        due("behind", -7, x.row(0, 37, 4));
        due("a key of 0 is one, too", 0, x.row(0, 38, 4));
        due("in the last bar", 7, x.row(0, 39, 4));
        x.unmark(38, 0);
        x.mark(38, 1, 3);
        x.extract(0);
        due("other marks are no keys", -7, x.row(0, 38, 4));
        x.mark(0, 0, 3);
        x.unmark(1, 0);
        x.extract(0);
        due("from the first bar up to the last but one", 3, x.row(0, 38, 4));
    }

    // ---- instruments

    private static void instrumentAtFirst() {
        says("FIFTHS - 6 .. 6 and OCTAVES - 2 .. 2, at first 0");
        PartPages x = score("1");
        x.mark(0, 0, 5);
        x.extract(0);
        due("note at first", "0 6 60 0", note(x, 0, 0, 0));
        due("key at first", 5, x.row(0, 0, 4));
        int[][] corners = {{-6, -2, 42}, {-6, 2, 90}, {6, -2, 42}, {6, 2, 90}};
        for (int[] corner : corners) {
            due("instrument", 1, x.instrument(0, corner[0], corner[1]));
            x.extract(0);
            due("pitch", corner[2], x.written(0, 0, 0, 2));
            // KEY 5 and FIFTHS 6 go above 7, so both are 12 less; with FIFTHS - 6 they stay within.
            due("spelling", -6, x.written(0, 0, 0, 3));
            due("key", -1, x.row(0, 0, 4));
        }
        due("fifths -7", OUTSIDE, x.instrument(0, -7, 0));
        due("fifths 7", OUTSIDE, x.instrument(0, 7, 0));
        due("octaves -3", OUTSIDE, x.instrument(0, 0, -3));
        due("octaves 3", OUTSIDE, x.instrument(0, 0, 3));
        due("still the last one", NONE, x.unlike(0));
    }

    private static void pitchesWritten() {
        says("PITCH is more by 7 FIFTHS modulo 12, taken as - 5 .. 6, and 12 OCTAVES (it may be any number then).");
        int[] more = {6, 1, -4, 3, -2, 5, 0, -5, 2, -3, 4, -1, 6};
        for (int fifths = -6; fifths <= 6; fifths++) {
            PartPages x = empty(1, 1);
            x.note(0, 0, 0, 1, 0, 0);
            x.note(0, 0, 0, 1, 127, 1);
            for (int octaves = -2; octaves <= 2; octaves++) {
                x.instrument(0, fifths, octaves);
                x.extract(0);
                due(fifths + " " + octaves + " of 0", more[fifths + 6] + 12 * octaves, x.written(0, 0, 0, 2));
                due(fifths + " " + octaves + " of 127", 127 + more[fifths + 6] + 12 * octaves, x.written(0, 0, 1, 2));
            }
        }
        PartPages x = empty(1, 1);
        x.note(0, 0, 0, 1, 0, 0);
        x.instrument(0, 1, -2);
        x.extract(0);
        due("the least of all", -29, x.written(0, 0, 0, 2));
        x.drop(0, 0);
        x.note(0, 0, 0, 1, 127, 1);
        x.instrument(0, -6, 2);
        x.extract(0);
        due("the most of all", 157, x.written(0, 0, 0, 2));
    }

    private static void keysWritten() {
        says("A BAR's KEY is more by FIFTHS; above 7 it is 12 less, below - 7 it is 12 more.");
        int[][] edges = {{7, 0, 7}, {1, 6, 7}, {2, 6, -4}, {7, 1, -4}, {7, 6, 1}, {-7, 0, -7}, {-1, -6, -7}, {-2, -6, 4},
            {-7, -1, 4}, {-7, -6, -1}, {7, -6, 1}, {-7, 6, -1}};
        for (int[] edge : edges) {
            PartPages x = score("1");
            x.mark(0, 0, edge[0]);
            x.instrument(0, edge[1], 0);
            x.extract(0);
            due("key " + edge[0] + " by " + edge[1], edge[2], x.row(0, 0, 4));
        }
        for (int key = -7; key <= 7; key++) {
            PartPages x = score("1");
            x.mark(0, 0, key);
            for (int fifths = -6; fifths <= 6; fifths++) {
                x.instrument(0, fifths, 0);
                x.extract(0);
                due("key " + key + " by " + fifths, keyOf(key, fifths), x.row(0, 0, 4));
            }
        }
    }

    private static int keyOf(int key, int fifths) {
        int sum = key + fifths;
        return sum > 7 ? sum - 12 : sum < -7 ? sum + 12 : sum;
    }

    private static void spellingsWritten() {
        says("SPELLING is more by FIFTHS, and by what the KEY of its BAR was made less or more so");
        // KEY, FIFTHS, SPELLING and what that is then.
        int[][] edges = {{1, 6, 0, 6}, {2, 6, 0, -6}, {7, 1, 0, -11}, {6, 1, 0, 1}, {-1, -6, 0, -6}, {-2, -6, 0, 6},
            {-7, -1, 0, 11}, {-6, -1, 0, -1}};
        for (int[] edge : edges) {
            due("key " + edge[0] + " fifths " + edge[1], edge[3], spelled(edge[0], edge[1], edge[2]));
        }
        PartPages x = score("111");
        x.mark(1, 0, 7);
        x.mark(2, 0, 6);
        x.instrument(0, 1, 0);
        x.extract(0);
        due("without a key", 1, x.written(0, 0, 0, 3));
        due("by the key of its own bar", -11, x.written(0, 1, 0, 3));
        due("by the key of its own bar", 1, x.written(0, 2, 0, 3));
    }

    private static int spelled(int key, int fifths, int spelling) {
        PartPages x = empty(1, 1);
        x.mark(0, 0, key);
        x.instrument(0, fifths, 0);
        x.note(0, 0, 0, 1, 60 + Math.floorMod(7 * spelling, 12), spelling);
        x.extract(0);
        return x.written(0, 0, 0, 3);
    }

    private static void spellingsTurnedRound() {
        says("then, as long as it is above 19, 12 less, below - 15, 12 more");
        int[][] edges = {{0, 0, 19, 19}, {0, 1, 18, 19}, {0, 1, 19, 8}, {0, 6, 13, 19}, {0, 6, 14, 8}, {0, 6, 19, 13},
            {0, 0, -15, -15}, {0, -1, -14, -15}, {0, -1, -15, -4}, {0, -6, -9, -15}, {0, -6, -10, -4}, {0, -6, -15, -9},
            // The KEY's turn brings it beyond, or keeps it within.
            {-7, -1, 8, 19}, {-7, -1, 9, 8}, {-7, -1, 19, 18}, {7, 1, -4, -15}, {7, 1, -5, -4}, {7, 1, -15, -14},
            {7, 6, 19, 13}, {-7, -6, -15, -9}, {-7, -6, 19, 13}, {7, 6, -15, -9}};
        for (int[] edge : edges) {
            due("key " + edge[0] + " fifths " + edge[1] + " spelling " + edge[2], edge[3],
                    spelled(edge[0], edge[1], edge[2]));
        }
        for (int key = -7; key <= 7; key++) {
            for (int fifths = -6; fifths <= 6; fifths++) {
                for (int spelling = -15; spelling <= 19; spelling++) {
                    int sum = spelling + keyOf(key, fifths) - key;
                    int want = sum > 19 ? sum - 12 : sum < -15 ? sum + 12 : sum;
                    due("key " + key + " fifths " + fifths + " spelling " + spelling, want, spelled(key, fifths, spelling));
                }
            }
        }
    }

    // ---- rows

    private static void tacetRow() {
        says("a VOICE without any NOTES has one of sort 3, TACET: BAR 0, B BARS (no ROW, if B is 0)");
        PartPages x = empty(2, 0);
        due("no bars", "", made(x, 0));
        x.bars(1);
        due("one bar", "T0x1", made(x, 0));
        x.bars(40);
        fill(x, 1, 39, 8);
        x.mark(0, 1, 0);
        x.mark(20, 1, 0);
        x.cueing(1);
        due("forty, whatever marks and others have", "T0x40", made(x, 0));
        due("no notes", 0, x.row(0, 0, 5));
        due("no note", UNKNOWN, x.written(0, 0, 0, 0));
        fill(x, 0, 39, 1);
        due("one note is enough", "R0x20 R20x19 N39x1", made(x, 0));
        x.bars(39);
        due("it has gone with its bar", "T0x39", made(x, 0));
        x.bars(0);
        due("no bars again", "", made(x, 0));
    }

    private static void notesRows() {
        says("a BAR that is not EMPTY is one of sort 0, NOTES");
        due("one bar", "N0x1", made(score("1"), 0));
        due("like bars are not joined", "N0x1 N1x1 N2x1", made(score("111"), 0));
        PartPages x = score(times("1", 40));
        due("forty", 40, x.extract(0));
        due("the last", 39, x.row(0, 39, 1));
        due("none behind", UNKNOWN, x.row(0, 40, 0));
    }

    private static void restsJoined() {
        says("EMPTY BARS are one of sort 1, REST: from one on, as long as the next BAR is EMPTY, too");
        due("ahead", "R0x2 N2x1", made(score("..1"), 0));
        due("behind, to the last", "N0x1 R1x2", made(score("1.."), 0));
        due("amid", "N0x1 R1x1 N2x1", made(score("1.1"), 0));
        due("39 of them", "R0x39 N39x1", made(score(times(".", 39) + "1"), 0));
        due("39 of them", "N0x1 R1x39", made(score("1" + times(".", 39)), 0));
        due("every other", "R0x1 N1x1 R2x1 N3x1 R4x1", made(score(".1.1."), 0));
    }

    private static void restsParted() {
        says("as long as the next BAR has no MARK that players NEED, and is not told by a CUE");
        PartPages x = score("....1");
        x.mark(0, 2, 0);
        due("at its own first bar", "R0x4 N4x1", made(x, 0));
        x.mark(3, 2, 0);
        due("at its last", "R0x3 R3x1 N4x1", made(x, 0));
        x.mark(1, 2, 0);
        x.mark(2, 2, 0);
        due("at each", "R0x1 R1x1 R2x1 R3x1 N4x1", made(x, 0));
        x = score("....1", "...1.");
        x.cueing(4);
        due("up to a cue", "R0x3 C3x1<1 N4x1", made(x, 0));
        x.mark(3, 0, 0);
        due("a cue at a mark", "R0x3 C3x1<1 N4x1", made(x, 0));
        x.mark(2, 0, 0);
        due("a mark just ahead of a cue", "R0x2 R2x1 C3x1<1 N4x1", made(x, 0));
        x.mark(4, 0, 0);
        due("a mark at the entry", "R0x2 R2x1 C3x1<1 N4x1", made(x, 0));
    }

    // ---- cues

    private static void cueTellsTheLastEmptyBar() {
        says("A CUE, sort 2, tells one EMPTY BAR: the last one ahead of a BAR that is not EMPTY");
        PartPages x = score("1........1........", "222222222222222222");
        due("eight empty at the end are ahead of none", "N0x1 R1x7 C8x1<1 N9x1 R10x8", made(x, 0));
        due("another is never empty", 18, x.extract(1));
        x = score("1.1..1...1", "2222222222");
        x.cueing(1);
        due("each one", "N0x1 C1x1<1 N2x1 R3x1 C4x1<1 N5x1 R6x2 C8x1<1 N9x1", made(x, 0));
        x = score(".1", "1.");
        x.cueing(1);
        due("in bar 0", "C0x1<1 N1x1", made(x, 0));
        due("in the last bar of all", "N0x1 R1x1", made(x, 1));
    }

    private static void asManyAsCueing() {
        says("if as many as CUEING (8 at first) or more are EMPTY one behind the other up to it");
        due("7 at first", "R0x7 N7x1", made(score(".......1", "11111111"), 0));
        due("8 at first", "R0x7 C7x1<1 N8x1", made(score("........1", "111111111"), 0));
        due("9 at first", "R0x8 C8x1<1 N9x1", made(score(".........1", "1111111111"), 0));
        due("8 behind a note", "N0x1 R1x7 C8x1<1 N9x1", made(score("1........1", "1111111111"), 0));
        due("7 behind a note", "N0x1 R1x7 N8x1", made(score("1.......1", "111111111"), 0));
        due("8, but not one behind the other", "R0x4 N4x1 R5x4 N9x1", made(score("....1....1", "1111111111"), 0));
        PartPages x = score("........1", "111111111");
        x.mark(4, 2, 0);
        due("a mark parts rests, not what is empty", "R0x4 R4x3 C7x1<1 N8x1", made(x, 0));
        x = score("...1", "1111");
        x.cueing(4);
        due("one too few", "R0x3 N3x1", made(x, 0));
        x.cueing(3);
        due("just as many", "R0x2 C2x1<1 N3x1", made(x, 0));
        x.cueing(2);
        due("more", "R0x2 C2x1<1 N3x1", made(x, 0));
    }

    private static void cueingAtItsBounds() {
        says("CUEING, 1 .. 40");
        PartPages x = score(times(".", 39) + "1", times("1", 40));
        due("was", 8, x.cueing(40));
        due("40 are never ahead of one", "R0x39 N39x1", made(x, 0));
        due("was", 40, x.cueing(39));
        due("39 are", "R0x38 C38x1<1 N39x1", made(x, 0));
        due("41", OUTSIDE, x.cueing(41));
        due("0", OUTSIDE, x.cueing(0));
        due("was", 39, x.cueing(1));
        due("from one on", "R0x38 C38x1<1 N39x1", made(x, 0));
        due("was", 1, x.cueing(1));
    }

    private static void anotherVoiceThere() {
        says("and another VOICE is not EMPTY there");
        PartPages x = score("..1", "1.1");
        x.cueing(1);
        due("elsewhere only", "R0x2 N2x1", made(x, 0));
        fill(x, 1, 1, 1);
        due("there", "R0x1 C1x1<1 N2x1", made(x, 0));
        x.drop(1, 1);
        due("no longer", "R0x2 N2x1", made(x, 0));
        x = score("..1");
        x.cueing(1);
        due("no other at all", "R0x2 N2x1", made(x, 0));
        x = score("..1", "...", "...", "...", "...", ".1.");
        x.cueing(1);
        due("the last of six", "R0x1 C1x1<5 N2x1", made(x, 0));
        x = score(".1.", "...", "...", "...", "...", "..1");
        x.cueing(1);
        due("the first of six", "R0x1 C1x1<0 N2x1", made(x, 5));
    }

    private static void cueFromTheFullest() {
        says("it is from the one with the most NOTES there, of like ones the least");
        PartPages x = score("2.", "3.", ".1", "3.", "8.", "8.");
        x.cueing(1);
        due("4 before 5", "C0x1<4 N1x1", made(x, 2));
        due("all of its notes", 8, x.row(2, 0, 5));
        x.drop(4, 0);
        due("5", "C0x1<5 N1x1", made(x, 2));
        x.drop(5, 0);
        due("1 before 3", "C0x1<1 N1x1", made(x, 2));
        x.drop(1, 0);
        due("3 has more than 0", "C0x1<3 N1x1", made(x, 2));
        due("its notes", 3, x.row(2, 0, 5));
        x.drop(3, 0);
        due("0", "C0x1<0 N1x1", made(x, 2));
        x.drop(0, 0);
        due("none", "R0x1 N1x1", made(x, 2));
        x = empty(3, 2);
        x.cueing(1);
        fill(x, 0, 1, 1);
        fill(x, 1, 0, 2);
        for (int k = 0; k < 3; k++) {
            x.note(2, 0, 0, 48, 48 + 12 * k, 0);
        }
        due("the most notes, not starts", "C0x1<2 N1x1", made(x, 0));
    }

    private static void cueWritten() {
        says("NOTES of a ROW (sorts 0, 2) are WRITTEN for the PART's VOICE, in order by START, then PITCH.");
        PartPages x = empty(2, 2);
        x.cueing(1);
        x.instrument(0, 2, -1);
        x.instrument(1, -3, 2);
        x.mark(0, 0, 6);
        fill(x, 0, 1, 1);
        x.note(1, 0, 24, 24, 60, 0);
        x.note(1, 0, 0, 24, 64, 4);
        x.note(1, 0, 0, 12, 52, 4);
        due("part", "C0x1<1 N1x1", made(x, 0));
        due("key, 6 and 2 made 12 less", -4, x.row(0, 0, 4));
        due("notes", 3, x.row(0, 0, 5));
        due("first", "0 12 42 -6", note(x, 0, 0, 0));
        due("second", "0 24 54 -6", note(x, 0, 0, 1));
        due("third", "24 24 50 -10", note(x, 0, 0, 2));
        due("a fourth", UNKNOWN, x.written(0, 0, 3, 0));
        due("own note", "0 6 50 -10", note(x, 0, 1, 0));
    }

    // ---- widths

    private static void widthOfNotes() {
        says("WIDTH of a ROW: of NOTES 1 and how many unlike STARTS they have");
        for (int many = 1; many <= 8; many++) {
            PartPages x = score("" + many);
            x.extract(0);
            due(many + " starts", 1 + many, x.row(0, 0, 3));
        }
        PartPages x = empty(1, 1);
        for (int k = 0; k < 8; k++) {
            x.note(0, 0, 47, 1, 12 * k, 0);
            x.extract(0);
            due("one start of " + (k + 1) + " notes", 2, x.row(0, 0, 3));
        }
        x.drop(0, 0);
        for (int k = 0; k < 8; k++) {
            x.note(0, 0, k % 2 * 47, 1, 12 * k, 0);
        }
        x.extract(0);
        due("two starts of 8 notes", 3, x.row(0, 0, 3));
    }

    private static void widthOfRestAndTacet() {
        says("of a REST 2; of TACET 4");
        PartPages x = score("1" + times(".", 39));
        x.extract(0);
        due("a rest of 39", 2, x.row(0, 1, 3));
        x.bars(2);
        x.extract(0);
        due("a rest of 1", 2, x.row(0, 1, 3));
        x.drop(0, 0);
        x.extract(0);
        due("tacet of 2", 4, x.row(0, 0, 3));
        x.bars(1);
        x.extract(0);
        due("tacet of 1", 4, x.row(0, 0, 3));
        x.bars(40);
        x.mark(1, 1, 0);
        x.extract(0);
        due("tacet of 40, a mark behind its first bar", 4, x.row(0, 0, 3));
    }

    private static void widthOfCue() {
        says("of a CUE 1 and half of its unlike STARTS, rounded up");
        int[] wide = {0, 2, 2, 3, 3, 4, 4, 5, 5};
        for (int many = 1; many <= 8; many++) {
            PartPages x = score(".1", many + ".");
            x.cueing(1);
            x.extract(0);
            due("sort", 2, x.row(0, 0, 0));
            due(many + " starts", wide[many], x.row(0, 0, 3));
        }
        PartPages x = score(".1", "2.");
        x.cueing(1);
        x.note(1, 0, 0, 1, 0, 0);
        x.note(1, 0, 6, 1, 0, 0);
        x.extract(0);
        due("4 notes at 2 starts", 2, x.row(0, 0, 3));
        x.note(1, 0, 47, 1, 0, 0);
        x.extract(0);
        due("5 notes at 3 starts", 3, x.row(0, 0, 3));
    }

    private static void oneMoreForMarks() {
        says("and 1 more if players NEED a MARK at its first BAR");
        PartPages x = score("1....1", "....8.");
        x.cueing(4);
        for (int bar = 0; bar < 6; bar++) {
            x.mark(bar, 4, 1);
        }
        int[] without = {2, 2, 5, 2};
        x.extract(0);
        for (int i = 0; i < 4; i++) {
            due("words, row " + i, without[i], x.row(0, i, 3));
        }
        int[] firstBars = {0, 1, 4, 5};
        for (int i = 0; i < 4; i++) {
            for (int kind = 0; kind <= 3; kind++) {
                x.mark(firstBars[i], kind, 0);
                x.extract(0);
                // However many there are.
                due("row " + i + " with kind " + kind, without[i] + 1, x.row(0, i, 3));
            }
        }
        PartPages silent = empty(1, 2);
        silent.mark(0, 4, 0);
        silent.extract(0);
        due("tacet beside a word", 4, silent.row(0, 0, 3));
        silent.mark(0, 3, 0);
        silent.extract(0);
        due("tacet", 5, silent.row(0, 0, 3));
    }

    // ---- systems; with HIGH 1 each is a page

    private static void notAboveWide() {
        says("one more as long as their WIDTHS together are not above WIDE");
        PartPages x = score("33333");
        due("8 of 8", "0:2:1- 2:2:1- 4:1:1t", laidAnew(x, 8, 1));
        due("11 of 12", "0:2:1- 2:2:1- 4:1:1t", laid(x, 0, 11, 1));
        due("12 of 12", "0:3:1- 3:2:1t", laid(x, 0, 12, 1));
        due("19 of 20", "0:4:1- 4:1:1t", laid(x, 0, 19, 1));
        due("20 of 20", "0:5:1t", laid(x, 0, 20, 1));
        x = score("2432");
        due("3 and 5 are 8; 4 and 3 are 7", "0:2:1- 2:2:1t", laidAnew(x, 8, 1));
        x.mark(2, 1, 0);
        due("5 and 3 are 8", "0:2:1- 2:2:1t", laidAnew(x, 8, 1));
        x.mark(3, 1, 0);
        due("5 and 4 are 9", "0:2:1- 2:1:1- 3:1:1t", laidAnew(x, 8, 1));
        x = score("8888887");
        due("54 and 8 are above 60", "0:6:1- 6:1:1t", laidAnew(x, 60, 1));
        for (int bar = 0; bar < 6; bar++) {
            x.mark(bar, 1, 1);
        }
        due("6 of 10 are 60", "0:6:1- 6:1:1t", laidAnew(x, 60, 1));
        due("6 of 10 are above 59", "0:5:1- 5:2:1t", laid(x, 0, 59, 1));
    }

    private static void widerStandsAlone() {
        says("a ROW that is wider stands alone");
        due("the only one", "0:1:1t", laidAnew(score("8"), 8, 1));
        due("first", "0:1:1- 1:1:1t", laidAnew(score("81"), 8, 1));
        due("last", "0:1:1- 1:1:1t", laidAnew(score("18"), 8, 1));
        due("amid", "0:2:1- 2:1:1- 3:2:1t", laidAnew(score("11811"), 8, 1));
        due("two", "0:1:1- 1:1:1t", laidAnew(score("88"), 8, 1));
        due("just as wide", "0:1:1- 1:1:1t", laidAnew(score("71"), 8, 1));
        due("with room for one more", "0:2:1t", laidAnew(score("71"), 10, 1));
        due("with too little room", "0:1:1- 1:1:1t", laidAnew(score("71"), 9, 1));
        PartPages x = score("181");
        x.mark(1, 0, 0);
        due("10 of 8", "0:1:1- 1:1:1- 2:1:1t", laidAnew(x, 8, 1));
        due("10 of 10", "0:1:1- 1:1:1- 2:1:1t", laid(x, 0, 10, 1));
        due("12 of 12", "0:2:1- 2:1:1t", laid(x, 0, 12, 1));
    }

    private static void wideAndHighAtFirst() {
        says("WIDE (24 at first), HIGH (4 at first)");
        PartPages x = score(times("1", 12));
        x.extract(0);
        due("24 of 24", 1, x.page(0, 0, 2));
        x.mark(11, 1, 0);
        x.extract(0);
        due("25 of 24", 2, x.page(0, 0, 2));
        x = score(times("7", 12));
        x.extract(0);
        due("4 systems", 1, x.pages(0));
        due("4 systems", 4, x.page(0, 0, 2));
        x.bars(13);
        fill(x, 0, 12, 7);
        x.extract(0);
        due("5 systems", 2, x.pages(0));
        due("4 of 5", 4, x.page(0, 0, 2));
        due("12 rows", 12, x.page(0, 0, 1));
    }

    // ---- pages; a BAR of 7 STARTS fills a system of WIDE 8, and a REST stands alone beside it

    private static void allThatAreLeft() {
        says("if not more than HIGH (4 at first) are left, all these, and it TURNS well");
        due("4 of 4", "0:4:4t", laidAnew(score("7777"), 8, 4));
        due("5 of 4", "0:4:4- 4:1:1t", laidAnew(score("77777"), 8, 4));
        due("3 of 4", "0:3:3t", laidAnew(score("777"), 8, 4));
        due("8 of 4", "0:4:4- 4:4:4t", laidAnew(score("77777777"), 8, 4));
        due("9 of 4", "0:4:4- 4:4:4- 8:1:1t", laidAnew(score("777777777"), 8, 4));
        due("1 of 1", "0:1:1t", laidAnew(score("7"), 8, 1));
        due("2 of 1", "0:1:1- 1:1:1t", laidAnew(score("77"), 8, 1));
        due("12 of 12", "0:12:12t", laidAnew(score(times("7", 12)), 8, 12));
        due("13 of 12", "0:12:12- 12:1:1t", laidAnew(score(times("7", 13)), 8, 12));
        due("all left, though fewer would turn by a rest", "0:4:4t", laidAnew(score("77..7"), 8, 4));
    }

    private static void highOneOrTwoLess() {
        says("Else HIGH, or one, or two less: the most behind which it TURNS well; if it does by none, HIGH");
        due("first behind", "0:4:4t 4:4:4t", laidAnew(score("7777..777"), 8, 4));
        due("last ahead", "0:4:4t 4:4:4t", laidAnew(score("777..7777"), 8, 4));
        due("one less", "0:3:3t 3:4:4t", laidAnew(score("77..7777"), 8, 4));
        due("two less", "0:2:2t 2:4:4t", laidAnew(score("7..7777"), 8, 4));
        due("three less", "0:4:4- 4:3:3t", laidAnew(score("..777777"), 8, 4));
        due("one more", "0:4:4- 4:4:4t", laidAnew(score("77777..77"), 8, 4));
        String seven = times("7", 11);
        due("first behind of 12", "0:12:12t 12:2:2t", laidAnew(score(seven + "7..7"), 8, 12));
        due("last ahead of 12", "0:12:12t 12:2:2t", laidAnew(score(seven + "..77"), 8, 12));
        due("11 of 12", "0:11:11t 11:3:3t", laidAnew(score(times("7", 10) + "..777"), 8, 12));
        due("10 of 12", "0:10:10t 10:4:4t", laidAnew(score(times("7", 9) + "..7777"), 8, 12));
        due("not 9 of 12", "0:12:12- 12:2:2t", laidAnew(score(times("7", 8) + "..77777"), 8, 12));
    }

    private static void oneAtLeast() {
        says("(but 1 at least)");
        due("high 3, two less", "0:1:1t 1:3:3t", laidAnew(score("..777"), 8, 3));
        due("high 2, one less", "0:1:1t 1:2:2- 3:2:2t", laidAnew(score("..7777"), 8, 2));
        due("high 2, none", "0:2:2- 2:2:2t", laidAnew(score("7777"), 8, 2));
        due("high 2, none", "0:2:2- 2:1:1t", laidAnew(score("777"), 8, 2));
        due("high 1", "0:1:1- 1:1:1t 2:1:1t 3:1:1- 4:1:1t", laidAnew(score("77..77"), 8, 1));
        due("high 1, a rest ahead of all", "0:1:1t 1:1:1- 2:1:1t", laidAnew(score("..77"), 8, 1));
        // A PAGE behind a REST could turn at its very beginning.
        due("high 2, a rest just ahead", "0:2:2t 2:2:2- 4:2:2t", laidAnew(score("7..7777"), 8, 2));
        due("high 1, a rest just ahead", "0:1:1t 1:1:1t 2:1:1- 3:1:1t", laidAnew(score("7..77"), 8, 1));
    }

    private static void theMostThatTurns() {
        says("the most behind which it TURNS well");
        due("all three do", "0:4:4t 4:4:4t", laidAnew(score("7..7..7777"), 8, 4));
        due("one and two less do", "0:3:3t 3:4:4t", laidAnew(score("77..7777"), 8, 4));
        due("high and two less do", "0:4:4t 4:4:4t", laidAnew(score("7..77..777"), 8, 4));
    }

    private static void restOfTwoBars() {
        says("the last ROW ahead, or the first one behind, is a REST of 2 BARS or more");
        due("1 behind", "0:4:4- 4:4:4t", laidAnew(score("7777.777"), 8, 4));
        due("1 ahead", "0:4:4- 4:4:4t", laidAnew(score("777.7777"), 8, 4));
        due("2 behind", "0:4:4t 4:4:4t", laidAnew(score("7777..777"), 8, 4));
        due("3 ahead", "0:4:4t 4:4:4t", laidAnew(score("777...7777"), 8, 4));
        due("30 ahead", "0:4:4t 4:1:1t", laidAnew(score("777" + times(".", 30) + "7"), 8, 4));
        PartPages x = score("7777..777");
        x.mark(5, 1, 0);
        due("2 of 1, by a mark", "0:4:4- 4:5:4t", laidAnew(x, 8, 4));
        x = score("7777..777", ".....7...");
        x.cueing(2);
        due("1 and a cue", "0:4:4- 4:5:4t", laidAnew(x, 8, 4));
        x = score("7777...777", "......7...");
        x.cueing(2);
        due("2 and a cue", "0:4:4t 4:5:4t", laidAnew(x, 8, 4));
        x = score("7777.777", "....7...");
        x.cueing(1);
        due("a cue alone", "0:4:4- 4:4:4t", laidAnew(x, 8, 4));
    }

    private static void onlyRowsBesideTheTurn() {
        says("the last ROW ahead, or the first one behind");
        // WIDTHS 2, 2, 2 | 8 ..: the REST is amid its SYSTEM.
        due("amid the system ahead", "0:3:1- 3:1:1- 4:1:1t", laidAnew(score("1..177"), 8, 1));
        due("last of the system ahead", "0:3:1t 3:1:1- 4:1:1t", laidAnew(score("11..77"), 8, 1));
        due("first of the system ahead", "0:3:1- 3:1:1- 4:1:1t", laidAnew(score("..1177"), 8, 1));
        due("first of the system behind", "0:1:1t 1:3:1- 4:1:1t", laidAnew(score("7..117"), 8, 1));
        due("amid the system behind", "0:1:1- 1:3:1- 4:1:1t", laidAnew(score("71..17"), 8, 1));
        due("last of the system behind", "0:1:1- 1:3:1t 4:1:1t", laidAnew(score("711..7"), 8, 1));
    }

    private static void noRowsNoPages() {
        says("if B is 0 there is no ROW: no SYSTEMS, no PAGES");
        PartPages x = empty(1, 0);
        due("none", "", laidAnew(x, 8, 1));
        due("pages", 0, x.pages(0));
        due("lay", 0, x.lay(60, 12));
        due("renew", 0, x.renew(0));
        x.bars(1);
        due("tacet is one", "0:1:1t", laidAnew(x, 8, 1));
    }

    private static void fortySystems() {
        says("B BARS (40 at most): ROWS, SYSTEMS and PAGES are not more");
        PartPages x = score(times("7", 40));
        due("rows", 40, x.extract(0));
        due("a page each", 40, x.lay(8, 1));
        due("the first row of the last", 39, x.page(0, 39, 0));
        due("its rows", 1, x.page(0, 39, 1));
        due("its number", 40, x.page(0, 39, 4));
        due("none behind", UNKNOWN, x.page(0, 40, 0));
        due("12 on each", "0:12:12- 12:12:12- 24:12:12- 36:4:4t", laid(x, 0, 8, 12));
        due("all are as they were", 4, x.renew(0));
        due("pages of 1", 40, x.lay(8, 1));
        due("all are as they were", 40, x.renew(0));
        x.note(0, 39, 47, 1, 60, 0);
        due("all but the last", 39, x.renew(0));
    }

    // ---- the book

    private static void oddNumbers() {
        says("by VOICES, each beginning at an odd number, from 1 on: its PAGES are numbered from that");
        PartPages x = score("7...", "77..", "777.", "7777");
        // With HIGH 1: 2, 3, 4 and 4 PAGES, whichever PART is made first.
        for (int v = 3; v >= 0; v--) {
            x.extract(v);
        }
        due("all", 13, x.lay(8, 1));
        int[] pages = {2, 3, 4, 4};
        int[] first = {1, 3, 7, 11};
        for (int v = 0; v < 4; v++) {
            due("pages of " + v, pages[v], x.pages(v));
            for (int p = 0; p < pages[v]; p++) {
                due("page " + p + " of " + v, first[v] + p, x.page(v, p, 4));
            }
        }
        due("last", 14, x.count(4));
        due("one page each", 4, x.lay(60, 12));
        for (int v = 0; v < 4; v++) {
            due("page of " + v, 1 + 2 * v, x.page(v, 0, 4));
        }
        due("last of one page each", 7, x.count(4));
    }

    private static void onlyPartsThatAreMade() {
        says("THE BOOK has all PARTS that are made");
        PartPages x = empty(6, 1);
        due("none", 0, x.count(4));
        x.extract(5);
        due("the last voice alone", 1, x.page(5, 0, 4));
        x.extract(2);
        due("behind another", 3, x.page(5, 0, 4));
        due("ahead", 1, x.page(2, 0, 4));
        x.extract(0);
        due("behind two", 5, x.page(5, 0, 4));
        due("last", 5, x.count(4));
        x.extract(0);
        due("made anew is no more", 5, x.count(4));
    }

    private static void bookWithoutPages() {
        says("4 the last number in THE BOOK (0 without)");
        PartPages x = empty(3, 0);
        due("no parts", 0, x.count(4));
        x.extract(0);
        x.extract(2);
        due("parts without pages", 0, x.count(4));
        x.bars(1);
        x.extract(1);
        due("one page", 1, x.count(4));
        due("it is the first", 1, x.page(1, 0, 4));
        due("parts", 3, x.count(3));
        x.extract(2);
        due("another", 3, x.count(4));
    }

    private static void fullBook() {
        says("THE BOOK of 6 PARTS of many PAGES");
        PartPages x = empty(6, 40);
        // A SYSTEM for each second BAR's NOTES, with the REST ahead of it.
        for (int v = 0; v < 6; v++) {
            for (int bar = 1; bar < 40; bar += 2) {
                fill(x, v, bar, 4);
            }
        }
        // Those were 480 calls, 7 made the object.
        for (int v = 0; v < 6; v++) {
            due("rows", 40, x.extract(v));
        }
        due("pages", 120, x.lay(8, 1));
        due("last, without gaps", 120, x.count(4));
        due("first of the last part", 101, x.page(5, 0, 4));
        due("last of the last part", 120, x.page(5, 19, 4));
        due("none behind", UNKNOWN, x.page(5, 20, 4));
    }

    // ---- parts as they were

    private static void partStays() {
        says("A PART is as it was when it was made: ROWS and what is WRITTEN, also when THE SCORE changes");
        PartPages x = score("1........2", "........3.");
        x.mark(0, 0, 2);
        due("part", "N0x1 R1x7 C8x1<1 N9x1", made(x, 0));
        x.instrument(0, 5, 1);
        x.mark(0, 0, 7);
        x.mark(5, 1, 1);
        x.cueing(40);
        x.drop(1, 8);
        x.note(0, 0, 47, 1, 60, 0);
        due("rows", "N0x1 R1x7 C8x1<1 N9x1", standing(x, 0));
        due("width", 3, x.row(0, 0, 3));
        due("key", 2, x.row(0, 0, 4));
        due("notes", 1, x.row(0, 0, 5));
        due("note", "0 6 60 0", note(x, 0, 0, 0));
        due("the cue's last note", "12 6 60 0", note(x, 0, 2, 2));
        x.bars(0);
        due("rows without bars", "N0x1 R1x7 C8x1<1 N9x1", standing(x, 0));
        due("the last note", "6 6 60 0", note(x, 0, 3, 1));
        due("pages", 1, x.pages(0));
        due("unlike", 0, x.unlike(0));
        due("and behind unlike", "N0x1 R1x7 C8x1<1 N9x1", standing(x, 0));
    }

    private static void pagesAreAsTheyAre() {
        says("its PAGES are by WIDE and HIGH as they are");
        PartPages x = score("7777");
        x.extract(0);
        due("at first", 1, x.pages(0));
        due("lay", 4, x.lay(8, 1));
        due("at once", 4, x.pages(0));
        due("lay", 2, x.lay(8, 2));
        due("at once", 2, x.page(0, 1, 0));
        due("refused", OUTSIDE, x.lay(7, 1));
        due("as before", 2, x.pages(0));
        due("refused", OUTSIDE, x.lay(8, 13));
        due("as before", 2, x.pages(0));
    }

    // ---- two voices

    private static void bothEmptyOrOneAlone() {
        says("0 both EMPTY; 3 the first alone, 4 the second alone (the other is EMPTY)");
        PartPages x = score("..1", "...", ".1.");
        due("both", 0, x.condensed(0, 1, 0));
        due("both, though a third plays", 0, x.condensed(0, 1, 1));
        due("the first", 3, x.condensed(0, 1, 2));
        due("the second", 4, x.condensed(1, 0, 2));
        due("the second", 4, x.condensed(0, 2, 1));
        x.drop(0, 2);
        due("both again", 0, x.condensed(0, 1, 2));
        due("8 alone", 3, score("8", ".").condensed(0, 1, 0));
    }

    private static void unison() {
        says("1 UNISON: the same NOTES");
        PartPages x = score("8", "8", ".");
        due("eight", 1, x.condensed(0, 1, 0));
        due("the other way round", 1, x.condensed(1, 0, 0));
        for (int k = 7; k >= 0; k--) {
            x.note(2, 0, 6 * k, 6, 60, 0);
        }
        due("in whatever order they came", 1, x.condensed(0, 2, 0));
        x.instrument(0, 3, 1);
        due("instruments do not count", 1, x.condensed(0, 1, 0));
        x = score("1", "1");
        due("one", 1, x.condensed(0, 1, 0));
    }

    private static void joined() {
        says("2 JOINED: unlike ones, but each START and LENGTH of the one is there in the other, too");
        due("another pitch", 2, pair("0 12 60 0", "0 12 61 7"));
        due("another spelling", 2, pair("0 12 60 0", "0 12 60 12"));
        due("the last of two", 2, pair("0 12 60 0,12 36 62 2", "0 12 60 0,12 36 62 -10"));
        due("more of one start and length", 2, pair("0 12 60 0,0 12 64 4,0 12 67 1", "0 12 60 0"));
        due("the other way round", 2, pair("0 12 60 0", "0 12 60 0,0 12 64 4,0 12 67 1"));
        due("one start, two lengths", 2, pair("0 12 60 0,0 24 64 4", "0 24 60 0,0 12 64 4"));
    }

    private static void divided() {
        says("5 DIVIDED");
        due("another start", 5, pair("0 12 60 0", "1 12 60 0"));
        due("another length", 5, pair("0 12 60 0", "0 13 60 0"));
        due("one more in the first", 5, pair("0 12 60 0,12 12 60 0", "0 12 60 0"));
        due("one more in the second", 5, pair("0 12 60 0", "0 12 60 0,12 12 60 0"));
        due("starts and lengths, but of others", 5, pair("0 12 60 0,12 24 60 0", "0 24 60 0,12 12 60 0"));
        due("one start, one length more", 5, pair("0 12 60 0,0 24 64 4", "0 12 60 0"));
        due("one start, one length less", 5, pair("0 12 60 0", "0 12 60 0,0 24 64 4"));
        due("the last tick", 5, pair("0 48 60 0", "0 47 60 0"));
    }

    /** What two VOICES are with these NOTES. */
    private static int pair(String first, String second) {
        PartPages x = empty(2, 1);
        String[] both = {first, second};
        for (int v = 0; v < 2; v++) {
            for (String one : both[v].split(",")) {
                String[] n = one.split(" ");
                x.note(v, 0, Integer.parseInt(n[0]), Integer.parseInt(n[1]), Integer.parseInt(n[2]), Integer.parseInt(n[3]));
            }
        }
        int answer = x.condensed(0, 1, 0);
        due("together", answer == 5 ? 0 : 1, x.together(0, 1));
        return answer;
    }

    // ---- the promises' own edges

    private static void newObject() {
        says("No VOICES, no BARS, no MARKS, no PARTS.");
        PartPages x = new PartPages();
        for (int what = 0; what <= 5; what++) {
            due("count " + what, 0, x.count(what));
        }
        due("bars", 0, x.bars(0));
        due("lay", 0, x.lay(8, 1));
        due("cueing", 8, x.cueing(1));
        PartPages other = new PartPages();
        due("objects share nothing", 8, other.cueing(8));
        x.voice();
        due("objects share nothing", 0, other.count(0));
    }

    private static void barsGoAndCome() {
        says("THE SCORE has n BARS, new ones EMPTY and without MARKS; others go with all that they have: how many it had");
        PartPages x = score("12", "21");
        for (int kind = 0; kind <= 4; kind++) {
            x.mark(0, kind, 1);
            x.mark(1, kind, 2);
        }
        due("as many", 2, x.bars(2));
        due("notes stay", 6, x.count(2));
        due("marks stay", 10, x.count(5));
        due("one more", 2, x.bars(3));
        due("notes stay", 6, x.count(2));
        due("the new one is empty", 0, x.condensed(0, 1, 2));
        due("the new one has no marks", 10, x.count(5));
        due("one less", 3, x.bars(2));
        due("one less", 2, x.bars(1));
        due("notes of the first", 3, x.count(2));
        due("marks of the first", 5, x.count(5));
        due("again one more", 1, x.bars(2));
        due("empty", 0, x.condensed(0, 1, 1));
        due("empty", 0, x.drop(0, 1));
        due("empty", 0, x.drop(1, 1));
        for (int kind = 0; kind <= 4; kind++) {
            due("without marks", NONE, x.unmark(1, kind));
        }
        due("none", 2, x.bars(0));
        due("notes of none", 0, x.count(2));
        due("marks of none", 0, x.count(5));
        due("all", 0, x.bars(40));
        due("notes of new ones", 0, x.count(2));
        due("marks of new ones", 0, x.count(5));
        due("tacet", 1, x.tacet(0));
        due("the last", 40, x.bars(40));
    }

    private static void dropped() {
        says("A VOICE's NOTES in a BAR go: how many.");
        PartPages x = score("81", "11");
        due("of eight", 8, x.drop(0, 0));
        due("of none", 0, x.drop(0, 0));
        due("others stay", 3, x.count(2));
        due("of one, in the last bar", 1, x.drop(1, 1));
        due("others stay", 2, x.count(2));
        fill(x, 0, 0, 8);
        due("eight again", 8, x.drop(0, 0));
    }

    private static void markInPlace() {
        says("A MARK comes, in place of one of its KIND: what that had; NONE.");
        PartPages x = empty(0, 2);
        due("none", NONE, x.mark(0, 0, -7));
        due("-7", -7, x.mark(0, 0, 0));
        due("0", 0, x.mark(0, 0, 0));
        due("0 again", 0, x.mark(0, 0, 7));
        due("none of another kind", NONE, x.mark(0, 1, 0));
        due("none in another bar", NONE, x.mark(1, 0, 1));
        due("0 of a tempo", 0, x.mark(0, 1, 999));
        due("999", 999, x.mark(0, 1, 999));
        due("count", 3, x.count(5));
    }

    private static void unmarked() {
        says("A MARK goes: what it had; NONE.");
        PartPages x = empty(0, 40);
        for (int kind = 0; kind <= 4; kind++) {
            due("none of " + kind, NONE, x.unmark(39, kind));
            x.mark(39, kind, 0);
            due("0 of " + kind, 0, x.unmark(39, kind));
            due("gone, " + kind, NONE, x.unmark(39, kind));
            due("comes again, " + kind, NONE, x.mark(39, kind, 7));
            due("count", kind + 1, x.count(5));
        }
        due("key", 7, x.unmark(39, 0));
        due("word", 7, x.unmark(39, 4));
        due("others stay", 3, x.count(5));
    }

    private static void instrumentInPlace() {
        says("A VOICE's INSTRUMENT: 1.");
        PartPages x = score("1", "1");
        due("one", 1, x.instrument(0, 2, 1));
        due("in place of it", 1, x.instrument(0, 1, 0));
        x.extract(0);
        x.extract(1);
        due("not both", "0 6 55 1", note(x, 0, 0, 0));
        due("not of another", "0 6 60 0", note(x, 1, 0, 0));
        due("none again", 1, x.instrument(0, 0, 0));
        x.extract(0);
        due("as at first", "0 6 60 0", note(x, 0, 0, 0));
    }

    private static void cueingWas() {
        says("CUEING, 1 .. 40: what it was.");
        PartPages x = new PartPages();
        due("at first", 8, x.cueing(1));
        due("least", 1, x.cueing(40));
        due("most", 40, x.cueing(40));
        due("0", OUTSIDE, x.cueing(0));
        due("41", OUTSIDE, x.cueing(41));
        due("still the most", 40, x.cueing(8));
    }

    private static void extractAnew() {
        says("A VOICE's PART is made (anew): how many ROWS.");
        PartPages x = score("888", "...");
        due("three", "N0x1 N1x1 N2x1", made(x, 0));
        x.drop(0, 0);
        x.drop(0, 1);
        due("fewer", "R0x2 N2x1", made(x, 0));
        due("none of the old notes", UNKNOWN, x.written(0, 0, 0, 0));
        due("how many of them", 0, x.row(0, 0, 5));
        due("those that are there", 8, x.row(0, 1, 5));
        due("parts", 1, x.count(3));
        x.drop(0, 2);
        due("tacet", "T0x3", made(x, 0));
        due("none of the old notes", UNKNOWN, x.written(0, 0, 0, 0));
        x.bars(0);
        due("none", "", made(x, 0));
        due("none of the old rows", UNKNOWN, x.row(0, 0, 0));
        due("still a part", 1, x.count(3));
        due("another", 0, x.extract(1));
        due("parts", 2, x.count(3));
    }

    private static void rowFigures() {
        says("6 of a CUE the VOICE that it is from (NONE of others)");
        PartPages x = score("1.1", ".1.", "...");
        x.cueing(1);
        x.extract(0);
        x.extract(2);
        due("of notes", NONE, x.row(0, 0, 6));
        due("of a cue", 1, x.row(0, 1, 6));
        due("of tacet", NONE, x.row(2, 0, 6));
        x.drop(1, 1);
        x.extract(0);
        due("of a rest that was a cue", NONE, x.row(0, 1, 6));
        x = score("1.", ".1");
        x.cueing(1);
        x.extract(1);
        due("of a cue from voice 0", 0, x.row(1, 0, 6));
    }

    private static void writtenBelowZero() {
        says("(PITCHES may be below 0, but never as far as refusals.)");
        PartPages x = empty(1, 1);
        for (int pitch = 0; pitch < 5; pitch++) {
            x.note(0, 0, pitch, 1, pitch, new int[] {0, 7, 2, -3, 4}[pitch]);
        }
        x.instrument(0, 1, -2);
        x.extract(0);
        for (int pitch = 0; pitch < 5; pitch++) {
            due("pitch " + pitch, pitch - 29, x.written(0, 0, pitch, 2));
        }
        x.instrument(0, 0, -1);
        x.extract(0);
        due("-12", -12, x.written(0, 0, 0, 2));
        due("no sixth note", UNKNOWN, x.written(0, 0, 5, 2));
    }

    private static void unlikeFirst() {
        says("The first ROW of a PART that would be another one (what row() and written() tell)");
        PartPages x = score("1.11", "....");
        x.extract(0);
        due("none", NONE, x.unlike(0));
        x.drop(0, 3);
        x.note(0, 3, 0, 7, 60, 0);
        due("length, in the last", 3, x.unlike(0));
        x.mark(2, 4, 0);
        due("a word tells nothing", 3, x.unlike(0));
        x.mark(2, 3, 0);
        due("width", 2, x.unlike(0));
        x.mark(1, 0, 0);
        due("width of a rest", 1, x.unlike(0));
        x.note(0, 0, 0, 6, 72, 0);
        due("a note more at one start", 0, x.unlike(0));
        x.extract(0);
        due("none again", NONE, x.unlike(0));
        x.mark(1, 0, 1);
        due("key of a rest", 1, x.unlike(0));
        x.mark(1, 0, 0);
        due("back as it was", NONE, x.unlike(0));
        x.cueing(1);
        due("no other voice is there", NONE, x.unlike(0));
        fill(x, 1, 1, 1);
        due("a cue for a rest", 1, x.unlike(0));
        x.extract(0);
        x.drop(1, 1);
        x.note(1, 1, 0, 6, 60, 12);
        due("spelling in a cue", 1, x.unlike(0));
        unlikeInEachFigure();
    }

    private static void unlikeInEachFigure() {
        int[][] notes = {{0, 6, 60, 0}, {1, 6, 60, 0}, {0, 7, 60, 0}, {0, 6, 72, 0}, {0, 6, 60, 12}};
        for (int was = 0; was < notes.length; was++) {
            for (int is = 0; is < notes.length; is++) {
                PartPages x = score("1.");
                x.note(0, 1, notes[was][0], notes[was][1], notes[was][2], notes[was][3]);
                x.extract(0);
                x.drop(0, 1);
                x.note(0, 1, notes[is][0], notes[is][1], notes[is][2], notes[is][3]);
                due("note " + was + " and " + is, was == is ? NONE : 1, x.unlike(0));
            }
        }
        PartPages x = score(".1", "1.", "1.");
        x.cueing(1);
        x.extract(0);
        x.drop(1, 0);
        due("the voice of a cue alone", 0, x.unlike(0));
        x = empty(1, 1);
        x.extract(0);
        x.mark(0, 0, 0);
        x.extract(0);
        x.mark(0, 0, 1);
        due("the key of tacet alone", 0, x.unlike(0));
    }

    private static void unlikeThereOrNot() {
        says("or would be there or not, if it were made now; NONE");
        PartPages x = score("11.");
        x.extract(0);
        x.bars(2);
        due("would not be there", 2, x.unlike(0));
        x.extract(0);
        x.bars(3);
        due("would be there", 2, x.unlike(0));
        x.bars(0);
        due("none would be there", 0, x.unlike(0));
        x.extract(0);
        due("none of none", NONE, x.unlike(0));
        x.bars(1);
        due("a first one would be there", 0, x.unlike(0));
        x = score(times("1", 39) + ".");
        x.extract(0);
        x.bars(39);
        due("the fortieth would not be there", 39, x.unlike(0));
        x.bars(40);
        due("it is as it was", NONE, x.unlike(0));
    }

    private static void renewedPages() {
        says("how many PAGES from its first one on are as they were (all that page() tells, and all their ROWS)");
        PartPages x = score("777777");
        x.extract(0);
        x.lay(8, 2);
        due("all", 3, x.renew(0));
        x.mark(5, 4, 1);
        due("all, as a word tells nothing", 3, x.renew(0));
        x.drop(0, 5);
        fill(x, 0, 5, 6);
        due("the last is another", 2, x.renew(0));
        x.note(0, 2, 0, 1, 0, 0);
        due("the first of the second", 1, x.renew(0));
        x.note(0, 1, 0, 1, 0, 0);
        due("the last of the first", 0, x.renew(0));
        due("it was made anew", NONE, x.unlike(0));
        due("all", 3, x.renew(0));
        x.note(0, 0, 0, 1, 0, 0);
        due("others behind the first do not count", 0, x.renew(0));
        x.bars(5);
        due("a row less on the last", 2, x.renew(0));
        x.bars(6);
        fill(x, 0, 5, 7);
        due("a row more on the last", 2, x.renew(0));
        x.bars(0);
        due("none is left", 0, x.renew(0));
        due("none of none", 0, x.renew(0));
        x.bars(1);
        due("one more than none", 0, x.renew(0));
    }

    private static void renewedByPresentLayout() {
        says("its PAGES are by WIDE and HIGH as they are: renewed, too");
        PartPages x = score("7777");
        x.extract(0);
        due("lay", 4, x.lay(8, 1));
        due("all of the present ones", 4, x.renew(0));
        due("lay", 1, x.lay(60, 12));
        due("all of the present ones", 1, x.renew(0));
        x.lay(8, 1);
        x.note(0, 3, 0, 1, 0, 0);
        due("all but the last", 3, x.renew(0));
    }

    private static void renewedTurnsAndBook() {
        says("(all that page() tells but the number in THE BOOK ..)");
        PartPages x = score("77..");
        x.extract(0);
        x.lay(8, 2);
        x.bars(3);
        due("it turns no longer", 0, x.renew(0));
        x.bars(4);
        due("it turns again", 0, x.renew(0));
        x.bars(5);
        due("a longer rest is on the next", 1, x.renew(0));
        x = score("3333", "3333");
        x.extract(1);
        x.lay(8, 1);
        x.extract(0);
        due("number in the book", 3, x.page(1, 0, 4));
        due("another number", 2, x.renew(1));
        x = score("..7..7");
        x.extract(0);
        x.lay(8, 2);
        // Both ROWS of the first PAGE stay as they are, but without the second REST it turns behind the first alone.
        fill(x, 0, 3, 7);
        fill(x, 0, 4, 7);
        due("fewer of the same rows", 0, x.renew(0));
        due("rows of the first page", 1, x.page(0, 0, 1));
        x = empty(1, 1);
        due("no part", UNKNOWN, x.renew(0));
        due("made none", 0, x.count(3));
    }

    private static void tacetOrNot() {
        says("Whether a VOICE has no NOTES at all: 1, 0.");
        PartPages x = empty(2, 0);
        due("no bars", 1, x.tacet(0));
        x.bars(40);
        due("no notes", 1, x.tacet(0));
        fill(x, 0, 39, 1);
        due("one in the last bar", 0, x.tacet(0));
        due("none of another", 1, x.tacet(1));
        x.drop(0, 39);
        due("dropped", 1, x.tacet(0));
        fill(x, 0, 0, 8);
        due("in the first bar", 0, x.tacet(0));
        x.bars(1);
        due("still there", 0, x.tacet(0));
        x.bars(0);
        due("gone with its bar", 1, x.tacet(0));
    }

    private static void layAll() {
        says("WIDE (8 .. 60) and HIGH (1 .. 12): how many PAGES all PARTS have together.");
        PartPages x = score("7777", "77..", "7777");
        due("no parts", 0, x.lay(8, 1));
        x.extract(0);
        due("one", 4, x.lay(8, 1));
        x.extract(2);
        due("two", 8, x.lay(8, 1));
        x.extract(1);
        due("three", 11, x.lay(8, 1));
        due("wide 7", OUTSIDE, x.lay(7, 1));
        due("wide 61", OUTSIDE, x.lay(61, 1));
        due("high 0", OUTSIDE, x.lay(8, 0));
        due("high 13", OUTSIDE, x.lay(8, 13));
        due("as before", 4, x.pages(0));
        due("wide 8, high 12", 3, x.lay(8, 12));
        due("4 systems", 4, x.page(0, 0, 2));
        due("wide 60, high 1", 3, x.lay(60, 1));
        due("1 system", 1, x.page(0, 0, 2));
    }

    private static void togetherBars() {
        says("In how many BARS they need no staff of their own (0 to 4).");
        due("no bars", 0, empty(2, 0).together(0, 1));
        due("all 40, empty", 40, empty(2, 40).together(0, 1));
        due("all but the first", 2, score("1..", "2..").together(0, 1));
        due("all but the last", 2, score("..1", "..2").together(0, 1));
        due("none", 0, score("111", "222").together(0, 1));
        PartPages x = score("1.1.11", "1..112");
        x.drop(1, 4);
        x.note(1, 4, 0, 6, 61, 7);
        for (int bar = 0; bar < 6; bar++) {
            due("bar " + bar, new int[] {1, 0, 3, 4, 2, 5}[bar], x.condensed(0, 1, bar));
        }
        due("one of each", 5, x.together(0, 1));
        due("the other way round", 5, x.together(1, 0));
    }

    private static void counts() {
        says("How many: 0 VOICES, 1 BARS, 2 NOTES in all, 3 PARTS, 4 the last number in THE BOOK, 5 MARKS.");
        PartPages x = empty(6, 40);
        for (int v = 0; v < 6; v++) {
            fill(x, v, 0, 8);
            fill(x, v, 39, 8);
            x.extract(v);
        }
        for (int bar = 0; bar < 40; bar++) {
            for (int kind = 0; kind <= 4; kind++) {
                x.mark(bar, kind, 0);
            }
        }
        due("voices", 6, x.count(0));
        due("bars", 40, x.count(1));
        due("notes", 96, x.count(2));
        due("parts", 6, x.count(3));
        due("book", 11, x.count(4));
        due("marks", 200, x.count(5));
        due("-1", OUTSIDE, x.count(-1));
        due("6", OUTSIDE, x.count(6));
        x.bars(39);
        due("notes", 48, x.count(2));
        due("marks", 195, x.count(5));
        due("parts stay", 6, x.count(3));
    }
}
