/** An island's steel drums through a year: pans, players, days and the three rounds. */
public final class Panyard {
    private static final int NONE = -1;
    private static final int SECTIONS = 4;
    private static final int NOTES = 8;
    private static final int ALL_NOTES = 255;
    private static final int MOST_PANS = 6;
    private static final int MOST_PHRASES = 8;
    private static final int MOST_PLACES = 10;
    private static final int MOST_PLAYERS = 8;
    private static final int MOST_RIVALS = 6;
    private static final int JUDGES = 3;
    private static final int ROUNDS = 3;
    private static final int MARKS = 4;

    private static final int FIRST_MONEY = 200;
    private static final int PAN_PRICE = 40;
    private static final int BURN_PRICE = 5;
    private static final int TUNER_BLOW_PRICE = 4;
    private static final int ROUND_PAY = 50;
    private static final int[] PRIZES = {300, 200, 100};
    private static final int[] LAST_RANK_TO_GO_ON = {4, 2};
    private static final int RIVAL_GAIN = 15;

    private static final int FARTHEST_OFF = 99;
    private static final int HARDEST_BLOW = 20;
    private static final int CRACKING_FATIGUE = 300;
    private static final int MOST_FORESEEN_BLOWS = 40;
    private static final int HOT_SUN = 7;
    private static final int WET_RAIN = 5;

    private static final int FULL_MEMORY = 100;
    private static final int STRAINED_MEMORY = 70;
    private static final int REHEARSABLE_MEMORY = 30;
    private static final int LESSON_MINUTES = 60;
    private static final int TAUGHT_MINUTES_A_DAY = 90;
    private static final int REHEARSED_MINUTES_A_DAY = 120;
    private static final int MOST_ORDERED_PLACES = 5;

    private final Pan[] pans = new Pan[MOST_PANS];
    private final Phrase[] phrases = new Phrase[MOST_PHRASES];
    private final Player[] players = new Player[MOST_PLAYERS];
    private final Arrangement arrangement = new Arrangement();
    private final Minds minds = new Minds();
    private final Today today = new Today();
    private final Contest contest = new Contest();
    private int panCount;
    private int phraseCount;
    private int playerCount;
    private int money = FIRST_MONEY;
    private boolean covered;

    // What would be is tried on these, made once, so that no question makes objects of its own.
    private final Pan trialPan = new Pan(0, 0);
    private final Arrangement trialOrder = new Arrangement();
    private final Minds trialMinds = new Minds();
    private final int[] levels = new int[MOST_PHRASES];

    public Panyard() {
    }

    // ---- pans

    public int pan(int family) throws IndexOutOfBoundsException, IllegalStateException {
        requireSection(family);
        if (panCount >= MOST_PANS) {
            throw new IllegalStateException("there are 6 pans");
        }
        int number = panCount;
        pans[number] = new Pan(number, family);
        panCount++;
        money -= PAN_PRICE;
        return number;
    }

    public int blow(int pan, int note, int force)
            throws IndexOutOfBoundsException, IllegalArgumentException, IllegalStateException {
        requirePan(pan);
        requireNote(note);
        if (force == 0 || !isWithin(force, -HARDEST_BLOW, HARDEST_BLOW)) {
            throw new IllegalArgumentException("a force is -20 to 20, and not 0");
        }
        requireWhole(pan);
        Pan one = pans[pan];
        one.strike(note, force);
        return one.offs[note];
    }

    public int burn(int pan) throws IndexOutOfBoundsException, IllegalStateException {
        requirePan(pan);
        requireWhole(pan);
        pans[pan].heat();
        money -= BURN_PRICE;
        return pans[pan].fatigue;
    }

    public int tuner(int pan, int minutes)
            throws IndexOutOfBoundsException, IllegalArgumentException, IllegalStateException {
        requirePan(pan);
        if (!isWithin(minutes, 10, 120)) {
            throw new IllegalArgumentException("a tuner comes for 10 to 120 minutes");
        }
        requireWhole(pan);
        int blows = pans[pan].tuneUpTo(minutes / 10);
        money -= TUNER_BLOW_PRICE * blows;
        return blows;
    }

    public boolean cover(boolean is) {
        boolean before = covered;
        covered = is;
        return before;
    }

    // ---- phrases and players

    public int phrase(int section, int hard, int notes)
            throws IndexOutOfBoundsException, IllegalArgumentException, IllegalStateException {
        requireSection(section);
        requirePhraseWords(hard, notes);
        if (phraseCount >= MOST_PHRASES) {
            throw new IllegalStateException("there are 8 phrases");
        }
        int number = phraseCount;
        phrases[number] = new Phrase(section, hard, notes);
        phraseCount++;
        return number;
    }

    public int change(int phrase, int hard, int notes)
            throws IndexOutOfBoundsException, IllegalArgumentException {
        requirePhrase(phrase);
        requirePhraseWords(hard, notes);
        Phrase one = phrases[phrase];
        one.tellAnew(hard, notes);
        for (int i = 0; i < playerCount; i++) {
            minds.halve(i, phrase, players[i].mostMemory(one));
        }
        return one.changes;
    }

    public int put(int phrase) throws IndexOutOfBoundsException, IllegalStateException {
        requirePhrase(phrase);
        if (arrangement.count >= MOST_PLACES) {
            throw new IllegalStateException("there are 10 places");
        }
        int place = arrangement.count;
        arrangement.append(phrase);
        return place;
    }

    public int cut(int place) throws IndexOutOfBoundsException {
        requirePlace(place);
        int phrase = arrangement.phraseAt[place];
        arrangement.closeUp(place);
        return phrase;
    }

    public int player(int section, int speed, int reach)
            throws IndexOutOfBoundsException, IllegalArgumentException, IllegalStateException {
        requireSection(section);
        if (!isWithin(speed, 1, 9)) {
            throw new IllegalArgumentException("a speed is 1 to 9");
        }
        if (!isWithin(reach, 1, NOTES)) {
            throw new IllegalArgumentException("a reach is 1 to 8");
        }
        if (playerCount >= MOST_PLAYERS) {
            throw new IllegalStateException("there are 8 players");
        }
        int number = playerCount;
        players[number] = new Player(section, speed, reach);
        playerCount++;
        return number;
    }

    public int give(int player, int pan) throws IndexOutOfBoundsException, IllegalArgumentException {
        requirePlayer(player);
        if (pan != NONE) {
            requirePan(pan);
        }
        Player one = players[player];
        Pan given = pan == NONE ? null : pans[pan];
        if (given != null && given.family != one.section) {
            throw new IllegalArgumentException("the pan is of another family");
        }
        int before = one.panNumber();
        one.pan = given;
        return before;
    }

    public boolean absent(int player, boolean is) throws IndexOutOfBoundsException {
        requirePlayer(player);
        boolean before = players[player].away;
        players[player].away = is;
        return before;
    }

    public int teach(int player, int phrase, int minutes)
            throws IndexOutOfBoundsException, IllegalArgumentException, IllegalStateException {
        requirePlayer(player);
        requirePhrase(phrase);
        requireLesson(minutes);
        Player pupil = players[player];
        if (phrases[phrase].section != pupil.section) {
            throw new IllegalArgumentException("the phrase is of another section");
        }
        if (pupil.away) {
            throw new IllegalStateException("the player is absent");
        }
        if (today.taught[pupil.section] + minutes > TAUGHT_MINUTES_A_DAY) {
            throw new IllegalStateException("the section has not so many minutes left");
        }
        today.taught[pupil.section] += minutes;
        pupil.minutesTaught += minutes;
        giveLesson(minds, player, phrase, minutes);
        return minds.known[player][phrase];
    }

    public int rehearse(int minutes) throws IllegalArgumentException, IllegalStateException {
        if (!isWithin(minutes, 10, REHEARSED_MINUTES_A_DAY)) {
            throw new IllegalArgumentException("one rehearses for 10 to 120 minutes");
        }
        if (today.rehearsed + minutes > REHEARSED_MINUTES_A_DAY) {
            throw new IllegalStateException("all of this day would be more than 120 minutes");
        }
        today.rehearsed += minutes;
        for (int i = 0; i < playerCount; i++) {
            Pan pan = players[i].soundingPan();
            if (pan != null) {
                rehearsePlaces(i, pan, minutes / 10);
            }
        }
        return soundingCount();
    }

    // ---- days, money and rounds

    public int pass(int days, int sun, int rain) throws IllegalArgumentException {
        if (!isWithin(days, 1, 30)) {
            throw new IllegalArgumentException("1 to 30 days go by");
        }
        if (!isWithin(sun, 0, 9) || !isWithin(rain, 0, 9)) {
            throw new IllegalArgumentException("sun and rain are 0 to 9");
        }
        for (int gone = 0; gone < days; gone++) {
            minds.sleep(phrases, phraseCount);
            weather(sun, rain);
            today.turn();
        }
        return today.number;
    }

    public int sponsor(int money) throws IllegalArgumentException {
        if (!isWithin(money, 1, 500)) {
            throw new IllegalArgumentException("a sponsor pays 1 to 500");
        }
        this.money += money;
        return this.money;
    }

    public int rival(int total) throws IllegalArgumentException, IllegalStateException {
        if (!isWithin(total, 0, 400)) {
            throw new IllegalArgumentException("the total of a rival is 0 to 400");
        }
        if (contest.rivalCount >= MOST_RIVALS) {
            throw new IllegalStateException("there are 6 rivals");
        }
        int number = contest.rivalCount;
        contest.rivals[number] = total;
        contest.rivalCount++;
        return number;
    }

    public int lean(int judge, int lean) throws IndexOutOfBoundsException, IllegalArgumentException {
        if (!isWithin(judge, 0, JUDGES - 1)) {
            throw new IndexOutOfBoundsException("a judge is 0 to 2");
        }
        if (!isWithin(lean, -9, 9)) {
            throw new IllegalArgumentException("a lean is -9 to 9");
        }
        int before = contest.leans[judge];
        contest.leans[judge] = lean;
        return before;
    }

    public int play() throws IllegalStateException {
        if (contest.isOver()) {
            throw new IllegalStateException("it is over");
        }
        if (today.played) {
            throw new IllegalStateException("one played in this day");
        }
        if (soundingCount() == 0 || arrangement.count == 0) {
            throw new IllegalStateException("there is no player that sounds, or no place");
        }
        int round = contest.roundsPlayed;
        int rank = contest.enter(contest.scoreOf(totalNow()));
        money += ROUND_PAY + Contest.prizeOf(round, rank);
        today.played = true;
        return rank;
    }

    // ---- what one asks

    public int ofPan(int pan, int what) throws IndexOutOfBoundsException, IllegalArgumentException {
        requirePan(pan);
        Pan one = pans[pan];
        switch (what) {
            case 0:
                return one.family;
            case 1:
                return one.fatigue;
            case 2:
                return one.isCracked() ? 1 : 0;
            case 3:
                return one.grade();
            case 4:
                return one.blows;
            default:
                throw new IllegalArgumentException("what is 0 to 4");
        }
    }

    public int off(int pan, int note) throws IndexOutOfBoundsException {
        requirePan(pan);
        requireNote(note);
        return pans[pan].offs[note];
    }

    public int ofPhrase(int phrase, int what) throws IndexOutOfBoundsException, IllegalArgumentException {
        requirePhrase(phrase);
        Phrase one = phrases[phrase];
        switch (what) {
            case 0:
                return one.section;
            case 1:
                return one.hard;
            case 2:
                return one.notes;
            case 3:
                return one.changes;
            case 4:
                return arrangement.placesOf(phrase);
            default:
                throw new IllegalArgumentException("what is 0 to 4");
        }
    }

    public int ofPlayer(int player, int what) throws IndexOutOfBoundsException, IllegalArgumentException {
        requirePlayer(player);
        Player one = players[player];
        switch (what) {
            case 0:
                return one.section;
            case 1:
                return one.speed;
            case 2:
                return one.reach;
            case 3:
                return one.panNumber();
            case 4:
                return one.away ? 1 : 0;
            case 5:
                return one.soundingPan() != null ? 1 : 0;
            case 6:
                return one.minutesTaught;
            default:
                throw new IllegalArgumentException("what is 0 to 6");
        }
    }

    public int memory(int player, int phrase) throws IndexOutOfBoundsException {
        requirePlayer(player);
        requirePhrase(phrase);
        return minds.known[player][phrase];
    }

    public int ofPlace(int place, int what) throws IndexOutOfBoundsException, IllegalArgumentException {
        requirePlace(place);
        if (!isWithin(what, 0, 1)) {
            throw new IllegalArgumentException("what is 0 or 1");
        }
        if (what == 0) {
            return arrangement.phraseAt[place];
        }
        weigh(minds);
        return soundAt(arrangement, place);
    }

    public int mark(int mark) throws IndexOutOfBoundsException {
        if (!isWithin(mark, 0, MARKS - 1)) {
            throw new IndexOutOfBoundsException("a mark is 0 to 3");
        }
        weigh(minds);
        switch (mark) {
            case 0:
                return meanSound(arrangement);
            case 1:
                return tone();
            case 2:
                return variety(arrangement);
            default:
                return leastSound(arrangement);
        }
    }

    public int ofRound(int round, int what) throws IndexOutOfBoundsException, IllegalArgumentException {
        if (!isWithin(round, 0, ROUNDS - 1)) {
            throw new IndexOutOfBoundsException("a round is 0 to 2");
        }
        if (!isWithin(what, 0, 1)) {
            throw new IllegalArgumentException("what is 0 or 1");
        }
        if (round >= contest.roundsPlayed) {
            return NONE;
        }
        return what == 0 ? contest.scores[round] : contest.ranks[round];
    }

    public int many(int what) throws IllegalArgumentException {
        switch (what) {
            case 0:
                return today.number;
            case 1:
                return panCount;
            case 2:
                return phraseCount;
            case 3:
                return arrangement.count;
            case 4:
                return playerCount;
            case 5:
                return soundingCount();
            case 6:
                return contest.rivalCount;
            case 7:
                return money;
            case 8:
                return contest.roundsPlayed;
            case 9:
                return contest.isOver() ? 1 : 0;
            case 10:
                return totalNow();
            case 11:
                return contest.scoreOf(totalNow());
            case 12:
                return today.rehearsed;
            case 13:
                return blowsEver();
            default:
                throw new IllegalArgumentException("what is 0 to 13");
        }
    }

    public double meanMemory() {
        int sum = 0;
        int pairs = 0;
        for (int i = 0; i < playerCount; i++) {
            for (int p = 0; p < phraseCount; p++) {
                if (players[i].section == phrases[p].section) {
                    sum += minds.known[i][p];
                    pairs++;
                }
            }
        }
        return pairs == 0 ? 0.0 : (double) sum / (double) pairs;
    }

    // ---- what would be (nothing is changed)

    public int wouldTotal(int days) throws IllegalArgumentException {
        if (!isWithin(days, 0, 60)) {
            throw new IllegalArgumentException("one looks 0 to 60 days ahead");
        }
        trialMinds.copyFrom(minds);
        for (int gone = 0; gone < days; gone++) {
            trialMinds.sleep(phrases, phraseCount);
        }
        weigh(trialMinds);
        return tone() + heard(arrangement);
    }

    public int bestOrder() throws IllegalStateException {
        int count = arrangement.count;
        if (count > MOST_ORDERED_PLACES) {
            throw new IllegalStateException("there are more than 5 places");
        }
        int orders = 1;
        for (int size = 2; size <= count; size++) {
            orders *= size;
        }
        weigh(minds);
        int best = 0;
        for (int number = 0; number < orders; number++) {
            trialOrder.copyFrom(arrangement);
            trialOrder.shuffle(number);
            best = Math.max(best, heard(trialOrder));
        }
        return tone() + best;
    }

    public int bestTeach(int player, int minutes) throws IndexOutOfBoundsException, IllegalArgumentException {
        requirePlayer(player);
        requireLesson(minutes);
        weigh(minds);
        trialMinds.copyFrom(minds);
        int best = NONE;
        int bestHeard = NONE;
        for (int p = 0; p < phraseCount; p++) {
            if (phrases[p].section == players[player].section) {
                int heardThen = heardIfTaught(player, p, minutes);
                if (heardThen > bestHeard) {
                    best = p;
                    bestHeard = heardThen;
                }
            }
        }
        return best;
    }

    public int blowsFor(int pan) throws IndexOutOfBoundsException {
        requirePan(pan);
        trialPan.copyFrom(pans[pan]);
        int blows = trialPan.tuneUpTo(MOST_FORESEEN_BLOWS);
        return trialPan.isCracked() || trialPan.needsTuner() ? NONE : blows;
    }

    public long digest() {
        long d = 58218;
        for (int what = 0; what <= 13; what++) {
            d = d * 31 + many(what);
        }
        d = digestPans(d);
        d = digestPhrases(d);
        d = digestPlayers(d);
        d = digestPlacesAndMarks(d);
        for (int round = 0; round < ROUNDS; round++) {
            d = d * 31 + ofRound(round, 0);
            d = d * 31 + ofRound(round, 1);
        }
        d = d * 31 + wouldTotal(5);
        if (arrangement.count <= MOST_ORDERED_PLACES) {
            d = d * 31 + bestOrder();
        }
        return d;
    }

    private long digestPans(long start) {
        long d = start;
        for (int pan = 0; pan < panCount; pan++) {
            for (int what = 0; what <= 4; what++) {
                d = d * 31 + ofPan(pan, what);
            }
            for (int note = 0; note < NOTES; note++) {
                d = d * 31 + off(pan, note);
            }
            d = d * 31 + blowsFor(pan);
        }
        return d;
    }

    private long digestPhrases(long start) {
        long d = start;
        for (int phrase = 0; phrase < phraseCount; phrase++) {
            for (int what = 0; what <= 4; what++) {
                d = d * 31 + ofPhrase(phrase, what);
            }
        }
        return d;
    }

    private long digestPlayers(long start) {
        long d = start;
        for (int player = 0; player < playerCount; player++) {
            for (int what = 0; what <= 6; what++) {
                d = d * 31 + ofPlayer(player, what);
            }
            for (int phrase = 0; phrase < phraseCount; phrase++) {
                d = d * 31 + memory(player, phrase);
            }
            d = d * 31 + bestTeach(player, 20);
        }
        return d;
    }

    private long digestPlacesAndMarks(long start) {
        long d = start;
        for (int place = 0; place < arrangement.count; place++) {
            d = d * 31 + ofPlace(place, 0);
            d = d * 31 + ofPlace(place, 1);
        }
        for (int mark = 0; mark < MARKS; mark++) {
            d = d * 31 + mark(mark);
        }
        return d;
    }

    // ---- what a call may ask for

    private static boolean isWithin(int value, int least, int most) {
        return value >= least && value <= most;
    }

    private static int held(int value, int least, int most) {
        if (value < least) {
            return least;
        }
        return value > most ? most : value;
    }

    private static void requireSection(int section) {
        if (!isWithin(section, 0, SECTIONS - 1)) {
            throw new IndexOutOfBoundsException("a section or family is 0 to 3");
        }
    }

    private static void requireNote(int note) {
        if (!isWithin(note, 0, NOTES - 1)) {
            throw new IndexOutOfBoundsException("a note is 0 to 7");
        }
    }

    private static void requirePhraseWords(int hard, int notes) {
        if (!isWithin(hard, 1, 9)) {
            throw new IllegalArgumentException("a phrase is 1 to 9 hard");
        }
        if (!isWithin(notes, 1, ALL_NOTES)) {
            throw new IllegalArgumentException("notes are 1 to 255");
        }
    }

    private static void requireLesson(int minutes) {
        if (!isWithin(minutes, 1, LESSON_MINUTES)) {
            throw new IllegalArgumentException("one teaches for 1 to 60 minutes");
        }
    }

    private void requirePan(int pan) {
        if (!isWithin(pan, 0, panCount - 1)) {
            throw new IndexOutOfBoundsException("there is no such pan");
        }
    }

    private void requireWhole(int pan) {
        if (pans[pan].isCracked()) {
            throw new IllegalStateException("the pan is cracked");
        }
    }

    private void requirePhrase(int phrase) {
        if (!isWithin(phrase, 0, phraseCount - 1)) {
            throw new IndexOutOfBoundsException("there is no such phrase");
        }
    }

    private void requirePlayer(int player) {
        if (!isWithin(player, 0, playerCount - 1)) {
            throw new IndexOutOfBoundsException("there is no such player");
        }
    }

    private void requirePlace(int place) {
        if (!isWithin(place, 0, arrangement.count - 1)) {
            throw new IndexOutOfBoundsException("there is no such place");
        }
    }

    // ---- practice and weather

    private void giveLesson(Minds learning, int player, int phrase, int minutes) {
        Player pupil = players[player];
        Phrase one = phrases[phrase];
        learning.learn(player, phrase, minutes * pupil.speed / one.hard, pupil.mostMemory(one));
    }

    private void rehearsePlaces(int player, Pan pan, int gain) {
        Player one = players[player];
        for (int place = 0; place < arrangement.count; place++) {
            int number = arrangement.phraseAt[place];
            Phrase phrase = phrases[number];
            if (phrase.section == one.section && minds.known[player][number] >= REHEARSABLE_MEMORY) {
                minds.learn(player, number, gain, one.mostMemory(phrase));
                pan.wear(phrase.notes, today.number);
            }
        }
    }

    private void weather(int sun, int rain) {
        for (int i = 0; i < panCount; i++) {
            if (sun >= HOT_SUN) {
                pans[i].warm();
            }
            if (rain >= WET_RAIN && !covered) {
                pans[i].fatigue += 10;
            }
        }
    }

    private int soundingCount() {
        int count = 0;
        for (int i = 0; i < playerCount; i++) {
            if (players[i].soundingPan() != null) {
                count++;
            }
        }
        return count;
    }

    private int blowsEver() {
        int sum = 0;
        for (int i = 0; i < panCount; i++) {
            sum += pans[i].blows;
        }
        return sum;
    }

    // ---- what is heard

    /** Fills in what each phrase sounds like at the front, for all that looks at sounds below. */
    private void weigh(Minds knowing) {
        for (int p = 0; p < phraseCount; p++) {
            levels[p] = levelOf(p, knowing);
        }
    }

    private int levelOf(int number, Minds knowing) {
        Phrase phrase = phrases[number];
        int sum = 0;
        int count = 0;
        for (int i = 0; i < playerCount; i++) {
            Pan pan = players[i].soundingPan();
            if (pan != null && players[i].section == phrase.section) {
                int clear = Integer.bitCount(pan.notesInTune() & phrase.notes);
                sum += knowing.known[i][number] * clear / phrase.noteCount();
                count++;
            }
        }
        return count == 0 ? 0 : sum / count;
    }

    private int soundAt(Arrangement order, int place) {
        int number = order.phraseAt[place];
        return Math.max(0, levels[number] - place * phrases[number].hard / 4);
    }

    private int meanSound(Arrangement order) {
        int sum = 0;
        for (int place = 0; place < order.count; place++) {
            sum += soundAt(order, place);
        }
        return order.count == 0 ? 0 : sum / order.count;
    }

    private int leastSound(Arrangement order) {
        int least = FULL_MEMORY;
        for (int place = 0; place < order.count; place++) {
            least = Math.min(least, soundAt(order, place));
        }
        return order.count == 0 ? 0 : least;
    }

    private int tone() {
        int grades = 0;
        int count = 0;
        for (int i = 0; i < playerCount; i++) {
            Pan pan = players[i].soundingPan();
            if (pan != null) {
                grades += pan.grade();
                count++;
            }
        }
        return count == 0 ? 0 : 12 * grades / count;
    }

    private int variety(Arrangement order) {
        int worth = 0;
        for (int p = 0; p < phraseCount; p++) {
            if (order.placesOf(p) > 0) {
                worth += 3 * phrases[p].hard;
            }
        }
        return held(worth - 8 * order.repeats(), 0, 100);
    }

    /** The total without the tone, which neither the order nor what is known can change. */
    private int heard(Arrangement order) {
        return meanSound(order) + variety(order) + leastSound(order);
    }

    private int totalNow() {
        weigh(minds);
        return tone() + heard(arrangement);
    }

    /** Only the level of that phrase can differ, so lessons tried before may stay in the trial minds. */
    private int heardIfTaught(int player, int phrase, int minutes) {
        int before = levels[phrase];
        giveLesson(trialMinds, player, phrase, minutes);
        levels[phrase] = levelOf(phrase, trialMinds);
        int heardThen = heard(arrangement);
        levels[phrase] = before;
        return heardThen;
    }

    private static final class Pan {
        private final int number;
        private final int[] offs = new int[NOTES];
        private int family;
        private int fatigue;
        private int blows;

        Pan(int number, int family) {
            this.number = number;
            this.family = family;
            for (int note = 0; note < NOTES; note++) {
                offs[note] = (7 * number + 5 * note + 3 * family) % 31 - 15;
            }
        }

        /** All but the number: what is tried on a copy never asks for that. */
        void copyFrom(Pan other) {
            family = other.family;
            fatigue = other.fatigue;
            blows = other.blows;
            System.arraycopy(other.offs, 0, offs, 0, NOTES);
        }

        boolean isCracked() {
            return fatigue >= CRACKING_FATIGUE;
        }

        int notesInTune() {
            int limit = 6 + 2 * family;
            int notes = 0;
            for (int note = 0; note < NOTES; note++) {
                if (Math.abs(offs[note]) <= limit) {
                    notes |= 1 << note;
                }
            }
            return notes;
        }

        int grade() {
            return isCracked() ? 0 : Integer.bitCount(notesInTune());
        }

        private void shift(int note, int by) {
            offs[note] = held(offs[note] + by, -FARTHEST_OFF, FARTHEST_OFF);
        }

        void strike(int note, int force) {
            shift(note, force);
            shift((note + 1) % NOTES, -(force / 4));
            shift((note + NOTES - 1) % NOTES, -(force / 4));
            fatigue += Math.abs(force);
            blows++;
        }

        void heat() {
            fatigue /= 2;
            for (int note = 0; note < NOTES; note++) {
                shift(note, note % 2 == 0 ? 3 : -3);
            }
        }

        void warm() {
            for (int note = 0; note < NOTES; note++) {
                shift(note, 1);
            }
        }

        void wear(int notes, int day) {
            for (int note = 0; note < NOTES; note++) {
                if ((notes >> note & 1) == 1) {
                    shift(note, (note + day) % 2 == 0 ? 1 : -1);
                }
            }
        }

        boolean needsTuner() {
            return !isCracked() && notesInTune() != ALL_NOTES;
        }

        /** The tuner's blows, as many as are needed and allowed; returns how many there were. */
        int tuneUpTo(int most) {
            int done = 0;
            while (done < most && needsTuner()) {
                tuneOnce();
                done++;
            }
            return done;
        }

        private void tuneOnce() {
            int worst = 0;
            for (int note = 1; note < NOTES; note++) {
                if (Math.abs(offs[note]) > Math.abs(offs[worst])) {
                    worst = note;
                }
            }
            strike(worst, held(-offs[worst], -HARDEST_BLOW, HARDEST_BLOW));
        }
    }

    private static final class Phrase {
        private final int section;
        private int hard;
        private int notes;
        private int changes;

        Phrase(int section, int hard, int notes) {
            this.section = section;
            this.hard = hard;
            this.notes = notes;
        }

        void tellAnew(int hard, int notes) {
            this.hard = hard;
            this.notes = notes;
            changes++;
        }

        int noteCount() {
            return Integer.bitCount(notes);
        }
    }

    private static final class Player {
        private final int section;
        private final int speed;
        private final int reach;
        private Pan pan;
        private boolean away;
        private int minutesTaught;

        Player(int section, int speed, int reach) {
            this.section = section;
            this.speed = speed;
            this.reach = reach;
        }

        int panNumber() {
            return pan == null ? NONE : pan.number;
        }

        /** The pan on which it sounds; null, if it does not. */
        Pan soundingPan() {
            return away || pan == null || pan.isCracked() ? null : pan;
        }

        int mostMemory(Phrase phrase) {
            return phrase.noteCount() > reach ? STRAINED_MEMORY : FULL_MEMORY;
        }
    }

    /** What each player knows of each phrase (0 of other sections), and what was practised today. */
    private static final class Minds {
        private final int[][] known = new int[MOST_PLAYERS][MOST_PHRASES];
        // A bit for each phrase: a lesson spares a phrase that it could not better, too.
        private final int[] practised = new int[MOST_PLAYERS];

        void copyFrom(Minds other) {
            for (int i = 0; i < MOST_PLAYERS; i++) {
                System.arraycopy(other.known[i], 0, known[i], 0, MOST_PHRASES);
                practised[i] = other.practised[i];
            }
        }

        void learn(int player, int phrase, int gain, int most) {
            known[player][phrase] = Math.min(most, known[player][phrase] + gain);
            practised[player] |= 1 << phrase;
        }

        void halve(int player, int phrase, int most) {
            known[player][phrase] = Math.min(most, known[player][phrase] / 2);
        }

        void sleep(Phrase[] phrases, int phraseCount) {
            for (int i = 0; i < MOST_PLAYERS; i++) {
                for (int p = 0; p < phraseCount; p++) {
                    if ((practised[i] >> p & 1) == 0) {
                        known[i][p] = Math.max(0, known[i][p] - phrases[p].hard / 2 - 1);
                    }
                }
                practised[i] = 0;
            }
        }
    }

    private static final class Arrangement {
        private final int[] phraseAt = new int[MOST_PLACES];
        private int count;

        void copyFrom(Arrangement other) {
            System.arraycopy(other.phraseAt, 0, phraseAt, 0, MOST_PLACES);
            count = other.count;
        }

        void append(int phrase) {
            phraseAt[count] = phrase;
            count++;
        }

        void closeUp(int place) {
            for (int at = place; at < count - 1; at++) {
                phraseAt[at] = phraseAt[at + 1];
            }
            count--;
        }

        int placesOf(int phrase) {
            int places = 0;
            for (int at = 0; at < count; at++) {
                if (phraseAt[at] == phrase) {
                    places++;
                }
            }
            return places;
        }

        int repeats() {
            int repeats = 0;
            for (int at = 1; at < count; at++) {
                if (phraseAt[at] == phraseAt[at - 1]) {
                    repeats++;
                }
            }
            return repeats;
        }

        /** The numbers 0 to (count! - 1) lead to all orders, each to another one. */
        void shuffle(int number) {
            int rest = number;
            for (int at = 0; at < count; at++) {
                int choices = count - at;
                int from = at + rest % choices;
                rest /= choices;
                int phrase = phraseAt[from];
                phraseAt[from] = phraseAt[at];
                phraseAt[at] = phrase;
            }
        }
    }

    private static final class Today {
        private final int[] taught = new int[SECTIONS];
        private int number;
        private int rehearsed;
        private boolean played;

        void turn() {
            for (int section = 0; section < SECTIONS; section++) {
                taught[section] = 0;
            }
            rehearsed = 0;
            played = false;
            number++;
        }
    }

    private static final class Contest {
        private final int[] rivals = new int[MOST_RIVALS];
        private final int[] leans = new int[JUDGES];
        private final int[] scores = new int[ROUNDS];
        private final int[] ranks = new int[ROUNDS];
        private int rivalCount;
        private int roundsPlayed;
        private boolean lost;

        boolean isOver() {
            return lost || roundsPlayed >= ROUNDS;
        }

        int scoreOf(int total) {
            int least = Math.min(leans[0], Math.min(leans[1], leans[2]));
            int greatest = Math.max(leans[0], Math.max(leans[1], leans[2]));
            return total + leans[0] + leans[1] + leans[2] - least - greatest;
        }

        /** For a contest that is not over: plays its next round. */
        int enter(int score) {
            int round = roundsPlayed;
            int rank = rankOf(round, score);
            scores[round] = score;
            ranks[round] = rank;
            lost = round < LAST_RANK_TO_GO_ON.length && rank > LAST_RANK_TO_GO_ON[round];
            roundsPlayed++;
            return rank;
        }

        private int rankOf(int round, int score) {
            int ahead = 0;
            for (int i = 0; i < rivalCount; i++) {
                if (rivals[i] + RIVAL_GAIN * round > score) {
                    ahead++;
                }
            }
            return 1 + ahead;
        }

        static int prizeOf(int round, int rank) {
            return round == ROUNDS - 1 && isWithin(rank, 1, PRIZES.length) ? PRIZES[rank - 1] : 0;
        }
    }
}
