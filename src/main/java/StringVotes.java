/**
 * A puppet parliament with strings that pull two votes at once.
 *
 * <p>Sets of puppets are told as bits, votes and leanings as 1 (yes) and 0 (no).
 */
public final class StringVotes {
    /** An argument is out of its range, or there is no such puppet or string. */
    public static final int INVALID_ARGUMENT = -1000001;
    /** The call is not possible in the present state. */
    public static final int NOT_POSSIBLE = -1000002;
    /** A fixed limit has been reached. */
    public static final int LIMIT_REACHED = -1000003;
    /** There is no such value. */
    public static final int NOT_FOUND = -1000004;

    private static final int MOST_PUPPETS = 12;
    private static final int MOST_SEATS = 9;
    private static final int MOST_STRINGS = 20;
    private static final int LAST_DEAL = 5;
    private static final int MOST_PULLS = 12;
    private static final int FIRST_PULLS = 3;
    private static final int MOST_SESSIONS = 999;
    private static final int BOOK_SIZE = 8;
    private static final int BOOK_COLUMNS = 4;
    private static final int MOST_STATES = 4;
    private static final int MOST_CHARACTERS = 60;
    private static final int FIRST_CHARACTER = 32;
    private static final int LAST_CHARACTER = 126;
    private static final int MOST_NUMBERS = 3;
    private static final int NOT_OF_THE_FORM = 1;
    private static final int NOT_DONE = 2;
    private static final int ONE_AS_BITS_EXPONENT = 127;
    private static final int FRACTION_BITS = 23;

    /** Stands for what is not there, inside the object; no answer tells it. */
    private static final int NONE = -1;

    private final Parliament now;
    /** Where a change is tried out, so that one that is refused leaves no trace. */
    private final Parliament trial;
    /** The history, going round: the slots of dropped states are written over. */
    private final Parliament[] past;
    private int oldestSlot;
    private int states;
    private final Turns turns;
    private final Text text;
    private int ordersDone;
    private int faultPosition;
    private int faultReason;
    private int faultCause;

    /** Begins without puppets. */
    public StringVotes() {
        now = new Parliament();
        trial = new Parliament();
        past = new Parliament[MOST_STATES];
        for (int slot = 0; slot < past.length; slot++) {
            past[slot] = new Parliament();
        }
        turns = new Turns();
        text = new Text();
    }

    // ---- puppets, strings

    /** Adds a puppet; returns its number. */
    public int puppet(int seats, int leaning) {
        trial.copyFrom(now);
        return settle(trial.addPuppet(seats, leaning));
    }

    /** Ties two puppets; returns the number of the string. */
    public int tie(int one, int other, boolean isUnlike, int deal) {
        trial.copyFrom(now);
        return settle(trial.addString(one, other, isUnlike ? 1 : 0, deal));
    }

    /** Cuts a string; returns how many are left. */
    public int cut(int string) {
        trial.copyFrom(now);
        return settle(trial.cutString(string));
    }

    /** Cuts all strings of a deal; returns how many. */
    public int cutDeal(int deal) {
        trial.copyFrom(now);
        return settle(trial.cutStringsOf(deal));
    }

    // ---- pulls, sessions

    /** Pulls a puppet to a vote; returns the seats that would vote yes then. */
    public int pull(int puppet, int vote) {
        trial.copyFrom(now);
        return settle(trial.pullTo(puppet, vote));
    }

    /** Releases a puppet that is pulled; returns the vote to which it was pulled. */
    public int release(int puppet) {
        trial.copyFrom(now);
        return settle(trial.letGo(puppet));
    }

    /** Holds a session; returns 1 if the bill is passed, otherwise 0. */
    public int session() {
        trial.copyFrom(now);
        return settle(trial.holdSession());
    }

    /** Sets the setting; returns what it was. */
    public int set(int what, int value) {
        if (what != 0) {
            return INVALID_ARGUMENT;
        }
        trial.copyFrom(now);
        return settle(trial.bindPulls(value));
    }

    // ---- what there is

    /** Returns something of a puppet. */
    public int puppetOf(int puppet, int what) {
        if (!now.hasPuppet(puppet)) {
            return INVALID_ARGUMENT;
        }
        int lowest = now.lowest.get(puppet);
        switch (what) {
            case 0: return now.seats.get(puppet);
            case 1: return now.leaning.get(puppet);
            case 2: return now.isPulled(puppet) ? now.pulled.get(puppet) : NOT_FOUND;
            case 3: return now.vote.get(puppet);
            case 4: return lowest;
            case 5: return now.side.get(puppet);
            case 6: return now.strings.howManyAt(puppet);
            case 7: return now.membersOf(lowest);
            case 8: return now.seatsIn(now.membersOf(lowest));
            default: return INVALID_ARGUMENT;
        }
    }

    /** Returns something of a string. */
    public int stringOf(int string, int what) {
        if (!now.strings.has(string)) {
            return INVALID_ARGUMENT;
        }
        switch (what) {
            case 0: return now.strings.lower.get(string);
            case 1: return now.strings.upper.get(string);
            case 2: return now.strings.unlike.get(string);
            case 3: return now.strings.deal.get(string);
            case 4: return hangTogetherWithout(string) ? 1 : 0;
            default: return INVALID_ARGUMENT;
        }
    }

    private boolean hangTogetherWithout(int string) {
        trial.copyFrom(now);
        trial.cutString(string);
        return trial.hangTogether(now.strings.lower.get(string), now.strings.upper.get(string));
    }

    /** Returns the fewest strings by which two puppets hang together. */
    public int between(int one, int other) {
        if (!now.hasPuppet(one) || !now.hasPuppet(other)) {
            return INVALID_ARGUMENT;
        }
        int reached = 1 << one;
        for (int steps = 0; steps < MOST_PUPPETS; steps++) {
            if (isMember(reached, other)) {
                return steps;
            }
            reached = now.strings.oneStringFurther(reached);
        }
        return NOT_FOUND;
    }

    /** Returns something of a session that is kept in the book. */
    public int book(int ago, int what) {
        if (ago < 0 || !isIn(what, 0, BOOK_COLUMNS - 1)) {
            return INVALID_ARGUMENT;
        }
        return ago < now.book.kept() ? now.book.entry(ago, what) : NOT_FOUND;
    }

    // ---- what would be

    /** Tells why a string is refused, 0 if it is not. */
    public int whyTie(int one, int other, boolean isUnlike) {
        if (!now.arePair(one, other)) {
            return INVALID_ARGUMENT;
        }
        return now.reasonAgainstString(one, other, isUnlike ? 1 : 0);
    }

    /** Tells why a puppet is not pulled to a vote, 0 if it is. */
    public int whyPull(int puppet, int vote) {
        if (!now.hasPuppet(puppet) || !isIn(vote, 0, 1)) {
            return INVALID_ARGUMENT;
        }
        return now.reasonAgainstPull(puppet, vote);
    }

    /** Finds the pull that brings the most seats of yes. */
    public int bestPull(int what) {
        if (!isIn(what, 0, 1)) {
            return INVALID_ARGUMENT;
        }
        int best = NONE;
        int most = now.yesSeats;
        for (int puppet = 0; puppet < now.puppets; puppet++) {
            int brought = Math.max(seatsIfPulled(puppet, 0), seatsIfPulled(puppet, 1));
            if (brought > most) {
                best = puppet;
                most = brought;
            }
        }
        if (best == NONE) {
            return NOT_FOUND;
        }
        return what == 0 ? best : most;
    }

    /** An error, which is below all seats, if the puppet can't be pulled to that vote. */
    private int seatsIfPulled(int puppet, int vote) {
        trial.copyFrom(now);
        return trial.pullTo(puppet, vote);
    }

    /** Tells the fewest groups that have to vote the other way for more yes than no. */
    public int fewest(int what) {
        if (!isIn(what, 0, 1)) {
            return INVALID_ARGUMENT;
        }
        if (now.puppets == 0) {
            return NOT_FOUND;
        }
        turns.collect(now);
        int groups = what == 0 ? turns.fewestByTheBest() : turns.fewestOfAllSets();
        return groups == NONE ? NOT_FOUND : groups;
    }

    /** Tells what cutting a string would bring. */
    public int ifCut(int string, int what) {
        if (!now.strings.has(string) || !isIn(what, 0, 1)) {
            return INVALID_ARGUMENT;
        }
        trial.copyFrom(now);
        trial.cutString(string);
        return what == 0 ? trial.yesSeats : trial.groupsByJoining();
    }

    /** Returns the bits of the float that is the share of the seats that would vote yes. */
    public int share() {
        int all = now.allSeats;
        if (all <= 0) {
            return NOT_FOUND;
        }
        return bitsOf((float) now.yesSeats / (float) all);
    }

    /**
     * The library's own function is not among those that the program may use. A share is from 0
     * to 1, so there is no sign, and doubling a float is exact.
     */
    private static int bitsOf(float share) {
        if (share <= 0.0f) {
            return 0;
        }
        float scaled = share;
        int exponent = ONE_AS_BITS_EXPONENT;
        for (; exponent > 1 && scaled < 1.0f; exponent--) {
            scaled = scaled * 2.0f;
        }
        int fraction = (int) ((scaled - 1.0f) * (float) (1 << FRACTION_BITS));
        return (exponent << FRACTION_BITS) | fraction;
    }

    /** Returns a number of the parliament, or of what is kept beside it. */
    public int count(int what) {
        switch (what) {
            case 0: return now.puppets;
            case 1: return now.strings.size;
            case 2: return now.groupsByJoining();
            case 3: return now.groupsByWalking();
            case 4: return now.allSeats;
            case 5: return now.yesSeats;
            case 6: return now.allSeats - now.yesSeats;
            case 7: return now.puppets == 0 ? NOT_FOUND : now.wouldPass();
            case 8: return now.puppets == 0 ? NOT_FOUND : now.speaker;
            case 9: return now.pulledPuppets();
            case 10: return now.book.sessions;
            case 11: return now.book.passed;
            case 12: return now.book.kept();
            case 13: return states;
            case 14: return text.length;
            case 15: return now.strings.cuts;
            case 20: return now.pullsBound;
            default: return INVALID_ARGUMENT;
        }
    }

    /** Restores the latest state of the history; returns how many are left in it. */
    public int undo() {
        if (states == 0) {
            return NOT_POSSIBLE;
        }
        Parliament latest = pastState(states - 1);
        if (latest != null) {
            now.copyFrom(latest);
        }
        states--;
        return states;
    }

    // ---- texts

    /** Appends a character to the text; returns its length. */
    public int type(int character) {
        if (!isIn(character, FIRST_CHARACTER, LAST_CHARACTER)) {
            return INVALID_ARGUMENT;
        }
        return text.append(character) ? text.length : LIMIT_REACHED;
    }

    /** Empties the text; returns the length it had. */
    public int clearText() {
        int length = text.length;
        text.length = 0;
        return length;
    }

    /** Tells about the fault of the text. */
    public int fault(int what) {
        if (!isIn(what, 0, 2)) {
            return INVALID_ARGUMENT;
        }
        if (tryOrders()) {
            return NOT_FOUND;
        }
        switch (what) {
            case 0: return faultPosition;
            case 1: return faultReason;
            default: return faultCause;
        }
    }

    /** Does all orders of the text as one change; returns how many there are. */
    public int play() {
        return settle(tryOrders() ? ordersDone : NOT_POSSIBLE);
    }

    /** Does the orders on the trial, up to the first that is not possible; whether there is none. */
    private boolean tryOrders() {
        trial.copyFrom(now);
        ordersDone = 0;
        int start = 0;
        for (int order = 0; order < MOST_CHARACTERS && start < text.length; order++) {
            if (!text.readOrder(start)) {
                return foundFault(start, NOT_OF_THE_FORM, text.place - start);
            }
            int answer = obey();
            if (isError(answer)) {
                return foundFault(start, NOT_DONE, answer);
            }
            ordersDone++;
            start = text.place;
        }
        return true;
    }

    private boolean foundFault(int position, int reason, int cause) {
        faultPosition = position;
        faultReason = reason;
        faultCause = cause;
        return false;
    }

    /** Does the order that has been read on the trial; returns what its call returns. */
    private int obey() {
        int first = text.numbers.get(0);
        int second = text.numbers.get(1);
        int third = text.numbers.get(2);
        switch (text.letter) {
            case 'p': return trial.addPuppet(first, second);
            case 'a': return trial.addString(first, second, 0, third);
            case 'u': return trial.addString(first, second, 1, third);
            case 'c': return trial.cutString(first);
            case 'k': return trial.cutStringsOf(first);
            case 'y': return trial.pullTo(first, 1);
            case 'n': return trial.pullTo(first, 0);
            case 'v': return trial.holdSession();
            default: return NOT_POSSIBLE;
        }
    }

    // ---- changes and their history

    /** Takes the trial over as the present state, unless its change has come to an error. */
    private int settle(int answer) {
        if (!isError(answer)) {
            remember();
            now.copyFrom(trial);
        }
        return answer;
    }

    private void remember() {
        if (states == MOST_STATES) {
            oldestSlot = (oldestSlot + 1) % MOST_STATES;
            states--;
        }
        Parliament slot = pastState(states);
        if (slot != null) {
            slot.copyFrom(now);
        }
        states++;
    }

    /** The slot of a state of the history, by its age from the oldest one. */
    private Parliament pastState(int place) {
        int slot = (oldestSlot + place) % MOST_STATES;
        return slot >= 0 && slot < past.length ? past[slot] : null;
    }

    /** What a change answers is never below 0, but for the errors. */
    private static boolean isError(int answer) {
        return answer < 0;
    }

    private static boolean isIn(int value, int least, int most) {
        return value >= least && value <= most;
    }

    private static boolean isMember(int set, int member) {
        return (set >> member & 1) == 1;
    }

    /** A row of numbers of a fixed length: the one place where arrays of them are indexed. */
    private static final class Row {
        private final int[] cells;

        private Row(int length) {
            cells = new int[Math.max(length, 0)];
        }

        private int get(int index) {
            return index >= 0 && index < cells.length ? cells[index] : 0;
        }

        private void put(int index, int value) {
            if (index >= 0 && index < cells.length) {
                cells[index] = value;
            }
        }

        private void copyFrom(Row other) {
            System.arraycopy(other.cells, 0, cells, 0, Math.min(cells.length, other.cells.length));
        }

        /** Closes the gap that the removal of a cell leaves. */
        private void removeAt(int index) {
            if (index < 0) {
                return;
            }
            for (int i = index; i < cells.length - 1; i++) {
                cells[i] = cells[i + 1];
            }
        }
    }

    /** The strings in the order of their numbers. */
    private static final class Strings {
        private final Row lower;
        private final Row upper;
        private final Row unlike;
        private final Row deal;
        private int size;
        private int cuts;

        private Strings() {
            lower = new Row(MOST_STRINGS);
            upper = new Row(MOST_STRINGS);
            unlike = new Row(MOST_STRINGS);
            deal = new Row(MOST_STRINGS);
        }

        private void copyFrom(Strings other) {
            lower.copyFrom(other.lower);
            upper.copyFrom(other.upper);
            unlike.copyFrom(other.unlike);
            deal.copyFrom(other.deal);
            size = other.size;
            cuts = other.cuts;
        }

        private boolean has(int string) {
            return string >= 0 && string < size;
        }

        private int append(int one, int other, int isUnlike, int ofDeal) {
            lower.put(size, Math.min(one, other));
            upper.put(size, Math.max(one, other));
            unlike.put(size, isUnlike);
            deal.put(size, ofDeal);
            size++;
            return size - 1;
        }

        private void removeAt(int string) {
            lower.removeAt(string);
            upper.removeAt(string);
            unlike.removeAt(string);
            deal.removeAt(string);
            size--;
            cuts++;
        }

        private int removeAllOf(int ofDeal) {
            int removed = 0;
            // From the last one, as the numbers of the later ones change.
            for (int string = size - 1; string >= 0; string--) {
                if (deal.get(string) == ofDeal) {
                    removeAt(string);
                    removed++;
                }
            }
            return removed;
        }

        private boolean areTied(int one, int other) {
            int low = Math.min(one, other);
            int high = Math.max(one, other);
            for (int string = 0; string < size; string++) {
                if (lower.get(string) == low && upper.get(string) == high) {
                    return true;
                }
            }
            return false;
        }

        private int howManyAt(int puppet) {
            int found = 0;
            for (int string = 0; string < size; string++) {
                if (lower.get(string) == puppet || upper.get(string) == puppet) {
                    found++;
                }
            }
            return found;
        }

        /** The set with all to which there is a string from one in it. */
        private int oneStringFurther(int set) {
            int further = set;
            for (int string = 0; string < size; string++) {
                int ends = 1 << lower.get(string) | 1 << upper.get(string);
                if ((set & ends) != 0) {
                    further |= ends;
                }
            }
            return further;
        }
    }

    /** The sessions: how many there were, and the latest ones, the latest first. */
    private static final class Book {
        private final Row entries;
        private int sessions;
        private int passed;

        private Book() {
            entries = new Row(BOOK_SIZE * BOOK_COLUMNS);
        }

        private void copyFrom(Book other) {
            entries.copyFrom(other.entries);
            sessions = other.sessions;
            passed = other.passed;
        }

        private int kept() {
            return Math.min(sessions, BOOK_SIZE);
        }

        private int entry(int ago, int column) {
            return entries.get(ago * BOOK_COLUMNS + column);
        }

        private void enter(int yes, int no, int isPassed, int speaker) {
            for (int i = BOOK_SIZE * BOOK_COLUMNS - 1; i >= BOOK_COLUMNS; i--) {
                entries.put(i, entries.get(i - BOOK_COLUMNS));
            }
            entries.put(0, yes);
            entries.put(1, no);
            entries.put(2, isPassed);
            entries.put(3, speaker);
            sessions++;
            passed += isPassed;
        }
    }

    /**
     * A state, all but the text. The groups, sides and votes follow from the rest; they are told
     * anew behind each change, so that the questions only look them up.
     */
    private static final class Parliament {
        private final Row seats;
        private final Row leaning;
        /** The votes to which puppets are pulled, or NONE. */
        private final Row pulled;
        private final Row lowest;
        private final Row side;
        private final Row vote;
        private final Strings strings;
        private final Book book;
        private int puppets;
        private int speaker;
        private int pullsBound;
        private int allSeats;
        private int yesSeats;

        private Parliament() {
            seats = new Row(MOST_PUPPETS);
            leaning = new Row(MOST_PUPPETS);
            pulled = new Row(MOST_PUPPETS);
            lowest = new Row(MOST_PUPPETS);
            side = new Row(MOST_PUPPETS);
            vote = new Row(MOST_PUPPETS);
            strings = new Strings();
            book = new Book();
            pullsBound = FIRST_PULLS;
        }

        private void copyFrom(Parliament other) {
            seats.copyFrom(other.seats);
            leaning.copyFrom(other.leaning);
            pulled.copyFrom(other.pulled);
            lowest.copyFrom(other.lowest);
            side.copyFrom(other.side);
            vote.copyFrom(other.vote);
            strings.copyFrom(other.strings);
            book.copyFrom(other.book);
            puppets = other.puppets;
            speaker = other.speaker;
            pullsBound = other.pullsBound;
            allSeats = other.allSeats;
            yesSeats = other.yesSeats;
        }

        // changes: each answers as its call does, and leaves all as it is if that is an error

        private int addPuppet(int itsSeats, int itsLeaning) {
            if (!isIn(itsSeats, 1, MOST_SEATS) || !isIn(itsLeaning, 0, 1)) {
                return INVALID_ARGUMENT;
            }
            if (puppets >= MOST_PUPPETS) {
                return LIMIT_REACHED;
            }
            seats.put(puppets, itsSeats);
            leaning.put(puppets, itsLeaning);
            pulled.put(puppets, NONE);
            puppets++;
            tellGroups();
            tellVotes();
            return puppets - 1;
        }

        private int addString(int one, int other, int isUnlike, int deal) {
            if (!arePair(one, other) || !isIn(deal, 0, LAST_DEAL)) {
                return INVALID_ARGUMENT;
            }
            if (reasonAgainstString(one, other, isUnlike) != 0) {
                return NOT_POSSIBLE;
            }
            if (strings.size >= MOST_STRINGS) {
                return LIMIT_REACHED;
            }
            int string = strings.append(one, other, isUnlike, deal);
            tellGroups();
            tellVotes();
            return string;
        }

        private int cutString(int string) {
            if (!strings.has(string)) {
                return INVALID_ARGUMENT;
            }
            strings.removeAt(string);
            tellGroups();
            tellVotes();
            return strings.size;
        }

        private int cutStringsOf(int deal) {
            if (!isIn(deal, 0, LAST_DEAL)) {
                return INVALID_ARGUMENT;
            }
            int removed = strings.removeAllOf(deal);
            if (removed == 0) {
                return NOT_POSSIBLE;
            }
            tellGroups();
            tellVotes();
            return removed;
        }

        private int pullTo(int puppet, int wanted) {
            if (!hasPuppet(puppet) || !isIn(wanted, 0, 1)) {
                return INVALID_ARGUMENT;
            }
            if (reasonAgainstPull(puppet, wanted) != 0) {
                return NOT_POSSIBLE;
            }
            pulled.put(puppet, wanted);
            tellVotes();
            return yesSeats;
        }

        private int letGo(int puppet) {
            if (!hasPuppet(puppet)) {
                return INVALID_ARGUMENT;
            }
            if (!isPulled(puppet)) {
                return NOT_POSSIBLE;
            }
            int was = pulled.get(puppet);
            pulled.put(puppet, NONE);
            tellVotes();
            return was;
        }

        private int holdSession() {
            if (puppets <= 0) {
                return NOT_POSSIBLE;
            }
            if (book.sessions >= MOST_SESSIONS) {
                return LIMIT_REACHED;
            }
            int isPassed = wouldPass();
            book.enter(yesSeats, allSeats - yesSeats, isPassed, speaker);
            speaker = speaker + 1 < puppets ? speaker + 1 : 0;
            for (int puppet = 0; puppet < puppets; puppet++) {
                pulled.put(puppet, NONE);
            }
            tellVotes();
            return isPassed;
        }

        private int bindPulls(int bound) {
            if (!isIn(bound, 0, MOST_PULLS)) {
                return INVALID_ARGUMENT;
            }
            int was = pullsBound;
            pullsBound = bound;
            return was;
        }

        // what follows from the rest

        private void tellGroups() {
            for (int puppet = 0; puppet < puppets; puppet++) {
                lowest.put(puppet, puppet);
                side.put(puppet, 0);
            }
            for (int string = 0; string < strings.size; string++) {
                joinBy(string);
            }
        }

        /** The group with the higher lowest puppet goes over to the other, whose sides stay. */
        private void joinBy(int string) {
            int one = strings.lower.get(string);
            int other = strings.upper.get(string);
            int staying = Math.min(lowest.get(one), lowest.get(other));
            int moving = Math.max(lowest.get(one), lowest.get(other));
            if (staying == moving) {
                return;
            }
            int turn = side.get(one) ^ side.get(other) ^ strings.unlike.get(string);
            for (int puppet = 0; puppet < puppets; puppet++) {
                if (lowest.get(puppet) == moving) {
                    lowest.put(puppet, staying);
                    side.put(puppet, side.get(puppet) ^ turn);
                }
            }
        }

        private void tellVotes() {
            allSeats = 0;
            yesSeats = 0;
            for (int puppet = 0; puppet < puppets; puppet++) {
                int votes = pulledVote(puppet);
                if (votes == NONE) {
                    int leader = lowest.get(puppet);
                    // The leader is the lowest, so its vote is there before the others look at it.
                    votes = leader == puppet ? leadingVote(leader) : vote.get(leader) ^ side.get(puppet);
                }
                vote.put(puppet, votes);
                allSeats += seats.get(puppet);
                yesSeats += votes * seats.get(puppet);
            }
        }

        /** How the lowest puppet of a group without a pull votes. */
        private int leadingVote(int leader) {
            int yes = 0;
            int no = 0;
            for (int puppet = leader; puppet < puppets; puppet++) {
                if (lowest.get(puppet) != leader) {
                    continue;
                }
                if (leaning.get(puppet) != side.get(puppet)) {
                    yes += seats.get(puppet);
                } else {
                    no += seats.get(puppet);
                }
            }
            if (yes == no) {
                return leaning.get(leader);
            }
            return yes > no ? 1 : 0;
        }

        /** How a puppet votes by the pulls in its group, or NONE without such a pull. */
        private int pulledVote(int puppet) {
            for (int member = 0; member < puppets; member++) {
                int pulledTo = pulled.get(member);
                if (pulledTo != NONE && lowest.get(member) == lowest.get(puppet)) {
                    return pulledTo ^ side.get(member) ^ side.get(puppet);
                }
            }
            return NONE;
        }

        // questions

        private boolean hasPuppet(int puppet) {
            return puppet >= 0 && puppet < puppets;
        }

        private boolean arePair(int one, int other) {
            return hasPuppet(one) && hasPuppet(other) && one != other;
        }

        private boolean isPulled(int puppet) {
            return pulled.get(puppet) != NONE;
        }

        private boolean hangTogether(int one, int other) {
            return lowest.get(one) == lowest.get(other);
        }

        private int reasonAgainstString(int one, int other, int isUnlike) {
            if (strings.areTied(one, other)) {
                return 1;
            }
            if (hangTogether(one, other)) {
                return (side.get(one) ^ side.get(other)) == isUnlike ? 0 : 2;
            }
            int oneVote = pulledVote(one);
            int otherVote = pulledVote(other);
            boolean bothPulled = oneVote != NONE && otherVote != NONE;
            return bothPulled && (oneVote ^ otherVote) != isUnlike ? 3 : 0;
        }

        private int reasonAgainstPull(int puppet, int wanted) {
            if (puppet == speaker) {
                return 1;
            }
            int othersPulled = 0;
            for (int other = 0; other < puppets; other++) {
                if (other == puppet || !isPulled(other)) {
                    continue;
                }
                othersPulled++;
                int fitting = pulled.get(other) ^ side.get(other) ^ side.get(puppet);
                if (hangTogether(other, puppet) && fitting != wanted) {
                    return 2;
                }
            }
            return othersPulled >= pullsBound ? 3 : 0;
        }

        private int wouldPass() {
            int noSeats = allSeats - yesSeats;
            if (yesSeats == noSeats) {
                return vote.get(speaker);
            }
            return yesSeats > noSeats ? 1 : 0;
        }

        private int seatsIn(int set) {
            int sum = 0;
            for (int puppet = 0; puppet < puppets; puppet++) {
                if (isMember(set, puppet)) {
                    sum += seats.get(puppet);
                }
            }
            return sum;
        }

        private int yesVoters() {
            int set = 0;
            for (int puppet = 0; puppet < puppets; puppet++) {
                set |= vote.get(puppet) << puppet;
            }
            return set;
        }

        private int pulledPuppets() {
            int set = 0;
            for (int puppet = 0; puppet < puppets; puppet++) {
                if (isPulled(puppet)) {
                    set |= 1 << puppet;
                }
            }
            return set;
        }

        private int membersOf(int leader) {
            int set = 0;
            for (int puppet = 0; puppet < puppets; puppet++) {
                if (lowest.get(puppet) == leader) {
                    set |= 1 << puppet;
                }
            }
            return set;
        }

        private int groupsByJoining() {
            int groups = 0;
            for (int puppet = 0; puppet < puppets; puppet++) {
                if (lowest.get(puppet) == puppet) {
                    groups++;
                }
            }
            return groups;
        }

        private int groupsByWalking() {
            int groups = 0;
            int seen = 0;
            for (int puppet = 0; puppet < puppets; puppet++) {
                if (!isMember(seen, puppet)) {
                    seen |= walkFrom(puppet);
                    groups++;
                }
            }
            return groups;
        }

        private int walkFrom(int puppet) {
            int reached = 1 << puppet;
            for (int step = 0; step < MOST_PUPPETS; step++) {
                reached = strings.oneStringFurther(reached);
            }
            return reached;
        }
    }

    /** What it brings if groups vote the other way than they would. */
    private static final class Turns {
        /** How much more yes is ahead of no if a group turns, for each group. */
        private final Row gains;
        private int groups;
        /** How much yes is ahead of no if none turns. */
        private int ahead;

        private Turns() {
            gains = new Row(MOST_PUPPETS);
        }

        private void collect(Parliament parliament) {
            ahead = 2 * parliament.yesSeats - parliament.allSeats;
            groups = 0;
            for (int leader = 0; leader < parliament.puppets; leader++) {
                int members = parliament.membersOf(leader);
                if (members != 0) {
                    int yes = parliament.seatsIn(members & parliament.yesVoters());
                    int all = parliament.seatsIn(members);
                    gains.put(groups, 2 * (all - yes - yes));
                    groups++;
                }
            }
        }

        /** Turns the group that brings the most, again and again; NONE if that is never enough. */
        private int fewestByTheBest() {
            if (ahead > 0) {
                return 0;
            }
            int reached = ahead;
            int turned = 0;
            for (int size = 1; size <= groups; size++) {
                int best = bestBut(turned);
                turned |= 1 << best;
                reached += gains.get(best);
                if (reached > 0) {
                    return size;
                }
            }
            return NONE;
        }

        private int bestBut(int turned) {
            int best = NONE;
            for (int group = 0; group < groups; group++) {
                if (isMember(turned, group)) {
                    continue;
                }
                if (best == NONE || gains.get(group) > gains.get(best)) {
                    best = group;
                }
            }
            return best;
        }

        /** Looks at every set of groups; NONE if no set is enough. */
        private int fewestOfAllSets() {
            if (ahead > 0) {
                return 0;
            }
            int fewest = NONE;
            int reached = ahead;
            for (int set = 1; set < 1 << groups; set++) {
                reached += stepTo(set);
                int size = Integer.bitCount(set);
                if (reached > 0 && (fewest == NONE || size < fewest)) {
                    fewest = size;
                }
            }
            return fewest;
        }

        /**
         * What a set brings beyond the one numbered ahead of it: counting up takes the groups
         * below its lowest one out and that one in, which is less work than adding all up.
         */
        private int stepTo(int set) {
            int step = 0;
            for (int group = 0; group < groups; group++) {
                if (isMember(set, group)) {
                    return step + gains.get(group);
                }
                step -= gains.get(group);
            }
            return step;
        }
    }

    /** The text, and the order in it that was read last. */
    private static final class Text {
        private final Row characters;
        private int length;
        private int letter;
        private final Row numbers;
        /** Where the reading stands: behind the order, or where it breaks off. */
        private int place;

        private Text() {
            characters = new Row(MOST_CHARACTERS);
            numbers = new Row(MOST_NUMBERS);
        }

        private boolean append(int character) {
            if (length >= MOST_CHARACTERS) {
                return false;
            }
            characters.put(length, character);
            length++;
            return true;
        }

        /** Behind the end there is 0, which no order holds. */
        private int current() {
            return place < length ? characters.get(place) : 0;
        }

        /** Reads the order that begins at a place; whether it is of the form. */
        private boolean readOrder(int start) {
            place = start;
            letter = current();
            int wanted = numbersBehind(letter);
            if (wanted == NONE) {
                return false;
            }
            place++;
            for (int index = 0; index < wanted; index++) {
                if ((index > 0 && !skip(',')) || !readNumber(index)) {
                    return false;
                }
            }
            return skip(';');
        }

        private static int numbersBehind(int letter) {
            switch (letter) {
                case 'p':
                    return 2;
                case 'a':
                case 'u':
                    return 3;
                case 'c':
                case 'k':
                case 'y':
                case 'n':
                    return 1;
                case 'v':
                    return 0;
                default:
                    return NONE;
            }
        }

        private boolean skip(int character) {
            if (current() != character) {
                return false;
            }
            place++;
            return true;
        }

        private boolean readNumber(int index) {
            if (!isDigit(current())) {
                return false;
            }
            int number = current() - '0';
            place++;
            if (isDigit(current())) {
                number = 10 * number + current() - '0';
                place++;
            }
            numbers.put(index, number);
            return true;
        }

        private static boolean isDigit(int character) {
            return isIn(character, '0', '9');
        }
    }
}
