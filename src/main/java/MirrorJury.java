import java.util.NoSuchElementException;

/**
 * A jury of cats in a box of mirrors. The face answers calls; what it knows is held by a Court, which undo and the
 * snapshot copy as a whole.
 */
public final class MirrorJury {
    public static final int CAT_LIMIT = 1;
    public static final int OCCUPIED = 2;
    public static final int MISSED = 3;
    public static final int NO_CATS = 4;
    public static final int NO_CAUSE = 5;
    public static final int COMMAND_REJECTED = 6;

    private static final int ROWS = 5;
    private static final int COLUMNS = 7;
    private static final int CELLS = 35;
    private static final int PORTS = 24;
    private static final int MOST_CATS = 7;
    private static final int OPTIONS = 4;
    private static final int DIRECTIONS = 4;
    /** Each cell has four sides, and is entered in four directions. */
    private static final int SIDES = 140;
    private static final int KEPT_VERDICTS = 10;
    private static final int KEPT_CHANGES = 8;
    private static final int MOST_INPUT = 60;

    private static final int UP = 0;
    private static final int RIGHT = 1;
    private static final int DOWN = 2;
    private static final int LEFT = 3;

    private static final char EMPTY = '.';
    private static final char SLASH = '/';
    private static final char BACKSLASH = '\\';
    private static final char CAT = 'c';
    private static final char HUNG = '-';
    private static final char BY_POINTS = 'p';
    private static final char BY_ROUNDS = 'r';
    private static final char BY_STRENGTHS = 's';
    /** What is read behind the end of a row of characters or of the input. */
    private static final char NOTHING = 0;

    /** Stands for a cell, cat, port or offset that is not there. */
    private static final int NONE = -1;
    /** More than any effort can be. */
    private static final int FAR = 1000;
    /** The outcome of a command whose method returns a value; the reasons for a rejection are above it. */
    private static final int ACCEPTED = 0;
    /** The outcome of a command whose method throws another exception than that of a rejection. */
    private static final int MISUSED = -1;

    private final Court court = new Court();
    private final Court snapshot = new Court();
    private final History history = new History();
    private final Ray ray = new Ray();
    private final Joining joining = new Joining();
    private final Courses queued = new Courses();
    private final Courses lowered = new Courses();
    private final Votes votes = new Votes();
    private final Script script = new Script();
    private final StringBuilder output = new StringBuilder();
    private final int[] rayLengths = new int[PORTS];
    private boolean snapshotIsSaved = false;
    private int errorOffset = NONE;
    private int rejectedFor = ACCEPTED;
    private int rejectedWith = 0;
    private int rejectedCause = ACCEPTED;

    public MirrorJury() {
    }

    // ---- cats and mirrors

    public int addCat(int cell, char first, char second, char third)
            throws IndexOutOfBoundsException, IllegalArgumentException, UnsupportedOperationException {
        requireCell(cell);
        if (!areThreeOptions(first, second, third)) {
            throw new IllegalArgumentException("not three different options");
        }
        int reason = court.reasonAgainstCat(cell);
        if (reason != ACCEPTED) {
            reject(reason, reason == CAT_LIMIT ? MOST_CATS : court.findCat(cell));
            throw new UnsupportedOperationException("the cat is rejected");
        }
        history.keep(court);
        court.seatCat(cell, first, second, third);
        return court.cats - 1;
    }

    public int setMirror(int cell, char content)
            throws IndexOutOfBoundsException, IllegalArgumentException, UnsupportedOperationException {
        requireCell(cell);
        if (!isContent(content)) {
            throw new IllegalArgumentException("no such content");
        }
        int reason = court.reasonAgainstMirror(cell);
        if (reason != ACCEPTED) {
            reject(reason, court.findCat(cell));
            throw new UnsupportedOperationException("there is a cat in the cell");
        }
        history.keep(court);
        court.changeContent(cell, content);
        return court.countMirrors();
    }

    public int catCount() {
        return court.cats;
    }

    public int cellOf(int cat) throws IndexOutOfBoundsException {
        requireCat(cat);
        return at(court.cells, cat);
    }

    public int catIn(int cell) throws IndexOutOfBoundsException, NoSuchElementException {
        requireCell(cell);
        int cat = court.findCat(cell);
        if (cat == NONE) {
            throw new NoSuchElementException("no cat in the cell");
        }
        return cat;
    }

    public char contentOf(int cell) throws IndexOutOfBoundsException {
        requireCell(cell);
        return at(court.contents, cell);
    }

    public char optionAt(int cat, int place) throws IndexOutOfBoundsException, IllegalArgumentException {
        requireCat(cat);
        if (place < 0 || place >= OPTIONS) {
            throw new IllegalArgumentException("no such place");
        }
        return letterOf(court.optionIn(cat, place));
    }

    public int placeOf(int cat, char option) throws IndexOutOfBoundsException, IllegalArgumentException {
        requireCat(cat);
        requireOption(option);
        return court.placeIn(cat, indexOf(option));
    }

    public int heardBy(int cat) throws IndexOutOfBoundsException {
        requireCat(cat);
        return at(court.heard, cat);
    }

    // ---- rays

    public int rayEnd(int port) throws IllegalArgumentException, NoSuchElementException {
        requirePort(port);
        ray.follow(court, port);
        if (ray.exit == NONE) {
            throw new NoSuchElementException("the ray ends at a cat");
        }
        return ray.exit;
    }

    public int rayEndByJoining(int port) throws IllegalArgumentException, NoSuchElementException {
        requirePort(port);
        joining.joinAll(court);
        int end = joining.otherEnd(port);
        if (end == NONE) {
            throw new NoSuchElementException("the ray ends at a cat");
        }
        return end;
    }

    public int rayCat(int port) throws IllegalArgumentException, NoSuchElementException {
        requirePort(port);
        ray.follow(court, port);
        if (ray.cat == NONE) {
            throw new NoSuchElementException("the ray leaves the box");
        }
        return ray.cat;
    }

    public int rayLength(int port) throws IllegalArgumentException {
        requirePort(port);
        ray.follow(court, port);
        return ray.length;
    }

    public int rayBounces(int port) throws IllegalArgumentException {
        requirePort(port);
        ray.follow(court, port);
        return ray.bounces;
    }

    public int leastEffort(int port, int cat)
            throws IllegalArgumentException, IndexOutOfBoundsException, NoSuchElementException {
        requirePort(port);
        requireCat(cat);
        queued.searchByQueue(court, port);
        int effort = queued.effortInto(at(court.cells, cat));
        if (effort == FAR) {
            throw new NoSuchElementException("no course to the cat");
        }
        return effort;
    }

    public int leastEffortByRounds(int port, int cat)
            throws IllegalArgumentException, IndexOutOfBoundsException, NoSuchElementException {
        requirePort(port);
        requireCat(cat);
        lowered.searchByRounds(court, port);
        int effort = lowered.effortInto(at(court.cells, cat));
        if (effort == FAR) {
            throw new NoSuchElementException("no course to the cat");
        }
        return effort;
    }

    public int portByLength(int position) throws NoSuchElementException {
        if (position < 0 || position >= PORTS) {
            throw new NoSuchElementException("no such position");
        }
        for (int port = 0; port < PORTS; port++) {
            ray.follow(court, port);
            put(rayLengths, port, ray.length);
        }
        int found = 0;
        for (int port = 0; port < PORTS; port++) {
            if (portsAhead(port) == position) {
                found = port;
            }
        }
        return found;
    }

    // ---- testimonies and votes

    public int testify(int port, char option) throws IllegalArgumentException, UnsupportedOperationException {
        requirePort(port);
        requireOption(option);
        ray.follow(court, port);
        if (ray.cat == NONE) {
            reject(MISSED, ray.exit);
            throw new UnsupportedOperationException("the ray leaves the box");
        }
        history.keep(court);
        court.hear(ray.cat, indexOf(option));
        return ray.cat;
    }

    public int firstVotes(char option) throws IllegalArgumentException {
        requireOption(option);
        return votes.countFirst(court, indexOf(option));
    }

    public int prefer(char one, char other) throws IllegalArgumentException {
        requirePair(one, other);
        votes.countPairs(court);
        return votes.preferring(indexOf(one), indexOf(other));
    }

    public int pointsOf(char option) throws IllegalArgumentException {
        requireOption(option);
        return votes.countPoints(court, indexOf(option));
    }

    public char pointsWinner() throws NoSuchElementException {
        requireCats();
        return letterOf(votes.findMostPoints(court));
    }

    public char roundsWinner() throws NoSuchElementException {
        requireCats();
        return letterOf(votes.voteInRounds(court));
    }

    public int rounds() throws NoSuchElementException {
        requireCats();
        votes.voteInRounds(court);
        return votes.roundsHeld;
    }

    public int strengthOf(char one, char other) throws IllegalArgumentException {
        requirePair(one, other);
        votes.fillStrengths(court);
        return votes.tableStrength(indexOf(one), indexOf(other));
    }

    public int strengthByTrying(char one, char other) throws IllegalArgumentException {
        requirePair(one, other);
        votes.countPairs(court);
        return votes.triedStrength(court.cats, indexOf(one), indexOf(other));
    }

    public char strengthWinner() throws NoSuchElementException {
        requireCats();
        return letterOf(votes.findStrongest(court));
    }

    public boolean isDominant(char option) throws IllegalArgumentException {
        requireOption(option);
        return votes.dominates(court, indexOf(option));
    }

    // ---- verdicts

    public char setMethod(char method) throws IllegalArgumentException {
        if (!isMethod(method)) {
            throw new IllegalArgumentException("no such method");
        }
        history.keep(court);
        char previous = court.votingMethod;
        court.votingMethod = method;
        return previous;
    }

    public char method() {
        return court.votingMethod;
    }

    public char deliberate() throws UnsupportedOperationException {
        if (court.cats == 0) {
            reject(NO_CATS, court.countMirrors());
            throw new UnsupportedOperationException("there are no cats");
        }
        history.keep(court);
        holdVote();
        return at(court.verdicts, 0);
    }

    public int retry() throws UnsupportedOperationException {
        if (!court.mayRetry()) {
            reject(NO_CAUSE, court.held);
            throw new UnsupportedOperationException("there is no cause for a retrial");
        }
        history.keep(court);
        return court.startAgain();
    }

    public boolean hasCause() {
        return court.mayRetry();
    }

    public int deliberations() {
        return court.held;
    }

    public char verdictAt(int recency) throws NoSuchElementException {
        if (recency < 0 || recency >= KEPT_VERDICTS || recency >= court.held) {
            throw new NoSuchElementException("no such deliberation");
        }
        return at(court.verdicts, recency);
    }

    public int hungCount() {
        return court.timesHung;
    }

    public int retrials() {
        return court.timesRetried;
    }

    public int testimonies() {
        return court.given;
    }

    public int catByHeard(int position) throws NoSuchElementException {
        if (position < 0 || position >= court.cats) {
            throw new NoSuchElementException("no such position");
        }
        int found = 0;
        for (int cat = 0; cat < court.cats; cat++) {
            if (court.catsAhead(cat) == position) {
                found = cat;
            }
        }
        return found;
    }

    public double meanHeard() throws ArithmeticException {
        if (court.cats == 0) {
            throw new ArithmeticException("there are no cats");
        }
        return (double) court.given / (double) court.cats;
    }

    public float hungShare() throws ArithmeticException {
        if (court.held == 0) {
            throw new ArithmeticException("there was no deliberation");
        }
        return (float) court.timesHung / (float) court.held;
    }

    public boolean isConsistent() {
        return raysAgree() && effortsAgree() && strengthsAgree() && court.countHeard() == court.given;
    }

    // ---- text output

    public int writeRow(int row) throws IndexOutOfBoundsException {
        if (row < 0 || row >= ROWS) {
            throw new IndexOutOfBoundsException("no such row");
        }
        output.setLength(0);
        for (int column = 0; column < COLUMNS; column++) {
            int cell = COLUMNS * row + column;
            char content = at(court.contents, cell);
            output.append(content == CAT ? digitOf(court.findCat(cell)) : content);
        }
        return output.length();
    }

    public int writeCat(int cat) throws IndexOutOfBoundsException {
        requireCat(cat);
        output.setLength(0);
        output.append(cat).append('@').append(at(court.cells, cat)).append(':');
        for (int place = 0; place < OPTIONS; place++) {
            output.append(letterOf(court.optionIn(cat, place)));
        }
        int heard = at(court.heard, cat);
        if (heard != 0) {
            output.append('+').append(heard);
        }
        return output.length();
    }

    public char outputAt(int index) throws IndexOutOfBoundsException {
        if (index < 0 || index >= output.length()) {
            throw new IndexOutOfBoundsException("no character at this index");
        }
        return output.charAt(index);
    }

    // ---- commands

    public int appendInput(char character) throws IllegalArgumentException, IllegalStateException {
        if (character < 32 || character > 126) {
            throw new IllegalArgumentException("the code is out of range");
        }
        if (script.text.length() >= MOST_INPUT) {
            throw new IllegalStateException("the input is full");
        }
        script.text.append(character);
        return script.text.length();
    }

    public int execute() throws IllegalArgumentException, IllegalStateException, UnsupportedOperationException {
        int count = script.countCommands();
        if (count == NONE) {
            errorOffset = script.position;
            script.text.setLength(0);
            throw new IllegalArgumentException("the input has a syntax error");
        }
        history.mark(court);
        script.position = 0;
        int latest = 0;
        int outcome = ACCEPTED;
        for (int command = 0; command < count && outcome == ACCEPTED; command++) {
            latest = command;
            outcome = runNextCommand();
        }
        script.text.setLength(0);
        if (outcome == ACCEPTED) {
            history.keepMarked();
            return count;
        }
        history.returnToMarked(court);
        if (outcome == MISUSED) {
            throw new IllegalStateException("a command fails");
        }
        reject(COMMAND_REJECTED, latest);
        rejectedCause = outcome;
        throw new UnsupportedOperationException("a command is rejected");
    }

    public int syntaxErrorOffset() throws NoSuchElementException {
        if (errorOffset == NONE) {
            throw new NoSuchElementException("there was no syntax error");
        }
        return errorOffset;
    }

    // ---- rejections and history

    public int rejectionReason() throws NoSuchElementException {
        requireRejection();
        return rejectedFor;
    }

    public int rejectionDetail() throws NoSuchElementException {
        requireRejection();
        return rejectedWith;
    }

    public int causeReason() throws NoSuchElementException {
        if (rejectedFor != COMMAND_REJECTED) {
            throw new NoSuchElementException("no command was rejected");
        }
        return rejectedCause;
    }

    public int undo() throws IllegalStateException {
        if (history.kept == 0) {
            throw new IllegalStateException("no change can be undone");
        }
        history.stepBack(court);
        return history.kept;
    }

    public int saveSnapshot() {
        snapshot.copyFrom(court);
        snapshotIsSaved = true;
        return court.cats;
    }

    public int restoreSnapshot() throws IllegalStateException {
        if (!snapshotIsSaved) {
            throw new IllegalStateException("there is no snapshot");
        }
        court.copyFrom(snapshot);
        history.kept = 0;
        return court.cats;
    }

    // ---- what the arguments of a call must be

    private static boolean isCell(int cell) {
        return cell >= 0 && cell < CELLS;
    }

    private static boolean isPort(int port) {
        return port >= 0 && port < PORTS;
    }

    private static boolean isOption(char option) {
        return option >= 'a' && option <= 'd';
    }

    private static boolean isContent(char content) {
        return content == EMPTY || content == SLASH || content == BACKSLASH;
    }

    private static boolean isMethod(char method) {
        return method == BY_POINTS || method == BY_ROUNDS || method == BY_STRENGTHS;
    }

    private static boolean areThreeOptions(char first, char second, char third) {
        return isOption(first) && isOption(second) && isOption(third)
                && first != second && first != third && second != third;
    }

    private static void requireCell(int cell) {
        if (!isCell(cell)) {
            throw new IndexOutOfBoundsException("no such cell");
        }
    }

    private static void requirePort(int port) {
        if (!isPort(port)) {
            throw new IllegalArgumentException("no such port");
        }
    }

    private static void requireOption(char option) {
        if (!isOption(option)) {
            throw new IllegalArgumentException("no such option");
        }
    }

    private static void requirePair(char one, char other) {
        requireOption(one);
        requireOption(other);
        if (one == other) {
            throw new IllegalArgumentException("both options are the same");
        }
    }

    private void requireCat(int cat) {
        if (cat < 0 || cat >= court.cats) {
            throw new IndexOutOfBoundsException("no such cat");
        }
    }

    private void requireCats() {
        if (court.cats == 0) {
            throw new NoSuchElementException("there are no cats");
        }
    }

    private void requireRejection() {
        if (rejectedFor == ACCEPTED) {
            throw new NoSuchElementException("no call was rejected");
        }
    }

    // ---- parts of calls

    private void reject(int reason, int detail) {
        rejectedFor = reason;
        rejectedWith = detail;
    }

    private void holdVote() {
        int winner;
        if (court.votingMethod == BY_ROUNDS) {
            winner = votes.voteInRounds(court);
        } else if (court.votingMethod == BY_STRENGTHS) {
            winner = votes.findStrongest(court);
        } else {
            winner = votes.findMostPoints(court);
        }
        court.conclude(votes.dominates(court, winner) ? letterOf(winner) : HUNG);
    }

    /** How many ports come ahead of one in the order of lengths. */
    private int portsAhead(int port) {
        int length = at(rayLengths, port);
        int ahead = 0;
        for (int other = 0; other < PORTS; other++) {
            int otherLength = at(rayLengths, other);
            if (otherLength > length || otherLength == length && other < port) {
                ahead++;
            }
        }
        return ahead;
    }

    private boolean raysAgree() {
        joining.joinAll(court);
        for (int port = 0; port < PORTS; port++) {
            ray.follow(court, port);
            int end = ray.exit;
            if (joining.otherEnd(port) != end) {
                return false;
            }
            if (end != NONE) {
                ray.follow(court, end);
                if (ray.exit != port) {
                    return false;
                }
            }
        }
        return true;
    }

    private boolean effortsAgree() {
        // Without cats there is no effort to compare.
        for (int port = 0; port < PORTS && court.cats > 0; port++) {
            queued.searchByQueue(court, port);
            lowered.searchByRounds(court, port);
            for (int cat = 0; cat < court.cats; cat++) {
                int cell = at(court.cells, cat);
                if (queued.effortInto(cell) != lowered.effortInto(cell)) {
                    return false;
                }
            }
        }
        return true;
    }

    private boolean strengthsAgree() {
        votes.fillStrengths(court);
        for (int one = 0; one < OPTIONS; one++) {
            for (int other = 0; other < OPTIONS; other++) {
                if (one != other && votes.tableStrength(one, other) != votes.triedStrength(court.cats, one, other)) {
                    return false;
                }
            }
        }
        return true;
    }

    private int runNextCommand() {
        script.skipSeparator();
        script.readCommand();
        switch (script.kind) {
            case Script.ADD_CAT:
                return runCat();
            case Script.SET_MIRROR:
                return runMirror();
            case Script.SAY:
                return runSay();
            case Script.SET_METHOD:
                court.votingMethod = script.first;
                return ACCEPTED;
            case Script.VOTE:
                if (court.cats == 0) {
                    return NO_CATS;
                }
                holdVote();
                return ACCEPTED;
            default:
                if (!court.mayRetry()) {
                    return NO_CAUSE;
                }
                court.startAgain();
                return ACCEPTED;
        }
    }

    private int runCat() {
        if (!isCell(script.number) || !areThreeOptions(script.first, script.second, script.third)) {
            return MISUSED;
        }
        int reason = court.reasonAgainstCat(script.number);
        if (reason == ACCEPTED) {
            court.seatCat(script.number, script.first, script.second, script.third);
        }
        return reason;
    }

    private int runMirror() {
        if (!isCell(script.number)) {
            return MISUSED;
        }
        int reason = court.reasonAgainstMirror(script.number);
        if (reason == ACCEPTED) {
            court.changeContent(script.number, script.first);
        }
        return reason;
    }

    private int runSay() {
        if (!isPort(script.number)) {
            return MISUSED;
        }
        ray.follow(court, script.number);
        if (ray.cat == NONE) {
            return MISSED;
        }
        court.hear(ray.cat, indexOf(script.first));
        return ACCEPTED;
    }

    // ---- letters, and rows that are read and written behind a look at the index

    private static int indexOf(char option) {
        return option - 'a';
    }

    private static char letterOf(int option) {
        return (char) ('a' + option);
    }

    private static char digitOf(int number) {
        return (char) ('0' + number);
    }

    private static int at(int[] row, int index) {
        return index >= 0 && index < row.length ? row[index] : 0;
    }

    private static char at(char[] row, int index) {
        return index >= 0 && index < row.length ? row[index] : NOTHING;
    }

    private static void put(int[] row, int index, int value) {
        if (index >= 0 && index < row.length) {
            row[index] = value;
        }
    }

    private static void put(char[] row, int index, char value) {
        if (index >= 0 && index < row.length) {
            row[index] = value;
        }
    }

    private static void copy(int[] from, int[] to) {
        for (int i = 0; i < from.length && i < to.length; i++) {
            to[i] = from[i];
        }
    }

    private static void copy(char[] from, char[] to) {
        for (int i = 0; i < from.length && i < to.length; i++) {
            to[i] = from[i];
        }
    }

    /** All that undo and the snapshot cover. */
    private static final class Court {
        private final char[] contents = new char[CELLS];
        private final int[] cells = new int[MOST_CATS];
        /** The option of each place, four places for each cat. */
        private final int[] rankings = new int[MOST_CATS * OPTIONS];
        private final int[] firstRankings = new int[MOST_CATS * OPTIONS];
        private final int[] heard = new int[MOST_CATS];
        /** The latest verdicts, the latest one first. */
        private final char[] verdicts = new char[KEPT_VERDICTS];
        private int cats = 0;
        private char votingMethod = BY_POINTS;
        private int held = 0;
        private int timesHung = 0;
        private int timesRetried = 0;
        private int given = 0;
        /** Whether there was a deliberation and no retrial after it. */
        private boolean awaitsRetrial = false;
        /** Whether a cat was added or a content became different after the latest deliberation. */
        private boolean isAltered = false;

        private Court() {
            for (int cell = 0; cell < contents.length; cell++) {
                contents[cell] = EMPTY;
            }
        }

        private void copyFrom(Court other) {
            copy(other.contents, contents);
            copy(other.cells, cells);
            copy(other.rankings, rankings);
            copy(other.firstRankings, firstRankings);
            copy(other.heard, heard);
            copy(other.verdicts, verdicts);
            cats = other.cats;
            votingMethod = other.votingMethod;
            held = other.held;
            timesHung = other.timesHung;
            timesRetried = other.timesRetried;
            given = other.given;
            awaitsRetrial = other.awaitsRetrial;
            isAltered = other.isAltered;
        }

        private int findCat(int cell) {
            for (int cat = 0; cat < cats; cat++) {
                if (at(cells, cat) == cell) {
                    return cat;
                }
            }
            return NONE;
        }

        private int countMirrors() {
            int mirrors = 0;
            for (int cell = 0; cell < contents.length; cell++) {
                char content = contents[cell];
                if (content == SLASH || content == BACKSLASH) {
                    mirrors++;
                }
            }
            return mirrors;
        }

        private int reasonAgainstCat(int cell) {
            return cats >= MOST_CATS ? CAT_LIMIT : reasonAgainstMirror(cell);
        }

        private int reasonAgainstMirror(int cell) {
            return findCat(cell) == NONE ? ACCEPTED : OCCUPIED;
        }

        private void seatCat(int cell, char first, char second, char third) {
            int cat = cats;
            int one = indexOf(first);
            int two = indexOf(second);
            int three = indexOf(third);
            put(contents, cell, CAT);
            put(cells, cat, cell);
            put(heard, cat, 0);
            rank(cat, 0, one);
            rank(cat, 1, two);
            rank(cat, 2, three);
            // The indices of all four options together make 6.
            rank(cat, 3, 6 - one - two - three);
            cats = cat + 1;
            isAltered = true;
        }

        private void rank(int cat, int place, int option) {
            put(rankings, OPTIONS * cat + place, option);
            put(firstRankings, OPTIONS * cat + place, option);
        }

        private void changeContent(int cell, char content) {
            if (at(contents, cell) != content) {
                put(contents, cell, content);
                isAltered = true;
            }
        }

        private int optionIn(int cat, int place) {
            return at(rankings, OPTIONS * cat + place);
        }

        private int placeIn(int cat, int option) {
            for (int place = 0; place < OPTIONS - 1; place++) {
                if (at(rankings, OPTIONS * cat + place) == option) {
                    return place;
                }
            }
            return OPTIONS - 1;
        }

        private void hear(int cat, int option) {
            int place = placeIn(cat, option);
            if (place > 0) {
                int index = OPTIONS * cat + place;
                put(rankings, index, optionIn(cat, place - 1));
                put(rankings, index - 1, option);
            }
            put(heard, cat, at(heard, cat) + 1);
            given++;
        }

        private void conclude(char verdict) {
            for (int i = KEPT_VERDICTS - 1; i > 0; i--) {
                put(verdicts, i, at(verdicts, i - 1));
            }
            put(verdicts, 0, verdict);
            held++;
            if (verdict == HUNG) {
                timesHung++;
            }
            awaitsRetrial = true;
            isAltered = false;
        }

        private boolean mayRetry() {
            return awaitsRetrial && (at(verdicts, 0) == HUNG || isAltered);
        }

        /** Makes a retrial and returns for how many cats it changes the ranking. */
        private int startAgain() {
            int changed = 0;
            for (int cat = 0; cat < cats; cat++) {
                if (resetRanking(cat)) {
                    changed++;
                }
            }
            timesRetried++;
            awaitsRetrial = false;
            return changed;
        }

        private boolean resetRanking(int cat) {
            boolean changed = false;
            for (int place = 0; place < OPTIONS; place++) {
                int option = at(firstRankings, OPTIONS * cat + place);
                if (optionIn(cat, place) != option) {
                    put(rankings, OPTIONS * cat + place, option);
                    changed = true;
                }
            }
            return changed;
        }

        /** How many cats come ahead of one in the order of testimonies heard. */
        private int catsAhead(int cat) {
            int ahead = 0;
            for (int other = 0; other < cats; other++) {
                int more = at(heard, other) - at(heard, cat);
                if (more > 0 || more == 0 && at(cells, other) < at(cells, cat)) {
                    ahead++;
                }
            }
            return ahead;
        }

        private int countHeard() {
            int sum = 0;
            for (int cat = 0; cat < cats; cat++) {
                sum += at(heard, cat);
            }
            return sum;
        }
    }

    /**
     * The courts ahead of the latest changes. One slot more than there are kept changes holds the marked court, so
     * that a call that fails in the end costs no kept change.
     */
    private static final class History {
        private static final int SLOTS = KEPT_CHANGES + 1;
        private final Court[] slots = new Court[SLOTS];
        private int oldest = 0;
        private int kept = 0;

        private History() {
            for (int i = 0; i < slots.length; i++) {
                slots[i] = new Court();
            }
        }

        private Court slotOfMarked() {
            int index = (oldest + kept) % SLOTS;
            return index >= 0 && index < slots.length ? slots[index] : null;
        }

        private void mark(Court court) {
            Court slot = slotOfMarked();
            if (slot != null) {
                slot.copyFrom(court);
            }
        }

        private void returnToMarked(Court court) {
            Court slot = slotOfMarked();
            if (slot != null) {
                court.copyFrom(slot);
            }
        }

        private void keepMarked() {
            if (kept < KEPT_CHANGES) {
                kept++;
            } else {
                oldest = (oldest + 1) % SLOTS;
            }
        }

        private void keep(Court court) {
            mark(court);
            keepMarked();
        }

        private void stepBack(Court court) {
            if (kept > 0) {
                kept--;
                returnToMarked(court);
            }
        }
    }

    /** Where the ports are, and how cells lie to one another. */
    private static final class Box {
        private static int cellAt(int port) {
            if (port < 7) {
                return port;
            }
            if (port < 12) {
                return COLUMNS * (port - 7) + COLUMNS - 1;
            }
            if (port < 19) {
                return CELLS - COLUMNS + 18 - port;
            }
            return COLUMNS * (23 - port);
        }

        /** The direction into the box. */
        private static int directionAt(int port) {
            if (port < 7) {
                return DOWN;
            }
            if (port < 12) {
                return LEFT;
            }
            return port < 19 ? UP : RIGHT;
        }

        private static int portAt(int cell, int direction) {
            int row = cell / COLUMNS;
            int column = cell % COLUMNS;
            switch (direction) {
                case UP:
                    return column;
                case RIGHT:
                    return 7 + row;
                case DOWN:
                    return 18 - column;
                default:
                    return 23 - row;
            }
        }

        /** The next cell in a direction, or NONE if the direction leaves the box. */
        private static int neighbour(int cell, int direction) {
            int row = cell / COLUMNS;
            int column = cell % COLUMNS;
            switch (direction) {
                case UP:
                    return row > 0 ? cell - COLUMNS : NONE;
                case RIGHT:
                    return column < COLUMNS - 1 ? cell + 1 : NONE;
                case DOWN:
                    return row < ROWS - 1 ? cell + COLUMNS : NONE;
                default:
                    return column > 0 ? cell - 1 : NONE;
            }
        }

        /** The direction of light behind a content: "/" swaps up with right, "\" swaps up with left. */
        private static int reflected(char content, int direction) {
            if (content == SLASH) {
                return direction ^ 1;
            }
            return content == BACKSLASH ? 3 - direction : direction;
        }

        private static int opposite(int direction) {
            return direction ^ 2;
        }

        /** The number of a side of a cell, and of an entry into the cell in that direction. */
        private static int side(int cell, int direction) {
            return DIRECTIONS * cell + direction;
        }
    }

    /** The ray of a port, followed from cell to cell. */
    private static final class Ray {
        private int exit = NONE;
        private int cat = NONE;
        private int length = 0;
        private int bounces = 0;

        private void follow(Court court, int port) {
            exit = NONE;
            cat = NONE;
            length = 0;
            bounces = 0;
            int cell = Box.cellAt(port);
            int direction = Box.directionAt(port);
            // No ray enters a cell twice in the same direction.
            for (int step = 0; step < SIDES; step++) {
                length++;
                char content = at(court.contents, cell);
                if (content == CAT) {
                    cat = court.findCat(cell);
                    return;
                }
                if (content != EMPTY) {
                    bounces++;
                }
                direction = Box.reflected(content, direction);
                int next = Box.neighbour(cell, direction);
                if (next == NONE) {
                    exit = Box.portAt(cell, direction);
                    return;
                }
                cell = next;
            }
        }
    }

    /** The sides of cells, joined where light passes from one to another. */
    private static final class Joining {
        /** For each side another one of its group; the root of a group has itself. */
        private final int[] parents = new int[SIDES];

        private void joinAll(Court court) {
            for (int side = 0; side < parents.length; side++) {
                parents[side] = side;
            }
            for (int cell = 0; cell < CELLS; cell++) {
                joinToNeighbour(cell, RIGHT);
                joinToNeighbour(cell, DOWN);
                joinWithin(cell, at(court.contents, cell));
            }
        }

        private void joinToNeighbour(int cell, int direction) {
            int next = Box.neighbour(cell, direction);
            if (next != NONE) {
                join(Box.side(cell, direction), Box.side(next, Box.opposite(direction)));
            }
        }

        private void joinWithin(int cell, char content) {
            for (int direction = 0; direction < DIRECTIONS && content != CAT; direction++) {
                int entered = Box.side(cell, Box.opposite(direction));
                join(entered, Box.side(cell, Box.reflected(content, direction)));
            }
        }

        private void join(int one, int other) {
            put(parents, rootOf(one), rootOf(other));
        }

        private int rootOf(int side) {
            int root = side;
            for (int step = 0; step < SIDES && at(parents, root) != root; step++) {
                root = at(parents, root);
            }
            return root;
        }

        private int rootAt(int port) {
            return rootOf(Box.side(Box.cellAt(port), Box.opposite(Box.directionAt(port))));
        }

        /** The other port whose side is in the same group, or NONE. */
        private int otherEnd(int port) {
            int root = rootAt(port);
            for (int other = 0; other < PORTS; other++) {
                if (other != port && rootAt(other) == root) {
                    return other;
                }
            }
            return NONE;
        }
    }

    /**
     * The least efforts of courses from a port into each cell in each direction. A course ends at the first cat, so
     * that one search finds the efforts of all cats.
     */
    private static final class Courses {
        /** An entry is put at most twice into the queue: with an effort, and with one less. */
        private static final int PLACES = 512;
        private final int[] efforts = new int[SIDES];
        private final int[] queue = new int[PLACES];
        private int head = 0;
        private int waiting = 0;

        private int start(int port) {
            for (int entry = 0; entry < efforts.length; entry++) {
                efforts[entry] = FAR;
            }
            int entry = Box.side(Box.cellAt(port), Box.directionAt(port));
            put(efforts, entry, 0);
            return entry;
        }

        private int effortInto(int cell) {
            int least = FAR;
            for (int direction = 0; direction < DIRECTIONS; direction++) {
                int effort = at(efforts, Box.side(cell, direction));
                least = effort < least ? effort : least;
            }
            return least;
        }

        private void searchByQueue(Court court, int port) {
            head = 0;
            waiting = 0;
            putAhead(start(port));
            for (int step = 0; step < PLACES && waiting > 0; step++) {
                goOn(court, takeFirst());
            }
        }

        private void goOn(Court court, int entry) {
            int cell = entry / DIRECTIONS;
            int direction = entry % DIRECTIONS;
            char content = at(court.contents, cell);
            if (content == CAT) {
                return;
            }
            int lit = Box.reflected(content, direction);
            int effort = at(efforts, entry);
            for (int turn = 0; turn < DIRECTIONS; turn++) {
                int next = turn == Box.opposite(direction) ? NONE : Box.neighbour(cell, turn);
                if (next != NONE) {
                    reach(Box.side(next, turn), turn == lit ? effort : effort + 1, turn == lit);
                }
            }
        }

        private void reach(int entry, int effort, boolean withoutMore) {
            if (effort < at(efforts, entry)) {
                put(efforts, entry, effort);
                if (withoutMore) {
                    putAhead(entry);
                } else {
                    putBehind(entry);
                }
            }
        }

        private void putAhead(int entry) {
            if (waiting < PLACES) {
                head = (head + PLACES - 1) % PLACES;
                put(queue, head, entry);
                waiting++;
            }
        }

        private void putBehind(int entry) {
            if (waiting < PLACES) {
                put(queue, (head + waiting) % PLACES, entry);
                waiting++;
            }
        }

        private int takeFirst() {
            int entry = at(queue, head);
            head = (head + 1) % PLACES;
            waiting--;
            return entry;
        }

        private void searchByRounds(Court court, int port) {
            start(port);
            boolean goesOn = true;
            for (int round = 0; round < SIDES && goesOn; round++) {
                goesOn = lowerAll(court);
            }
        }

        private boolean lowerAll(Court court) {
            boolean hasLowered = false;
            for (int entry = 0; entry < SIDES; entry++) {
                int effort = effortFromBehind(court, entry);
                if (effort < at(efforts, entry)) {
                    put(efforts, entry, effort);
                    hasLowered = true;
                }
            }
            return hasLowered;
        }

        /** The least effort of an entry by way of the cell that lies behind it. */
        private int effortFromBehind(Court court, int entry) {
            int turn = entry % DIRECTIONS;
            int cell = Box.neighbour(entry / DIRECTIONS, Box.opposite(turn));
            if (cell == NONE || at(court.contents, cell) == CAT) {
                return FAR;
            }
            char content = at(court.contents, cell);
            int least = FAR;
            for (int direction = 0; direction < DIRECTIONS; direction++) {
                if (turn != Box.opposite(direction)) {
                    int more = turn == Box.reflected(content, direction) ? 0 : 1;
                    int effort = at(efforts, Box.side(cell, direction)) + more;
                    least = effort < least ? effort : least;
                }
            }
            return least;
        }
    }

    /** Votes over the options, which have the indices 0 to 3 here. */
    private static final class Votes {
        /** For each pair of options the number of cats that prefer the one to the other. */
        private final int[] pairs = new int[OPTIONS * OPTIONS];
        private final int[] strengths = new int[OPTIONS * OPTIONS];
        private final int[] ballots = new int[OPTIONS];
        private int roundsHeld = 0;

        private int countFirst(Court court, int option) {
            int count = 0;
            for (int cat = 0; cat < court.cats; cat++) {
                if (court.optionIn(cat, 0) == option) {
                    count++;
                }
            }
            return count;
        }

        private int countPoints(Court court, int option) {
            int points = 0;
            for (int cat = 0; cat < court.cats; cat++) {
                points += OPTIONS - 1 - court.placeIn(cat, option);
            }
            return points;
        }

        private int findMostPoints(Court court) {
            int winner = 0;
            for (int option = 1; option < OPTIONS; option++) {
                if (countPoints(court, option) > countPoints(court, winner)) {
                    winner = option;
                }
            }
            return winner;
        }

        /** Returns the winner; each option that is left has a bit in a mask. */
        private int voteInRounds(Court court) {
            int left = 15;
            for (int round = 1; round <= OPTIONS; round++) {
                roundsHeld = round;
                countBallots(court, left);
                for (int option = 0; option < OPTIONS; option++) {
                    if (2 * at(ballots, option) > court.cats) {
                        return option;
                    }
                }
                left -= 1 << findFewest(left);
            }
            return 0;
        }

        private void countBallots(Court court, int left) {
            for (int option = 0; option < OPTIONS; option++) {
                put(ballots, option, 0);
            }
            for (int cat = 0; cat < court.cats; cat++) {
                int option = findFavourite(court, cat, left);
                put(ballots, option, at(ballots, option) + 1);
            }
        }

        private int findFavourite(Court court, int cat, int left) {
            for (int place = 0; place < OPTIONS; place++) {
                int option = at(court.rankings, OPTIONS * cat + place);
                if (isIn(left, option)) {
                    return option;
                }
            }
            return NONE;
        }

        private int findFewest(int left) {
            int fewest = NONE;
            for (int option = 0; option < OPTIONS; option++) {
                if (isIn(left, option) && (fewest == NONE || at(ballots, option) <= at(ballots, fewest))) {
                    fewest = option;
                }
            }
            return fewest;
        }

        private static boolean isIn(int mask, int option) {
            return (mask >> option & 1) == 1;
        }

        private static int pair(int one, int other) {
            return OPTIONS * one + other;
        }

        private void countPairs(Court court) {
            for (int i = 0; i < pairs.length; i++) {
                pairs[i] = 0;
            }
            for (int cat = 0; cat < court.cats; cat++) {
                for (int place = 0; place < OPTIONS; place++) {
                    int liked = at(court.rankings, OPTIONS * cat + place);
                    for (int behind = place + 1; behind < OPTIONS; behind++) {
                        int index = pair(liked, at(court.rankings, OPTIONS * cat + behind));
                        put(pairs, index, at(pairs, index) + 1);
                    }
                }
            }
        }

        private int preferring(int one, int other) {
            return at(pairs, pair(one, other));
        }

        /** The number of cats in the victory of one option over another, or 0 if it is not victorious. */
        private int victory(int one, int other) {
            int cats = at(pairs, pair(one, other));
            return cats > at(pairs, pair(other, one)) ? cats : 0;
        }

        /** Fills the table of all pairs: a chain may go by each option in turn. */
        private void fillStrengths(Court court) {
            countPairs(court);
            for (int one = 0; one < OPTIONS; one++) {
                for (int other = 0; other < OPTIONS; other++) {
                    put(strengths, pair(one, other), victory(one, other));
                }
            }
            for (int by = 0; by < OPTIONS; by++) {
                for (int one = 0; one < OPTIONS; one++) {
                    for (int other = 0; other < OPTIONS; other++) {
                        int chain = Math.min(tableStrength(one, by), tableStrength(by, other));
                        put(strengths, pair(one, other), Math.max(chain, tableStrength(one, other)));
                    }
                }
            }
        }

        private int tableStrength(int one, int other) {
            return at(strengths, pair(one, other));
        }

        /** The strength by the pairs that are counted, without the table of strengths. */
        private int triedStrength(int most, int one, int other) {
            for (int cats = most; cats > 0; cats--) {
                if (isIn(reachedWith(cats, one), other)) {
                    return cats;
                }
            }
            return 0;
        }

        /** A mask of the options that are reached from one by victories with at least so many cats. */
        private int reachedWith(int cats, int start) {
            int reached = 1 << start;
            for (int step = 1; step < OPTIONS; step++) {
                for (int one = 0; one < OPTIONS; one++) {
                    for (int other = 0; other < OPTIONS; other++) {
                        if (isIn(reached, one) && victory(one, other) >= cats) {
                            reached |= 1 << other;
                        }
                    }
                }
            }
            return reached;
        }

        private int findStrongest(Court court) {
            fillStrengths(court);
            for (int option = 0; option < OPTIONS - 1; option++) {
                if (holdsAgainstAll(option)) {
                    return option;
                }
            }
            // There is always a winner, so it is the last one if it is none of the others.
            return OPTIONS - 1;
        }

        private boolean holdsAgainstAll(int option) {
            for (int other = 0; other < OPTIONS; other++) {
                if (tableStrength(option, other) < tableStrength(other, option)) {
                    return false;
                }
            }
            return true;
        }

        private boolean dominates(Court court, int option) {
            countPairs(court);
            for (int other = 0; other < OPTIONS; other++) {
                if (other != option && 2 * preferring(option, other) <= court.cats) {
                    return false;
                }
            }
            return true;
        }
    }

    /** The input, read command by command; what a command says stands in the fields behind the reading. */
    private static final class Script {
        private static final int ADD_CAT = 0;
        private static final int SET_MIRROR = 1;
        private static final int SAY = 2;
        private static final int SET_METHOD = 3;
        private static final int VOTE = 4;
        private static final int RETRY = 5;

        private final StringBuilder text = new StringBuilder();
        /** The index of the next character; behind a failed reading, that of the wrong one. */
        private int position = 0;
        private int kind = VOTE;
        private int number = 0;
        private char first = NOTHING;
        private char second = NOTHING;
        private char third = NOTHING;

        /** Returns the number of commands, or NONE if there is a syntax error, at the position. */
        private int countCommands() {
            position = 0;
            for (int count = 1; count <= MOST_INPUT; count++) {
                if (!readCommand()) {
                    return NONE;
                }
                if (position >= text.length()) {
                    return count;
                }
                if (!takeWord(";")) {
                    return NONE;
                }
            }
            return NONE;
        }

        private void skipSeparator() {
            if (position > 0) {
                takeWord(";");
            }
        }

        private boolean readCommand() {
            char start = peek();
            if (start == 'c') {
                kind = ADD_CAT;
                return takeWord("cat ") && takeNumber() && takeWord(" ") && takeRanking();
            }
            if (start == 'm') {
                return takeWord("m") && readMirrorOrMethod();
            }
            if (start == 's') {
                kind = SAY;
                return takeWord("say ") && takeNumber() && takeWord(" ") && takeFirst("abcd");
            }
            if (start == 'v') {
                kind = VOTE;
                return takeWord("vote");
            }
            kind = RETRY;
            return takeWord("retry");
        }

        private boolean readMirrorOrMethod() {
            if (peek() == 'e') {
                kind = SET_METHOD;
                return takeWord("ethod ") && takeFirst("prs");
            }
            kind = SET_MIRROR;
            return takeWord("irror ") && takeNumber() && takeWord(" ") && takeFirst("/\\.");
        }

        private boolean takeRanking() {
            if (!takeFirst("abcd")) {
                return false;
            }
            char liked = first;
            if (!takeFirst("abcd")) {
                return false;
            }
            second = first;
            if (!takeFirst("abcd")) {
                return false;
            }
            third = first;
            first = liked;
            return true;
        }

        private char peek() {
            return position >= 0 && position < text.length() ? text.charAt(position) : NOTHING;
        }

        private boolean takeWord(String word) {
            for (int i = 0; i < word.length(); i++) {
                if (peek() != word.charAt(i)) {
                    return false;
                }
                position++;
            }
            return true;
        }

        private static boolean isDigit(char character) {
            return character >= '0' && character <= '9';
        }

        private boolean takeNumber() {
            if (!isDigit(peek())) {
                return false;
            }
            number = peek() - '0';
            position++;
            if (isDigit(peek())) {
                number = 10 * number + peek() - '0';
                position++;
            }
            return true;
        }

        /** Reads one of the letters into first. */
        private boolean takeFirst(String letters) {
            char letter = peek();
            if (letters.indexOf(letter) < 0) {
                return false;
            }
            first = letter;
            position++;
            return true;
        }
    }
}
