import java.nio.file.Files;
import java.nio.file.Path;
import java.util.ArrayList;
import java.util.LinkedHashMap;
import java.util.List;
import java.util.Map;

/**
 * Each sentence of the document that names a boundary case has a test of its own here, which names the sentence as the
 * document has it. A sentence that only names an answer is passed over by plain(..). In the end the test looks into
 * ../shared/DOC.md: each sentence that is named must stand there, and no sentence there may be left out.
 *
 * Runs in the project's folder. Each test begins with a new object in x, and makes less than 512 calls on it.
 */
public final class BoundaryTest {
    private static final Path DOCUMENT = Path.of("../shared/DOC.md");
    private static final String INDEX = "throws.IndexOutOfBoundsException";
    private static final String ARGUMENT = "throws.IllegalArgumentException";
    private static final String STATE = "throws.IllegalStateException";
    private static final String REJECTED = "throws.UnsupportedOperationException";
    private static final String MISSING = "throws.NoSuchElementException";
    private static final String ARITHMETIC = "throws.ArithmeticException";

    private static final int LOW = Integer.MIN_VALUE;
    private static final int HIGH = Integer.MAX_VALUE;
    private static final int[] NO_CELLS = {-1, 35, 36, 255, LOW, HIGH};
    private static final int[] NO_PORTS = {-1, 24, 25, 255, LOW, HIGH};
    private static final int[] NO_ROWS = {-1, 5, 6, LOW, HIGH};
    private static final int[] NO_PLACES = {-1, 4, 5, LOW, HIGH};
    /** The signs next to the options, and such as are options if some of their bits are lost. */
    private static final char[] NO_OPTIONS = {'`', 'e', 'A', 'D', '@', '.', 0, 256 + 'a', 512 + 'd', 65535};
    private static final char[] OPTIONS = {'a', 'b', 'c', 'd'};
    /** The cell at each port. */
    private static final int[] CELL_AT = {0, 1, 2, 3, 4, 5, 6, 6, 13, 20, 27, 34, 34, 33, 32, 31, 30, 29, 28, 28, 21,
            14, 7, 0};
    /** The port across the empty box. */
    private static final int[] ACROSS = {18, 17, 16, 15, 14, 13, 12, 23, 22, 21, 20, 19, 6, 5, 4, 3, 2, 1, 0, 11, 10,
            9, 8, 7};

    private static final String NO_CELL = "Throws `IndexOutOfBoundsException` if there is no such cell";
    private static final String NO_CAT = "Throws `IndexOutOfBoundsException` if there is no such cat";
    private static final String NO_PORT = "Throws `IllegalArgumentException` if there is no such port";
    private static final String NO_OPTION = "Throws `IllegalArgumentException` if there is no such option";
    private static final String NO_PAIR = "Throws `IllegalArgumentException` if there is no such option, for one or"
            + " other, or both are the same";
    private static final String WITHOUT_CATS = "Throws `NoSuchElementException` if there are no cats";

    private static final Map<String, List<String>> NAMED = new LinkedHashMap<>();
    private static int wrong = 0;
    private static int tests = 0;
    private static String section = "";
    private static String sentence = "";
    private static MirrorJury x;

    private interface Call {
        Object get();
    }

    private interface NumberCall {
        Object get(int number);
    }

    private interface SignCall {
        Object get(char sign);
    }

    private interface PairCall {
        Object get(char one, char other);
    }

    private interface PortCatCall {
        Object get(int port, int cat);
    }

    public static void main(String[] args) throws Exception {
        theUse();
        box();
        ports();
        rays();
        courses();
        theCats();
        votesByRounds();
        theStrengths();
        causes();
        commands();
        offsets();
        rejections();
        changes();
        exceptions();
        constants();
        promises();
        compareWithDocument(Files.readString(DOCUMENT));
        System.out.println(wrong == 0 ? "BoundaryTest: " + tests + " sentences hold" : "BoundaryTest: " + wrong
                + " wrong");
        if (wrong != 0) {
            System.exit(1);
        }
    }

    // ---- how a sentence is held

    private static void in(String name) {
        section = name;
        NAMED.putIfAbsent(name, new ArrayList<>());
    }

    private static void in(int promise) {
        in("Promise " + promise);
    }

    /** Runs the checks of a sentence on a new object. */
    private static void holds(String text, Runnable checks) {
        NAMED.get(section).add(text);
        sentence = text;
        tests++;
        x = new MirrorJury();
        try {
            checks.run();
        } catch (RuntimeException e) {
            StackTraceElement[] trace = e.getStackTrace();
            fault("a call ahead of a check threw " + e + (trace.length > 1 ? " in " + trace[1] : ""));
        }
    }

    /** Names sentences that name no boundary case. */
    private static void plain(String... texts) {
        NAMED.get(section).addAll(List.of(texts));
    }

    private static void fault(String what) {
        wrong++;
        System.out.println(section + ": \"" + sentence + "\": " + what);
    }

    private static String answer(Call call) {
        try {
            return String.valueOf(call.get());
        } catch (RuntimeException e) {
            return "throws." + e.getClass().getSimpleName();
        }
    }

    private static void due(Object want, Call call) {
        same(want, answer(call), "");
    }

    private static void same(Object want, String got, String about) {
        if (!got.equals(String.valueOf(want))) {
            fault("answered " + got + ", due is " + want + about + line());
        }
    }

    private static String line() {
        for (StackTraceElement element : new Throwable().getStackTrace()) {
            if (element.getMethodName().startsWith("lambda$")) {
                return ", line " + element.getLineNumber();
            }
        }
        return "";
    }

    private static void each(Object want, int[] numbers, NumberCall call) {
        for (int number : numbers) {
            same(want, answer(() -> call.get(number)), " with " + number);
        }
    }

    private static void each(Object want, char[] signs, SignCall call) {
        for (char sign : signs) {
            same(want, answer(() -> call.get(sign)), " with the sign " + (int) sign);
        }
    }

    /** Checks that the numbers from 0 to the last one are not refused. */
    private static void taken(String refusal, int last, NumberCall call) {
        for (int i = 0; i <= last; i++) {
            int number = i;
            String got = answer(() -> call.get(number));
            if (got.equals(refusal)) {
                fault("refused " + number);
            }
        }
    }

    /** Checks that a call leaves all that can be seen, but the latest rejection. */
    private static void leavesAll(Object want, Call call) {
        String before = state();
        same(want, answer(call), "");
        same(before, state(), " after a call that changes nothing");
    }

    // ---- calls in short

    /** Adds cats, each written as its cell, a colon and the three options that it likes most. */
    private static void cats(String... texts) {
        for (String text : texts) {
            String[] parts = text.split(":");
            x.addCat(Integer.parseInt(parts[0]), parts[1].charAt(0), parts[1].charAt(1), parts[1].charAt(2));
        }
    }

    private static void jury(String... texts) {
        x = new MirrorJury();
        cats(texts);
    }

    /** A new box from 35 contents; the cats in it are added afterwards. */
    private static void box(String contents) {
        x = new MirrorJury();
        for (int cell = 0; cell < 35; cell++) {
            if (contents.charAt(cell) != '.' && contents.charAt(cell) != 'c') {
                x.setMirror(cell, contents.charAt(cell));
            }
        }
    }

    private static int input(String text) {
        int length = 0;
        for (char sign : text.toCharArray()) {
            length = x.appendInput(sign);
        }
        return length;
    }

    private static String run(String text) {
        input(text);
        return answer(() -> x.execute());
    }

    private static String ranking(int cat) {
        return "" + x.optionAt(cat, 0) + x.optionAt(cat, 1) + x.optionAt(cat, 2) + x.optionAt(cat, 3);
    }

    private static String output(int length) {
        StringBuilder text = new StringBuilder();
        for (int i = 0; i < length; i++) {
            text.append(x.outputAt(i));
        }
        return text.toString();
    }

    private static String rejection() {
        return x.rejectionReason() + "/" + x.rejectionDetail();
    }

    private static String allContents() {
        StringBuilder text = new StringBuilder();
        for (int cell = 0; cell < 35; cell++) {
            text.append(x.contentOf(cell));
        }
        return text.toString();
    }

    /** All that undo and the snapshot cover; up to 100 calls. */
    private static String state() {
        StringBuilder text = new StringBuilder(allContents());
        for (int i = 0; i < x.catCount(); i++) {
            int cat = i;
            text.append(' ').append(x.cellOf(cat)).append(ranking(cat)).append(x.heardBy(cat));
        }
        text.append(' ').append(x.method()).append(x.deliberations()).append(',').append(x.hungCount()).append(',');
        for (int i = 0; i < 10; i++) {
            int recency = i;
            text.append(answer(() -> x.verdictAt(recency)).replace(MISSING, ""));
        }
        return text.append(' ').append(x.retrials()).append(',').append(x.testimonies()).append(x.hasCause())
                .toString();
    }

    private static void end(int port, Object want) {
        due(want, () -> x.rayEnd(port));
        due(want, () -> x.rayEndByJoining(port));
    }

    private static void effort(int port, int cat, Object want) {
        due(want, () -> x.leastEffort(port, cat));
        due(want, () -> x.leastEffortByRounds(port, cat));
    }

    private static void strength(char one, char other, Object want) {
        due(want, () -> x.strengthOf(one, other));
        due(want, () -> x.strengthByTrying(one, other));
    }

    private static void byRounds(char winner, int rounds, String... texts) {
        jury(texts);
        due(winner, () -> x.roundsWinner());
        due(rounds, () -> x.rounds());
    }

    // ---- What it is

    private static void theUse() {
        in("What it is");
        plain("A jury of cats in a box of mirrors: rays that are reflected from cell to cell, testimonies that reach a"
                + " cat by a ray and change its ranking, courses with the least effort, votes by points, by rounds and"
                + " by strengths, verdicts and retrials, a command language with syntax errors by offset, reasons for"
                + " rejected calls, undo, and a snapshot.");
        holds("An object is used for at most 512 calls after it has been made; what later calls answer is free.",
                () -> {
            cats("0:abc");
            for (int i = 1; i <= 508; i++) {
                x.testify(0, 'd');
            }
            due(508, () -> x.heardBy(0));
            due(508.0, () -> x.meanHeard());
            due(12, () -> x.writeCat(0));
            jury("0:abc");
            for (int i = 1; i <= 508; i++) {
                x.deliberate();
            }
            due(508, () -> x.deliberations());
            due(7, () -> x.undo());
            due('a', () -> x.verdictAt(9));
            x = new MirrorJury();
            for (int i = 1; i <= 510; i++) {
                x.setMirror(i % 35, i % 2 == 0 ? '/' : '\\');
            }
            due(35, () -> x.setMirror(0, '/'));
            due(7, () -> x.undo());
            x = new MirrorJury();
            for (int i = 1; i <= 512; i++) {
                due(true, () -> x.isConsistent());
            }
        });
    }

    // ---- Terms

    private static void box() {
        in("Terms");
        plain("The box.", "Ports.", "Rays.", "Courses.", "Cats.", "Votes by rounds.", "Strengths.", "Causes.",
                "Commands.", "Rejections.", "Changes.", "Exceptions.", "The constants:");
        holds("The box has 5 rows of 7 cells, numbered row by row from the top left one: the cell in the row r and the"
                + " column c has the number 7 * r + c.", () -> {
            for (int cell : new int[] {0, 7, 27}) {
                x.setMirror(cell, '/');
            }
            for (int cell : new int[] {6, 28, 34}) {
                x.setMirror(cell, '\\');
            }
            String[] rows = {"/.....\\", "/......", ".......", "....../", "\\.....\\"};
            for (int i = 0; i < 5; i++) {
                int row = i;
                due(7, () -> x.writeRow(row));
                due(rows[row], () -> output(7));
            }
            due(INDEX, () -> x.setMirror(35, '/'));
            due(INDEX, () -> x.writeRow(5));
        });
        holds("A cell is empty, contains a mirror, or contains a cat.", () -> {
            due('.', () -> x.contentOf(34));
            x.setMirror(34, '\\');
            due('\\', () -> x.contentOf(34));
            x.setMirror(34, '/');
            due('/', () -> x.contentOf(34));
            cats("34:abc");
            due('c', () -> x.contentOf(34));
            due(0, () -> x.setMirror(0, '.'));
            due(REJECTED, () -> x.setMirror(34, '/'));
            due('c', () -> x.contentOf(34));
        });
        holds("There are two kinds of mirrors, \"/\" and \"\\\".", () -> {
            due(1, () -> x.setMirror(0, '/'));
            due(2, () -> x.setMirror(1, '\\'));
            for (char sign : new char[] {'|', '-', 'x', '+', '0', '[', ']'}) {
                due(ARGUMENT, () -> x.setMirror(2, sign));
            }
            due('.', () -> x.contentOf(2));
        });
    }

    private static void ports() {
        holds("There is a port at each side of a cell at the edge of the box.", () -> {
            for (int cell = 0; cell < 35; cell++) {
                jury(cell + ":abc");
                int row = cell / 7;
                int column = cell % 7;
                int sides = (row == 0 ? 1 : 0) + (row == 4 ? 1 : 0) + (column == 0 ? 1 : 0) + (column == 6 ? 1 : 0);
                int ports = 0;
                for (int port = 0; port < 24; port++) {
                    ports += x.rayLength(port) == 1 ? 1 : 0;
                }
                same(sides, String.valueOf(ports), " at the cell " + cell);
            }
        });
        holds("The ports are numbered clockwise: 0 to 6 above the columns 0 to 6, 7 to 11 on the right of the rows 0 to"
                + " 4, 12 to 18 below the columns 6 to 0, and 19 to 23 on the left of the rows 4 to 0.", () -> {
            for (int i = 0; i < 24; i++) {
                int port = i;
                jury(CELL_AT[port] + ":abc");
                due(0, () -> x.rayCat(port));
                due(1, () -> x.rayLength(port));
                due(MISSING, () -> x.rayEndByJoining(port));
            }
        });
    }

    private static void rays() {
        holds("The ray of a port enters the cell at the port and moves away from the edge.", () -> {
            for (int port = 0; port < 24; port++) {
                end(port, ACROSS[port]);
            }
            // A mirror in a corner stands in the first cell of two ports, which it connects.
            box("/................................./");
            end(0, 23);
            end(23, 0);
            end(11, 12);
            end(12, 11);
            box("......\\.....................\\......");
            end(6, 7);
            end(7, 6);
            end(18, 19);
            end(19, 18);
        });
        holds("In an empty cell it goes straight on.", () -> {
            for (int i = 0; i < 24; i++) {
                int port = i;
                due(0, () -> x.rayBounces(port));
                due(port < 7 || port >= 12 && port < 19 ? 5 : 7, () -> x.rayLength(port));
            }
            // A cell is empty again if its mirror is removed.
            x.setMirror(0, '/');
            end(0, 23);
            x.setMirror(0, '.');
            end(0, 18);
            end(23, 7);
        });
        holds("By a mirror \"/\", a ray that moves right goes up, one that moves up goes right, one that moves left"
                + " goes down, and one that moves down goes left.", () -> {
            x.setMirror(17, '/');
            end(21, 3);
            end(15, 9);
            end(9, 15);
            end(3, 21);
            // In the corners, where a ray leaves at once or crosses the box; none goes on in another row.
            box("....../...................../......");
            end(6, 23);
            end(7, 12);
            end(12, 7);
            end(18, 11);
            end(19, 0);
        });
        holds("By a mirror \"\\\", a ray that moves right goes down, one that moves down goes right, one that moves"
                + " left goes up, and one that moves up goes left.", () -> {
            x.setMirror(17, '\\');
            end(21, 15);
            end(3, 9);
            end(9, 3);
            end(15, 21);
            box("\\.................................\\");
            end(0, 7);
            end(23, 18);
            end(7, 0);
            end(11, 6);
            end(12, 19);
        });
        raysToTheirEnd();
    }

    private static void raysToTheirEnd() {
        holds("In the cell of a cat the ray ends.", () -> {
            // In the first cell, in the last one, and behind a mirror.
            cats("0:abc", "31:abc");
            end(0, MISSING);
            end(23, MISSING);
            end(7, MISSING);
            end(18, MISSING);
            end(3, MISSING);
            end(15, MISSING);
            due(5, () -> x.rayLength(3));
            due(1, () -> x.rayLength(15));
            x.setMirror(8, '\\');
            x.setMirror(9, '/');
            due(0, () -> x.rayCat(0));
            x.setMirror(2, '/');
            due(0, () -> x.rayCat(2));
            due(3, () -> x.rayLength(2));
            // A cat in place of a mirror ends the ray.
            cats("8:abc");
            due(2, () -> x.rayCat(22));
            due(2, () -> x.rayCat(1));
        });
        holds("Otherwise it leaves the box by a port.", () -> {
            // After one cell, and after fifty, which lie on one another.
            box("/..................................");
            due(1, () -> x.rayLength(0));
            end(0, 23);
            box("\\\\/\\/\\\\/..\\.//\\//.\\.\\/.\\/.//\\/\\/\\//");
            end(0, 5);
            end(5, 0);
            // Mirrors in a ring that keep light inside do not hold up the rays of ports.
            box("........./\\.....\\/.................");
            for (int i = 0; i < 24; i++) {
                int port = i;
                due(port, () -> x.rayEnd(x.rayEnd(port)));
                due(port, () -> x.rayEndByJoining(x.rayEnd(port)));
            }
        });
    }

    private static void courses() {
        holds("A course from a port to a cat enters the box like the ray of the port, goes from cell to cell, and ends"
                + " in the cell of the cat.", () -> {
            // The cell at the port can be that of the cat.
            cats("0:abc", "34:abc");
            effort(0, 0, 0);
            effort(23, 0, 0);
            effort(11, 1, 0);
            effort(12, 1, 0);
            effort(6, 0, 1);
            effort(13, 0, 1);
            effort(10, 0, 1);
            effort(1, 0, 1);
            effort(17, 0, 1);
        });
        holds("It does not enter cells of other cats, and does not leave the box.", () -> {
            // The first cell has another cat, or other cats stand all around.
            cats("0:abc", "1:abc", "7:abc");
            effort(1, 0, MISSING);
            effort(22, 0, MISSING);
            effort(5, 0, MISSING);
            effort(12, 0, MISSING);
            effort(0, 0, 0);
            effort(0, 1, MISSING);
            effort(0, 2, MISSING);
            // Light leaves by a mirror at the edge, and a course has to turn away from it; no row goes on in the next.
            jury("7:abc");
            x.setMirror(6, '/');
            effort(12, 0, 1);
            jury("6:abc");
            x.setMirror(7, '\\');
            effort(18, 0, 2);
        });
        holds("In each cell that is not that of the cat, it goes straight on, to the left or to the right of the"
                + " direction in which it moves, but not back.", () -> {
            cats("9:abc", "11:abc", "24:abc");
            effort(3, 0, 1);
            effort(3, 1, 1);
            effort(3, 2, 0);
            // Other cats at one side and in the way: round them, with a turn in each corner.
            jury("24:abc", "17:abc");
            effort(3, 0, 3);
            jury("24:abc", "17:abc", "9:abc", "11:abc");
            effort(3, 0, 3);
            // In a lane one cell wide that is closed, back is the only way out.
            jury("30:abc", "9:abc", "11:abc", "2:abc", "4:abc", "17:abc");
            effort(3, 0, MISSING);
            effort(3, 5, 0);
            effort(5, 5, 1);
        });
        holds("Each time that it goes otherwise than a ray would go there costs an effort of 1.", () -> {
            cats("17:abc", "9:abc", "11:abc");
            x.setMirror(10, '/');
            effort(3, 0, 1);
            effort(3, 1, 0);
            effort(3, 2, 1);
            x.setMirror(10, '\\');
            effort(3, 0, 1);
            effort(3, 1, 1);
            effort(3, 2, 0);
            x.setMirror(10, '.');
            effort(3, 0, 0);
            effort(3, 1, 1);
            effort(3, 2, 1);
            // One of the greatest least efforts: each of many cells costs 1.
            box("\\\\c.\\\\.\\c.c.c\\//c\\c\\\\///c\\\\\\////\\\\\\");
            cats("10:abc", "18:abc", "24:abc", "12:abc", "2:abc", "8:abc", "16:abc");
            effort(0, 0, 18);
        });
    }

    private static void theCats() {
        holds("There are at most 7 cats, with the indices 0, 1 and so on in the order in which they are added; they are"
                + " never removed.", () -> {
            int[] cells = {34, 20, 1, 0, 13, 7, 28};
            for (int i = 0; i < 7; i++) {
                int cat = i;
                due(cat, () -> x.addCat(cells[cat], 'a', 'b', 'c'));
            }
            due(REJECTED, () -> x.addCat(5, 'a', 'b', 'c'));
            due(7, () -> x.catCount());
            due(REJECTED, () -> x.setMirror(34, '.'));
            due(REJECTED, () -> x.setMirror(28, '/'));
            x.deliberate();
            x.setMirror(5, '/');
            x.retry();
            due(7, () -> x.catCount());
            for (int i = 0; i < 7; i++) {
                int cat = i;
                due(cells[cat], () -> x.cellOf(cat));
                due(cat, () -> x.catIn(cells[cat]));
            }
        });
        holds("There are four options, a, b, c and d.", () -> {
            cats("0:abc");
            each(ARGUMENT, NO_OPTIONS, option -> x.placeOf(0, option));
            each(ARGUMENT, NO_OPTIONS, option -> x.testify(0, option));
            due(0, () -> x.placeOf(0, 'a'));
            due(3, () -> x.placeOf(0, 'd'));
            due(0, () -> x.testify(0, 'd'));
        });
        holds("A cat has a ranking, in which each option has a place from 0 to 3, the option that it likes most at"
                + " place 0.", () -> {
            cats("0:dcb");
            due("dcba", () -> ranking(0));
            for (int i = 0; i < 4; i++) {
                int place = i;
                due(place, () -> x.placeOf(0, x.optionAt(0, place)));
            }
            due(ARGUMENT, () -> x.optionAt(0, -1));
            due(ARGUMENT, () -> x.optionAt(0, 4));
        });
        holds("It prefers an option to another one if it has the lower place.", () -> {
            cats("0:dcb");
            due(1, () -> x.prefer('d', 'c'));
            due(0, () -> x.prefer('c', 'd'));
            due(1, () -> x.prefer('d', 'a'));
            due(0, () -> x.prefer('a', 'd'));
            due(1, () -> x.prefer('b', 'a'));
            due(0, () -> x.prefer('a', 'b'));
            x.testify(0, 'a');
            due(0, () -> x.prefer('b', 'a'));
            due(1, () -> x.prefer('a', 'b'));
        });
    }

    private static void votesByRounds() {
        holds("In a round, each cat votes for the option with the lowest place in its ranking among those that are"
                + " left; at first all four are.", () -> {
            // d and c leave without b; then the cat that likes c most votes for b.
            byRounds('b', 3, "0:abc", "1:abc", "2:bac", "3:bac", "4:cba");
            // d and c leave, and the cats that like them most vote for b in the end, which both like third.
            byRounds('b', 3, "0:abc", "1:abc", "2:abc", "3:bac", "4:bac", "5:dcb", "6:cdb");
            byRounds('d', 1, "0:dcb");
        });
        holds("If an option has more than half of the votes, it is the winner.", () -> {
            byRounds('c', 1, "0:cab");
            byRounds('d', 1, "0:abc", "1:dab", "2:dab");
            byRounds('d', 1, "0:abc", "1:dab", "2:dab", "3:dab");
            byRounds('d', 1, "0:abc", "1:abc", "2:bca", "3:dab", "4:dab", "5:dab", "6:dab");
            // Half of the votes is not more than half: b leaves in the end.
            byRounds('a', 4, "0:abc", "1:abd", "2:bac", "3:cba");
            byRounds('a', 4, "0:abc", "1:bad");
            // Three of seven is less than half.
            byRounds('b', 3, "0:abc", "1:abc", "2:abc", "3:bac", "4:bac", "5:cba", "6:cba");
        });
        holds("Otherwise the option with the fewest votes leaves, of several the one that comes last in the alphabet,"
                + " and there is another round.", () -> {
            // d of four with one vote each, then b of a and b, then c of a and c.
            byRounds('a', 4, "0:dcb", "1:cdb", "2:bad", "3:abc");
            // An option without votes leaves ahead of the others, also if it comes first in the alphabet.
            byRounds('d', 3, "0:bda", "1:cda", "2:dab", "3:dab", "4:bcd");
            // Two against two to the end: d leaves, not a.
            byRounds('a', 4, "0:dac", "1:dac", "2:adc", "3:adc");
        });
    }

    private static void theStrengths() {
        holds("An option is victorious over another one with a number of cats if this number of cats prefers it to that"
                + " one, and fewer cats prefer that one to it.", () -> {
            // As many on both sides: none is victorious. One more: the one is, with all that prefer it.
            cats("0:abc", "1:bad");
            strength('a', 'b', 0);
            strength('b', 'a', 0);
            strength('c', 'd', 0);
            cats("2:abd");
            strength('a', 'b', 2);
            strength('b', 'a', 0);
            cats("3:abc", "4:abc", "5:abc", "6:abc");
            strength('a', 'b', 6);
            strength('b', 'a', 0);
            strength('a', 'c', 7);
        });
        holds("A chain from an option to another one is a sequence of options that begins with the one and ends with"
                + " the other, in which each option is victorious over the next one.", () -> {
            // From a to d there is but the chain by b and c; from d to a but the one of both alone.
            cats("0:abc", "1:bcd", "2:cda", "3:dab");
            strength('a', 'd', 3);
            strength('d', 'a', 3);
            strength('a', 'c', 3);
            strength('c', 'a', 3);
            strength('d', 'c', 3);
        });
        holds("The strength of a chain is the least number of cats in its victories.", () -> {
            // a over b with 6, b over c with 4 and c over d with 5 cats; then 4, 5, 6; then 6, 5, 4.
            cats("0:cda", "1:cda", "2:abc", "3:abc", "4:abc", "5:dca", "6:bda");
            strength('a', 'd', 4);
            strength('a', 'b', 6);
            strength('c', 'd', 5);
            jury("0:cdb", "1:bcd", "2:dab", "3:abc", "4:cda", "5:bcd", "6:abc");
            strength('a', 'd', 4);
            strength('b', 'd', 5);
            strength('b', 'a', 5);
            jury("0:cda", "1:dab", "2:bac", "3:dab", "4:dab", "5:abc", "6:cab");
            strength('a', 'd', 4);
            strength('a', 'c', 5);
        });
        holds("The strength of an option against another one is the greatest strength of a chain from it to that one,"
                + " or 0 if there is no chain.", () -> {
            // a is victorious over d with 4 cats, and by c with 5.
            cats("0:dba", "1:bda", "2:acd", "3:bac", "4:cba", "5:cbd", "6:bac");
            strength('a', 'd', 5);
            due(4, () -> x.prefer('a', 'd'));
            strength('d', 'a', 0);
            strength('a', 'b', 0);
            jury("0:abc");
            strength('a', 'd', 1);
            strength('d', 'a', 0);
            x = new MirrorJury();
            strength('a', 'b', 0);
            strength('d', 'c', 0);
        });
    }

    private static void causes() {
        holds("There is a cause for a retrial if there was a deliberation and no retrial after it, and the jury was"
                + " hung in the latest deliberation, or a cat was added or the content of a cell became different by"
                + " setMirror after it.", () -> {
            due(false, () -> x.hasCause());
            cats("0:abc");
            x.setMirror(10, '/');
            due(false, () -> x.hasCause());
            due('a', () -> x.deliberate());
            due(false, () -> x.hasCause());
            // The same content again, a refused call, and other changes are no cause.
            x.setMirror(10, '/');
            x.setMirror(11, '.');
            answer(() -> x.setMirror(0, '/'));
            answer(() -> x.setMirror(12, 'x'));
            answer(() -> x.addCat(0, 'a', 'b', 'c'));
            x.setMethod('s');
            x.testify(0, 'b');
            run("mirror 12 /;cat 0 abc");
            due(false, () -> x.hasCause());
            causesAndRetrials();
        });
    }

    private static void causesAndRetrials() {
        // A content that became different once, also if it is put back.
        x.setMirror(10, '\\');
        due(true, () -> x.hasCause());
        x.setMirror(10, '/');
        due(true, () -> x.hasCause());
        due('b', () -> x.deliberate());
        due(false, () -> x.hasCause());
        x.setMirror(10, '.');
        due(true, () -> x.hasCause());
        x.retry();
        due(false, () -> x.hasCause());
        // After a retrial there has to be a deliberation first.
        x.setMirror(11, '/');
        cats("1:bac");
        due(false, () -> x.hasCause());
        due('-', () -> x.deliberate());
        due(true, () -> x.hasCause());
        x.retry();
        due(false, () -> x.hasCause());
        due('-', () -> x.deliberate());
        cats("2:bac");
        due(true, () -> x.hasCause());
        // The jury was hung, but not in the latest deliberation.
        due('b', () -> x.deliberate());
        due(false, () -> x.hasCause());
        cats("3:bac");
        due(true, () -> x.hasCause());
        x.deliberate();
        due(1, () -> run("mirror 11 \\"));
        due(true, () -> x.hasCause());
        x.undo();
        due(false, () -> x.hasCause());
    }

    private static void commands() {
        holds("The input has one or more commands, with \";\" between two of them.", () -> {
            cats("0:abc", "1:bac");
            due(ARGUMENT, () -> x.execute());
            for (String text : new String[] {" ", ";", "vote;", ";vote", "vote;;vote", "vote vote", "vote; vote",
                    "vote,vote", "votevote", "vote ;vote"}) {
                due(ARGUMENT, () -> run(text));
            }
            due(1, () -> run("vote"));
            due(2, () -> run("vote;retry"));
            // The most commands that the input can hold, which is full.
            due(12, () -> run("vote;vote;vote;vote;vote;vote;vote;vote;vote;vote;vote;retry"));
            due(13, () -> x.deliberations());
            due(2, () -> x.retrials());
        });
        holds("\"cat \", a number, a space and three options adds a cat to a cell.", () -> {
            due(1, () -> run("cat 0 abc"));
            due(1, () -> run("cat 34 dcb"));
            due(34, () -> x.cellOf(1));
            due("dcba", () -> ranking(1));
            due(STATE, () -> run("cat 35 abc"));
            due(STATE, () -> run("cat 5 aab"));
            for (String text : new String[] {"cat 5 ab", "cat 5 abcd", "cat5 abc", "cat 5abc", "cat  5 abc",
                    "cat 5  abc", "cat 5 a b c", "cats 5 abc", "Cat 5 abc", "cat abc"}) {
                due(ARGUMENT, () -> run(text));
            }
            due(2, () -> x.catCount());
        });
        holds("\"mirror \", a number, a space and a content puts a mirror into a cell or removes it.", () -> {
            due(3, () -> run("mirror 0 /;mirror 34 \\;mirror 7 /"));
            due(1, () -> run("mirror 7 ."));
            due('/', () -> x.contentOf(0));
            due('\\', () -> x.contentOf(34));
            due('.', () -> x.contentOf(7));
            due(STATE, () -> run("mirror 35 /"));
            for (String text : new String[] {"mirror 5", "mirror 5 ", "mirror 5/", "mirror /", "mirror 5 c",
                    "mirror 5 //", "mirror  5 /", "mirror 5  /", "miror 5 /"}) {
                due(ARGUMENT, () -> run(text));
            }
        });
        moreCommands();
    }

    private static void moreCommands() {
        holds("\"say \", a number, a space and an option gives a testimony into a port.", () -> {
            cats("0:abc");
            due(2, () -> run("say 0 d;say 23 d"));
            due("adbc", () -> ranking(0));
            due(2, () -> x.heardBy(0));
            due(STATE, () -> run("say 24 d"));
            due(REJECTED, () -> run("say 1 d"));
            for (String text : new String[] {"say 0", "say 0 ", "say 0 e", "say 0d", "say d", "say 0 dd", "say  0 d"}) {
                due(ARGUMENT, () -> run(text));
            }
            due(2, () -> x.testimonies());
        });
        holds("\"method \" and a method sets the method.", () -> {
            for (char method : new char[] {'r', 's', 'p'}) {
                due(1, () -> run("method " + method));
                due(method, () -> x.method());
            }
            for (String text : new String[] {"method", "method ", "method q", "method pr", "methodp", "method  p"}) {
                due(ARGUMENT, () -> run(text));
            }
        });
        holds("\"vote\" lets the cats deliberate, and \"retry\" makes a retrial.", () -> {
            due(REJECTED, () -> run("vote"));
            cats("0:abc", "1:bac");
            due(REJECTED, () -> run("retry"));
            due(1, () -> run("vote"));
            due('-', () -> x.verdictAt(0));
            due(1, () -> run("retry"));
            due(1, () -> x.retrials());
            due(REJECTED, () -> run("retry"));
            for (String text : new String[] {"vot", "votes", "vote 1", "Vote", "retr", "retrys", "retry 1"}) {
                due(ARGUMENT, () -> run(text));
            }
        });
        holds("A number has one or two digits; an option is \"a\", \"b\", \"c\" or \"d\", a content is \"/\", \"\\\" or"
                + " \".\", and a method is \"p\", \"r\" or \"s\".", () -> {
            due(5, () -> run("cat 0 dab;cat 01 bcd;mirror 10 /;mirror 9 \\;mirror 09 ."));
            due("dabc", () -> ranking(0));
            due(1, () -> x.cellOf(1));
            due('/', () -> x.contentOf(10));
            due('.', () -> x.contentOf(9));
            due(2, () -> run("say 00 a;say 0 b"));
            due(STATE, () -> run("cat 99 abc"));
            due(STATE, () -> run("say 99 a"));
            for (String text : new String[] {"cat  abc", "cat 000 abc", "cat 001 abc", "say 100 a", "say -1 a",
                    "say +1 a", "say 0` a", "say : a", "say 1: a", "say 1/ a", "cat 5 `ab", "cat 5 abe", "say 0 A",
                    "mirror 5 -", "mirror 5 0", "mirror 5 ]", "method o", "method q", "method t"}) {
                due(ARGUMENT, () -> run(text));
            }
        });
    }

    private static void wrongAt(int offset, String text) {
        same(ARGUMENT, run(text), " for " + text);
        same(offset, answer(() -> x.syntaxErrorOffset()), " for " + text);
    }

    private static void offsets() {
        holds("The offset of a syntax error is the index of the first character that cannot follow the characters ahead"
                + " of it in any input; it is the length of the input if the input ends too early.", () -> {
            wrongAt(0, "");
            wrongAt(0, " ");
            wrongAt(0, "x");
            wrongAt(0, ";");
            wrongAt(5, "vote;");
            wrongAt(5, "vote;;");
            wrongAt(4, "vote ");
            wrongAt(1, "m");
            wrongAt(1, "ma");
            wrongAt(2, "mit");
            wrongAt(3, "miror");
            wrongAt(2, "mer");
            // A third digit, and no digit.
            wrongAt(6, "cat 123 abc");
            wrongAt(4, "cat  abc");
            wrongAt(5, "cat 5");
            wrongAt(6, "cat 55");
            // A fourth option; options that are the same, and cells that there are not, are no syntax errors.
            wrongAt(9, "cat 5 abcd");
            wrongAt(9, "cat 5 aaad");
            wrongAt(10, "cat 99 abcd");
            wrongAt(10, "say 99 a;vx");
            offsetsOfLongInputs();
            offsetsOfBeginnings();
        });
    }

    private static void offsetsOfLongInputs() {
        x = new MirrorJury();
        // Sixty characters: the first wrong one is the last, or the input ends too early.
        wrongAt(59, "vote;vote;vote;vote;vote;vote;vote;vote;vote;vote;vote;vote!");
        wrongAt(60, "vote;vote;vote;vote;vote;vote;vote;vote;vote;vote;vote;vote;");
        wrongAt(60, "vote;vote;vote;vote;vote;vote;vote;vote;vote;vote;vote;metho");
        wrongAt(0, "                                                            ");
    }

    /** Each beginning of an input ends too early unless it ends with a command, and "?" follows nowhere. */
    private static void offsetsOfBeginnings() {
        String text = "cat 12 abc;mirror 3 \\;say 5 a;method r;vote;retry";
        for (int length = 0; length <= text.length(); length++) {
            x = new MirrorJury();
            String beginning = text.substring(0, length);
            boolean isWhole = length == text.length() || text.charAt(length) == ';';
            String got = run(beginning);
            if (!isWhole) {
                same(ARGUMENT, got, " for " + beginning);
                due(length, () -> x.syntaxErrorOffset());
            } else if (got.equals(ARGUMENT)) {
                fault("a syntax error in " + beginning);
            }
            wrongAt(length, beginning + "?");
        }
    }

    private static void sevenCats() {
        cats("0:abc", "1:abd", "2:bac", "3:bca", "4:cab", "5:cba", "6:dab");
    }

    private static void rejections() {
        holds("A call is rejected for the first reason that applies, in the order in which its method names them.",
                () -> {
            sevenCats();
            due(REJECTED, () -> x.addCat(3, 'a', 'b', 'c'));
            due("1/7", () -> rejection());
            due(REJECTED, () -> run("cat 3 abc"));
            due(1, () -> x.causeReason());
            x.undo();
            due(REJECTED, () -> x.addCat(3, 'a', 'b', 'c'));
            due("2/3", () -> rejection());
        });
        holds("Every reason is a constant, and has a detail that is described there.", () -> {
            x.setMirror(20, '/');
            due(REJECTED, () -> x.deliberate());
            due("4/1", () -> rejection());
            due(REJECTED, () -> x.testify(1, 'a'));
            due("3/17", () -> rejection());
            due(REJECTED, () -> x.retry());
            due("5/0", () -> rejection());
            due(REJECTED, () -> run("method r;vote"));
            due("6/1", () -> rejection());
            due(4, () -> x.causeReason());
            sevenCats();
            due(REJECTED, () -> x.setMirror(6, '/'));
            due("2/6", () -> rejection());
            due(REJECTED, () -> x.addCat(30, 'a', 'b', 'c'));
            due("1/7", () -> rejection());
        });
        holds("A rejected call changes nothing but the latest rejection.", () -> {
            x.setMirror(34, '/');
            leavesAll(REJECTED, () -> x.deliberate());
            leavesAll(REJECTED, () -> x.retry());
            due("5/0", () -> rejection());
            due(0, () -> x.undo());
            jury("0:abc", "1:bac", "3:cab");
            x.deliberate();
            leavesAll(REJECTED, () -> x.testify(2, 'a'));
            leavesAll(REJECTED, () -> x.addCat(1, 'd', 'b', 'a'));
            leavesAll(REJECTED, () -> x.setMirror(3, '.'));
            due(3, () -> x.undo());
            x = new MirrorJury();
            sevenCats();
            x.setMirror(9, '/');
            x.setMirror(10, '/');
            leavesAll(REJECTED, () -> x.addCat(9, 'd', 'b', 'a'));
            leavesAll(REJECTED, () -> run("mirror 9 \\;say 0 d;method r;vote;cat 9 abc"));
            // The latest 8 changes can be undone as before: all but the first cat.
            for (int i = 7; i >= 0; i--) {
                int left = i;
                due(left, () -> x.undo());
            }
            due(1, () -> x.catCount());
            due("c..................................", () -> allContents());
            // The input and the output are not touched by the rejection of another call.
            due(1, () -> x.appendInput('v'));
            x.writeRow(0);
            due(REJECTED, () -> x.addCat(0, 'd', 'b', 'a'));
            due(2, () -> x.appendInput('o'));
            due("0......", () -> output(7));
        });
    }

    private static void changes() {
        holds("A change is a call of addCat, setMirror, testify, setMethod, deliberate, retry or execute that returns a"
                + " value, also if nothing is different after it.", () -> {
            due(0, () -> x.addCat(0, 'a', 'b', 'c'));
            due(0, () -> x.undo());
            due(0, () -> x.setMirror(0, '.'));
            due(0, () -> x.undo());
            due('p', () -> x.setMethod('p'));
            due(0, () -> x.undo());
            due(1, () -> run("method p"));
            due(0, () -> x.undo());
            due(2, () -> run("cat 0 abc;vote"));
            due(0, () -> x.undo());
            cats("0:abc", "1:bac");
            due(0, () -> x.testify(0, 'a'));
            due('-', () -> x.deliberate());
            due(0, () -> x.retry());
            due(4, () -> x.undo());
            due(3, () -> x.undo());
            due(2, () -> x.undo());
            due(1, () -> x.undo());
            due(0, () -> x.undo());
            // Calls that throw or only tell something are no changes.
            answer(() -> x.addCat(35, 'a', 'b', 'c'));
            answer(() -> x.setMirror(0, 'x'));
            answer(() -> x.testify(0, 'a'));
            answer(() -> x.setMethod('x'));
            answer(() -> x.deliberate());
            answer(() -> x.retry());
            run("");
            run("vote");
            run("say 24 a");
            x.appendInput('v');
            x.writeRow(0);
            x.saveSnapshot();
            x.isConsistent();
            due(STATE, () -> x.undo());
        });
        holds("The latest 8 changes can be undone.", () -> {
            for (int count : new int[] {1, 7, 8, 9, 10, 17, 18, 19, 27, 40}) {
                undoAllAfter(count);
            }
            // Undone changes make room for others, also behind the first nine.
            x = new MirrorJury();
            for (int i = 0; i < 12; i++) {
                x.setMirror(i, '/');
            }
            due(7, () -> x.undo());
            due(6, () -> x.undo());
            due(5, () -> x.undo());
            for (int i = 20; i < 25; i++) {
                x.setMirror(i, '\\');
            }
            String[] after = {"/////////...........\\\\\\\\", "/////////...........\\\\\\", "/////////...........\\\\",
                    "/////////...........\\", "/////////", "////////", "///////", "//////"};
            for (int i = 0; i < 8; i++) {
                int left = 7 - i;
                due(left, () -> x.undo());
                due((after[i] + "...................................").substring(0, 35), () -> allContents());
            }
            due(STATE, () -> x.undo());
        });
        whatUndoCovers();
    }

    private static void undoAllAfter(int count) {
        x = new MirrorJury();
        for (int i = 0; i < count; i++) {
            x.setMirror(i % 35, i < 35 ? '/' : '\\');
        }
        for (int left = Math.min(count, 8) - 1; left >= 0; left--) {
            same(left, answer(() -> x.undo()), " after " + count + " changes");
        }
        same(STATE, answer(() -> x.undo()), " after " + count + " changes");
        int first = Math.max(0, count - 8);
        int at = first % 35;
        if (first > 0) {
            int before = (first - 1) % 35;
            same(first <= 35 ? "/" : "\\", answer(() -> x.contentOf(before)), " after " + count + " changes");
        }
        same(first < 35 ? "." : "/", answer(() -> x.contentOf(at)), " after " + count + " changes");
    }

    private static void whatUndoCovers() {
        holds("Undo and the snapshot cover everything but the input, the output, the latest rejection and the latest"
                + " syntax error.", () -> {
            coveredByUndo(() -> x.addCat(20, 'd', 'c', 'b'));
            coveredByUndo(() -> x.addCat(10, 'd', 'c', 'b'));
            coveredByUndo(() -> x.setMirror(10, '\\'));
            coveredByUndo(() -> x.setMirror(10, '.'));
            coveredByUndo(() -> x.testify(0, 'd'));
            coveredByUndo(() -> x.setMethod('s'));
            coveredByUndo(() -> x.deliberate());
            coveredByUndo(() -> x.retry());
            coveredByUndo(() -> run("retry;say 0 d;vote;mirror 9 /;cat 8 abc;method r"));
            someJury();
            x.saveSnapshot();
            String before = state();
            x.retry();
            x.deliberate();
            run("say 0 d;mirror 9 /;cat 8 abc;method r");
            x.setMirror(10, '.');
            x.restoreSnapshot();
            same(before, state(), " after restoreSnapshot");
            // What a retrial gives back is covered as well.
            x.retry();
            due("abcd", () -> ranking(0));
            due("bacd", () -> ranking(1));
            notCovered();
        });
    }

    /** A jury with something of everything: two deliberations, a retrial, testimonies, and a cause. */
    private static void someJury() {
        jury("0:abc", "1:bac");
        x.setMirror(10, '/');
        x.deliberate();
        x.retry();
        x.testify(0, 'd');
        x.testify(1, 'c');
        x.deliberate();
    }

    private static void coveredByUndo(Call change) {
        someJury();
        String before = state();
        change.get();
        x.undo();
        same(before, state(), " after undo");
        // The cats that a retrial gives back, and the next cat, are those of before.
        due(true, () -> x.isConsistent());
        due(2, () -> x.retry());
        due("abcd", () -> ranking(0));
        due("bacd", () -> ranking(1));
        due(2, () -> x.addCat(34, 'd', 'a', 'c'));
        due("dacb", () -> ranking(2));
        due(0, () -> x.heardBy(2));
    }

    private static void notCovered() {
        x = new MirrorJury();
        cats("0:abc");
        x.saveSnapshot();
        x.setMethod('s');
        run("vote?");
        answer(() -> x.testify(1, 'a'));
        x.writeCat(0);
        x.appendInput('v');
        x.undo();
        due("3/17", () -> rejection());
        due(4, () -> x.syntaxErrorOffset());
        due("0@0:abcd", () -> output(8));
        due(2, () -> x.appendInput('o'));
        x.restoreSnapshot();
        due("3/17", () -> rejection());
        due(4, () -> x.syntaxErrorOffset());
        due("0@0:abcd", () -> output(8));
        due(3, () -> x.appendInput('t'));
        due(4, () -> x.appendInput('e'));
        due(1, () -> x.execute());
    }

    private static void exceptions() {
        holds("A call that throws an exception changes nothing, except where this is stated; an exception other than"
                + " UnsupportedOperationException does not change the latest rejection.", () -> {
            someJury();
            answer(() -> x.testify(2, 'a'));
            x.writeCat(1);
            x.appendInput('v');
            String before = state();
            callsThatThrow();
            same(before, state(), " after calls that throw");
            due("3/16", () -> rejection());
            due(MISSING, () -> x.causeReason());
            due("1@1:bcad+1", () -> output(10));
            due(2, () -> x.appendInput('o'));
            due(ARGUMENT, () -> x.execute());
            due(STATE, () -> run("mirror 5 /;vote;say 24 a"));
            due(ARGUMENT, () -> run("mirror 5 /;vote;say 2"));
            same(before, state(), " after calls that throw");
            due("3/16", () -> rejection());
            due(MISSING, () -> x.causeReason());
            due(7, () -> x.undo());
            // undo and restoreSnapshot that throw change nothing either.
            x = new MirrorJury();
            answer(() -> x.retry());
            due(STATE, () -> x.undo());
            due(STATE, () -> x.restoreSnapshot());
            due("5/0", () -> rejection());
        });
        holds("If several exceptions of a method apply, the one that is listed first is thrown.", () -> {
            sevenCats();
            due(INDEX, () -> x.addCat(35, 'a', 'a', 'e'));
            due(INDEX, () -> x.addCat(-1, 'a', 'b', 'c'));
            due(ARGUMENT, () -> x.addCat(0, 'a', 'a', 'b'));
            due(ARGUMENT, () -> x.addCat(30, 'a', 'b', 'e'));
            due(INDEX, () -> x.setMirror(35, 'x'));
            due(ARGUMENT, () -> x.setMirror(0, 'x'));
            due(INDEX, () -> x.optionAt(7, 4));
            due(INDEX, () -> x.optionAt(-1, -1));
            due(INDEX, () -> x.placeOf(7, 'e'));
            due(ARGUMENT, () -> x.leastEffort(24, 7));
            due(ARGUMENT, () -> x.leastEffortByRounds(-1, -1));
            due(INDEX, () -> x.leastEffort(0, 7));
            due(INDEX, () -> x.leastEffortByRounds(0, -1));
            due(ARGUMENT, () -> x.testify(24, 'e'));
            due(ARGUMENT, () -> x.testify(22, 'e'));
            due(MISSING, () -> x.rejectionReason());
            // The first command would be rejected, but there is a syntax error behind it.
            due(ARGUMENT, () -> run("cat 0 abc;x"));
            due(ARGUMENT, () -> run("say 24 a;x"));
            due(MISSING, () -> x.rejectionReason());
            input("                                                            ");
            due(ARGUMENT, () -> x.appendInput((char) 31));
            due(STATE, () -> x.appendInput(' '));
        });
    }

    /** Calls that throw another exception than UnsupportedOperationException, on the jury of someJury. */
    private static void callsThatThrow() {
        due(INDEX, () -> x.addCat(35, 'a', 'b', 'c'));
        due(ARGUMENT, () -> x.addCat(5, 'a', 'b', 'b'));
        due(INDEX, () -> x.setMirror(-1, '/'));
        due(ARGUMENT, () -> x.setMirror(10, 'x'));
        due(INDEX, () -> x.cellOf(2));
        due(MISSING, () -> x.catIn(10));
        due(INDEX, () -> x.contentOf(35));
        due(ARGUMENT, () -> x.optionAt(0, 4));
        due(ARGUMENT, () -> x.placeOf(0, 'e'));
        due(INDEX, () -> x.heardBy(2));
        due(MISSING, () -> x.rayEnd(0));
        due(MISSING, () -> x.rayEndByJoining(0));
        due(MISSING, () -> x.rayCat(2));
        due(ARGUMENT, () -> x.rayLength(24));
        due(INDEX, () -> x.leastEffort(0, 2));
        due(MISSING, () -> x.portByLength(24));
        due(ARGUMENT, () -> x.testify(0, 'e'));
        due(ARGUMENT, () -> x.prefer('a', 'a'));
        due(ARGUMENT, () -> x.strengthOf('a', 'a'));
        due(ARGUMENT, () -> x.setMethod('x'));
        due(MISSING, () -> x.verdictAt(2));
        due(MISSING, () -> x.catByHeard(2));
        due(INDEX, () -> x.writeRow(5));
        due(INDEX, () -> x.writeCat(2));
        due(INDEX, () -> x.outputAt(10));
        due(ARGUMENT, () -> x.appendInput((char) 31));
        due(MISSING, () -> x.syntaxErrorOffset());
        due(MISSING, () -> x.causeReason());
        due(STATE, () -> x.restoreSnapshot());
    }

    private static void constants() {
        holds("`CAT_LIMIT = 1`: Reason: there are 7 cats. The detail is 7.", () -> {
            due(1, () -> MirrorJury.CAT_LIMIT);
            cats("0:abc", "1:abd", "2:bac", "3:bca", "4:cab", "5:cba");
            due(6, () -> x.addCat(6, 'a', 'b', 'c'));
            due(REJECTED, () -> x.addCat(7, 'a', 'b', 'c'));
            due("1/7", () -> rejection());
        });
        holds("`OCCUPIED = 2`: Reason: there is a cat in the cell. The detail is its index.", () -> {
            due(2, () -> MirrorJury.OCCUPIED);
            cats("34:abc", "0:abd");
            due(REJECTED, () -> x.addCat(34, 'a', 'b', 'c'));
            due("2/0", () -> rejection());
            due(REJECTED, () -> x.setMirror(0, '.'));
            due("2/1", () -> rejection());
        });
        holds("`MISSED = 3`: Reason: the ray leaves the box. The detail is the port at which it leaves.", () -> {
            due(3, () -> MirrorJury.MISSED);
            for (int i = 0; i < 24; i++) {
                int port = i;
                due(REJECTED, () -> x.testify(port, 'a'));
                due("3/" + ACROSS[port], () -> rejection());
            }
            x.setMirror(0, '/');
            due(REJECTED, () -> x.testify(23, 'a'));
            due("3/0", () -> rejection());
        });
        holds("`NO_CATS = 4`: Reason: there are no cats. The detail is the number of mirrors.", () -> {
            due(4, () -> MirrorJury.NO_CATS);
            due(REJECTED, () -> x.deliberate());
            due("4/0", () -> rejection());
            for (int i = 0; i < 35; i++) {
                x.setMirror(i, i % 2 == 0 ? '/' : '\\');
            }
            due(REJECTED, () -> x.deliberate());
            due("4/35", () -> rejection());
            x.setMirror(34, '.');
            due(REJECTED, () -> x.deliberate());
            due("4/34", () -> rejection());
        });
        moreConstants();
    }

    private static void moreConstants() {
        holds("`NO_CAUSE = 5`: Reason: there is no cause for a retrial. The detail is the number of deliberations so"
                + " far.", () -> {
            due(5, () -> MirrorJury.NO_CAUSE);
            due(REJECTED, () -> x.retry());
            due("5/0", () -> rejection());
            cats("0:abc");
            for (int i = 0; i < 11; i++) {
                x.deliberate();
            }
            due(REJECTED, () -> x.retry());
            due("5/11", () -> rejection());
            x.undo();
            due(REJECTED, () -> x.retry());
            due("5/10", () -> rejection());
        });
        holds("`COMMAND_REJECTED = 6`: Reason: a command is rejected. The detail is the number of the command, from 0."
                + " The reason for which the method of this command rejects it is the cause.", () -> {
            due(6, () -> MirrorJury.COMMAND_REJECTED);
            due(REJECTED, () -> run("vote"));
            due("6/0", () -> rejection());
            due(4, () -> x.causeReason());
            cats("0:abc");
            due(REJECTED, () -> run("vote;vote;vote;vote;vote;vote;vote;vote;vote;vote;vote;retry"));
            due("6/11", () -> rejection());
            due(5, () -> x.causeReason());
            due(REJECTED, () -> run("vote;say 1 a;cat 0 abc"));
            due("6/1", () -> rejection());
            due(3, () -> x.causeReason());
            due(REJECTED, () -> run("mirror 0 /"));
            due(2, () -> x.causeReason());
            due(REJECTED, () -> run("cat 0 abc"));
            due(2, () -> x.causeReason());
            cats("1:abd", "2:bac", "3:bca", "4:cab");
            // A cat that an earlier command adds counts.
            due(REJECTED, () -> run("cat 5 abc;cat 6 abc;cat 7 abc"));
            due("6/2", () -> rejection());
            due(1, () -> x.causeReason());
            due(5, () -> x.catCount());
        });
    }

    // ---- the promises

    private static void promises() {
        newObject();
        addCat();
        setMirror();
        cellsAndCats();
        places();
        hearingCats();
        endsOfRays();
        partsOfRays();
        effortPromises();
        portByLength();
        testify();
        counts();
        points();
        rounds();
        strengthPromises();
        strengthWinner();
        isDominant();
        setMethod();
        deliberate();
        retry();
        numbersOfVerdicts();
        verdictAt();
        numbersOfHearings();
        catByHeard();
        shares();
        isConsistent();
        writeRow();
        writeCat();
        outputAt();
        appendInput();
        execute();
        executeAndFail();
        syntaxErrorOffset();
        latestRejection();
        causeReason();
        undo();
        saveSnapshot();
        restoreSnapshot();
    }

    private static void cellSentences(String refusal, NumberCall call) {
        holds("`cell`: the number of a cell, 0 to 34", () -> taken(refusal, 34, call));
        holds(NO_CELL, () -> each(refusal, NO_CELLS, call));
    }

    private static void catSentences(NumberCall call) {
        holds("`cat`: the index of a cat", () -> {
            sevenCats();
            taken(INDEX, 6, call);
        });
        holds(NO_CAT, () -> {
            each(INDEX, new int[] {-1, 0, 1, LOW, HIGH}, call);
            cats("0:abc");
            each(INDEX, new int[] {-1, 1, 2, LOW, HIGH}, call);
            cats("1:abd", "2:bac", "3:bca", "4:cab", "5:cba", "6:dab");
            each(INDEX, new int[] {-1, 7, 8, LOW, HIGH}, call);
            // A cat is no longer there if its adding is undone.
            x.undo();
            each(INDEX, new int[] {6}, call);
        });
    }

    private static void portSentences(NumberCall call) {
        holds("`port`: the number of a port, 0 to 23", () -> {
            cats("0:abc");
            taken(ARGUMENT, 23, call);
        });
        holds(NO_PORT, () -> {
            cats("0:abc");
            each(ARGUMENT, NO_PORTS, call);
        });
    }

    private static void optionSentence(SignCall call) {
        holds("`option`: an option, 'a' to 'd'", () -> {
            cats("0:abc");
            for (char option : OPTIONS) {
                due(false, () -> answer(() -> call.get(option)).equals(ARGUMENT));
            }
        });
    }

    private static void optionSentences(SignCall call) {
        optionSentence(call);
        holds(NO_OPTION, () -> {
            cats("0:abc");
            each(ARGUMENT, NO_OPTIONS, call);
        });
    }

    private static void pairSentences(PairCall call) {
        holds("`one`: an option, 'a' to 'd'", () -> {
            cats("0:abc");
            for (char option : OPTIONS) {
                due(false, () -> answer(() -> call.get(option, option == 'a' ? 'd' : 'a')).equals(ARGUMENT));
            }
        });
        holds("`other`: another option, 'a' to 'd'", () -> {
            cats("0:abc");
            for (char option : OPTIONS) {
                due(false, () -> answer(() -> call.get(option == 'a' ? 'd' : 'a', option)).equals(ARGUMENT));
            }
        });
        holds(NO_PAIR, () -> {
            each(ARGUMENT, OPTIONS, option -> call.get(option, option));
            cats("0:abc");
            each(ARGUMENT, OPTIONS, option -> call.get(option, option));
            each(ARGUMENT, NO_OPTIONS, option -> call.get(option, 'a'));
            each(ARGUMENT, NO_OPTIONS, option -> call.get('d', option));
            each(ARGUMENT, NO_OPTIONS, option -> call.get(option, option));
        });
    }

    private static void newObject() {
        in(1);
        holds("Creates an empty box; the method is that of points.", () -> {
            due("...................................", () -> allContents());
            due(0, () -> x.catCount());
            due('p', () -> x.method());
            due("................................... p0,0, 0,0false", () -> state());
            due(STATE, () -> x.undo());
            due(STATE, () -> x.restoreSnapshot());
            due(MISSING, () -> x.rejectionReason());
            due(MISSING, () -> x.syntaxErrorOffset());
            due(INDEX, () -> x.outputAt(0));
            due(1, () -> x.appendInput('v'));
            // Two objects have nothing in common.
            MirrorJury other = x;
            x = new MirrorJury();
            sevenCats();
            due(0, () -> other.catCount());
            due('.', () -> other.contentOf(0));
        });
    }

    private static void addCat() {
        in(2);
        plain("Adds a cat to a cell.");
        holds("A mirror in the cell is removed.", () -> {
            x.setMirror(0, '/');
            x.setMirror(34, '\\');
            cats("34:abc");
            due('c', () -> x.contentOf(34));
            due(1, () -> x.setMirror(1, '.'));
            cats("0:abc");
            due(0, () -> x.setMirror(1, '.'));
            due(1, () -> x.rayCat(0));
        });
        cellSentences(INDEX, cell -> {
            x = new MirrorJury();
            return x.addCat(cell, 'a', 'b', 'c');
        });
        holds("`first`: the option that the cat likes most, 'a' to 'd'", () -> {
            cats("0:abc", "1:bcd", "2:cda", "34:dab");
            due('a', () -> x.optionAt(0, 0));
            due('b', () -> x.optionAt(1, 0));
            due('c', () -> x.optionAt(2, 0));
            due('d', () -> x.optionAt(3, 0));
        });
        holds("`second`: the option that it likes next", () -> {
            cats("0:dac", "1:abc", "2:bcd", "3:cda");
            due('a', () -> x.optionAt(0, 1));
            due('b', () -> x.optionAt(1, 1));
            due('c', () -> x.optionAt(2, 1));
            due('d', () -> x.optionAt(3, 1));
        });
        holds("`third`: the option that it likes next; the fourth one is the one that is left", () -> {
            // All rankings there are.
            for (char one : OPTIONS) {
                for (char two : OPTIONS) {
                    for (char three : OPTIONS) {
                        if (one != two && one != three && two != three) {
                            x = new MirrorJury();
                            char four = (char) ('a' + 'b' + 'c' + 'd' - one - two - three);
                            due(0, () -> x.addCat(34, one, two, three));
                            due("" + one + two + three + four, () -> ranking(0));
                        }
                    }
                }
            }
        });
        holds("Returns the index of the cat.", () -> {
            for (int i = 0; i < 7; i++) {
                int cat = i;
                due(cat, () -> x.addCat(34 - cat, 'a', 'b', 'c'));
            }
            x.undo();
            due(6, () -> x.addCat(0, 'a', 'b', 'c'));
        });
        addCatAndFail();
    }

    private static void addCatAndFail() {
        holds("Throws `IllegalArgumentException` if first, second and third are not three different options", () -> {
            due(ARGUMENT, () -> x.addCat(0, 'a', 'a', 'b'));
            due(ARGUMENT, () -> x.addCat(0, 'a', 'b', 'a'));
            due(ARGUMENT, () -> x.addCat(0, 'b', 'a', 'a'));
            due(ARGUMENT, () -> x.addCat(0, 'd', 'd', 'd'));
            each(ARGUMENT, NO_OPTIONS, option -> x.addCat(0, option, 'a', 'b'));
            each(ARGUMENT, NO_OPTIONS, option -> x.addCat(0, 'a', option, 'b'));
            each(ARGUMENT, NO_OPTIONS, option -> x.addCat(34, 'a', 'b', option));
            due(0, () -> x.catCount());
        });
        holds("Throws `UnsupportedOperationException` if the call is rejected with the reason CAT_LIMIT or OCCUPIED",
                () -> {
            cats("0:abc", "34:abc");
            leavesAll(REJECTED, () -> x.addCat(34, 'a', 'b', 'c'));
            due("2/1", () -> rejection());
            cats("1:abd", "2:bac", "3:bca", "4:cab");
            due(6, () -> x.addCat(5, 'a', 'b', 'c'));
            leavesAll(REJECTED, () -> x.addCat(6, 'a', 'b', 'c'));
            due("1/7", () -> rejection());
        });
    }

    private static void setMirror() {
        in(3);
        holds("Puts a mirror into a cell, or removes it.", () -> {
            x.setMirror(34, '/');
            due('/', () -> x.contentOf(34));
            x.setMirror(34, '\\');
            due('\\', () -> x.contentOf(34));
            x.setMirror(34, '.');
            due('.', () -> x.contentOf(34));
            x.setMirror(34, '.');
            due('.', () -> x.contentOf(34));
        });
        cellSentences(INDEX, cell -> x.setMirror(cell, '/'));
        holds("`content`: the new content, '/' or '\\\\' for a mirror, '.' for none", () -> {
            due(1, () -> x.setMirror(0, '/'));
            due(2, () -> x.setMirror(6, '\\'));
            due(2, () -> x.setMirror(7, '.'));
        });
        holds("Returns the number of mirrors after the call.", () -> {
            due(0, () -> x.setMirror(0, '.'));
            for (int i = 0; i < 35; i++) {
                int cell = i;
                due(cell + 1, () -> x.setMirror(cell, cell % 2 == 0 ? '/' : '\\'));
            }
            due(35, () -> x.setMirror(0, '/'));
            due(35, () -> x.setMirror(0, '\\'));
            due(34, () -> x.setMirror(0, '.'));
            due(34, () -> x.setMirror(0, '.'));
            // A cat is no mirror.
            cats("1:abc");
            due(34, () -> x.setMirror(0, '/'));
        });
        holds("Throws `IllegalArgumentException` if there is no such content", () -> {
            char[] none = {'c', 'x', '-', '0', '|', '[', ']', ' ', 0, 256 + '/', 65535};
            each(ARGUMENT, none, content -> x.setMirror(0, content));
            each(ARGUMENT, none, content -> x.setMirror(34, content));
            due("...................................", () -> allContents());
        });
        holds("Throws `UnsupportedOperationException` if the call is rejected with the reason OCCUPIED", () -> {
            cats("0:abc", "34:abc");
            leavesAll(REJECTED, () -> x.setMirror(34, '/'));
            due("2/1", () -> rejection());
            leavesAll(REJECTED, () -> x.setMirror(0, '.'));
            due("2/0", () -> rejection());
            due(1, () -> x.setMirror(1, '/'));
        });
    }

    private static void cellsAndCats() {
        in(4);
        holds("Returns the number of cats.", () -> {
            due(0, () -> x.catCount());
            cats("0:abc");
            due(1, () -> x.catCount());
            cats("1:abd", "2:bac", "3:bca", "4:cab", "5:cba", "6:dab");
            due(7, () -> x.catCount());
            answer(() -> x.addCat(30, 'a', 'b', 'c'));
            due(7, () -> x.catCount());
        });
        in(5);
        plain("Returns the number of the cell.");
        holds("Returns the cell of a cat.", () -> {
            cats("34:abc", "0:abd");
            due(34, () -> x.cellOf(0));
            due(0, () -> x.cellOf(1));
        });
        catSentences(cat -> x.cellOf(cat));
        in(6);
        plain("Returns the index of the cat.");
        holds("Returns the cat in a cell.", () -> {
            cats("34:abc", "0:abd");
            due(0, () -> x.catIn(34));
            due(1, () -> x.catIn(0));
        });
        cellSentences(INDEX, cell -> x.catIn(cell));
        holds("Throws `NoSuchElementException` if there is no cat in the cell", () -> {
            due(MISSING, () -> x.catIn(0));
            cats("34:abc");
            due(MISSING, () -> x.catIn(0));
            x.setMirror(33, '/');
            due(MISSING, () -> x.catIn(33));
            x.undo();
            x.undo();
            due(MISSING, () -> x.catIn(34));
        });
        in(7);
        plain("Returns the content of a cell.");
        holds("Returns '/', '\\\\', 'c' for a cat, or '.' if the cell is empty.", () -> {
            x.setMirror(0, '/');
            x.setMirror(6, '\\');
            cats("34:abc");
            due("/.....\\...........................c", () -> allContents());
        });
        cellSentences(INDEX, cell -> x.contentOf(cell));
    }

    private static void places() {
        in(8);
        plain("Returns the option.");
        holds("Returns an option by its place in the ranking of a cat.", () -> {
            sevenCats();
            due("abcd", () -> ranking(0));
            due("dabc", () -> ranking(6));
        });
        catSentences(cat -> x.optionAt(cat, 0));
        holds("`place`: the place, 0 for the option that the cat likes most, to 3", () -> {
            cats("0:bda");
            due('b', () -> x.optionAt(0, 0));
            due('d', () -> x.optionAt(0, 1));
            due('a', () -> x.optionAt(0, 2));
            due('c', () -> x.optionAt(0, 3));
        });
        holds("Throws `IllegalArgumentException` if there is no such place", () -> {
            cats("0:abc", "1:abc");
            each(ARGUMENT, NO_PLACES, place -> x.optionAt(0, place));
            each(ARGUMENT, NO_PLACES, place -> x.optionAt(1, place));
        });
        in(9);
        plain("Returns the place of an option in the ranking of a cat.");
        catSentences(cat -> x.placeOf(cat, 'a'));
        optionSentences(option -> x.placeOf(0, option));
        holds("Returns the place, 0 to 3.", () -> {
            cats("0:abc", "1:dcb");
            for (int i = 0; i < 4; i++) {
                int place = i;
                due(place, () -> x.placeOf(0, OPTIONS[place]));
                due(3 - place, () -> x.placeOf(1, OPTIONS[place]));
            }
        });
    }

    private static void hearingCats() {
        in(10);
        plain("Returns the number of testimonies.");
        holds("Returns how many testimonies a cat has heard so far.", () -> {
            cats("0:abc", "34:abc");
            due(0, () -> x.heardBy(0));
            // One for an option at place 0 is heard as well; one that misses is not.
            x.testify(0, 'a');
            due(1, () -> x.heardBy(0));
            answer(() -> x.testify(1, 'a'));
            x.testify(11, 'd');
            x.testify(12, 'd');
            due(1, () -> x.heardBy(0));
            due(2, () -> x.heardBy(1));
            x.deliberate();
            cats("1:abc");
            x.retry();
            due(2, () -> x.heardBy(1));
            due(0, () -> x.heardBy(2));
        });
        catSentences(cat -> x.heardBy(cat));
    }

    private static void endsOfRays() {
        in(11);
        plain("Returns the port at which the ray of a port leaves the box, found by following it from cell to cell.",
                "Returns the number of the port.");
        portSentences(port -> x.rayEnd(port));
        rayThatEndsAtCat(port -> x.rayEnd(port));
        in(12);
        plain("Returns the same port in a second way: by joining, cell by cell, the sides of cells that are connected"
                + " by a passage of light.");
        portSentences(port -> x.rayEndByJoining(port));
        holds("Returns the same port.", () -> {
            for (int i = 0; i < 24; i++) {
                int port = i;
                x = new MirrorJury();
                due(ACROSS[port], () -> x.rayEndByJoining(port));
                // Both ports of a mirror in the first cell, and a long way.
                x.setMirror(CELL_AT[port], '/');
                due(x.rayEnd(port), () -> x.rayEndByJoining(port));
                x.setMirror(CELL_AT[port], '\\');
                due(x.rayEnd(port), () -> x.rayEndByJoining(port));
            }
            box("\\\\/\\/\\\\/..\\.//\\//.\\.\\/.\\/.//\\/\\/\\//");
            sameEndsByJoining();
            // Nothing is left from the box as it was before, in any order of contents.
            x = new MirrorJury();
            for (char content : new char[] {'/', '\\', '.', '\\', '/', '.', '\\'}) {
                x.setMirror(0, content);
                sameEndsByJoining();
            }
        });
        rayThatEndsAtCat(port -> x.rayEndByJoining(port));
    }

    private static void sameEndsByJoining() {
        for (int i = 0; i < 24; i++) {
            int port = i;
            due(answer(() -> x.rayEnd(port)), () -> x.rayEndByJoining(port));
        }
    }

    private static void rayThatEndsAtCat(NumberCall call) {
        holds("Throws `NoSuchElementException` if the ray ends at a cat", () -> {
            // At once, at the far end, and behind a mirror; two rays that end at one cat are not joined by it.
            cats("0:abc", "31:abc", "20:abc");
            each(MISSING, new int[] {0, 23, 7, 18, 3, 15, 9, 21, 11, 19}, call);
            each("17", new int[] {1}, call);
            x.setMirror(1, '/');
            each(MISSING, new int[] {1}, call);
            jury("17:abc");
            each(MISSING, new int[] {3, 9, 15, 21}, call);
        });
    }

    private static void partsOfRays() {
        in(13);
        plain("Returns the index of the cat.");
        holds("Returns the cat at which the ray of a port ends.", () -> {
            // The first cat in the way, at the edge or behind it.
            cats("31:abc", "3:abc", "34:abc", "0:abc");
            due(1, () -> x.rayCat(3));
            due(0, () -> x.rayCat(15));
            due(3, () -> x.rayCat(0));
            due(3, () -> x.rayCat(23));
            due(1, () -> x.rayCat(7));
            due(2, () -> x.rayCat(11));
            due(0, () -> x.rayCat(19));
            due(2, () -> x.rayCat(6));
        });
        portSentences(port -> x.rayCat(port));
        holds("Throws `NoSuchElementException` if the ray leaves the box", () -> {
            for (int i = 0; i < 24; i++) {
                int port = i;
                due(MISSING, () -> x.rayCat(port));
            }
            cats("17:abc");
            due(MISSING, () -> x.rayCat(2));
            x.setMirror(10, '/');
            due(MISSING, () -> x.rayCat(3));
            due(0, () -> x.rayCat(15));
        });
        in(14);
        plain("Returns the length.");
        holds("Returns the length of the ray of a port: the number of times that it enters a cell, the cell of a cat at"
                + " its end included.", () -> {
            due(5, () -> x.rayLength(0));
            due(7, () -> x.rayLength(23));
            cats("0:abc");
            due(1, () -> x.rayLength(0));
            due(1, () -> x.rayLength(23));
            due(5, () -> x.rayLength(18));
            due(7, () -> x.rayLength(7));
            // A cell that it enters twice counts twice.
            x = new MirrorJury();
            x.setMirror(19, '/');
            x.setMirror(5, '\\');
            x.setMirror(3, '/');
            due(14, () -> x.rayLength(21));
            box("\\\\/\\/\\\\/..\\.//\\//.\\.\\/.\\/.//\\/\\/\\//");
            due(50, () -> x.rayLength(0));
            due(50, () -> x.rayLength(5));
        });
        portSentences(port -> x.rayLength(port));
        in(15);
        plain("Returns the number of reflections.");
        holds("Returns how many times the ray of a port is reflected.", () -> {
            due(0, () -> x.rayBounces(0));
            x.setMirror(0, '/');
            due(1, () -> x.rayBounces(0));
            due(1, () -> x.rayBounces(23));
            due(1, () -> x.rayBounces(7));
            // A cat does not reflect, and both sides of one mirror count.
            cats("4:abc");
            due(0, () -> x.rayBounces(4));
            due(0, () -> x.rayBounces(7));
            box("\\\\/\\/\\\\/..\\.//\\//.\\.\\/.\\/.//\\/\\/\\//");
            due(36, () -> x.rayBounces(0));
        });
        portSentences(port -> x.rayBounces(port));
    }

    private static void effortPromises() {
        in(16);
        holds("Returns the least effort of a course from a port to a cat, found with a queue in which courses without"
                + " more effort go ahead.", () -> leastEfforts((port, cat) -> x.leastEffort(port, cat)));
        plain("Returns the effort.");
        effortSentences((port, cat) -> x.leastEffort(port, cat));
        in(17);
        holds("Returns the same effort in a second way: by rounds over all cells and directions that lower efforts.",
                () -> leastEfforts((port, cat) -> x.leastEffortByRounds(port, cat)));
        plain("Returns the same effort.");
        effortSentences((port, cat) -> x.leastEffortByRounds(port, cat));
    }

    private static void leastEfforts(PortCatCall call) {
        // A short way that costs more than a long one without effort.
        box("\\.....\\............................");
        cats("27:abc", "8:abc");
        due(0, () -> call.get(0, 0));
        due(1, () -> call.get(0, 1));
        // Where the ray goes to another cat, or leaves, the least effort is found all the same.
        x.setMirror(20, '/');
        due(1, () -> call.get(0, 0));
        box("\\\\c.\\\\.\\c.c.c\\//c\\c\\\\///c\\\\\\////\\\\\\");
        cats("10:abc", "18:abc", "24:abc", "12:abc", "2:abc", "8:abc", "16:abc");
        due(18, () -> call.get(0, 0));
    }

    private static void effortSentences(PortCatCall call) {
        portSentences(port -> call.get(port, 0));
        catSentences(cat -> call.get(23, cat));
        holds("Throws `NoSuchElementException` if there is no course to the cat", () -> {
            cats("0:abc", "1:abc", "7:abc");
            for (int i = 1; i < 23; i++) {
                int port = i;
                due(MISSING, () -> call.get(port, 0));
            }
            due(0, () -> call.get(0, 0));
            due(0, () -> call.get(23, 0));
            due(MISSING, () -> call.get(0, 1));
            due(MISSING, () -> call.get(23, 2));
            // In the middle, closed in on four sides, and open on one.
            jury("17:abc", "10:abc", "16:abc", "18:abc");
            due(0, () -> call.get(15, 0));
            due(4, () -> call.get(3, 0));
            cats("24:abc");
            for (int i = 0; i < 24; i++) {
                int port = i;
                due(MISSING, () -> call.get(port, 0));
            }
        });
    }

    private static void portByLength() {
        in(18);
        plain("Returns the number of the port.");
        holds("Returns a port in the order of lengths of rays, the longest first.", () -> {
            due(7, () -> x.portByLength(0));
            due(23, () -> x.portByLength(9));
            due(0, () -> x.portByLength(10));
            cats("17:abc");
            // Four rays end in the cell 17, of lengths 3, 4, 3 and 4.
            due(3, () -> x.portByLength(22));
            due(15, () -> x.portByLength(23));
            due(9, () -> x.portByLength(20));
            due(21, () -> x.portByLength(21));
            // The ray of one cell is the last one, the longest one the first.
            box("\\\\/\\/\\\\/..\\.//\\//.\\.\\/.\\/.//\\/\\/\\//");
            due(0, () -> x.portByLength(0));
            due(5, () -> x.portByLength(1));
        });
        holds("Of ports with rays of the same length, the one with the lower number comes first.", () -> {
            int[] order = {7, 8, 9, 10, 11, 19, 20, 21, 22, 23, 0, 1, 2, 3, 4, 5, 6, 12, 13, 14, 15, 16, 17, 18};
            for (int i = 0; i < 24; i++) {
                int position = i;
                due(order[position], () -> x.portByLength(position));
            }
            cats("0:abc");
            due(0, () -> x.portByLength(22));
            due(23, () -> x.portByLength(23));
        });
        holds("`position`: the position, from 0", () -> {
            taken(MISSING, 23, position -> x.portByLength(position));
            due(7, () -> x.portByLength(0));
        });
        holds("Throws `NoSuchElementException` if there is no such position", () -> {
            each(MISSING, NO_PORTS, position -> x.portByLength(position));
            sevenCats();
            each(MISSING, NO_PORTS, position -> x.portByLength(position));
        });
    }

    private static void testify() {
        in(19);
        plain("Gives a testimony for an option into a port.");
        holds("The cat at which the ray ends hears it, and raises the option by one place in its ranking, unless it is"
                + " at place 0.", () -> {
            cats("0:abc", "34:abc");
            x.testify(0, 'd');
            due("abdc", () -> ranking(0));
            x.testify(23, 'd');
            due("adbc", () -> ranking(0));
            x.testify(0, 'd');
            due("dabc", () -> ranking(0));
            x.testify(0, 'd');
            due("dabc", () -> ranking(0));
            due(4, () -> x.heardBy(0));
            due("abcd", () -> ranking(1));
            due(0, () -> x.heardBy(1));
            x.testify(11, 'b');
            due("bacd", () -> ranking(1));
            due(5, () -> x.testimonies());
        });
        holds("`port`: the number of a port, 0 to 23", () -> {
            for (int i = 0; i < 24; i++) {
                int port = i;
                jury(CELL_AT[port] + ":abc");
                due(0, () -> x.testify(port, 'a'));
            }
        });
        optionSentence(option -> x.testify(0, option));
        holds("Returns the index of the cat.", () -> {
            sevenCats();
            for (int i = 0; i < 7; i++) {
                int cat = i;
                due(cat, () -> x.testify(cat, 'a'));
            }
        });
        holds("Throws `IllegalArgumentException` if there is no such port or option", () -> {
            cats("0:abc");
            each(ARGUMENT, NO_PORTS, port -> x.testify(port, 'a'));
            each(ARGUMENT, NO_OPTIONS, option -> x.testify(0, option));
            // Also where the ray would miss.
            each(ARGUMENT, NO_OPTIONS, option -> x.testify(1, option));
            due(0, () -> x.testimonies());
            due(MISSING, () -> x.rejectionReason());
        });
        holds("Throws `UnsupportedOperationException` if the call is rejected with the reason MISSED", () -> {
            due(REJECTED, () -> x.testify(0, 'a'));
            due("3/18", () -> rejection());
            cats("0:abc");
            leavesAll(REJECTED, () -> x.testify(22, 'd'));
            due("3/8", () -> rejection());
            x.setMirror(8, '/');
            leavesAll(REJECTED, () -> x.testify(22, 'd'));
            due("3/1", () -> rejection());
        });
    }

    private static void counts() {
        in(20);
        plain("Returns the number of cats.");
        holds("Returns the number of cats that like an option most.", () -> {
            due(0, () -> x.firstVotes('a'));
            sevenCats();
            due(2, () -> x.firstVotes('a'));
            due(2, () -> x.firstVotes('b'));
            due(2, () -> x.firstVotes('c'));
            due(1, () -> x.firstVotes('d'));
            jury("0:dab", "1:dab", "2:dab", "3:dab", "4:dab", "5:dab", "6:dab");
            due(7, () -> x.firstVotes('d'));
            due(0, () -> x.firstVotes('a'));
            x.testify(0, 'a');
            due(6, () -> x.firstVotes('d'));
            due(1, () -> x.firstVotes('a'));
        });
        optionSentences(option -> x.firstVotes(option));
        in(21);
        plain("Returns the number of cats.");
        holds("Returns the number of cats that prefer an option to another one.", () -> {
            due(0, () -> x.prefer('a', 'b'));
            cats("0:abc");
            due(1, () -> x.prefer('c', 'd'));
            due(0, () -> x.prefer('d', 'c'));
            cats("1:abc", "2:abc", "3:abc", "4:abc", "5:abc", "6:bac");
            due(6, () -> x.prefer('a', 'b'));
            due(1, () -> x.prefer('b', 'a'));
            due(7, () -> x.prefer('a', 'd'));
            due(0, () -> x.prefer('d', 'a'));
        });
        pairSentences((one, other) -> x.prefer(one, other));
    }

    private static void points() {
        in(22);
        plain("Returns the points.");
        holds("Returns the points of an option: the sum over all cats of 3 minus the place of the option.", () -> {
            due(0, () -> x.pointsOf('a'));
            cats("0:abc");
            due(3, () -> x.pointsOf('a'));
            due(2, () -> x.pointsOf('b'));
            due(1, () -> x.pointsOf('c'));
            due(0, () -> x.pointsOf('d'));
            cats("1:abc", "2:abc", "3:abc", "4:abc", "5:abc", "6:abc");
            due(21, () -> x.pointsOf('a'));
            due(0, () -> x.pointsOf('d'));
        });
        optionSentences(option -> x.pointsOf(option));
        in(23);
        plain("Returns the option.");
        holds("Returns the winner by points: the option with the most points; of several, the one that comes first in"
                + " the alphabet.", () -> {
            cats("0:dcb");
            due('d', () -> x.pointsWinner());
            // c and d with 5 points each, then all four with 6 each.
            cats("1:cda");
            due('c', () -> x.pointsWinner());
            cats("2:abd", "3:bac");
            due('a', () -> x.pointsWinner());
            jury("0:bac", "1:abc");
            due('a', () -> x.pointsWinner());
            jury("0:dbc", "1:bdc");
            due('b', () -> x.pointsWinner());
        });
        holds(WITHOUT_CATS, () -> {
            due(MISSING, () -> x.pointsWinner());
            cats("0:abc");
            due('a', () -> x.pointsWinner());
            x.undo();
            due(MISSING, () -> x.pointsWinner());
        });
    }

    private static void rounds() {
        in(24);
        plain("Returns the option.");
        holds("Returns the winner by rounds.", () -> {
            byRounds('a', 1, "0:abc");
            byRounds('d', 1, "0:dab");
            byRounds('c', 1, "0:cab", "1:cba", "2:dba");
            byRounds('c', 2, "0:cab", "1:cba", "2:dca", "3:bac", "4:abc");
        });
        holds(WITHOUT_CATS, () -> {
            x.setMirror(0, '/');
            due(MISSING, () -> x.roundsWinner());
            cats("0:abc");
            due('a', () -> x.roundsWinner());
        });
        in(25);
        plain("Returns the number of rounds.");
        holds("Returns the number of rounds until there is a winner by rounds, the last one included.", () -> {
            byRounds('a', 1, "0:abc");
            byRounds('a', 2, "0:abc", "1:abd", "2:bac", "3:cba", "4:dab");
            byRounds('b', 3, "0:abc", "1:abc", "2:bac", "3:bac", "4:cba");
            byRounds('a', 4, "0:abc", "1:bad");
        });
        holds(WITHOUT_CATS, () -> {
            due(MISSING, () -> x.rounds());
            cats("0:abc");
            due(1, () -> x.rounds());
            x.undo();
            due(MISSING, () -> x.rounds());
        });
    }

    private static void strengthPromises() {
        in(26);
        plain("Returns the strength.");
        holds("Returns the strength of an option against another one, found with a table of all pairs.",
                () -> strengthsOf((one, other) -> x.strengthOf(one, other)));
        pairSentences((one, other) -> x.strengthOf(one, other));
        in(27);
        plain("Returns the same strength.");
        holds("Returns the same strength in a second way: by trying all numbers of cats and looking which options are"
                + " reached by victories with at least so many.",
                () -> strengthsOf((one, other) -> x.strengthByTrying(one, other)));
        pairSentences((one, other) -> x.strengthByTrying(one, other));
    }

    private static void strengthsOf(PairCall call) {
        due(0, () -> call.get('a', 'b'));
        cats("0:dcb");
        due(1, () -> call.get('d', 'a'));
        due(0, () -> call.get('a', 'd'));
        cats("1:dcb", "2:dcb", "3:dcb", "4:dcb", "5:dcb", "6:dcb");
        due(7, () -> call.get('d', 'a'));
        due(7, () -> call.get('d', 'c'));
        due(0, () -> call.get('c', 'd'));
        // Rings in both directions: each over each other one by one, two or three victories.
        jury("0:abc", "1:bcd", "2:cda", "3:dab");
        threeEach(call);
        jury("0:dcb", "1:adc", "2:bad", "3:cba");
        threeEach(call);
        jury("0:acb", "1:dac", "2:bda", "3:cbd");
        threeEach(call);
    }

    private static void threeEach(PairCall call) {
        for (char one : OPTIONS) {
            for (char other : OPTIONS) {
                if (one != other) {
                    due(3, () -> call.get(one, other));
                }
            }
        }
    }

    private static void strengthWinner() {
        in(28);
        plain("Returns the option.");
        holds("Returns the winner by strengths: the first option in the alphabet whose strength against each other"
                + " option is at least the strength of that one against it.", () -> {
            cats("0:dcb");
            due('d', () -> x.strengthWinner());
            // All strengths are the same: a ring, and no victories at all.
            jury("0:abc", "1:bcd", "2:cda", "3:dab");
            due('a', () -> x.strengthWinner());
            jury("0:abc", "1:dcb");
            due('a', () -> x.strengthWinner());
            // b and d with the same strengths against each other, and both stronger than a and c.
            jury("0:bda", "1:dbc");
            due('b', () -> x.strengthWinner());
            jury("0:cda", "1:dcb");
            due('c', () -> x.strengthWinner());
        });
        holds(WITHOUT_CATS, () -> {
            due(MISSING, () -> x.strengthWinner());
            cats("0:abc");
            due('a', () -> x.strengthWinner());
            x.undo();
            due(MISSING, () -> x.strengthWinner());
        });
    }

    private static void isDominant() {
        in(29);
        plain("Returns whether it is dominant.");
        holds("Tells whether an option is dominant: whether more than half of the cats prefer it to each other option,"
                + " one by one.", () -> {
            // No cats are not more than half of none.
            each(false, OPTIONS, option -> x.isDominant(option));
            cats("0:abc");
            due(true, () -> x.isDominant('a'));
            each(false, new char[] {'b', 'c', 'd'}, option -> x.isDominant(option));
            // Half of two, two of three, half of four.
            cats("1:bac");
            each(false, OPTIONS, option -> x.isDominant(option));
            cats("2:bca");
            due(true, () -> x.isDominant('b'));
            cats("3:acb");
            each(false, OPTIONS, option -> x.isDominant(option));
            // Against each other option by other cats; all but one other option is not enough.
            jury("0:abc", "1:abc", "2:cba", "3:cba", "4:bac");
            due(true, () -> x.isDominant('b'));
            jury("0:dab", "1:dab", "2:abc", "3:adb");
            due(false, () -> x.isDominant('d'));
            due(false, () -> x.isDominant('a'));
            cats("4:dcb");
            due(true, () -> x.isDominant('d'));
        });
        optionSentences(option -> x.isDominant(option));
    }

    private static void setMethod() {
        in(30);
        plain("Sets the method of deliberations.");
        holds("`method`: the new method, 'p' for points, 'r' for rounds, 's' for strengths", () -> {
            // By points b wins and is not dominant; by rounds and by strengths a wins and is.
            cats("0:abc", "1:abc", "2:bcd");
            due('-', () -> x.deliberate());
            x.setMethod('r');
            due('a', () -> x.deliberate());
            x.setMethod('p');
            due('-', () -> x.deliberate());
            x.setMethod('s');
            due('a', () -> x.deliberate());
            // By rounds a wins and is not dominant; by strengths and by points b wins and is.
            jury("0:abc", "1:abc", "2:cba", "3:cba", "4:bac");
            x.setMethod('r');
            due('-', () -> x.deliberate());
            x.setMethod('s');
            due('b', () -> x.deliberate());
            x.setMethod('p');
            due('b', () -> x.deliberate());
        });
        holds("Returns the previous method.", () -> {
            due('p', () -> x.setMethod('p'));
            due('p', () -> x.setMethod('r'));
            due('r', () -> x.setMethod('s'));
            due('s', () -> x.setMethod('s'));
            due('s', () -> x.setMethod('p'));
            due(4, () -> x.undo());
            due('s', () -> x.setMethod('r'));
        });
        holds("Throws `IllegalArgumentException` if there is no such method", () -> {
            each(ARGUMENT, new char[] {'a', 'o', 'q', 't', 'P', 'R', 'S', '.', 0, 256 + 'p', 65535},
                    method -> x.setMethod(method));
            due('p', () -> x.method());
        });
        in(31);
        plain("Returns the method of deliberations.");
        holds("Returns 'p', 'r' or 's'.", () -> {
            due('p', () -> x.method());
            x.setMethod('r');
            due('r', () -> x.method());
            x.setMethod('s');
            due('s', () -> x.method());
            answer(() -> x.setMethod('x'));
            due('s', () -> x.method());
            x.setMethod('p');
            due('p', () -> x.method());
        });
    }

    private static void deliberate() {
        in(32);
        plain("Lets the cats deliberate.");
        holds("The winner by the present method becomes the verdict if it is dominant; otherwise the jury is hung.",
                () -> {
            cats("0:abc");
            due('a', () -> x.deliberate());
            // Half of the cats is not enough.
            cats("1:bac");
            for (char method : new char[] {'p', 'r', 's'}) {
                x.setMethod(method);
                due('-', () -> x.deliberate());
            }
            // Another option than the winner is dominant.
            jury("0:abc", "1:abc", "2:bcd");
            due('b', () -> x.pointsWinner());
            due(true, () -> x.isDominant('a'));
            due('-', () -> x.deliberate());
            x.setMethod('r');
            due('a', () -> x.deliberate());
        });
        holds("Returns the verdict, or '-' if the jury is hung.", () -> {
            for (char option : OPTIONS) {
                x = new MirrorJury();
                x.addCat(34, option, option == 'a' ? 'd' : 'a', option == 'b' ? 'c' : 'b');
                due(option, () -> x.deliberate());
            }
            jury("0:abc", "1:dcb");
            due('-', () -> x.deliberate());
            due('-', () -> x.verdictAt(0));
        });
        holds("Throws `UnsupportedOperationException` if the call is rejected with the reason NO_CATS", () -> {
            leavesAll(REJECTED, () -> x.deliberate());
            due("4/0", () -> rejection());
            cats("0:abc");
            due('a', () -> x.deliberate());
            x.undo();
            x.undo();
            due(REJECTED, () -> x.deliberate());
            due(0, () -> x.deliberations());
        });
    }

    private static void retry() {
        in(33);
        holds("Makes a retrial: all cats get the rankings back that they had when they were added.", () -> {
            cats("0:abc", "34:dcb");
            for (char option : new char[] {'d', 'd', 'd', 'c'}) {
                x.testify(0, option);
            }
            x.testify(11, 'a');
            due("dacb", () -> ranking(0));
            due("dcab", () -> ranking(1));
            x.deliberate();
            cats("1:bad");
            x.testify(1, 'd');
            due("bdac", () -> ranking(2));
            x.retry();
            due("abcd", () -> ranking(0));
            due("dcba", () -> ranking(1));
            due("badc", () -> ranking(2));
            // What they have heard stays.
            due(4, () -> x.heardBy(0));
            due(6, () -> x.testimonies());
        });
        holds("Returns the number of cats whose rankings are different after the call.", () -> {
            cats("0:abc", "34:bac");
            x.deliberate();
            due(0, () -> x.retry());
            // A cat that is as in the beginning again after two testimonies does not count.
            x.testify(0, 'b');
            x.testify(0, 'a');
            x.testify(11, 'd');
            x.deliberate();
            due(1, () -> x.retry());
            x.testify(0, 'd');
            x.testify(11, 'd');
            x.deliberate();
            due(2, () -> x.retry());
            // The second cat alone, which likes another option most.
            x.testify(11, 'a');
            due('a', () -> x.deliberate());
            x.setMirror(20, '/');
            due(1, () -> x.retry());
            x = new MirrorJury();
            sevenCats();
            for (int port = 0; port < 7; port++) {
                x.testify(port, x.optionAt(port, 3));
            }
            x.deliberate();
            x.setMirror(20, '/');
            due(7, () -> x.retry());
        });
        holds("Throws `UnsupportedOperationException` if the call is rejected with the reason NO_CAUSE", () -> {
            leavesAll(REJECTED, () -> x.retry());
            due("5/0", () -> rejection());
            cats("0:abc");
            x.testify(0, 'd');
            due(REJECTED, () -> x.retry());
            x.deliberate();
            leavesAll(REJECTED, () -> x.retry());
            due("5/1", () -> rejection());
            cats("1:dcb");
            due(1, () -> x.retry());
            due(REJECTED, () -> x.retry());
            due("5/1", () -> rejection());
        });
    }

    private static void numbersOfVerdicts() {
        in(34);
        plain("Returns whether there is one.");
        holds("Tells whether there is a cause for a retrial.", () -> {
            due(false, () -> x.hasCause());
            cats("0:abc", "1:bac");
            due(false, () -> x.hasCause());
            x.deliberate();
            due(true, () -> x.hasCause());
            x.retry();
            due(false, () -> x.hasCause());
            x.undo();
            due(true, () -> x.hasCause());
            x.undo();
            due(false, () -> x.hasCause());
        });
        in(35);
        plain("Returns the number of deliberations.");
        holds("Returns the number of deliberations so far.", () -> {
            due(0, () -> x.deliberations());
            answer(() -> x.deliberate());
            due(0, () -> x.deliberations());
            cats("0:abc");
            for (int i = 1; i <= 12; i++) {
                x.deliberate();
            }
            due(12, () -> x.deliberations());
            run("vote;vote");
            due(14, () -> x.deliberations());
            x.undo();
            due(12, () -> x.deliberations());
        });
        in(37);
        plain("Returns the number of deliberations.");
        holds("Returns in how many deliberations the jury was hung so far.", () -> {
            due(0, () -> x.hungCount());
            cats("0:abc");
            x.deliberate();
            due(0, () -> x.hungCount());
            cats("1:bac");
            for (int i = 1; i <= 12; i++) {
                x.deliberate();
            }
            due(12, () -> x.hungCount());
            due(13, () -> x.deliberations());
            x.retry();
            due(12, () -> x.hungCount());
            x.undo();
            x.undo();
            due(11, () -> x.hungCount());
        });
        in(38);
        plain("Returns the number of retrials.");
        holds("Returns the number of retrials so far.", () -> {
            due(0, () -> x.retrials());
            answer(() -> x.retry());
            due(0, () -> x.retrials());
            cats("0:abc", "1:bac");
            for (int i = 1; i <= 12; i++) {
                x.deliberate();
                x.retry();
                answer(() -> x.retry());
            }
            due(12, () -> x.retrials());
            x.undo();
            due(11, () -> x.retrials());
        });
    }

    private static void verdictAt() {
        in(36);
        holds("Returns the result of one of the latest 10 deliberations.", () -> {
            cats("0:abc");
            // b for the first two deliberations, and a for the eight behind them.
            x.testify(0, 'b');
            x.deliberate();
            x.deliberate();
            x.testify(0, 'a');
            for (int i = 0; i < 8; i++) {
                x.deliberate();
            }
            due('a', () -> x.verdictAt(7));
            due('b', () -> x.verdictAt(8));
            due('b', () -> x.verdictAt(9));
            due(MISSING, () -> x.verdictAt(10));
            x.deliberate();
            due('a', () -> x.verdictAt(8));
            due('b', () -> x.verdictAt(9));
            due(MISSING, () -> x.verdictAt(10));
            x.deliberate();
            due('a', () -> x.verdictAt(9));
            due(MISSING, () -> x.verdictAt(10));
            // After undo the one that was pushed out is one of the latest 10 again.
            x.undo();
            due('b', () -> x.verdictAt(9));
            x.undo();
            due('b', () -> x.verdictAt(8));
            due('b', () -> x.verdictAt(9));
            x.undo();
            due(MISSING, () -> x.verdictAt(9));
            due('b', () -> x.verdictAt(8));
        });
        holds("`recency`: 0 for the latest one, 1 for the one before it, and so on", () -> {
            cats("0:abc");
            for (int i = 0; i < 23; i++) {
                if (i % 3 == 0) {
                    x.testify(0, x.optionAt(0, 1));
                }
                x.deliberate();
            }
            // a and b change places each third time: the result number i is b for an even i / 3.
            for (int i = 0; i < 10; i++) {
                int recency = i;
                due((22 - recency) / 3 % 2 == 0 ? 'b' : 'a', () -> x.verdictAt(recency));
            }
        });
        holds("Returns the verdict, or '-' if the jury was hung.", () -> {
            cats("0:dab");
            x.deliberate();
            cats("1:bac");
            x.deliberate();
            due('-', () -> x.verdictAt(0));
            due('d', () -> x.verdictAt(1));
        });
        holds("Throws `NoSuchElementException` if there is no such deliberation", () -> {
            each(MISSING, new int[] {-1, 0, 1, 9, 10, LOW, HIGH}, recency -> x.verdictAt(recency));
            cats("0:abc");
            for (int i = 1; i <= 9; i++) {
                x.deliberate();
                int count = i;
                due('a', () -> x.verdictAt(count - 1));
                due(MISSING, () -> x.verdictAt(count));
            }
            x.deliberate();
            due('a', () -> x.verdictAt(9));
            each(MISSING, new int[] {-1, 10, 11, LOW, HIGH}, recency -> x.verdictAt(recency));
            // There are earlier ones, but they are not of the latest 10.
            for (int i = 10; i < 25; i++) {
                x.deliberate();
            }
            each(MISSING, new int[] {-1, 10, 11, 12, 20, 24, 25, LOW, HIGH}, recency -> x.verdictAt(recency));
        });
    }

    private static void numbersOfHearings() {
        in(39);
        plain("Returns the number of testimonies.");
        holds("Returns the number of testimonies so far.", () -> {
            due(0, () -> x.testimonies());
            answer(() -> x.testify(0, 'a'));
            due(0, () -> x.testimonies());
            cats("0:abc", "34:abc");
            x.testify(0, 'a');
            x.testify(11, 'd');
            due(2, () -> x.testimonies());
            run("say 0 a;say 12 a;say 1 a");
            due(2, () -> x.testimonies());
            run("say 0 a;say 12 a");
            due(4, () -> x.testimonies());
            x.undo();
            due(2, () -> x.testimonies());
        });
    }

    private static void catByHeard() {
        in(40);
        plain("Returns the index of the cat.");
        holds("Returns a cat in the order of testimonies that it has heard, the most first.", () -> {
            cats("0:abc", "34:abc", "6:abc");
            x.testify(12, 'a');
            x.testify(12, 'a');
            x.testify(7, 'a');
            due(1, () -> x.catByHeard(0));
            due(2, () -> x.catByHeard(1));
            due(0, () -> x.catByHeard(2));
            x.testify(0, 'a');
            x.testify(0, 'a');
            x.testify(0, 'a');
            due(0, () -> x.catByHeard(0));
            due(1, () -> x.catByHeard(1));
            due(2, () -> x.catByHeard(2));
        });
        holds("Of cats that have heard the same number, the one in the cell with the lower number comes first.", () -> {
            cats("34:abc", "20:abc", "6:abc", "33:abc", "1:abc", "0:abc", "7:abc");
            int[] order = {5, 4, 2, 6, 1, 3, 0};
            for (int i = 0; i < 7; i++) {
                int position = i;
                due(order[position], () -> x.catByHeard(position));
            }
            x.testify(11, 'a');
            x.testify(13, 'a');
            due(3, () -> x.catByHeard(0));
            due(0, () -> x.catByHeard(1));
            due(5, () -> x.catByHeard(2));
        });
        holds("`position`: the position, from 0", () -> {
            sevenCats();
            taken(MISSING, 6, position -> x.catByHeard(position));
            due(0, () -> x.catByHeard(0));
            due(6, () -> x.catByHeard(6));
        });
        holds("Throws `NoSuchElementException` if there is no such position", () -> {
            each(MISSING, new int[] {-1, 0, 1, LOW, HIGH}, position -> x.catByHeard(position));
            cats("0:abc");
            each(MISSING, new int[] {-1, 1, 2, LOW, HIGH}, position -> x.catByHeard(position));
            cats("1:abd", "2:bac", "3:bca", "4:cab", "5:cba", "6:dab");
            each(MISSING, new int[] {-1, 7, 8, LOW, HIGH}, position -> x.catByHeard(position));
        });
    }

    private static void shares() {
        in(41);
        plain("Returns the mean number.");
        holds("Returns the mean number of testimonies that the cats have heard: the number of testimonies divided by"
                + " the number of cats, both converted to double.", () -> {
            cats("0:abc");
            due(0.0, () -> x.meanHeard());
            x.testify(0, 'a');
            due(1.0, () -> x.meanHeard());
            cats("1:abc", "2:abc");
            due(1.0 / 3.0, () -> x.meanHeard());
            x.testify(2, 'a');
            due(2.0 / 3.0, () -> x.meanHeard());
            x.testify(2, 'a');
            x.testify(2, 'a');
            due(4.0 / 3.0, () -> x.meanHeard());
            cats("3:abc", "4:abc", "5:abc", "6:abc");
            due(4.0 / 7.0, () -> x.meanHeard());
        });
        holds("Throws `ArithmeticException` if there are no cats", () -> {
            due(ARITHMETIC, () -> x.meanHeard());
            cats("0:abc");
            due(0.0, () -> x.meanHeard());
            x.undo();
            due(ARITHMETIC, () -> x.meanHeard());
        });
        in(42);
        plain("Returns the share.");
        holds("Returns the share of deliberations in which the jury was hung, both numbers converted to float.", () -> {
            cats("0:abc");
            x.deliberate();
            due(0.0f, () -> x.hungShare());
            cats("1:bac");
            x.deliberate();
            due(0.5f, () -> x.hungShare());
            x.deliberate();
            due(2.0f / 3.0f, () -> x.hungShare());
            // More deliberations than there are verdicts that can be looked at.
            for (int i = 3; i < 12; i++) {
                x.deliberate();
            }
            due(11.0f / 12.0f, () -> x.hungShare());
            jury("0:abc", "1:bac");
            x.deliberate();
            due(1.0f, () -> x.hungShare());
        });
        holds("Throws `ArithmeticException` if there was no deliberation", () -> {
            due(ARITHMETIC, () -> x.hungShare());
            answer(() -> x.deliberate());
            cats("0:abc");
            due(ARITHMETIC, () -> x.hungShare());
            x.deliberate();
            due(0.0f, () -> x.hungShare());
            x.undo();
            due(ARITHMETIC, () -> x.hungShare());
        });
    }

    private static void isConsistent() {
        in(43);
        plain("Returns whether all this is true.");
        holds("Checks the data: for all ports, both ways to find the end of the ray agree or both throw an exception,"
                + " and the ray of that end ends at the port; for all ports and cats, both ways to find the least"
                + " effort agree or both throw an exception; for all pairs of different options, both ways to find the"
                + " strength agree; and all testimonies together are those that the cats have heard.", () -> {
            // Without cats, with seven, with ways that are closed, in a box full of mirrors, after undo and restore.
            due(true, () -> x.isConsistent());
            sevenCats();
            due(true, () -> x.isConsistent());
            jury("0:abc", "1:abc", "7:abc");
            x.testify(0, 'd');
            due(true, () -> x.isConsistent());
            x.saveSnapshot();
            x.testify(1, 'd');
            x.undo();
            due(true, () -> x.isConsistent());
            x.testify(1, 'd');
            x.restoreSnapshot();
            due(true, () -> x.isConsistent());
            due(REJECTED, () -> run("say 0 d;say 1 d;vote;vote;retry"));
            due(true, () -> x.isConsistent());
            for (String ranking : new String[] {"abc", "dcb", "bda", "cad"}) {
                jury("17:" + ranking);
                due(true, () -> x.isConsistent());
                cats("0:abc", "34:cbd");
                due(true, () -> x.isConsistent());
            }
            box("\\\\/\\/\\\\/..\\.//\\//.\\.\\/.\\/.//\\/\\/\\//");
            due(true, () -> x.isConsistent());
            box("\\\\c.\\\\.\\c.c.c\\//c\\c\\\\///c\\\\\\////\\\\\\");
            cats("10:abc", "18:abc", "24:abc", "12:abc", "2:abc", "8:abc", "16:abc");
            due(true, () -> x.isConsistent());
        });
    }

    private static void writeRow() {
        in(44);
        holds("Writes a row of the box to the output, in place of the earlier output: for each of its cells, from the"
                + " left, its content, but for a cat its index.", () -> {
            x.setMirror(28, '/');
            x.setMirror(33, '\\');
            cats("0:abc", "1:abc", "2:abc", "3:abc", "4:abc", "5:abc", "34:abc");
            x.writeRow(4);
            due("/....\\6", () -> output(7));
            x.writeRow(0);
            due("012345.", () -> output(7));
            // The earlier output was longer.
            x.testify(11, 'a');
            due(11, () -> x.writeCat(6));
            x.writeRow(2);
            due(".......", () -> output(7));
            due(INDEX, () -> x.outputAt(7));
        });
        holds("`row`: the row, 0 to 4", () -> taken(INDEX, 4, row -> x.writeRow(row)));
        holds("Returns the length of the output, which is 7.", () -> {
            due(7, () -> x.writeRow(0));
            due(INDEX, () -> x.outputAt(7));
            due(7, () -> x.writeRow(4));
            sevenCats();
            due(7, () -> x.writeRow(0));
            due('6', () -> x.outputAt(6));
            due(INDEX, () -> x.outputAt(7));
        });
        holds("Throws `IndexOutOfBoundsException` if there is no such row", () -> {
            each(INDEX, NO_ROWS, row -> x.writeRow(row));
            due(INDEX, () -> x.outputAt(0));
            cats("0:abc");
            x.writeCat(0);
            each(INDEX, NO_ROWS, row -> x.writeRow(row));
            due("0@0:abcd", () -> output(8));
        });
    }

    private static void writeCat() {
        in(45);
        holds("Writes a cat to the output, in place of the earlier output: its index, \"@\" and its cell, \":\" and the"
                + " options in the order of its ranking, and \"+\" and the number of testimonies that it has heard if"
                + " this is not 0.", () -> {
            cats("0:abc", "9:bca", "10:dcb", "34:cab");
            due(8, () -> x.writeCat(0));
            due("0@0:abcd", () -> output(8));
            due(8, () -> x.writeCat(1));
            due("1@9:bcad", () -> output(8));
            due(9, () -> x.writeCat(2));
            due("2@10:dcba", () -> output(9));
            x.testify(11, 'd');
            due(11, () -> x.writeCat(3));
            due("3@34:cadb+1", () -> output(11));
            for (int i = 2; i <= 9; i++) {
                x.testify(11, 'd');
            }
            due(11, () -> x.writeCat(3));
            due("3@34:dcab+9", () -> output(11));
            x.testify(11, 'd');
            due(12, () -> x.writeCat(3));
            due("3@34:dcab+10", () -> output(12));
            // Shorter than the earlier output.
            due(8, () -> x.writeCat(0));
            due(INDEX, () -> x.outputAt(8));
            for (int i = 11; i <= 100; i++) {
                x.testify(11, 'd');
            }
            due(13, () -> x.writeCat(3));
            due("3@34:dcab+100", () -> output(13));
        });
        holds("An example is \"3@17:cabd+2\".", () -> {
            cats("0:abc", "1:abc", "2:abc", "17:cba");
            x.testify(3, 'a');
            x.testify(15, 'c');
            due(11, () -> x.writeCat(3));
            due("3@17:cabd+2", () -> output(11));
        });
        catSentences(cat -> x.writeCat(cat));
        holds("Returns the length of the output.", () -> {
            cats("0:abc", "34:abc");
            int length = x.writeCat(1);
            due(9, () -> length);
            due('d', () -> x.outputAt(length - 1));
            due(INDEX, () -> x.outputAt(length));
        });
    }

    private static void outputAt() {
        in(46);
        plain("Returns the character.");
        holds("Returns a character of the output.", () -> {
            cats("0:abc");
            x.writeCat(0);
            due('0', () -> x.outputAt(0));
            due('d', () -> x.outputAt(7));
            due('@', () -> x.outputAt(1));
        });
        holds("The output is empty at first.", () -> {
            each(INDEX, new int[] {-1, 0, 1, LOW, HIGH}, index -> x.outputAt(index));
            cats("0:abc");
            run("vote");
            due(INDEX, () -> x.outputAt(0));
        });
        holds("`index`: the index, from 0", () -> {
            x.writeRow(0);
            taken(INDEX, 6, index -> x.outputAt(index));
        });
        holds("Throws `IndexOutOfBoundsException` if there is no character at this index", () -> {
            x.writeRow(0);
            each(INDEX, new int[] {-1, 7, 8, LOW, HIGH}, index -> x.outputAt(index));
            cats("0:abc");
            x.writeCat(0);
            each(INDEX, new int[] {-1, 8, 9, LOW, HIGH}, index -> x.outputAt(index));
        });
    }

    private static void appendInput() {
        in(47);
        plain("Appends a character to the input.");
        holds("`character`: the character, with a code from 32 to 126", () -> {
            for (int code = 32; code <= 91; code++) {
                x.appendInput((char) code);
            }
            x = new MirrorJury();
            for (int code = 92; code <= 126; code++) {
                x.appendInput((char) code);
            }
            due(36, () -> x.appendInput(' '));
        });
        holds("Returns the length of the input after the call.", () -> {
            for (int i = 1; i <= 60; i++) {
                int length = i;
                due(length, () -> x.appendInput('v'));
            }
            due(ARGUMENT, () -> x.execute());
            due(1, () -> x.appendInput('v'));
        });
        holds("Throws `IllegalArgumentException` if the code is out of range", () -> {
            char[] none = {0, 10, 31, 127, 128, 255, 256, 256 + 'v', 65535};
            each(ARGUMENT, none, sign -> x.appendInput(sign));
            due(1, () -> x.appendInput(' '));
            each(ARGUMENT, none, sign -> x.appendInput(sign));
            due(2, () -> x.appendInput('~'));
        });
        holds("Throws `IllegalStateException` if the input has 60 characters", () -> {
            due(59, () -> input("vote;vote;vote;vote;vote;vote;vote;vote;vote;vote;vote;vote"));
            due(60, () -> x.appendInput('!'));
            due(STATE, () -> x.appendInput('a'));
            due(STATE, () -> x.appendInput(' '));
            // None of them came into it.
            due(ARGUMENT, () -> x.execute());
            due(59, () -> x.syntaxErrorOffset());
            due(1, () -> x.appendInput('a'));
        });
    }

    private static void execute() {
        in(48);
        holds("Executes the commands of the input, all of them or none.", () -> {
            cats("0:abc", "1:bac");
            due(6, () -> run("mirror 9 /;say 0 b;method r;cat 2 bac;vote;mirror 8 \\"));
            due('/', () -> x.contentOf(9));
            due("bacd", () -> ranking(0));
            due('r', () -> x.method());
            due(3, () -> x.catCount());
            due('b', () -> x.verdictAt(0));
            due('\\', () -> x.contentOf(8));
            // All of them are one change.
            due(2, () -> x.undo());
            due('.', () -> x.contentOf(9));
            due(2, () -> x.catCount());
            leavesAll(REJECTED, () -> run("mirror 9 /;say 0 b;method r;cat 2 bac;vote;mirror 0 \\"));
            leavesAll(STATE, () -> run("mirror 9 /;say 0 b;method r;cat 2 bac;vote;say 24 a"));
            due(1, () -> x.undo());
            x.undo();
            due(STATE, () -> x.undo());
            // None of them also if as many changes as possible can be undone, each of which stays.
            x = new MirrorJury();
            for (int i = 0; i < 11; i++) {
                x.setMirror(i, '/');
            }
            due(REJECTED, () -> run("mirror 20 /;vote"));
            due(STATE, () -> run("mirror 20 /;say 24 a"));
            for (int i = 7; i >= 0; i--) {
                int left = i;
                due(left, () -> x.undo());
            }
            due("///................................", () -> allContents());
        });
        holds("The input is empty after the call, also if an exception is thrown.", () -> {
            cats("0:abc");
            due(1, () -> run("vote"));
            due(1, () -> x.appendInput('v'));
            due(ARGUMENT, () -> x.execute());
            due(1, () -> x.appendInput('v'));
            due(ARGUMENT, () -> run("ote;"));
            due(REJECTED, () -> run("cat 0 abc"));
            due(1, () -> x.appendInput('v'));
            due(1, () -> run("ote"));
            due(STATE, () -> run("cat 35 abc"));
            due(1, () -> x.appendInput('v'));
            due(1, () -> run("ote"));
            // A full input makes room.
            due(60, () -> input("vote;vote;vote;vote;vote;vote;vote;vote;vote;vote;vote;votes"));
            due(ARGUMENT, () -> x.execute());
            due(1, () -> x.appendInput('v'));
        });
        holds("Returns the number of commands.", () -> {
            cats("0:abc");
            String text = "";
            for (int i = 1; i <= 12; i++) {
                text = text + (i == 1 ? "" : ";") + "vote";
                String commands = text;
                due(i, () -> run(commands));
            }
            due(78, () -> x.deliberations());
        });
    }

    private static void executeAndFail() {
        holds("Throws `IllegalArgumentException` if the input has a syntax error; syntaxErrorOffset returns its offset",
                () -> {
            cats("0:abc");
            due(ARGUMENT, () -> x.execute());
            due(0, () -> x.syntaxErrorOffset());
            leavesAll(ARGUMENT, () -> run("vote;vote;vite"));
            due(11, () -> x.syntaxErrorOffset());
            leavesAll(ARGUMENT, () -> run("vote;"));
            due(5, () -> x.syntaxErrorOffset());
            due(0, () -> x.undo());
        });
        holds("Throws `IllegalStateException` if the first command that fails does so for another reason than a"
                + " rejection: its method throws another exception than UnsupportedOperationException", () -> {
            sevenCats();
            // Each of these would be rejected too if it were not wrong.
            for (String text : new String[] {"cat 35 abc", "cat 99 aaa", "cat 0 aab", "cat 0 aba", "cat 0 baa",
                    "mirror 35 .", "mirror 99 /", "say 24 a", "say 99 a", "vote;vote;say 24 d"}) {
                due(STATE, () -> run(text));
                due(MISSING, () -> x.rejectionReason());
            }
            // The first one that fails decides, whatever comes behind it.
            due(STATE, () -> run("vote;say 24 a;cat 0 abc"));
            due(MISSING, () -> x.rejectionReason());
            due(REJECTED, () -> run("vote;cat 0 abc;say 24 a"));
            due("6/1", () -> rejection());
            due(0, () -> x.deliberations());
            due(1, () -> run("say 6 d"));
        });
        holds("Throws `UnsupportedOperationException` if the call is rejected with the reason COMMAND_REJECTED", () -> {
            due(REJECTED, () -> run("vote"));
            due("6/0", () -> rejection());
            due(REJECTED, () -> run("say 0 a"));
            due(REJECTED, () -> run("retry"));
            cats("0:abc");
            leavesAll(REJECTED, () -> run("cat 1 abc;cat 1 abc"));
            due("6/1", () -> rejection());
            due(2, () -> x.causeReason());
            // A cause that an earlier command makes counts.
            due(3, () -> run("vote;mirror 9 /;retry"));
        });
    }

    private static void syntaxErrorOffset() {
        in(49);
        plain("Returns the offset.");
        holds("Returns the offset of the latest syntax error.", () -> {
            run("vote?");
            due(4, () -> x.syntaxErrorOffset());
            run("");
            due(0, () -> x.syntaxErrorOffset());
            run("v");
            due(1, () -> x.syntaxErrorOffset());
            // An input without syntax error leaves it.
            run("vote");
            run("say 24 a");
            run("mirror 0 /");
            due(1, () -> x.syntaxErrorOffset());
        });
        holds("Throws `NoSuchElementException` if there was no syntax error", () -> {
            due(MISSING, () -> x.syntaxErrorOffset());
            run("vote");
            run("say 24 a");
            run("mirror 0 /");
            due(MISSING, () -> x.syntaxErrorOffset());
            run("");
            due(0, () -> x.syntaxErrorOffset());
        });
    }

    private static void latestRejection() {
        in(50);
        plain("Returns the reason of the latest rejection.");
        holds("Returns the reason, one of the constants.", () -> {
            answer(() -> x.deliberate());
            due(MirrorJury.NO_CATS, () -> x.rejectionReason());
            answer(() -> x.testify(0, 'a'));
            due(MirrorJury.MISSED, () -> x.rejectionReason());
            answer(() -> x.retry());
            due(MirrorJury.NO_CAUSE, () -> x.rejectionReason());
            run("vote");
            due(MirrorJury.COMMAND_REJECTED, () -> x.rejectionReason());
            sevenCats();
            answer(() -> x.setMirror(0, '/'));
            due(MirrorJury.OCCUPIED, () -> x.rejectionReason());
            answer(() -> x.addCat(30, 'a', 'b', 'c'));
            due(MirrorJury.CAT_LIMIT, () -> x.rejectionReason());
            x.setMethod('s');
            due(MirrorJury.CAT_LIMIT, () -> x.rejectionReason());
        });
        noRejection(() -> x.rejectionReason());
        in(51);
        plain("Returns the detail of the latest rejection.");
        holds("Returns the detail.", () -> {
            answer(() -> x.deliberate());
            due(0, () -> x.rejectionDetail());
            answer(() -> x.testify(0, 'a'));
            due(18, () -> x.rejectionDetail());
            answer(() -> x.retry());
            due(0, () -> x.rejectionDetail());
            run("method s;vote");
            due(1, () -> x.rejectionDetail());
            // It is that of the time of the rejection.
            x.setMirror(0, '/');
            answer(() -> x.deliberate());
            due(1, () -> x.rejectionDetail());
            x.setMirror(1, '/');
            due(1, () -> x.rejectionDetail());
        });
        noRejection(() -> x.rejectionDetail());
    }

    private static void noRejection(Call call) {
        holds("Throws `NoSuchElementException` if no call was rejected", () -> {
            due(MISSING, call);
            answer(() -> x.addCat(35, 'a', 'b', 'c'));
            answer(() -> x.undo());
            answer(() -> x.rayCat(0));
            run("x");
            run("say 24 a");
            due(MISSING, call);
            answer(() -> x.retry());
            due(false, () -> answer(call).equals(MISSING));
        });
    }

    private static void causeReason() {
        in(52);
        plain("Returns the reason of the command that caused the latest rejection.");
        holds("Returns the reason, one of the constants.", () -> {
            run("vote");
            due(MirrorJury.NO_CATS, () -> x.causeReason());
            run("say 0 a");
            due(MirrorJury.MISSED, () -> x.causeReason());
            run("retry");
            due(MirrorJury.NO_CAUSE, () -> x.causeReason());
            sevenCats();
            run("mirror 6 .");
            due(MirrorJury.OCCUPIED, () -> x.causeReason());
            run("cat 6 abc");
            due(MirrorJury.CAT_LIMIT, () -> x.causeReason());
            x.undo();
            run("cat 5 abc");
            due(MirrorJury.OCCUPIED, () -> x.causeReason());
        });
        holds("Throws `NoSuchElementException` if no call was rejected, or the latest rejection has another reason than"
                + " COMMAND_REJECTED", () -> {
            due(MISSING, () -> x.causeReason());
            run("say 24 a");
            due(MISSING, () -> x.causeReason());
            run("vote");
            due(4, () -> x.causeReason());
            for (Call call : List.<Call>of(() -> x.deliberate(), () -> x.testify(0, 'a'), () -> x.retry())) {
                due(REJECTED, call);
                due(MISSING, () -> x.causeReason());
            }
            sevenCats();
            run("vote;retry;retry");
            due(5, () -> x.causeReason());
            due(REJECTED, () -> x.setMirror(0, '/'));
            due(MISSING, () -> x.causeReason());
            due(REJECTED, () -> x.addCat(30, 'a', 'b', 'c'));
            due(MISSING, () -> x.causeReason());
        });
    }

    private static void undo() {
        in(53);
        holds("Undoes the latest change that has not been undone.", () -> {
            x.setMirror(0, '/');
            x.setMirror(1, '/');
            x.undo();
            due('.', () -> x.contentOf(1));
            due('/', () -> x.contentOf(0));
            x.undo();
            due('.', () -> x.contentOf(0));
            // A change after an undo is the latest one then, and what was undone does not come back.
            x.setMirror(2, '/');
            x.setMirror(3, '/');
            x.undo();
            x.setMirror(4, '/');
            x.undo();
            due("..................................", () -> allContents().replace("/", ""));
            due('/', () -> x.contentOf(2));
            due(0, () -> x.undo());
            due('.', () -> x.contentOf(2));
        });
        holds("Returns the number of changes that can still be undone.", () -> {
            for (int i = 0; i < 9; i++) {
                x.setMirror(i, '/');
            }
            for (int i = 7; i >= 0; i--) {
                int left = i;
                due(left, () -> x.undo());
            }
            x.setMethod('r');
            due(0, () -> x.undo());
        });
        holds("Throws `IllegalStateException` if there is none", () -> {
            due(STATE, () -> x.undo());
            x.setMethod('r');
            x.undo();
            due(STATE, () -> x.undo());
            for (int i = 0; i < 20; i++) {
                x.setMirror(i, '/');
            }
            for (int i = 0; i < 8; i++) {
                x.undo();
            }
            due(STATE, () -> x.undo());
            due('/', () -> x.contentOf(11));
            due('.', () -> x.contentOf(12));
            x.saveSnapshot();
            x.setMethod('r');
            x.restoreSnapshot();
            due(STATE, () -> x.undo());
        });
    }

    private static void saveSnapshot() {
        in(54);
        holds("Saves a snapshot of the data, in place of an earlier snapshot.", () -> {
            someJury();
            x.saveSnapshot();
            x.setMirror(20, '/');
            x.saveSnapshot();
            String later = state();
            x.setMirror(21, '/');
            x.restoreSnapshot();
            same(later, state(), " after restoreSnapshot");
            due('/', () -> x.contentOf(20));
            due('.', () -> x.contentOf(21));
        });
        holds("Returns the number of cats.", () -> {
            due(0, () -> x.saveSnapshot());
            cats("0:abc");
            due(1, () -> x.saveSnapshot());
            cats("1:abd", "2:bac", "3:bca", "4:cab", "5:cba", "6:dab");
            due(7, () -> x.saveSnapshot());
            // The changes ahead of it can still be undone, and saving is none.
            due(6, () -> x.undo());
            due(6, () -> x.saveSnapshot());
        });
    }

    private static void restoreSnapshot() {
        in(55);
        holds("Restores the snapshot, which is kept.", () -> {
            someJury();
            x.saveSnapshot();
            String before = state();
            for (int i = 0; i < 3; i++) {
                // Changes after it do not get into the snapshot.
                x.testify(0, 'd');
                x.setMirror(10, '\\');
                cats("34:abc");
                x.retry();
                x.deliberate();
                x.restoreSnapshot();
                same(before, state(), " after restoreSnapshot");
            }
            // Another cat with the index of a cat of the snapshot.
            jury("0:abc", "34:dcb");
            x.testify(11, 'a');
            x.saveSnapshot();
            x.undo();
            x.undo();
            cats("20:bac");
            x.restoreSnapshot();
            due(34, () -> x.cellOf(1));
            due("dcab", () -> ranking(1));
            due(1, () -> x.heardBy(1));
            due('-', () -> x.deliberate());
            due(1, () -> x.retry());
            due("dcba", () -> ranking(1));
        });
        holds("No change can be undone after the call.", () -> {
            x.setMirror(0, '/');
            x.saveSnapshot();
            x.setMirror(1, '/');
            x.restoreSnapshot();
            due(STATE, () -> x.undo());
            due('/', () -> x.contentOf(0));
            // Those that come after it can be.
            for (int i = 2; i < 12; i++) {
                x.setMirror(i, '/');
            }
            due(7, () -> x.undo());
            x.restoreSnapshot();
            due(STATE, () -> x.undo());
        });
        holds("Returns the number of cats.", () -> {
            x.saveSnapshot();
            sevenCats();
            due(0, () -> x.restoreSnapshot());
            sevenCats();
            x.saveSnapshot();
            due(7, () -> x.restoreSnapshot());
        });
        holds("Throws `IllegalStateException` if there is no snapshot", () -> {
            due(STATE, () -> x.restoreSnapshot());
            cats("0:abc");
            leavesAll(STATE, () -> x.restoreSnapshot());
            due(0, () -> x.undo());
            x.saveSnapshot();
            due(0, () -> x.restoreSnapshot());
        });
    }

    // ---- the document

    /** Compares the named sentences with the text of their sections. */
    private static void compareWithDocument(String document) {
        for (String part : document.split("(?m)^## ")) {
            String name = part.split("\n", 2)[0].replaceAll(":.*", "").trim();
            if (NAMED.containsKey(name)) {
                compareSection(name, oneLine(part.split("\n", 2)[1]));
                NAMED.remove(name);
            } else if (name.startsWith("Promise ")) {
                missing(name, "the section has no tests");
            }
        }
        for (String name : NAMED.keySet()) {
            missing(name, "there is no such section");
        }
    }

    private static String oneLine(String text) {
        return text.replaceAll("(?m)^- ", " ").replaceAll("\\s+", " ");
    }

    private static void compareSection(String name, String text) {
        List<String> named = new ArrayList<>(NAMED.get(name));
        named.sort((one, other) -> other.length() - one.length());
        // The signature, and the lines that tell where the interface has headings, hold no sentence.
        String rest = text.replaceAll("^ ?`[^`]*`:", "").replaceAll("Ahead of the calls .*? ---- [a-z ]+\\.", "");
        for (String each : named) {
            if (!text.contains(each)) {
                missing(name, "not in the document: " + each);
            }
            rest = rest.replace(each, "");
        }
        if (!rest.isBlank()) {
            missing(name, "without a test: " + rest.trim());
        }
    }

    private static void missing(String name, String what) {
        wrong++;
        System.out.println(name + ": " + what);
    }
}
