/**
 * Each promise of the document by hand: ordinary inputs, the edges that it names, and wrong inputs. What is due was
 * worked out from the document, not taken from the program.
 */
public final class PromiseTest {
    private static final String INDEX = "throws.IndexOutOfBoundsException";
    private static final String ARGUMENT = "throws.IllegalArgumentException";
    private static final String STATE = "throws.IllegalStateException";
    private static final String REJECTED = "throws.UnsupportedOperationException";
    private static final String MISSING = "throws.NoSuchElementException";
    private static final String ARITHMETIC = "throws.ArithmeticException";

    private static int wrong = 0;
    private static int promise = 0;
    private static int calls = 0;
    private static MirrorJury x;

    private interface Call {
        Object get();
    }

    private static String answer(Call call) {
        try {
            return String.valueOf(call.get());
        } catch (RuntimeException e) {
            return "throws." + e.getClass().getSimpleName();
        }
    }

    /** Checks an answer: a number, a character or a boolean as text, or the exception that is due. */
    private static void due(Object want, Call call) {
        calls++;
        String got = answer(call);
        if (!got.equals(String.valueOf(want))) {
            wrong++;
            StackTraceElement line = new Throwable().getStackTrace()[1];
            System.out.println("promise " + promise + ", line " + line.getLineNumber() + ": answered " + got
                    + ", due is " + want);
        }
    }

    private static void begin(int number) {
        promise = number;
        x = new MirrorJury();
    }

    /** Adds cats, each written as its cell, a colon and the three options that it likes most. */
    private static void cats(String... texts) {
        for (String text : texts) {
            String[] parts = text.split(":");
            x.addCat(Integer.parseInt(parts[0]), parts[1].charAt(0), parts[1].charAt(1), parts[1].charAt(2));
        }
    }

    private static void input(String text) {
        for (char character : text.toCharArray()) {
            x.appendInput(character);
        }
    }

    private static String run(String text) {
        input(text);
        return answer(() -> x.execute());
    }

    private static String ranking(int cat) {
        return "" + x.optionAt(cat, 0) + x.optionAt(cat, 1) + x.optionAt(cat, 2) + x.optionAt(cat, 3);
    }

    private static String output(int length) {
        StringBuilder text = new StringBuilder();
        for (int i = 0; i < length; i++) {
            text.append(x.outputAt(i));
        }
        return text.toString();
    }

    private static String rejection() {
        return x.rejectionReason() + "/" + x.rejectionDetail();
    }

    public static void main(String[] args) {
        examplesOfReadme();
        constants();
        newObject();
        addCat();
        setMirror();
        cats();
        rankings();
        rayEnds();
        rayParts();
        efforts();
        portsByLength();
        testify();
        counts();
        points();
        rounds();
        strengths();
        dominance();
        methods();
        deliberate();
        retry();
        causes();
        verdicts();
        hearing();
        shares();
        consistency();
        writing();
        inputLimits();
        execute();
        executeAllOrNone();
        syntaxErrors();
        syntaxErrorOffset();
        rejections();
        undo();
        undoAndRest();
        snapshots();
        System.out.println(wrong == 0 ? "PromiseTest: " + calls + " answers are as due" : wrong + " wrong");
        if (wrong != 0) {
            System.exit(1);
        }
    }

    /** The calls and answers that README.md shows. */
    private static void examplesOfReadme() {
        begin(0);
        due(1, () -> x.setMirror(10, '/'));
        due(0, () -> x.addCat(7, 'c', 'a', 'b'));
        due(5, () -> x.rayLength(3));
        due(0, () -> x.testify(3, 'a'));
        due('a', () -> x.deliberate());
        due(10, () -> x.writeCat(0));
        due("0@7:acbd+1", () -> output(10));
        due(4, () -> run("cat 5 abc;say 5 d;method r;vote"));
        due('a', () -> x.verdictAt(0));
    }

    private static void constants() {
        begin(0);
        due(1, () -> MirrorJury.CAT_LIMIT);
        due(2, () -> MirrorJury.OCCUPIED);
        due(3, () -> MirrorJury.MISSED);
        due(4, () -> MirrorJury.NO_CATS);
        due(5, () -> MirrorJury.NO_CAUSE);
        due(6, () -> MirrorJury.COMMAND_REJECTED);
    }

    private static void newObject() {
        begin(1);
        for (int cell = 0; cell < 35; cell++) {
            int here = cell;
            due('.', () -> x.contentOf(here));
        }
        due(0, () -> x.catCount());
        due('p', () -> x.method());
        due(0, () -> x.deliberations());
        due(0, () -> x.hungCount());
        due(0, () -> x.retrials());
        due(0, () -> x.testimonies());
        due(false, () -> x.hasCause());
        due(STATE, () -> x.undo());
        due(STATE, () -> x.restoreSnapshot());
        due(MISSING, () -> x.rejectionReason());
        due(MISSING, () -> x.syntaxErrorOffset());
        due(INDEX, () -> x.outputAt(0));
        due(1, () -> x.appendInput('v'));
    }

    private static void addCat() {
        begin(2);
        due(INDEX, () -> x.addCat(-1, 'a', 'b', 'c'));
        due(INDEX, () -> x.addCat(35, 'a', 'a', 'c'));
        due(INDEX, () -> x.addCat(Integer.MIN_VALUE, 'a', 'b', 'c'));
        due(INDEX, () -> x.addCat(Integer.MAX_VALUE, 'a', 'b', 'c'));
        due(ARGUMENT, () -> x.addCat(0, 'a', 'a', 'b'));
        due(ARGUMENT, () -> x.addCat(0, 'a', 'b', 'a'));
        due(ARGUMENT, () -> x.addCat(0, 'b', 'a', 'a'));
        due(ARGUMENT, () -> x.addCat(0, 'e', 'a', 'b'));
        due(ARGUMENT, () -> x.addCat(0, 'a', '`', 'b'));
        due(ARGUMENT, () -> x.addCat(0, 'a', 'b', 'A'));
        due(ARGUMENT, () -> x.addCat(0, 'a', 'b', (char) 65535));
        due(0, () -> x.catCount());
        due(0, () -> x.addCat(34, 'd', 'a', 'c'));
        due("dacb", () -> ranking(0));
        due(1, () -> x.setMirror(0, '/'));
        due(1, () -> x.addCat(0, 'b', 'c', 'd'));
        due("bcda", () -> ranking(1));
        due('c', () -> x.contentOf(0));
        due(0, () -> x.setMirror(1, '.'));
        due(REJECTED, () -> x.addCat(34, 'a', 'b', 'c'));
        due("2/0", () -> rejection());
        due(ARGUMENT, () -> x.addCat(34, 'a', 'b', 'b'));
        cats("5:abc", "6:abd", "7:acb", "8:acd");
        due(6, () -> x.addCat(9, 'a', 'd', 'b'));
        due("adbc", () -> ranking(6));
        due(REJECTED, () -> x.addCat(9, 'a', 'b', 'c'));
        due("1/7", () -> rejection());
        due(REJECTED, () -> x.addCat(10, 'a', 'b', 'c'));
        due('.', () -> x.contentOf(10));
        due(7, () -> x.catCount());
    }

    private static void setMirror() {
        begin(3);
        due(INDEX, () -> x.setMirror(-1, '/'));
        due(INDEX, () -> x.setMirror(35, 'x'));
        due(ARGUMENT, () -> x.setMirror(0, 'c'));
        due(ARGUMENT, () -> x.setMirror(0, '-'));
        due(ARGUMENT, () -> x.setMirror(0, (char) 0));
        due(ARGUMENT, () -> x.setMirror(0, '0'));
        due(1, () -> x.setMirror(0, '/'));
        due(1, () -> x.setMirror(0, '/'));
        due(1, () -> x.setMirror(0, '\\'));
        due(2, () -> x.setMirror(34, '\\'));
        due(3, () -> x.setMirror(17, '/'));
        due(2, () -> x.setMirror(0, '.'));
        due(2, () -> x.setMirror(0, '.'));
        cats("3:abc", "4:abc");
        due(REJECTED, () -> x.setMirror(4, '/'));
        due("2/1", () -> rejection());
        due(REJECTED, () -> x.setMirror(3, '.'));
        due("2/0", () -> rejection());
        due(ARGUMENT, () -> x.setMirror(3, 'x'));
        due('c', () -> x.contentOf(3));
    }

    private static void cats() {
        begin(4);
        due(0, () -> x.catCount());
        cats("12:abc", "3:bcd");
        due(2, () -> x.catCount());
        promise = 5;
        due(12, () -> x.cellOf(0));
        due(3, () -> x.cellOf(1));
        due(INDEX, () -> x.cellOf(-1));
        due(INDEX, () -> x.cellOf(2));
        promise = 6;
        due(0, () -> x.catIn(12));
        due(1, () -> x.catIn(3));
        due(MISSING, () -> x.catIn(0));
        due(MISSING, () -> x.catIn(34));
        due(INDEX, () -> x.catIn(-1));
        due(INDEX, () -> x.catIn(35));
        promise = 7;
        x.setMirror(0, '/');
        x.setMirror(34, '\\');
        due('/', () -> x.contentOf(0));
        due('\\', () -> x.contentOf(34));
        due('c', () -> x.contentOf(12));
        due('.', () -> x.contentOf(1));
        due(INDEX, () -> x.contentOf(-1));
        due(INDEX, () -> x.contentOf(35));
    }

    private static void rankings() {
        begin(8);
        cats("12:cab", "3:dbc");
        due('c', () -> x.optionAt(0, 0));
        due('d', () -> x.optionAt(0, 3));
        due('b', () -> x.optionAt(1, 1));
        due('a', () -> x.optionAt(1, 3));
        due(INDEX, () -> x.optionAt(2, 0));
        due(INDEX, () -> x.optionAt(-1, 4));
        due(ARGUMENT, () -> x.optionAt(0, 4));
        due(ARGUMENT, () -> x.optionAt(1, -1));
        promise = 9;
        due(1, () -> x.placeOf(0, 'a'));
        due(3, () -> x.placeOf(0, 'd'));
        due(0, () -> x.placeOf(1, 'd'));
        due(2, () -> x.placeOf(1, 'c'));
        due(INDEX, () -> x.placeOf(2, 'a'));
        due(INDEX, () -> x.placeOf(-1, 'x'));
        due(ARGUMENT, () -> x.placeOf(0, 'e'));
        due(ARGUMENT, () -> x.placeOf(0, '`'));
        promise = 10;
        due(0, () -> x.heardBy(0));
        x.testify(5, 'a');
        x.testify(5, 'a');
        x.testify(3, 'd');
        due(2, () -> x.heardBy(0));
        due(1, () -> x.heardBy(1));
        due(INDEX, () -> x.heardBy(2));
        due(INDEX, () -> x.heardBy(-1));
    }

    private static void end(int port, Object want) {
        promise = 11;
        due(want, () -> x.rayEnd(port));
        promise = 12;
        due(want, () -> x.rayEndByJoining(port));
    }

    private static void rayEnds() {
        begin(11);
        for (int column = 0; column < 7; column++) {
            end(column, 18 - column);
            end(18 - column, column);
        }
        for (int row = 0; row < 5; row++) {
            end(7 + row, 23 - row);
            end(23 - row, 7 + row);
        }
        end(-1, ARGUMENT);
        end(24, ARGUMENT);
        x.setMirror(17, '/');
        end(3, 21);
        end(21, 3);
        end(9, 15);
        end(15, 9);
        x.setMirror(17, '\\');
        end(3, 9);
        end(9, 3);
        end(21, 15);
        end(15, 21);
        cats("17:abc");
        end(3, MISSING);
        end(9, MISSING);
        end(21, MISSING);
        end(15, MISSING);
        end(4, 14);
        x = new MirrorJury();
        // In row 2 to the right, up, to the left in row 0, and down across the first part.
        x.setMirror(19, '/');
        x.setMirror(5, '\\');
        x.setMirror(3, '/');
        end(21, 15);
        end(15, 21);
        // A ring of mirrors that no ray of a port enters does not hold up rays.
        x = new MirrorJury();
        x.setMirror(8, '/');
        x.setMirror(9, '\\');
        x.setMirror(15, '\\');
        x.setMirror(16, '/');
        end(1, 22);
        end(2, 8);
        end(21, 17);
    }

    private static void rayParts() {
        begin(13);
        cats("17:abc", "0:abc");
        due(0, () -> x.rayCat(3));
        due(0, () -> x.rayCat(15));
        due(1, () -> x.rayCat(0));
        due(1, () -> x.rayCat(23));
        due(1, () -> x.rayCat(7));
        due(MISSING, () -> x.rayCat(1));
        due(ARGUMENT, () -> x.rayCat(-1));
        due(ARGUMENT, () -> x.rayCat(24));
        x.setMirror(1, '/');
        due(1, () -> x.rayCat(1));
        promise = 14;
        due(1, () -> x.rayLength(0));
        due(1, () -> x.rayLength(23));
        due(7, () -> x.rayLength(22));
        due(3, () -> x.rayLength(3));
        due(4, () -> x.rayLength(9));
        due(2, () -> x.rayLength(1));
        due(5, () -> x.rayLength(2));
        due(ARGUMENT, () -> x.rayLength(-1));
        due(ARGUMENT, () -> x.rayLength(24));
        promise = 15;
        due(0, () -> x.rayBounces(0));
        due(1, () -> x.rayBounces(1));
        due(0, () -> x.rayBounces(3));
        due(ARGUMENT, () -> x.rayBounces(-1));
        due(ARGUMENT, () -> x.rayBounces(24));
        x = new MirrorJury();
        x.setMirror(19, '/');
        x.setMirror(5, '\\');
        x.setMirror(3, '/');
        due(3, () -> x.rayBounces(21));
        promise = 14;
        due(14, () -> x.rayLength(21));
        due(14, () -> x.rayLength(15));
    }

    private static void effort(int port, int cat, Object want) {
        promise = 16;
        due(want, () -> x.leastEffort(port, cat));
        promise = 17;
        due(want, () -> x.leastEffortByRounds(port, cat));
    }

    private static void efforts() {
        begin(16);
        effort(24, 0, ARGUMENT);
        effort(-1, 0, ARGUMENT);
        effort(0, 0, INDEX);
        cats("17:abc");
        effort(24, 1, ARGUMENT);
        effort(0, 1, INDEX);
        effort(0, -1, INDEX);
        effort(3, 0, 0);
        effort(21, 0, 0);
        effort(0, 0, 1);
        effort(7, 0, 1);
        effort(18, 0, 1);
        // Straight on in the cell of a mirror is otherwise than the ray goes.
        x.setMirror(10, '/');
        effort(3, 0, 1);
        // The ray turns here for nothing, or the course goes on without it.
        x.setMirror(7, '\\');
        effort(0, 0, 1);
        x.setMirror(14, '\\');
        effort(0, 0, 1);
        x.setMirror(7, '.');
        effort(0, 0, 0);
        effortsAroundCats();
    }

    private static void effortsAroundCats() {
        x = new MirrorJury();
        cats("0:abc", "1:abc", "7:abc");
        effort(0, 0, 0);
        effort(23, 0, 0);
        effort(1, 1, 0);
        // The cell at the port is that of another cat, or all ways lead through other cats.
        effort(1, 0, MISSING);
        effort(5, 0, MISSING);
        effort(19, 0, MISSING);
        effort(5, 1, 1);
        effort(7, 1, 0);
        effort(7, 2, 2);
        // A course has to go round a cat in its way.
        x = new MirrorJury();
        cats("17:abc", "10:abc");
        effort(3, 1, 0);
        effort(3, 0, 3);
        effort(22, 0, 2);
        effort(8, 1, 0);
    }

    private static void portsByLength() {
        begin(18);
        int[] order = {7, 8, 9, 10, 11, 19, 20, 21, 22, 23, 0, 1, 2, 3, 4, 5, 6, 12, 13, 14, 15, 16, 17, 18};
        for (int i = 0; i < order.length; i++) {
            int position = i;
            due(order[i], () -> x.portByLength(position));
        }
        due(MISSING, () -> x.portByLength(-1));
        due(MISSING, () -> x.portByLength(24));
        cats("0:abc");
        due(7, () -> x.portByLength(0));
        due(22, () -> x.portByLength(8));
        due(1, () -> x.portByLength(9));
        due(18, () -> x.portByLength(21));
        due(0, () -> x.portByLength(22));
        due(23, () -> x.portByLength(23));
    }

    private static void testify() {
        begin(19);
        cats("17:abc", "0:bca");
        due(0, () -> x.testify(3, 'd'));
        due("abdc", () -> ranking(0));
        due(0, () -> x.testify(9, 'b'));
        due("badc", () -> ranking(0));
        due(0, () -> x.testify(15, 'b'));
        due("badc", () -> ranking(0));
        due(3, () -> x.heardBy(0));
        due(1, () -> x.testify(0, 'a'));
        due("bacd", () -> ranking(1));
        due(4, () -> x.testimonies());
        due(ARGUMENT, () -> x.testify(-1, 'a'));
        due(ARGUMENT, () -> x.testify(24, 'a'));
        due(ARGUMENT, () -> x.testify(3, 'e'));
        due(ARGUMENT, () -> x.testify(1, 'A'));
        due(MISSING, () -> x.rejectionReason());
        due(REJECTED, () -> x.testify(1, 'a'));
        due("3/17", () -> rejection());
        due(REJECTED, () -> x.testify(22, 'a'));
        due("3/8", () -> rejection());
        due(4, () -> x.testimonies());
        x.setMirror(1, '/');
        due(1, () -> x.testify(1, 'a'));
        due("abcd", () -> ranking(1));
    }

    private static void counts() {
        begin(20);
        due(0, () -> x.firstVotes('a'));
        cats("0:abc", "1:acb", "2:bad");
        due(2, () -> x.firstVotes('a'));
        due(1, () -> x.firstVotes('b'));
        due(0, () -> x.firstVotes('d'));
        due(ARGUMENT, () -> x.firstVotes('e'));
        due(ARGUMENT, () -> x.firstVotes('`'));
        promise = 21;
        due(2, () -> x.prefer('a', 'b'));
        due(1, () -> x.prefer('b', 'a'));
        due(2, () -> x.prefer('b', 'c'));
        due(1, () -> x.prefer('d', 'c'));
        due(0, () -> x.prefer('d', 'a'));
        due(ARGUMENT, () -> x.prefer('a', 'a'));
        due(ARGUMENT, () -> x.prefer('e', 'a'));
        due(ARGUMENT, () -> x.prefer('a', 'e'));
        due(0, () -> new MirrorJury().prefer('a', 'b'));
    }

    private static void points() {
        begin(22);
        due(0, () -> x.pointsOf('a'));
        promise = 23;
        due(MISSING, () -> x.pointsWinner());
        promise = 22;
        cats("0:abc", "1:acb", "2:bad");
        due(8, () -> x.pointsOf('a'));
        due(6, () -> x.pointsOf('b'));
        due(3, () -> x.pointsOf('c'));
        due(1, () -> x.pointsOf('d'));
        due(ARGUMENT, () -> x.pointsOf('e'));
        due(ARGUMENT, () -> x.pointsOf('@'));
        promise = 23;
        due('a', () -> x.pointsWinner());
        begin(23);
        cats("0:bad", "1:abc");
        due('a', () -> x.pointsWinner());
        cats("2:dcb");
        due('b', () -> x.pointsWinner());
        begin(23);
        cats("0:dcb");
        due('d', () -> x.pointsWinner());
    }

    private static void rounds() {
        begin(24);
        due(MISSING, () -> x.roundsWinner());
        promise = 25;
        due(MISSING, () -> x.rounds());
        byRounds('b', 3, "0:abc", "1:abc", "2:bac", "3:bac", "4:cba");
        byRounds('a', 4, "0:abc", "1:bad");
        byRounds('a', 3, "0:abc", "1:abc", "2:cba", "3:cba", "4:bac");
        byRounds('d', 1, "0:dcb", "1:dab", "2:abc");
        // Half of the votes is not more than half: d leaves, then c, then b.
        byRounds('a', 4, "0:abc", "1:abd", "2:bac", "3:cba");
        // d leaves of four with one vote each, then b of a and b, then c of a and c.
        byRounds('a', 4, "0:dcb", "1:cdb", "2:bad", "3:abc");
    }

    private static void byRounds(char winner, int count, String... texts) {
        begin(24);
        cats(texts);
        due(winner, () -> x.roundsWinner());
        promise = 25;
        due(count, () -> x.rounds());
    }

    private static void strength(char one, char other, Object want) {
        promise = 26;
        due(want, () -> x.strengthOf(one, other));
        promise = 27;
        due(want, () -> x.strengthByTrying(one, other));
    }

    private static void strengths() {
        begin(26);
        strength('a', 'b', 0);
        strength('a', 'a', ARGUMENT);
        strength('a', 'e', ARGUMENT);
        strength('`', 'b', ARGUMENT);
        promise = 28;
        due(MISSING, () -> x.strengthWinner());
        cats("0:abc", "1:bca", "2:cab");
        strength('a', 'b', 2);
        strength('b', 'a', 2);
        strength('a', 'c', 2);
        strength('a', 'd', 3);
        strength('d', 'a', 0);
        promise = 28;
        due('a', () -> x.strengthWinner());
        begin(26);
        cats("0:abc", "1:bcd", "2:cda", "3:dab");
        strength('a', 'd', 3);
        strength('d', 'a', 3);
        strength('a', 'c', 3);
        strength('c', 'a', 3);
        // As many cats on both sides are no victory.
        begin(26);
        cats("0:abc", "1:bad");
        strength('a', 'b', 0);
        strength('b', 'a', 0);
        strength('c', 'd', 0);
        strength('a', 'c', 2);
        promise = 28;
        due('a', () -> x.strengthWinner());
        begin(28);
        cats("0:abc", "1:abc", "2:cba", "3:cba", "4:bac");
        due('b', () -> x.strengthWinner());
        strength('b', 'a', 3);
        strength('a', 'b', 0);
        begin(28);
        cats("0:dcb");
        due('d', () -> x.strengthWinner());
    }

    private static void dominance() {
        begin(29);
        due(false, () -> x.isDominant('a'));
        due(ARGUMENT, () -> x.isDominant('e'));
        due(ARGUMENT, () -> x.isDominant('`'));
        cats("0:dcb");
        due(true, () -> x.isDominant('d'));
        due(false, () -> x.isDominant('c'));
        cats("1:cda");
        due(false, () -> x.isDominant('d'));
        due(false, () -> x.isDominant('c'));
        cats("2:dab");
        due(true, () -> x.isDominant('d'));
        // Other cats each time are enough: b is preferred to a by the last three, and to c by the first three.
        begin(29);
        cats("0:abc", "1:abc", "2:cba", "3:cba", "4:bac");
        due(true, () -> x.isDominant('b'));
        due(false, () -> x.isDominant('a'));
    }

    private static void methods() {
        begin(30);
        due(ARGUMENT, () -> x.setMethod('x'));
        due(ARGUMENT, () -> x.setMethod('P'));
        due('p', () -> x.setMethod('r'));
        promise = 31;
        due('r', () -> x.method());
        promise = 30;
        due('r', () -> x.setMethod('s'));
        due('s', () -> x.setMethod('s'));
        due(ARGUMENT, () -> x.setMethod((char) 0));
        promise = 31;
        due('s', () -> x.method());
        promise = 30;
        due('s', () -> x.setMethod('p'));
        promise = 31;
        due('p', () -> x.method());
    }

    private static void deliberate() {
        begin(32);
        x.setMirror(0, '/');
        x.setMirror(1, '\\');
        due(REJECTED, () -> x.deliberate());
        due("4/2", () -> rejection());
        due(0, () -> x.deliberations());
        // b has the most points, but a is dominant.
        cats("0:abc", "2:abc", "3:bcd");
        due('-', () -> x.deliberate());
        x.setMethod('r');
        due('a', () -> x.deliberate());
        x.setMethod('s');
        due('a', () -> x.deliberate());
        due(3, () -> x.deliberations());
        // By rounds a wins, but b is dominant.
        begin(32);
        cats("0:abc", "1:abc", "2:cba", "3:cba", "4:bac");
        due('b', () -> x.deliberate());
        x.setMethod('r');
        due('-', () -> x.deliberate());
        x.setMethod('s');
        due('b', () -> x.deliberate());
        // By strengths a wins a circle, and none is dominant.
        begin(32);
        cats("0:abc", "1:bca", "2:cab");
        x.setMethod('s');
        due('-', () -> x.deliberate());
    }

    private static void retry() {
        begin(33);
        due(REJECTED, () -> x.retry());
        due("5/0", () -> rejection());
        cats("0:abc", "34:abc", "33:dcb");
        x.testify(0, 'd');
        x.testify(0, 'd');
        // The second cat has the ranking of its beginning again after two testimonies.
        x.testify(11, 'b');
        x.testify(11, 'a');
        due('a', () -> x.deliberate());
        due(REJECTED, () -> x.retry());
        due("5/1", () -> rejection());
        due("adbc", () -> ranking(0));
        x.setMirror(10, '/');
        due(1, () -> x.retry());
        due("abcd", () -> ranking(0));
        due("abcd", () -> ranking(1));
        due("dcba", () -> ranking(2));
        due(2, () -> x.heardBy(0));
        due(4, () -> x.testimonies());
        due(1, () -> x.retrials());
        due(REJECTED, () -> x.retry());
        x.testify(0, 'd');
        x.testify(11, 'c');
        x.testify(12, 'c');
        x.deliberate();
        x.setMirror(10, '.');
        due(2, () -> x.retry());
        due(2, () -> x.retrials());
        due(2, () -> x.deliberations());
    }

    private static void causes() {
        begin(34);
        due(false, () -> x.hasCause());
        cats("0:abc");
        x.setMirror(10, '/');
        due(false, () -> x.hasCause());
        x.deliberate();
        due(false, () -> x.hasCause());
        x.setMirror(10, '/');
        x.setMirror(11, '.');
        due(REJECTED, () -> x.setMirror(0, '/'));
        x.setMethod('r');
        x.testify(0, 'b');
        due(false, () -> x.hasCause());
        x.setMirror(10, '\\');
        due(true, () -> x.hasCause());
        // The content became different once, also if it is as before again.
        x.setMirror(10, '/');
        due(true, () -> x.hasCause());
        x.deliberate();
        due(false, () -> x.hasCause());
        cats("1:bac");
        due(true, () -> x.hasCause());
        x.retry();
        due(false, () -> x.hasCause());
        x.setMirror(10, '.');
        due(false, () -> x.hasCause());
        cats("10:abc", "11:bac");
        due(false, () -> x.hasCause());
        // Two against two: the jury is hung.
        due('-', () -> x.deliberate());
        due(true, () -> x.hasCause());
        x.retry();
        due(false, () -> x.hasCause());
        due('-', () -> x.deliberate());
        due('-', () -> x.deliberate());
        due(true, () -> x.hasCause());
        cats("12:abc");
        due('a', () -> x.deliberate());
        due(false, () -> x.hasCause());
        due(1, () -> run("mirror 20 /"));
        due(true, () -> x.hasCause());
    }

    private static void verdicts() {
        begin(36);
        due(MISSING, () -> x.verdictAt(0));
        cats("0:abc", "1:abc", "2:bcd");
        x.deliberate();
        x.setMethod('r');
        x.deliberate();
        due('a', () -> x.verdictAt(0));
        due('-', () -> x.verdictAt(1));
        due(MISSING, () -> x.verdictAt(2));
        due(MISSING, () -> x.verdictAt(-1));
        promise = 37;
        due(1, () -> x.hungCount());
        promise = 35;
        due(2, () -> x.deliberations());
        for (int i = 0; i < 8; i++) {
            x.deliberate();
        }
        promise = 36;
        due('-', () -> x.verdictAt(9));
        due(MISSING, () -> x.verdictAt(10));
        x.setMethod('p');
        x.deliberate();
        due('-', () -> x.verdictAt(0));
        due('a', () -> x.verdictAt(9));
        due(MISSING, () -> x.verdictAt(10));
        due(MISSING, () -> x.verdictAt(Integer.MAX_VALUE));
        promise = 35;
        due(11, () -> x.deliberations());
        promise = 37;
        due(2, () -> x.hungCount());
        x.undo();
        due(1, () -> x.hungCount());
        promise = 36;
        due('-', () -> x.verdictAt(9));
        promise = 38;
        due(0, () -> x.retrials());
        cats("3:abc");
        x.retry();
        due(1, () -> x.retrials());
        x.deliberate();
        cats("4:abc");
        x.retry();
        due(REJECTED, () -> x.retry());
        due(2, () -> x.retrials());
    }

    private static void hearing() {
        begin(39);
        due(0, () -> x.testimonies());
        promise = 40;
        due(MISSING, () -> x.catByHeard(0));
        cats("20:abc", "3:abc", "33:abc", "6:abc");
        due(1, () -> x.catByHeard(0));
        due(3, () -> x.catByHeard(1));
        due(0, () -> x.catByHeard(2));
        due(2, () -> x.catByHeard(3));
        due(MISSING, () -> x.catByHeard(4));
        due(MISSING, () -> x.catByHeard(-1));
        x.testify(13, 'a');
        x.testify(13, 'a');
        x.testify(9, 'a');
        due(REJECTED, () -> x.testify(0, 'a'));
        promise = 39;
        due(3, () -> x.testimonies());
        promise = 40;
        due(2, () -> x.catByHeard(0));
        due(0, () -> x.catByHeard(1));
        due(1, () -> x.catByHeard(2));
        due(3, () -> x.catByHeard(3));
    }

    private static void shares() {
        begin(41);
        due(ARITHMETIC, () -> x.meanHeard());
        promise = 42;
        due(ARITHMETIC, () -> x.hungShare());
        promise = 41;
        cats("0:abc", "1:abc", "2:bcd");
        due(0.0, () -> x.meanHeard());
        x.testify(0, 'a');
        x.testify(1, 'a');
        due(2.0 / 3.0, () -> x.meanHeard());
        x.testify(1, 'a');
        x.testify(1, 'a');
        due(4.0 / 3.0, () -> x.meanHeard());
        promise = 42;
        due(ARITHMETIC, () -> x.hungShare());
        x.deliberate();
        due(1.0f, () -> x.hungShare());
        x.setMethod('r');
        x.deliberate();
        due(0.5f, () -> x.hungShare());
        x.deliberate();
        due(1.0f / 3.0f, () -> x.hungShare());
    }

    private static void consistency() {
        begin(43);
        due(true, () -> x.isConsistent());
        x.setMirror(8, '/');
        x.setMirror(9, '\\');
        x.setMirror(15, '\\');
        x.setMirror(16, '/');
        x.setMirror(19, '/');
        due(true, () -> x.isConsistent());
        cats("0:abc", "1:bca", "7:cab", "30:dab", "13:abc", "3:dcb", "17:bda");
        x.testify(0, 'c');
        x.testify(3, 'c');
        due(true, () -> x.isConsistent());
        x.deliberate();
        x.setMirror(20, '/');
        x.retry();
        due(true, () -> x.isConsistent());
        for (int i = 0; i < 5; i++) {
            x.undo();
        }
        due(true, () -> x.isConsistent());
    }

    private static void writing() {
        begin(44);
        due(7, () -> x.writeRow(0));
        due(".......", () -> output(7));
        due(INDEX, () -> x.outputAt(7));
        cats("0:abc", "17:cab", "20:dcb");
        x.setMirror(14, '/');
        x.setMirror(18, '\\');
        due(7, () -> x.writeRow(2));
        due("/..1\\.2", () -> output(7));
        due(7, () -> x.writeRow(0));
        due("0......", () -> output(7));
        x.setMirror(34, '/');
        due(7, () -> x.writeRow(4));
        due("....../", () -> output(7));
        due(INDEX, () -> x.writeRow(-1));
        due(INDEX, () -> x.writeRow(5));
        due("....../", () -> output(7));
        promise = 45;
        due(9, () -> x.writeCat(1));
        due("1@17:cabd", () -> output(9));
        due(INDEX, () -> x.outputAt(9));
        due(8, () -> x.writeCat(0));
        due("0@0:abcd", () -> output(8));
        x.testify(3, 'b');
        x.testify(15, 'a');
        due(11, () -> x.writeCat(1));
        due("1@17:cabd+2", () -> output(11));
        for (int i = 0; i < 10; i++) {
            x.testify(9, 'b');
        }
        due(12, () -> x.writeCat(2));
        due("2@20:bdca+10", () -> output(12));
        due(INDEX, () -> x.writeCat(3));
        due(INDEX, () -> x.writeCat(-1));
        promise = 46;
        due(INDEX, () -> x.outputAt(-1));
    }

    private static void inputLimits() {
        begin(47);
        due(ARGUMENT, () -> x.appendInput((char) 31));
        due(ARGUMENT, () -> x.appendInput((char) 127));
        due(ARGUMENT, () -> x.appendInput((char) 0));
        due(ARGUMENT, () -> x.appendInput((char) 65535));
        for (int i = 1; i <= 60; i++) {
            char character = i % 2 == 0 ? ' ' : '~';
            due(i, () -> x.appendInput(character));
        }
        due(STATE, () -> x.appendInput('a'));
        due(ARGUMENT, () -> x.appendInput((char) 127));
        due(STATE, () -> x.appendInput('a'));
        due(ARGUMENT, () -> x.execute());
        due(1, () -> x.appendInput('a'));
        // Undo and the snapshot leave the input.
        x.saveSnapshot();
        x.setMethod('r');
        x.undo();
        x.restoreSnapshot();
        due(2, () -> x.appendInput('b'));
    }

    private static void execute() {
        begin(48);
        due(1, () -> run("cat 5 dca"));
        due(5, () -> x.cellOf(0));
        due("dcab", () -> ranking(0));
        due(REJECTED, () -> run("cat 05 abc;vote"));
        due("6/0", () -> rejection());
        due(2, () -> run("cat 09 abc;mirror 34 \\"));
        due(9, () -> x.cellOf(1));
        due('\\', () -> x.contentOf(34));
        due(3, () -> run("mirror 33 /;mirror 34 .;mirror 0 /"));
        due('/', () -> x.contentOf(33));
        due('.', () -> x.contentOf(34));
        due(1, () -> run("say 5 b"));
        due("dcba", () -> ranking(0));
        due(1, () -> run("say 05 b"));
        due("dbca", () -> ranking(0));
        due(1, () -> run("method r"));
        due('r', () -> x.method());
        due(1, () -> run("method s"));
        due('s', () -> x.method());
        due(3, () -> run("method p;vote;retry"));
        due('p', () -> x.method());
        due('-', () -> x.verdictAt(0));
        due(1, () -> x.retrials());
        due("dcab", () -> ranking(0));
        due(1, () -> x.appendInput('v'));
        due(1, () -> run("ote"));
        due(2, () -> x.deliberations());
        // Twelve commands fill the input: 12 times 4 characters and 11 between them.
        begin(48);
        cats("0:abc");
        due(12, () -> run("vote;vote;vote;vote;vote;vote;vote;vote;vote;vote;vote;vote"));
        due(12, () -> x.deliberations());
        due(1, () -> x.undo());
        due(0, () -> x.deliberations());
    }

    private static void executeAllOrNone() {
        begin(48);
        cats("0:abc", "1:bca");
        x.setMirror(20, '/');
        // Wrong arguments of a method are no rejection.
        for (String text : new String[] {"cat 35 abc", "cat 99 abc", "cat 5 aab", "cat 5 aba", "mirror 35 /",
                "say 24 a", "cat 0 abb", "cat 35 aaa", "cat 5 abc;vote;say 99 a"}) {
            due(STATE, () -> run(text));
            due(2, () -> x.catCount());
            due(0, () -> x.deliberations());
            due(MISSING, () -> x.rejectionReason());
        }
        // The first command that fails decides.
        due(STATE, () -> run("vote;say 24 a;cat 0 abc"));
        due(REJECTED, () -> run("vote;cat 0 abc;say 24 a"));
        due("6/1", () -> rejection());
        promise = 52;
        due(2, () -> x.causeReason());
        promise = 48;
        due(REJECTED, () -> run("method r;mirror 5 /;say 0 d;cat 6 abc;vote;mirror 1 ."));
        due("6/5", () -> rejection());
        due('p', () -> x.method());
        due('.', () -> x.contentOf(5));
        due("abcd", () -> ranking(0));
        due(0, () -> x.heardBy(0));
        due(0, () -> x.testimonies());
        due(2, () -> x.catCount());
        due(0, () -> x.deliberations());
        due(MISSING, () -> x.verdictAt(0));
        due(false, () -> x.hasCause());
        due(REJECTED, () -> run("say 6 d"));
        due("6/0", () -> rejection());
        due(3, () -> x.causeReason());
        due(REJECTED, () -> run("retry"));
        due(5, () -> x.causeReason());
        due(REJECTED, () -> run("vote;retry;retry"));
        due("6/2", () -> rejection());
        due(5, () -> x.causeReason());
        due(0, () -> x.retrials());
        due(5, () -> run("cat 2 abc;cat 3 abc;cat 4 abc;cat 5 abc;cat 6 abc"));
        due(REJECTED, () -> run("cat 7 abc"));
        due(1, () -> x.causeReason());
        // A failed call takes none of the changes that can be undone.
        begin(48);
        for (int i = 0; i < 9; i++) {
            x.setMirror(i, '/');
        }
        due(REJECTED, () -> run("mirror 9 /;vote"));
        due(4, () -> x.causeReason());
        due(STATE, () -> run("mirror 9 /;cat 35 abc"));
        due(ARGUMENT, () -> run("mirror 9 /;"));
        for (int i = 7; i >= 0; i--) {
            due(i, () -> x.undo());
        }
        due('/', () -> x.contentOf(0));
        due('.', () -> x.contentOf(1));
    }

    private static void wrongAt(int offset, String text) {
        promise = 48;
        due(ARGUMENT, () -> run(text));
        promise = 49;
        due(offset, () -> x.syntaxErrorOffset());
        promise = 48;
        due(1, () -> x.appendInput('v'));
        due(ARGUMENT, () -> x.execute());
    }

    private static void syntaxErrors() {
        begin(48);
        cats("0:abc");
        wrongAt(0, "");
        wrongAt(0, " ");
        wrongAt(0, ";");
        wrongAt(0, "Vote");
        wrongAt(0, "dog 1 abc");
        wrongAt(1, "v");
        wrongAt(3, "vot");
        wrongAt(1, "vite");
        wrongAt(4, "vote ");
        wrongAt(4, "votes");
        wrongAt(5, "vote;");
        wrongAt(5, "vote;;vote");
        wrongAt(5, "vote; vote");
        wrongAt(4, "vote vote");
        wrongAt(4, "retr");
        wrongAt(5, "retry1");
        wrongAt(1, "m");
        wrongAt(1, "mote");
        wrongAt(2, "me");
        wrongAt(2, "mitror");
        wrongAt(5, "methot p");
        wrongAt(6, "method");
        wrongAt(7, "method ");
        wrongAt(7, "method q");
        wrongAt(8, "method pr");
        wrongAt(6, "mirror");
        wrongAt(7, "mirror /");
        wrongAt(9, "mirror 12/");
        wrongAt(10, "mirror 12 ");
        wrongAt(10, "mirror 12 c");
        wrongAt(11, "mirror 12 /.");
        wrongAt(9, "mirror 123 /");
        wrongAt(3, "cat");
        wrongAt(3, "cats");
        wrongAt(4, "cat ");
        wrongAt(4, "cat a");
        wrongAt(4, "cat  5 abc");
        wrongAt(4, "cat -5 abc");
        wrongAt(5, "cat 5");
        wrongAt(5, "cat 5;");
    }

    private static void syntaxErrorOffset() {
        begin(49);
        due(MISSING, () -> x.syntaxErrorOffset());
        wrongAt(6, "cat 5 ");
        wrongAt(6, "cat 5 eab");
        wrongAt(7, "cat 5 a");
        wrongAt(7, "cat 5 a b");
        wrongAt(8, "cat 5 ab;");
        wrongAt(9, "cat 5 abcd");
        wrongAt(9, "cat 5 abc ;vote");
        wrongAt(1, "s");
        wrongAt(2, "sai");
        wrongAt(4, "say a");
        wrongAt(6, "say 23");
        wrongAt(6, "say 230 a");
        wrongAt(7, "say 23 ");
        wrongAt(7, "say 23 e");
        wrongAt(8, "say 23 aa");
        wrongAt(12, "cat 35 abc;vxte");
        wrongAt(15, "cat 5 aab;vote;");
        x = new MirrorJury();
        // A syntax error behind commands that could be executed: none of them is.
        due(ARGUMENT, () -> run("cat 5 abc;vote;x"));
        due(15, () -> x.syntaxErrorOffset());
        due(0, () -> x.catCount());
        due(2, () -> run("cat 5 abc;vote"));
        due(REJECTED, () -> run("cat 5 abc"));
        due(STATE, () -> run("cat 55 abc"));
        due(15, () -> x.syntaxErrorOffset());
        x.undo();
        due(15, () -> x.syntaxErrorOffset());
        due(ARGUMENT, () -> run("vote;"));
        due(5, () -> x.syntaxErrorOffset());
        due("6/0", () -> rejection());
        // An input of 60 characters ends too early like any other one.
        due(ARGUMENT, () -> run("vote;vote;vote;vote;vote;vote;vote;vote;vote;vote;vote;metho"));
        due(60, () -> x.syntaxErrorOffset());
    }

    private static void rejections() {
        begin(50);
        due(MISSING, () -> x.rejectionReason());
        promise = 51;
        due(MISSING, () -> x.rejectionDetail());
        promise = 52;
        due(MISSING, () -> x.causeReason());
        due(REJECTED, () -> x.deliberate());
        due(MISSING, () -> x.causeReason());
        promise = 50;
        due(4, () -> x.rejectionReason());
        promise = 51;
        due(0, () -> x.rejectionDetail());
        due(REJECTED, () -> run("method r;vote"));
        due(1, () -> x.rejectionDetail());
        promise = 50;
        due(6, () -> x.rejectionReason());
        promise = 52;
        due(4, () -> x.causeReason());
        // Other exceptions and calls that go well leave the latest rejection.
        promise = 50;
        answer(() -> x.addCat(35, 'a', 'b', 'c'));
        answer(() -> x.rayCat(0));
        answer(() -> x.undo());
        run("say 99 a");
        run("?");
        cats("0:abc");
        x.saveSnapshot();
        x.undo();
        x.restoreSnapshot();
        due("6/1", () -> rejection());
        promise = 52;
        due(4, () -> x.causeReason());
        due(REJECTED, () -> x.testify(6, 'a'));
        due(MISSING, () -> x.causeReason());
        promise = 50;
        due("3/12", () -> rejection());
        due(REJECTED, () -> x.retry());
        due("5/0", () -> rejection());
        due(REJECTED, () -> x.addCat(0, 'a', 'b', 'c'));
        due("2/0", () -> rejection());
    }

    private static void undo() {
        begin(53);
        due(STATE, () -> x.undo());
        for (int i = 0; i < 10; i++) {
            x.setMirror(i, '/');
        }
        for (int i = 7; i >= 0; i--) {
            due(i, () -> x.undo());
        }
        due(STATE, () -> x.undo());
        due('/', () -> x.contentOf(1));
        due('.', () -> x.contentOf(2));
        // A change counts also if nothing is different after it.
        x.setMirror(0, '/');
        x.setMethod('p');
        due(1, () -> x.undo());
        due(0, () -> x.undo());
        // Calls that throw, and calls that tell something, are no changes.
        x.setMethod('r');
        answer(() -> x.setMirror(35, '/'));
        answer(() -> x.deliberate());
        answer(() -> x.retry());
        answer(() -> x.testify(6, 'a'));
        answer(() -> x.setMethod('x'));
        run("?");
        run("retry");
        x.appendInput('v');
        x.writeRow(0);
        x.saveSnapshot();
        x.isConsistent();
        due(0, () -> x.undo());
        due('p', () -> x.method());
        due("//.....", () -> output(7));
        due(2, () -> x.appendInput('o'));
    }

    private static void undoAndRest() {
        begin(53);
        cats("0:abc", "1:bca");
        x.testify(0, 'd');
        x.setMethod('s');
        x.deliberate();
        x.retry();
        due(3, () -> run("method r;say 1 c;vote"));
        due('-', () -> x.verdictAt(0));
        due(2, () -> x.deliberations());
        due(6, () -> x.undo());
        due('s', () -> x.method());
        due("bcad", () -> ranking(1));
        due(0, () -> x.heardBy(1));
        due(1, () -> x.testimonies());
        due(1, () -> x.deliberations());
        due(false, () -> x.hasCause());
        due("abcd", () -> ranking(0));
        due(5, () -> x.undo());
        due(0, () -> x.retrials());
        due("abdc", () -> ranking(0));
        due(true, () -> x.hasCause());
        due(4, () -> x.undo());
        due(0, () -> x.deliberations());
        due(0, () -> x.hungCount());
        due(MISSING, () -> x.verdictAt(0));
        due(false, () -> x.hasCause());
        due(3, () -> x.undo());
        due('p', () -> x.method());
        due(2, () -> x.undo());
        due("abcd", () -> ranking(0));
        due(0, () -> x.testimonies());
        due(1, () -> x.undo());
        due(1, () -> x.catCount());
        due('.', () -> x.contentOf(1));
        due(MISSING, () -> x.catIn(1));
        // What comes after an undo can be undone as well.
        due(1, () -> x.addCat(1, 'd', 'c', 'b'));
        due("dcba", () -> ranking(1));
        due(1, () -> x.undo());
        due(0, () -> x.undo());
        due(0, () -> x.catCount());
        due(STATE, () -> x.undo());
        // A mirror that gave way to a cat comes back.
        x.setMirror(3, '\\');
        cats("3:abc");
        x.undo();
        due('\\', () -> x.contentOf(3));
    }

    private static void snapshots() {
        begin(55);
        due(STATE, () -> x.restoreSnapshot());
        promise = 54;
        due(0, () -> x.saveSnapshot());
        cats("0:abc", "1:bca");
        x.setMirror(5, '/');
        x.testify(0, 'd');
        x.setMethod('s');
        x.deliberate();
        due(2, () -> x.saveSnapshot());
        x.retry();
        cats("5:dcb");
        x.setMethod('r');
        x.testify(1, 'a');
        promise = 55;
        due(2, () -> x.restoreSnapshot());
        due(STATE, () -> x.undo());
        due(2, () -> x.catCount());
        due('/', () -> x.contentOf(5));
        due("abdc", () -> ranking(0));
        due("bcad", () -> ranking(1));
        due('s', () -> x.method());
        due(1, () -> x.testimonies());
        due(0, () -> x.heardBy(1));
        due(0, () -> x.retrials());
        due(1, () -> x.deliberations());
        due(1, () -> x.hungCount());
        due('-', () -> x.verdictAt(0));
        due(true, () -> x.hasCause());
        // The retrial gives back the rankings of the beginning, which the snapshot has too.
        due(1, () -> x.retry());
        due("abcd", () -> ranking(0));
        cats("6:abc");
        due(1, () -> x.undo());
        // The snapshot is kept, and what changes after it does not change it; undo leaves it.
        due(2, () -> x.restoreSnapshot());
        due("abdc", () -> ranking(0));
        cats("6:abc");
        promise = 54;
        due(3, () -> x.saveSnapshot());
        due(0, () -> x.undo());
        due(2, () -> x.catCount());
        promise = 55;
        due(3, () -> x.restoreSnapshot());
        due(6, () -> x.cellOf(2));
    }
}
