import java.util.ArrayDeque;
import java.util.ArrayList;
import java.util.Deque;
import java.util.HashSet;
import java.util.List;
import java.util.Set;

/**
 * Small worlds of the document in full, not drawn: all votes of a few cats, all boxes with a few things in them, all
 * beginnings of a command with each character behind them, and all short runs of changes, undo and snapshots. What is
 * due is found here from the words of the document, by ways that the class does not go.
 *
 * Arguments, for a longer run by hand: the most cats of a vote (up to 7), the most things in a box, the length of the
 * runs of changes. No object makes more than 512 calls.
 */
public final class ExhaustiveTest {
    private static final char[] OPTIONS = {'a', 'b', 'c', 'd'};
    private static final String[] RANKINGS = rankings();
    private static int wrong = 0;
    private static long objects = 0;
    private static MirrorJury reader = made();
    private static int callsOfReader = 0;

    private interface Call {
        Object get();
    }

    public static void main(String[] args) {
        int mostCats = args.length > 0 ? Integer.parseInt(args[0]) : 4;
        int mostThings = args.length > 1 ? Integer.parseInt(args[1]) : 2;
        int runLength = args.length > 2 ? Integer.parseInt(args[2]) : 5;
        votes(new int[mostCats], 0, 0);
        boxes(new char[35], 0, mostThings);
        offsets();
        histories(runLength);
        System.out.println(wrong == 0 ? "ExhaustiveTest: " + objects + " objects answer as due"
                : "ExhaustiveTest: " + wrong + " wrong");
        if (wrong != 0) {
            System.exit(1);
        }
    }

    private static void due(Object want, Object got, Call about) {
        if (!want.equals(got)) {
            wrong++;
            if (wrong <= 20) {
                System.out.println(about.get() + " answered " + got + ", due is " + want);
            }
        }
    }

    private static MirrorJury made() {
        objects++;
        return new MirrorJury();
    }

    private static String answer(Call call) {
        try {
            return String.valueOf(call.get());
        } catch (RuntimeException e) {
            return "throws." + e.getClass().getSimpleName();
        }
    }

    // ---- votes: each choice of rankings, as the order of the cats does not matter

    private static String[] rankings() {
        List<String> all = new ArrayList<>();
        for (char one : OPTIONS) {
            for (char two : OPTIONS) {
                for (char three : OPTIONS) {
                    for (char four : OPTIONS) {
                        String ranking = "" + one + two + three + four;
                        if (ranking.chars().distinct().count() == 4) {
                            all.add(ranking);
                        }
                    }
                }
            }
        }
        return all.toArray(new String[0]);
    }

    private static void votes(int[] chosen, int count, int from) {
        oneVote(chosen, count);
        if (count < chosen.length) {
            for (int i = from; i < RANKINGS.length; i++) {
                chosen[count] = i;
                votes(chosen, count + 1, i);
            }
        }
    }

    private static void oneVote(int[] chosen, int count) {
        MirrorJury x = made();
        String[] cats = new String[count];
        int[][] preferring = new int[4][4];
        for (int i = 0; i < count; i++) {
            cats[i] = RANKINGS[chosen[i]];
            x.addCat(i, cats[i].charAt(0), cats[i].charAt(1), cats[i].charAt(2));
            for (int high = 0; high < 4; high++) {
                for (int low = high + 1; low < 4; low++) {
                    preferring[cats[i].charAt(high) - 'a'][cats[i].charAt(low) - 'a']++;
                }
            }
        }
        int[][] strength = strengths(preferring);
        int[] points = new int[4];
        boolean[] dominant = new boolean[4];
        for (int one = 0; one < 4; one++) {
            dominant[one] = true;
            for (int other = 0; other < 4; other++) {
                // A cat gives a point for each option that it likes less.
                points[one] += preferring[one][other];
                dominant[one] &= one == other || preferring[one][other] > count - preferring[one][other];
            }
        }
        compareNumbers(x, cats, preferring, strength, points, dominant);
        compareWinners(x, cats, strength, points, dominant);
    }

    /** Each chain from an option to another one, written out: by none, one or both of the two others. */
    private static int[][] strengths(int[][] p) {
        int[][] greatest = new int[4][4];
        for (int one = 0; one < 4; one++) {
            for (int other = 0; other < 4; other++) {
                int best = victory(p, one, other);
                for (int by = 0; by < 4; by++) {
                    for (int then = 0; then < 4; then++) {
                        if (by != one && by != other && then != one && then != other) {
                            int chain = Math.min(victory(p, one, by), victory(p, then, other));
                            best = Math.max(best, by == then ? chain : Math.min(chain, victory(p, by, then)));
                        }
                    }
                }
                greatest[one][other] = best;
            }
        }
        return greatest;
    }

    private static int victory(int[][] preferring, int one, int other) {
        return preferring[one][other] > preferring[other][one] ? preferring[one][other] : 0;
    }

    private static void compareNumbers(MirrorJury x, String[] cats, int[][] preferring, int[][] strength, int[] points,
            boolean[] dominant) {
        for (int i = 0; i < 4; i++) {
            char one = OPTIONS[i];
            int first = 0;
            for (String cat : cats) {
                first += cat.charAt(0) == one ? 1 : 0;
            }
            due(first, x.firstVotes(one), () -> List.of(cats) + " firstVotes " + one);
            due(points[i], x.pointsOf(one), () -> List.of(cats) + " pointsOf " + one);
            due(dominant[i], x.isDominant(one), () -> List.of(cats) + " isDominant " + one);
            for (int j = 0; j < 4; j++) {
                char other = OPTIONS[j];
                if (i != j) {
                    due(preferring[i][j], x.prefer(one, other), () -> List.of(cats) + " prefer " + one + other);
                    due(strength[i][j], x.strengthOf(one, other),
                            () -> List.of(cats) + " strengthOf " + one + other);
                    due(strength[i][j], x.strengthByTrying(one, other),
                            () -> List.of(cats) + " strengthByTrying " + one + other);
                }
            }
        }
        due(true, x.isConsistent(), () -> List.of(cats) + " isConsistent");
    }

    private static void compareWinners(MirrorJury x, String[] cats, int[][] strength, int[] points,
            boolean[] dominant) {
        if (cats.length == 0) {
            for (String got : List.of(answer(() -> x.pointsWinner()), answer(() -> x.roundsWinner()),
                    answer(() -> x.rounds()), answer(() -> x.strengthWinner()))) {
                due("throws.NoSuchElementException", got, () -> "a winner without cats");
            }
            due("throws.UnsupportedOperationException", answer(() -> x.deliberate()), () -> "no cats");
            return;
        }
        char byPoints = 'd';
        char byStrengths = 'd';
        for (int i = 3; i >= 0; i--) {
            boolean hasMost = true;
            boolean holds = true;
            for (int j = 0; j < 4; j++) {
                hasMost &= points[i] >= points[j];
                holds &= strength[i][j] >= strength[j][i];
            }
            byPoints = hasMost ? OPTIONS[i] : byPoints;
            byStrengths = holds ? OPTIONS[i] : byStrengths;
        }
        String rounds = byRounds(cats);
        due(byPoints, x.pointsWinner(), () -> List.of(cats) + " pointsWinner");
        due(byStrengths, x.strengthWinner(), () -> List.of(cats) + " strengthWinner");
        due(rounds, "" + x.roundsWinner() + x.rounds(), () -> List.of(cats) + " roundsWinner, rounds");
        verdict(x, cats, 'p', byPoints, dominant);
        verdict(x, cats, 's', byStrengths, dominant);
        verdict(x, cats, 'r', rounds.charAt(0), dominant);
    }

    private static void verdict(MirrorJury x, String[] cats, char method, char winner, boolean[] dominant) {
        x.setMethod(method);
        char due = dominant[winner - 'a'] ? winner : '-';
        due(due, x.deliberate(), () -> List.of(cats) + " deliberate " + method);
        due(due == '-', x.hasCause(), () -> List.of(cats) + " hasCause " + method);
    }

    /** The winner and the number of rounds; an option that leaves is struck from each ranking. */
    private static String byRounds(String[] cats) {
        String[] left = cats.clone();
        for (int round = 1;; round++) {
            int[] votes = new int[4];
            for (String cat : left) {
                votes[cat.charAt(0) - 'a']++;
            }
            char leaves = 0;
            for (char option : OPTIONS) {
                if (votes[option - 'a'] > cats.length - votes[option - 'a']) {
                    return "" + option + round;
                }
                boolean isLeft = left[0].indexOf(option) >= 0;
                if (isLeft && (leaves == 0 || votes[option - 'a'] <= votes[leaves - 'a'])) {
                    leaves = option;
                }
            }
            for (int i = 0; i < left.length; i++) {
                left[i] = left[i].replace("" + leaves, "");
            }
        }
    }

    // ---- boxes: each choice of a few cells, each with each kind of mirror or a cat

    private static void boxes(char[] box, int from, int more) {
        oneBox(box);
        for (int cell = from; cell < 35 && more > 0; cell++) {
            for (char thing : new char[] {'/', '\\', 'c'}) {
                box[cell] = thing;
                boxes(box, cell + 1, more - 1);
                box[cell] = 0;
            }
        }
    }

    private static void oneBox(char[] box) {
        MirrorJury x = made();
        int[] catIn = new int[35];
        int cats = 0;
        for (int cell = 0; cell < 35; cell++) {
            if (box[cell] == 'c') {
                catIn[cell] = cats++;
                x.addCat(cell, 'a', 'b', 'c');
            } else if (box[cell] != 0) {
                x.setMirror(cell, box[cell]);
            }
        }
        int[] lengths = new int[24];
        for (int port = 0; port < 24; port++) {
            lengths[port] = oneRay(x, box, catIn, port);
            for (int cell = 0; cell < 35; cell++) {
                if (box[cell] == 'c') {
                    oneCourse(x, box, catIn[cell], cell, port);
                }
            }
        }
        // The number of ports ahead of each, in place of an order.
        int[] rank = new int[24];
        for (int one = 0; one < 24; one++) {
            for (int other = 0; other < one; other++) {
                rank[lengths[one] > lengths[other] ? other : one]++;
            }
        }
        for (int i = 0; i < 24; i++) {
            int port = i;
            due(port, x.portByLength(rank[port]), () -> tell(box) + " portByLength " + rank[port]);
        }
    }

    private static String tell(char[] box) {
        StringBuilder text = new StringBuilder();
        for (char content : box) {
            text.append(content == 0 ? '.' : content);
        }
        return text.toString();
    }

    /** The place in a frame of 9 columns round the box, where the ports are at the cells of the frame. */
    private static int placeOf(int port) {
        if (port < 7) {
            return 1 + port;
        }
        if (port < 12) {
            return 9 * (port - 6) + 8;
        }
        return port < 19 ? 54 + 19 - port : 9 * (24 - port);
    }

    private static int stepOf(int port) {
        return port < 7 ? 9 : port < 12 ? -1 : port < 19 ? -9 : 1;
    }

    private static boolean isInside(int place) {
        return place > 9 && place < 54 && place % 9 > 0 && place % 9 < 8;
    }

    private static int cellOf(int place) {
        return 7 * (place / 9 - 1) + place % 9 - 1;
    }

    private static int lit(char content, int step) {
        switch (content) {
            case '/':
                return step == 1 ? -9 : step == -9 ? 1 : step == -1 ? 9 : -1;
            case '\\':
                return step == 1 ? 9 : step == 9 ? 1 : step == -1 ? -9 : -1;
            default:
                return step;
        }
    }

    private static int oneRay(MirrorJury x, char[] box, int[] catIn, int port) {
        int step = stepOf(port);
        int place = placeOf(port) + step;
        int length = 0;
        int bounces = 0;
        String cat = "throws.NoSuchElementException";
        String end = "throws.NoSuchElementException";
        while (isInside(place)) {
            length++;
            char content = box[cellOf(place)];
            if (content == 'c') {
                cat = "" + catIn[cellOf(place)];
                break;
            }
            bounces += content == 0 ? 0 : 1;
            step = lit(content, step);
            place += step;
        }
        for (int other = 0; other < 24; other++) {
            if (placeOf(other) == place) {
                end = "" + other;
            }
        }
        due(end, answer(() -> x.rayEnd(port)), () -> tell(box) + " rayEnd " + port);
        due(end, answer(() -> x.rayEndByJoining(port)), () -> tell(box) + " rayEndByJoining " + port);
        due(cat, answer(() -> x.rayCat(port)), () -> tell(box) + " rayCat " + port);
        due(length, x.rayLength(port), () -> tell(box) + " rayLength " + port);
        due(bounces, x.rayBounces(port), () -> tell(box) + " rayBounces " + port);
        return length;
    }

    /** Effort by effort, all that can be reached with it; the cells of cats end a course. */
    private static void oneCourse(MirrorJury x, char[] box, int cat, int goal, int port) {
        boolean[][] reached = new boolean[63][19];
        Deque<int[]> now = new ArrayDeque<>();
        Deque<int[]> later = new ArrayDeque<>();
        String found = "throws.NoSuchElementException";
        now.add(new int[] {placeOf(port) + stepOf(port), stepOf(port)});
        search:
        for (int effort = 0; !now.isEmpty(); effort++) {
            while (!now.isEmpty()) {
                int[] at = now.removeLast();
                if (!isInside(at[0]) || reached[at[0]][at[1] + 9]) {
                    continue;
                }
                reached[at[0]][at[1] + 9] = true;
                char content = box[cellOf(at[0])];
                if (cellOf(at[0]) == goal) {
                    found = "" + effort;
                    break search;
                }
                for (int step : new int[] {1, 9, -1, -9}) {
                    if (content != 'c' && step != -at[1]) {
                        (step == lit(content, at[1]) ? now : later).add(new int[] {at[0] + step, step});
                    }
                }
            }
            now.addAll(later);
            later.clear();
        }
        due(found, answer(() -> x.leastEffort(port, cat)), () -> tell(box) + " leastEffort " + port + " " + cat);
        due(found, answer(() -> x.leastEffortByRounds(port, cat)),
                () -> tell(box) + " leastEffortByRounds " + port + " " + cat);
    }

    // ---- offsets: each beginning of a command, with each character behind it

    private static void offsets() {
        Set<String> commands = commands();
        Set<String> beginnings = new HashSet<>();
        for (String command : commands) {
            for (int length = 0; length <= command.length(); length++) {
                beginnings.add(command.substring(0, length));
            }
        }
        for (String beginning : beginnings) {
            String ahead = beginning.hashCode() % 2 == 0 ? "" : "vote;";
            oneOffset(ahead + beginning, commands.contains(beginning) ? -1 : ahead.length() + beginning.length());
            for (char sign = 32; sign < 127; sign++) {
                String text = beginning + sign;
                boolean goesOn = beginnings.contains(text) || sign == ';' && commands.contains(beginning);
                if (!goesOn) {
                    oneOffset(ahead + text, ahead.length() + beginning.length());
                }
            }
        }
    }

    private static Set<String> commands() {
        Set<String> all = new HashSet<>(List.of("vote", "retry", "method p", "method r", "method s"));
        for (int i = 0; i < 110; i++) {
            String number = i < 100 ? "" + i / 10 + i % 10 : "" + i % 10;
            for (char one : OPTIONS) {
                all.add("say " + number + " " + one);
                for (char two : OPTIONS) {
                    for (char three : OPTIONS) {
                        all.add("cat " + number + " " + one + two + three);
                    }
                }
            }
            for (char content : new char[] {'/', '\\', '.'}) {
                all.add("mirror " + number + " " + content);
            }
        }
        return all;
    }

    private static void oneOffset(String text, int offset) {
        if (callsOfReader > 480) {
            reader = made();
            callsOfReader = 0;
        }
        callsOfReader += text.length() + 2;
        String got = run(reader, text);
        if (offset < 0) {
            due(false, got.equals("throws.IllegalArgumentException"), () -> text + " syntax error");
        } else {
            due("throws.IllegalArgumentException", got, () -> text);
            due(offset, reader.syntaxErrorOffset(), () -> text + " syntaxErrorOffset");
        }
    }

    // ---- histories: each short run of changes, undo and snapshots, behind none, seven and ten changes

    private static void histories(int length) {
        int runs = 1;
        for (int i = 0; i < length; i++) {
            runs *= STEPS.length;
        }
        for (int run = 0; run < runs; run++) {
            for (int ahead : new int[] {0, 7, 10}) {
                oneHistory(run, length, ahead);
            }
        }
    }

    private static final String[] STEPS = {"method", "mirror", "commands", "rejected", "failing", "undo", "save",
            "restore"};

    private static void oneHistory(int run, int length, int ahead) {
        MirrorJury x = made();
        List<String> past = new ArrayList<>();
        // The method, the mirrors of the first row, and the latest snapshot.
        String[] now = {"p.......", null};
        for (int i = 0; i < ahead; i++) {
            dueOfStep("mirror", i, past, now);
            callOfStep(x, "mirror", i);
        }
        StringBuilder told = new StringBuilder("after " + ahead + " changes");
        int rest = run;
        for (int i = 0; i < length; i++) {
            String step = STEPS[rest % STEPS.length];
            rest /= STEPS.length;
            told.append(", ").append(step);
            String want = dueOfStep(step, ahead + i, past, now);
            String got = callOfStep(x, step, ahead + i);
            due(want, got, () -> told);
        }
        x.writeRow(0);
        StringBuilder seen = new StringBuilder().append(x.method());
        for (int i = 0; i < 7; i++) {
            seen.append(x.outputAt(i));
        }
        due(now[0], seen.toString(), () -> told);
    }

    private static char mirrorOf(int number) {
        return number % 3 == 0 ? '/' : number % 3 == 1 ? '\\' : '.';
    }

    private static String withMirror(String state, int cell, char content) {
        return state.substring(0, 1 + cell) + content + state.substring(2 + cell);
    }

    private static void change(String next, List<String> past, String[] now) {
        past.add(now[0]);
        if (past.size() > 8) {
            past.remove(0);
        }
        now[0] = next;
    }

    private static String dueOfStep(String step, int number, List<String> past, String[] now) {
        String before = now[0];
        switch (step) {
            case "method":
                change("prs".charAt(number % 3) + before.substring(1), past, now);
                return before.substring(0, 1);
            case "mirror":
                change(withMirror(before, number % 7, mirrorOf(number)), past, now);
                return "" + now[0].substring(1).replace(".", "").length();
            case "commands":
                change(withMirror("r" + before.substring(1), 6, '\\'), past, now);
                return "2";
            case "rejected":
                return "throws.UnsupportedOperationException";
            case "failing":
                return "throws.IllegalStateException";
            case "undo":
                if (past.isEmpty()) {
                    return "throws.IllegalStateException";
                }
                now[0] = past.remove(past.size() - 1);
                return "" + past.size();
            case "save":
                now[1] = now[0];
                return "0";
            default:
                if (now[1] == null) {
                    return "throws.IllegalStateException";
                }
                now[0] = now[1];
                past.clear();
                return "0";
        }
    }

    private static String callOfStep(MirrorJury x, String step, int number) {
        switch (step) {
            case "method":
                return answer(() -> x.setMethod("prs".charAt(number % 3)));
            case "mirror":
                return answer(() -> x.setMirror(number % 7, mirrorOf(number)));
            case "commands":
                return run(x, "mirror 6 \\;method r");
            case "rejected":
                return run(x, "mirror 6 /;vote");
            case "failing":
                return run(x, "mirror 6 /;say 24 a");
            case "undo":
                return answer(() -> x.undo());
            case "save":
                return answer(() -> x.saveSnapshot());
            default:
                return answer(() -> x.restoreSnapshot());
        }
    }

    private static String run(MirrorJury x, String text) {
        for (int i = 0; i < text.length(); i++) {
            x.appendInput(text.charAt(i));
        }
        return answer(() -> x.execute());
    }
}
