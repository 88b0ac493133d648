import java.util.ArrayList;
import java.util.Arrays;
import java.util.HashMap;
import java.util.List;
import java.util.Map;
import java.util.NoSuchElementException;
import java.util.PriorityQueue;
import java.util.function.Function;
import java.util.regex.Matcher;
import java.util.regex.Pattern;

/**
 * Long runs of calls on the class and on a model that is written another way. The calls are drawn by a fixed sequence
 * of numbers, so that every run of the test makes the same ones.
 */
public final class ModelTest {
    private static final int RUNS = 1500;
    private static final int CALLS = 512;

    private static int wrong = 0;
    private static long drawn = 20261119L;

    private static int draw(int bound) {
        drawn = drawn * 6364136223846793005L + 1442695040888963407L;
        return (int) ((drawn >>> 33) % bound);
    }

    /** The part of the face that a run calls, for the class and for the model. */
    private interface Jury {
        Object call(String name, int[] n);
    }

    public static void main(String[] args) {
        Map<String, Integer> answers = new HashMap<>();
        for (int run = 0; run < RUNS && wrong < 10; run++) {
            oneRun(run, answers);
        }
        for (String name : NAMES) {
            if (!answers.containsKey(name)) {
                wrong++;
                System.out.println("never called: " + name);
            }
        }
        System.out.println(wrong == 0 ? "ModelTest: all answers are as due" : "ModelTest: " + wrong + " wrong");
        if (wrong != 0) {
            System.exit(1);
        }
    }

    private static void oneRun(int run, Map<String, Integer> answers) {
        MirrorJury real = new MirrorJury();
        Model model = new Model();
        List<String> log = new ArrayList<>();
        String pending = "";
        int busy = draw(4);
        for (int call = 0; call < CALLS; call++) {
            String name;
            int[] n;
            if (!pending.isEmpty()) {
                name = "appendInput";
                n = new int[] {pending.charAt(0)};
                pending = pending.substring(1);
                if (pending.isEmpty()) {
                    pending = null;
                }
            } else if (draw(12) == 0) {
                pending = drawInput();
                continue;
            } else {
                name = drawName(busy);
                n = drawArguments(model);
            }
            if (pending == null) {
                pending = "";
                compare(run, log, answers, real, model, name, n);
                name = "execute";
            }
            compare(run, log, answers, real, model, name, n);
        }
    }

    private static void compare(int run, List<String> log, Map<String, Integer> answers, MirrorJury real, Model model,
            String name, int[] n) {
        String due = answer(() -> model.call(name, n));
        String got = answer(() -> callReal(real, name, n));
        answers.merge(name, 1, Integer::sum);
        log.add(name + Arrays.toString(n) + " = " + got);
        if (!got.equals(due)) {
            wrong++;
            System.out.println("run " + run + ": due is " + due + " after\n  " + String.join("\n  ", log));
        }
    }

    private interface Call {
        Object get();
    }

    private static String answer(Call call) {
        try {
            return String.valueOf(call.get());
        } catch (RuntimeException e) {
            return "throws." + e.getClass().getSimpleName();
        }
    }

    private static final String[] CHANGES = {"addCat", "setMirror", "testify", "setMethod", "deliberate", "retry",
            "undo", "saveSnapshot", "restoreSnapshot", "setMirror", "setMirror", "testify", "testify", "testify",
            "deliberate"};

    private static final String[] NAMES = {"addCat", "setMirror", "catCount", "cellOf", "catIn", "contentOf",
            "optionAt", "placeOf", "heardBy", "rayEnd", "rayEndByJoining", "rayCat", "rayLength", "rayBounces",
            "leastEffort", "leastEffortByRounds", "portByLength", "testify", "firstVotes", "prefer", "pointsOf",
            "pointsWinner", "roundsWinner", "rounds", "strengthOf", "strengthByTrying", "strengthWinner",
            "isDominant", "setMethod", "method", "deliberate", "retry", "hasCause", "deliberations", "verdictAt",
            "hungCount", "retrials", "testimonies", "catByHeard", "meanHeard", "hungShare", "isConsistent",
            "writeRow", "writeCat", "outputAt", "appendInput", "execute", "syntaxErrorOffset", "rejectionReason",
            "rejectionDetail", "causeReason", "undo", "saveSnapshot", "restoreSnapshot"};

    private static String drawName(int busy) {
        return draw(4) < busy ? CHANGES[draw(CHANGES.length)] : NAMES[draw(NAMES.length)];
    }

    /** The numbers 0 to 5 stand for: a cell, a port, a cat or position, three options, and a content or method. */
    private static int[] drawArguments(Model model) {
        int[] n = new int[7];
        n[0] = draw(20) == 0 ? draw(5) == 0 ? 35 : -1 - draw(2) : draw(35);
        n[1] = draw(20) == 0 ? draw(5) == 0 ? 24 : -1 - draw(2) : draw(24);
        n[2] = draw(20) == 0 ? draw(14) - 3 : draw(Math.max(1, model.cats.size() + (draw(8) == 0 ? 1 : 0)));
        List<Integer> letters = new ArrayList<>(List.of((int) 'a', (int) 'b', (int) 'c', (int) 'd'));
        for (int i = 3; i < 6; i++) {
            n[i] = draw(30) == 0 ? "abcde`".charAt(draw(6)) : letters.remove(draw(letters.size()));
        }
        n[6] = draw(12);
        return n;
    }

    private static String drawInput() {
        StringBuilder text = new StringBuilder();
        int count = 1 + draw(4);
        for (int i = 0; i < count; i++) {
            text.append(i == 0 ? "" : ";").append(drawCommand());
        }
        if (draw(3) == 0) {
            int index = draw(text.length());
            switch (draw(4)) {
                case 0:
                    text.setLength(index);
                    break;
                case 1:
                    text.deleteCharAt(index);
                    break;
                case 2:
                    text.insert(index, (char) (31 + draw(97)));
                    break;
                default:
                    text.setCharAt(index, "abcdemirrothy 0123456789;/\\.".charAt(draw(28)));
                    break;
            }
        }
        return text.length() == 0 ? "v" : text.toString();
    }

    private static String drawCommand() {
        List<Character> options = new ArrayList<>(List.of('a', 'b', 'c', 'd'));
        char one = options.remove(draw(4));
        char two = options.remove(draw(3));
        char three = draw(15) == 0 ? one : options.get(draw(2));
        int number = draw(25) == 0 ? draw(100) : draw(24);
        String digits = number < 10 && draw(3) == 0 ? "0" + number : "" + number;
        switch (draw(8)) {
            case 0:
                return "cat " + digits + " " + one + two + three;
            case 1:
            case 2:
                return "mirror " + digits + " " + "/\\.".charAt(draw(3));
            case 3:
                return "method " + "prs".charAt(draw(3));
            case 4:
                return "vote";
            case 5:
                return draw(2) == 0 ? "retry" : "vote";
            default:
                return "say " + digits + " " + one;
        }
    }

    private static Object callReal(MirrorJury x, String name, int[] n) {
        char one = (char) n[n.length > 3 ? 3 : 0];
        char two = (char) n[n.length > 4 ? 4 : 0];
        char three = (char) n[n.length > 5 ? 5 : 0];
        int at = n.length > 6 ? n[6] : 0;
        int port = n.length > 1 ? n[1] : 0;
        int cat = n.length > 2 ? n[2] : 0;
        switch (name) {
            case "addCat": return x.addCat(n[0], one, two, three);
            case "setMirror": return x.setMirror(n[0], contentFor(at));
            case "catCount": return x.catCount();
            case "cellOf": return x.cellOf(cat);
            case "catIn": return x.catIn(n[0]);
            case "contentOf": return x.contentOf(n[0]);
            case "optionAt": return x.optionAt(cat, at - 2);
            case "placeOf": return x.placeOf(cat, one);
            case "heardBy": return x.heardBy(cat);
            case "rayEnd": return x.rayEnd(port);
            case "rayEndByJoining": return x.rayEndByJoining(port);
            case "rayCat": return x.rayCat(port);
            case "rayLength": return x.rayLength(port);
            case "rayBounces": return x.rayBounces(port);
            case "leastEffort": return x.leastEffort(port, cat);
            case "leastEffortByRounds": return x.leastEffortByRounds(port, cat);
            case "portByLength": return x.portByLength(port);
            case "testify": return x.testify(port, one);
            case "firstVotes": return x.firstVotes(one);
            case "prefer": return x.prefer(one, two);
            case "pointsOf": return x.pointsOf(one);
            case "pointsWinner": return x.pointsWinner();
            case "roundsWinner": return x.roundsWinner();
            case "rounds": return x.rounds();
            case "strengthOf": return x.strengthOf(one, two);
            case "strengthByTrying": return x.strengthByTrying(one, two);
            case "strengthWinner": return x.strengthWinner();
            case "isDominant": return x.isDominant(one);
            case "setMethod": return x.setMethod(methodFor(at));
            case "method": return x.method();
            case "deliberate": return x.deliberate();
            case "retry": return x.retry();
            case "hasCause": return x.hasCause();
            case "deliberations": return x.deliberations();
            case "verdictAt": return x.verdictAt(at - 1);
            case "hungCount": return x.hungCount();
            case "retrials": return x.retrials();
            case "testimonies": return x.testimonies();
            case "catByHeard": return x.catByHeard(cat);
            case "meanHeard": return x.meanHeard();
            case "hungShare": return x.hungShare();
            case "isConsistent": return x.isConsistent();
            case "writeRow": return x.writeRow(at - 3);
            case "writeCat": return x.writeCat(cat);
            case "outputAt": return x.outputAt(at - 1);
            case "appendInput": return x.appendInput((char) n[0]);
            case "execute": return x.execute();
            case "syntaxErrorOffset": return x.syntaxErrorOffset();
            case "rejectionReason": return x.rejectionReason();
            case "rejectionDetail": return x.rejectionDetail();
            case "causeReason": return x.causeReason();
            case "undo": return x.undo();
            case "saveSnapshot": return x.saveSnapshot();
            case "restoreSnapshot": return x.restoreSnapshot();
            default: throw new AssertionError(name);
        }
    }

    private static char contentFor(int number) {
        return "/\\.c///\\\\\\.o".charAt(number);
    }

    private static char methodFor(int number) {
        return "prsprsprsprx".charAt(number);
    }

    // ---- the model

    private static final class Cat {
        int row;
        int column;
        String first;
        String now;
        int heard;

        Cat copy() {
            Cat c = new Cat();
            c.row = row;
            c.column = column;
            c.first = first;
            c.now = now;
            c.heard = heard;
            return c;
        }
    }

    private static final class Data {
        char[][] box = new char[5][7];
        List<Cat> cats = new ArrayList<>();
        char method = 'p';
        String verdicts = "";
        int retrials;
        int testimonies;
        boolean retried = true;
        boolean news;

        Data copy() {
            Data d = new Data();
            for (int r = 0; r < 5; r++) {
                d.box[r] = box[r].clone();
            }
            for (Cat c : cats) {
                d.cats.add(c.copy());
            }
            d.method = method;
            d.verdicts = verdicts;
            d.retrials = retrials;
            d.testimonies = testimonies;
            d.retried = retried;
            d.news = news;
            return d;
        }
    }

    private static final class Rejected extends UnsupportedOperationException {
        private static final long serialVersionUID = 1L;
        final int reason;
        final int detail;

        Rejected(int reason, int detail) {
            this.reason = reason;
            this.detail = detail;
        }
    }

    private static final class Model {
        private static final Pattern INPUT;

        static {
            String command = "(cat [0-9]{1,2} [a-d]{3}|mirror [0-9]{1,2} [/\\\\.]|say [0-9]{1,2} [a-d]"
                    + "|method [prs]|vote|retry)";
            INPUT = Pattern.compile(command + "(;" + command + ")*");
        }

        Data data = new Data();
        List<Cat> cats = data.cats;
        List<Data> past = new ArrayList<>();
        Data snapshot;
        String input = "";
        String output = "";
        int offset = -1;
        int reason;
        int detail;
        int cause;

        Model() {
            for (char[] row : data.box) {
                Arrays.fill(row, '.');
            }
        }

        Object call(String name, int[] n) {
            Data before = data.copy();
            try {
                Object result = answer(name, n);
                if (List.of("addCat", "setMirror", "testify", "setMethod", "deliberate", "retry", "execute")
                        .contains(name)) {
                    past.add(before);
                    if (past.size() > 8) {
                        past.remove(0);
                    }
                }
                return result;
            } catch (Rejected e) {
                data = before;
                reason = e.reason;
                detail = e.detail;
                throw new UnsupportedOperationException();
            } catch (RuntimeException e) {
                data = before;
                throw e;
            } finally {
                cats = data.cats;
            }
        }

        private Object answer(String name, int[] n) {
            char one = (char) n[n.length > 3 ? 3 : 0];
            char two = (char) n[n.length > 4 ? 4 : 0];
            char three = (char) n[n.length > 5 ? 5 : 0];
            int at = n.length > 6 ? n[6] : 0;
            int port = n.length > 1 ? n[1] : 0;
            int cat = n.length > 2 ? n[2] : 0;
            switch (name) {
                case "addCat": return addCat(n[0], "" + one + two + three);
                case "setMirror": return setMirror(n[0], contentFor(at));
                case "catCount": return data.cats.size();
                case "cellOf": return 7 * cat(cat).row + cat(cat).column;
                case "catIn": return catIn(n[0]);
                case "contentOf": return content(n[0]);
                case "optionAt":
                    cat(cat);
                    need(at - 2 >= 0 && at - 2 < 4, new IllegalArgumentException());
                    return cat(cat).now.charAt(at - 2);
                case "placeOf":
                    cat(cat);
                    option(one);
                    return cat(cat).now.indexOf(one);
                case "heardBy": return cat(cat).heard;
                case "rayEnd":
                case "rayEndByJoining":
                    need(ray(port)[0] >= 0, new NoSuchElementException());
                    return ray(port)[0];
                case "rayCat":
                    need(ray(port)[1] >= 0, new NoSuchElementException());
                    return ray(port)[1];
                case "rayLength": return ray(port)[2];
                case "rayBounces": return ray(port)[3];
                case "leastEffort":
                case "leastEffortByRounds": return effort(port, cat);
                case "portByLength": return portByLength(port);
                case "testify": return testify(port, one);
                case "firstVotes":
                    option(one);
                    return count(c -> c.now.charAt(0) == one);
                case "prefer":
                    pair(one, two);
                    return prefer(one, two);
                case "pointsOf":
                    option(one);
                    return points(one);
                case "pointsWinner": return winner('p');
                case "roundsWinner": return winner('r');
                case "rounds":
                    winner('r');
                    return byRounds("abcd", 1) / 256;
                case "strengthOf":
                case "strengthByTrying":
                    pair(one, two);
                    return strength(one, two, "" + one);
                case "strengthWinner": return winner('s');
                case "isDominant":
                    option(one);
                    return isDominant(one);
                case "setMethod": return setMethod(methodFor(at));
                case "method": return data.method;
                case "deliberate": return deliberate();
                case "retry": return retry();
                case "hasCause": return hasCause();
                default: return answerMore(name, n, at, cat);
            }
        }

        private Object answerMore(String name, int[] n, int at, int cat) {
            int held = data.verdicts.length();
            int hung = (int) data.verdicts.chars().filter(c -> c == '-').count();
            switch (name) {
                case "deliberations": return held;
                case "verdictAt":
                    need(at - 1 >= 0 && at - 1 < Math.min(held, 10), new NoSuchElementException());
                    return data.verdicts.charAt(held - 1 - (at - 1));
                case "hungCount": return hung;
                case "retrials": return data.retrials;
                case "testimonies": return data.testimonies;
                case "catByHeard": return catByHeard(cat);
                case "meanHeard":
                    need(!data.cats.isEmpty(), new ArithmeticException());
                    return 1.0 * data.testimonies / data.cats.size();
                case "hungShare":
                    need(held > 0, new ArithmeticException());
                    return 1.0f * hung / held;
                case "isConsistent": return true;
                case "writeRow":
                    need(at - 3 >= 0 && at - 3 < 5, new IndexOutOfBoundsException());
                    output = "";
                    for (int c = 0; c < 7; c++) {
                        char content = data.box[at - 3][c];
                        output += content == 'c' ? "" + catIn(7 * (at - 3) + c) : "" + content;
                    }
                    return output.length();
                case "writeCat":
                    Cat it = cat(cat);
                    output = cat + "@" + (7 * it.row + it.column) + ":" + it.now
                            + (it.heard == 0 ? "" : "+" + it.heard);
                    return output.length();
                case "outputAt":
                    need(at - 1 >= 0 && at - 1 < output.length(), new IndexOutOfBoundsException());
                    return output.charAt(at - 1);
                case "appendInput":
                    need(n[0] >= 32 && n[0] <= 126, new IllegalArgumentException());
                    need(input.length() < 60, new IllegalStateException());
                    input += (char) n[0];
                    return input.length();
                case "execute": return execute();
                case "syntaxErrorOffset":
                    need(offset >= 0, new NoSuchElementException());
                    return offset;
                case "rejectionReason":
                    need(reason != 0, new NoSuchElementException());
                    return reason;
                case "rejectionDetail":
                    need(reason != 0, new NoSuchElementException());
                    return detail;
                case "causeReason":
                    need(reason == 6, new NoSuchElementException());
                    return cause;
                case "undo":
                    need(!past.isEmpty(), new IllegalStateException());
                    data = past.remove(past.size() - 1);
                    return past.size();
                case "saveSnapshot":
                    snapshot = data.copy();
                    return data.cats.size();
                case "restoreSnapshot":
                    need(snapshot != null, new IllegalStateException());
                    data = snapshot.copy();
                    past.clear();
                    return data.cats.size();
                default: throw new AssertionError(name);
            }
        }

        private static void need(boolean holds, RuntimeException e) {
            if (!holds) {
                throw e;
            }
        }

        private Cat cat(int index) {
            need(index >= 0 && index < data.cats.size(), new IndexOutOfBoundsException());
            return data.cats.get(index);
        }

        private static void option(char option) {
            need("abcd".indexOf(option) >= 0, new IllegalArgumentException());
        }

        private static void pair(char one, char other) {
            option(one);
            option(other);
            need(one != other, new IllegalArgumentException());
        }

        private char content(int cell) {
            need(cell >= 0 && cell < 35, new IndexOutOfBoundsException());
            return data.box[cell / 7][cell % 7];
        }

        private int catIn(int cell) {
            need(content(cell) == 'c', new NoSuchElementException());
            int index = 0;
            while (7 * cat(index).row + cat(index).column != cell) {
                index++;
            }
            return index;
        }

        private int mirrors() {
            return (int) new String(data.box[0]).concat(new String(data.box[1])).concat(new String(data.box[2]))
                    .concat(new String(data.box[3])).concat(new String(data.box[4])).chars()
                    .filter(c -> c == '/' || c == '\\').count();
        }

        private int addCat(int cell, String ranking) {
            content(cell);
            need(ranking.chars().distinct().filter(c -> c >= 'a' && c <= 'd').count() == 3,
                    new IllegalArgumentException());
            need(data.cats.size() < 7, new Rejected(1, 7));
            if (content(cell) == 'c') {
                throw new Rejected(2, catIn(cell));
            }
            Cat c = new Cat();
            c.row = cell / 7;
            c.column = cell % 7;
            c.first = ranking + "abcd".replaceAll("[" + ranking + "]", "");
            c.now = c.first;
            data.box[c.row][c.column] = 'c';
            data.cats.add(c);
            data.news = true;
            return data.cats.size() - 1;
        }

        private int setMirror(int cell, char content) {
            content(cell);
            need("/\\.".indexOf(content) >= 0, new IllegalArgumentException());
            if (content(cell) == 'c') {
                throw new Rejected(2, catIn(cell));
            }
            data.news |= content(cell) != content;
            data.box[cell / 7][cell % 7] = content;
            return mirrors();
        }

        /** The row and column outside of the box in front of a port, and the steps in row and column into it. */
        private static int[] port(int port) {
            if (port < 7) {
                return new int[] {-1, port, 1, 0};
            }
            if (port < 12) {
                return new int[] {port - 7, 7, 0, -1};
            }
            if (port < 19) {
                return new int[] {5, 6 - (port - 12), -1, 0};
            }
            return new int[] {4 - (port - 19), -1, 0, 1};
        }

        private static int[] bounced(char content, int dr, int dc) {
            if (content == '/') {
                return new int[] {-dc, -dr};
            }
            return content == '\\' ? new int[] {dc, dr} : new int[] {dr, dc};
        }

        /** Where the ray leaves or -1, the cat or -1, the length, the bounces. */
        private int[] ray(int port) {
            need(port >= 0 && port < 24, new IllegalArgumentException());
            int[] p = port(port);
            int length = 0;
            int bounces = 0;
            while (true) {
                int r = p[0] + p[2];
                int c = p[1] + p[3];
                if (r < 0 || r > 4 || c < 0 || c > 6) {
                    for (int exit = 0; exit < 24; exit++) {
                        if (port(exit)[0] == r && port(exit)[1] == c) {
                            return new int[] {exit, -1, length, bounces};
                        }
                    }
                    throw new AssertionError();
                }
                length++;
                char content = data.box[r][c];
                if (content == 'c') {
                    return new int[] {-1, catIn(7 * r + c), length, bounces};
                }
                bounces += content == '.' ? 0 : 1;
                int[] d = bounced(content, p[2], p[3]);
                p = new int[] {r, c, d[0], d[1]};
            }
        }

        private int effort(int port, int index) {
            need(port >= 0 && port < 24, new IllegalArgumentException());
            Cat goal = cat(index);
            PriorityQueue<int[]> open = new PriorityQueue<>((x, y) -> x[4] - y[4]);
            Map<String, Boolean> done = new HashMap<>();
            int[] p = port(port);
            open.add(new int[] {p[0] + p[2], p[1] + p[3], p[2], p[3], 0});
            while (!open.isEmpty()) {
                int[] s = open.poll();
                if (s[0] == goal.row && s[1] == goal.column) {
                    return s[4];
                }
                String key = s[0] + " " + s[1] + " " + s[2] + " " + s[3];
                if (data.box[s[0]][s[1]] == 'c' || done.put(key, true) != null) {
                    continue;
                }
                int[] lit = bounced(data.box[s[0]][s[1]], s[2], s[3]);
                for (int[] d : new int[][] {{s[2], s[3]}, {s[3], s[2]}, {-s[3], -s[2]}}) {
                    int r = s[0] + d[0];
                    int c = s[1] + d[1];
                    if (r >= 0 && r <= 4 && c >= 0 && c <= 6) {
                        open.add(new int[] {r, c, d[0], d[1], s[4] + (Arrays.equals(d, lit) ? 0 : 1)});
                    }
                }
            }
            throw new NoSuchElementException();
        }

        private int portByLength(int position) {
            need(position >= 0 && position < 24, new NoSuchElementException());
            List<Integer> ports = new ArrayList<>();
            for (int port = 0; port < 24; port++) {
                ports.add(port);
            }
            ports.sort((x, y) -> ray(y)[2] - ray(x)[2]);
            return ports.get(position);
        }

        private int testify(int port, char option) {
            int[] ray = ray(port);
            option(option);
            need(ray[1] >= 0, new Rejected(3, ray[0]));
            Cat c = cat(ray[1]);
            c.now = c.now.replaceAll("(.)" + option, option + "$1");
            c.heard++;
            data.testimonies++;
            return ray[1];
        }

        private int count(Function<Cat, Boolean> test) {
            return (int) data.cats.stream().filter(c -> test.apply(c)).count();
        }

        private int prefer(char one, char other) {
            return count(c -> c.now.indexOf(one) < c.now.indexOf(other));
        }

        private int points(char option) {
            return data.cats.stream().mapToInt(c -> 3 - c.now.indexOf(option)).sum();
        }

        private boolean isDominant(char option) {
            return "abcd".chars().allMatch(o -> o == option || prefer(option, (char) o) * 2 > data.cats.size());
        }

        private char winner(char way) {
            need(!data.cats.isEmpty(), new NoSuchElementException());
            if (way == 'r') {
                return (char) (byRounds("abcd", 1) % 256);
            }
            for (char option : "abcd".toCharArray()) {
                boolean wins = true;
                for (char other : "abcd".toCharArray()) {
                    wins &= way == 'p' ? points(option) >= points(other) : option == other
                            || strength(option, other, "" + option) >= strength(other, option, "" + other);
                }
                if (wins) {
                    return option;
                }
            }
            throw new AssertionError();
        }

        private int byRounds(String left, int round) {
            char fewest = 0;
            int least = 1000;
            for (char option : left.toCharArray()) {
                int votes = count(c -> c.now.replaceAll("[^" + left + "]", "").charAt(0) == option);
                if (2 * votes > data.cats.size()) {
                    return 256 * round + option;
                }
                if (votes <= least) {
                    least = votes;
                    fewest = option;
                }
            }
            return byRounds(left.replace("" + fewest, ""), round + 1);
        }

        /** The greatest strength of all chains that go on from one without the options that were there. */
        private int strength(char one, char other, String there) {
            int greatest = 0;
            for (char next : "abcd".toCharArray()) {
                if (there.indexOf(next) < 0 && prefer(one, next) > prefer(next, one)) {
                    int rest = next == other ? 1000 : strength(next, other, there + next);
                    greatest = Math.max(greatest, Math.min(prefer(one, next), rest));
                }
            }
            return greatest;
        }

        private char setMethod(char method) {
            need("prs".indexOf(method) >= 0, new IllegalArgumentException());
            char previous = data.method;
            data.method = method;
            return previous;
        }

        private char deliberate() {
            need(!data.cats.isEmpty(), new Rejected(4, mirrors()));
            char winner = winner(data.method);
            char verdict = isDominant(winner) ? winner : '-';
            data.verdicts += verdict;
            data.retried = false;
            data.news = false;
            return verdict;
        }

        private boolean hasCause() {
            return !data.verdicts.isEmpty() && !data.retried && (data.verdicts.endsWith("-") || data.news);
        }

        private int retry() {
            need(hasCause(), new Rejected(5, data.verdicts.length()));
            int changed = count(c -> !c.now.equals(c.first));
            for (Cat c : data.cats) {
                c.now = c.first;
            }
            data.retrials++;
            data.retried = true;
            return changed;
        }

        private int catByHeard(int position) {
            need(position >= 0 && position < data.cats.size(), new NoSuchElementException());
            List<Cat> order = new ArrayList<>(data.cats);
            order.sort((x, y) -> x.heard != y.heard ? y.heard - x.heard
                    : 7 * x.row + x.column - 7 * y.row - y.column);
            return data.cats.indexOf(order.get(position));
        }

        private int execute() {
            String text = input;
            input = "";
            int wrongAt = wrongAt(text);
            if (wrongAt >= 0) {
                offset = wrongAt;
                throw new IllegalArgumentException();
            }
            String[] commands = text.split(";");
            for (int i = 0; i < commands.length; i++) {
                try {
                    run(commands[i].split(" "));
                } catch (Rejected e) {
                    cause = e.reason;
                    throw new Rejected(6, i);
                } catch (RuntimeException e) {
                    throw new IllegalStateException();
                }
            }
            return commands.length;
        }

        /** The length of the longest beginning that an input can have, or -1 if the text is an input. */
        private static int wrongAt(String text) {
            if (INPUT.matcher(text).matches()) {
                return -1;
            }
            int length = 0;
            for (int i = 1; i <= text.length(); i++) {
                Matcher m = INPUT.matcher(text.substring(0, i));
                if (m.matches() || m.hitEnd()) {
                    length = i;
                }
            }
            return length;
        }

        private void run(String[] words) {
            switch (words[0]) {
                case "cat":
                    addCat(Integer.parseInt(words[1]), words[2]);
                    break;
                case "mirror":
                    setMirror(Integer.parseInt(words[1]), words[2].charAt(0));
                    break;
                case "say":
                    testify(Integer.parseInt(words[1]), words[2].charAt(0));
                    break;
                case "method":
                    setMethod(words[1].charAt(0));
                    break;
                case "vote":
                    deliberate();
                    break;
                default:
                    retry();
                    break;
            }
        }
    }
}
