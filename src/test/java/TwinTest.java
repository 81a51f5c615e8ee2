import java.lang.reflect.Method;
import java.util.ArrayDeque;
import java.util.ArrayList;
import java.util.Deque;
import java.util.HashMap;
import java.util.HashSet;
import java.util.List;
import java.util.Map;
import java.util.Random;
import java.util.Set;
import java.util.function.Consumer;
import java.util.function.ToIntFunction;
import java.util.regex.Matcher;
import java.util.regex.Pattern;

/**
 * Plays runs of drawn calls on a GoInland and on a twin of it, written anew from DOC.md in another way
 * (texts, lists, copies, regular expressions), and tells every run in which they answer otherwise.
 */
public final class TwinTest {
    private static final int RUNS = 3000;
    /** Most runs are short, as heads settle and little goes on behind that. */
    private static final int[] CALLS = {100, 150, 200, 300, 512};

    /** Each method with its arguments: h head, f field, k kind, l letter, n.. and w.. numbers up to that, z any. */
    private static final String[] FACE = {
        "head h w11", "field f w3", "comes k n9 f l", "named h l", "faces h n3", "does h w4", "joins h n99", "walls f n9",
        "folk f n9 l", "nights n60", "back", "headThen h n60 w3", "then n60 w3", "when h f", "settles h", "meeting h h",
        "bestWord h n60 w1", "bestLetter h n30 w1", "holds h f n60", "wallFor h f n30", "names n30", "whatKind h w1", "whatWord h",
        "two h h n30", "rain h f n7 n20 w1", "like h h w2", "rank h", "line h n13", "power h", "share h w1", "nearest f w1",
        "way f f", "sight w2", "kinds k", "row n99", "judge", "clear", "lots n20 z w1", "image", "restore", "count n16",
        "feed n255", "land",
    };

    public static void main(String[] args) throws Exception {
        Map<String, Method> methods = new HashMap<>();
        for (Method method : GoInland.class.getDeclaredMethods()) {
            methods.put(method.getName(), method);
        }
        int wrong = 0;
        for (int run = 0; run < RUNS && wrong < 5; run++) {
            String fault = playRun(methods, new Random(run * 7919L + 1));
            if (fault != null) {
                wrong++;
                System.out.println("run " + run + ": " + fault);
            }
        }
        System.out.println(wrong == 0 ? RUNS + " runs are as the twin's" : wrong + " runs are not as the twin's");
        if (wrong > 0) {
            System.exit(1);
        }
    }

    /** A call to be made: its name and arguments. */
    private record Call(String name, int... given) { }

    private static String playRun(Map<String, Method> methods, Random random) throws Exception {
        GoInland x = new GoInland();
        Twin twin = new Twin();
        Draws draws = new Draws(random, twin);
        StringBuilder story = new StringBuilder();
        Deque<Call> coming = new ArrayDeque<>();
        int calls = CALLS[random.nextInt(CALLS.length)];
        if (random.nextInt(5) > 0) {
            draws.begin(coming);
        }
        for (int made = 0; made < calls; made++) {
            if (coming.isEmpty()) {
                drawCalls(coming, draws, random.nextInt(60));
            }
            Call call = coming.poll();
            Object[] boxed = new Object[call.given.length];
            for (int i = 0; i < boxed.length; i++) {
                boxed[i] = call.given[i];
            }
            story.append(call.name).append(java.util.Arrays.toString(call.given)).append(' ');
            long got = ((Number) methods.get(call.name).invoke(x, boxed)).longValue();
            long want = twin.call(call.name, call.given);
            if (got != want) {
                return story + "answered " + got + ", the twin " + want;
            }
        }
        return null;
    }

    private static void drawCalls(Deque<Call> coming, Draws draws, int drawn) {
        if (drawn == 0) {
            String text = draws.land();
            for (int i = 0; i < text.length(); i++) {
                coming.add(new Call("feed", text.charAt(i)));
            }
            coming.add(new Call("land"));
        } else if (drawn <= 3 && !draws.twin.now.heads.isEmpty()) {
            draws.tellWay(coming);
        } else if (drawn == 4) {
            draws.tellFields(coming);
        } else if (drawn <= 8) {
            coming.add(new Call("nights", 1 + draws.random.nextInt(3)));
        } else {
            String[] form = FACE[draws.random.nextInt(5) == 0 ? 2 + draws.random.nextInt(7) : draws.random.nextInt(FACE.length)].split(" ");
            coming.add(new Call(form[0], draws.arguments(form)));
        }
    }

    /** Arguments and lands by lot. */
    private record Draws(Random random, Twin twin) {
        private static final int[] FAR = {Integer.MIN_VALUE, Integer.MIN_VALUE + 1, -1000, -2, 100, 256, 1 << 16, Integer.MAX_VALUE - 1, Integer.MAX_VALUE};
        /** Heads near one another, people who would follow them, and some walls. */
        void begin(Deque<Call> coming) {
            int heads = 1 + random.nextInt(5);
            int letters = 1 + random.nextInt(4);
            for (int i = 0; i < heads; i++) {
                coming.add(new Call("comes", random.nextInt(8), random.nextInt(10), random.nextInt(48), random.nextInt(letters)));
            }
            for (int i = 0; i < heads; i++) {
                for (int more = random.nextInt(6); more > 0; more--) {
                    coming.add(new Call("named", i, random.nextInt(5)));
                }
            }
            for (int i = random.nextInt(24); i > 0; i--) {
                coming.add(new Call("folk", random.nextInt(48), random.nextInt(10), random.nextInt(6)));
            }
            for (int i = random.nextInt(8); i > 0; i--) {
                coming.add(new Call("walls", random.nextInt(48), random.nextInt(10)));
            }
            for (int i = random.nextInt(3); i > 0; i--) {
                coming.add(new Call("joins", random.nextInt(heads), random.nextInt(30)));
            }
            coming.add(new Call("image"));
        }

        /** A row that tells where a head goes, or would go if she were a little other, and what is asked by it. */
        void tellWay(Deque<Call> coming) {
            int head = random.nextInt(twin.now.heads.size());
            Country country = twin.now.twin();
            Figure figure = country.heads.get(head);
            switch (random.nextInt(4)) {
                case 0: figure.kind = Kind.values()[random.nextInt(8)]; break;
                case 1: figure.figure = random.nextInt(10); break;
                case 2: figure.word = random.nextInt(5); break;
                default: break;
            }
            coming.add(new Call("clear"));
            for (int left = 1 + random.nextInt(random.nextInt(12) + 1); left > 0; left--) {
                coming.add(new Call("row", figure.field));
                country.goNight();
            }
            coming.add(new Call("whatKind", head, 0));
            coming.add(new Call("whatKind", head, 1));
            coming.add(new Call("whatWord", head));
        }

        /** A row that tells the fields of the heads, some of them at times otherwise, to be judged. */
        void tellFields(Deque<Call> coming) {
            coming.add(new Call("clear"));
            for (Figure figure : twin.now.heads) {
                coming.add(new Call("row", random.nextInt(8) == 0 ? random.nextInt(48) : figure.field));
            }
            if (random.nextInt(4) == 0) {
                coming.add(new Call("row", random.nextInt(48)));
            }
            coming.add(new Call("judge"));
        }

        private static final String[] KINDS = {"lady", "queen", "slaver", "child", "saint", "collier", "pirate", "mermaid"};

        int[] arguments(String[] form) {
            int[] given = new int[form.length - 1];
            for (int i = 1; i < form.length; i++) {
                given[i - 1] = argument(form[i]);
            }
            return given;
        }

        int argument(String form) {
            if (random.nextInt(60) == 0) {
                return FAR[random.nextInt(FAR.length)];
            }
            if (form.equals("n60") && random.nextInt(3) > 0) {
                return 1 + random.nextInt(12);
            }
            int most = form.length() > 1 ? Integer.parseInt(form.substring(1)) : 0;
            switch (form.charAt(0)) {
                case 'h': return edgeOr(twin.now.heads.size() - 1);
                case 'f': return random.nextBoolean() && !twin.now.heads.isEmpty() ? nearHead() : edgeOr(47);
                case 'k': return edgeOr(7);
                case 'l': return random.nextInt(3) > 0 ? letterOfName() : edgeOr(25);
                case 'z': return random.nextInt();
                default: return edgeOr(most);
            }
        }

        private int edgeOr(int most) {
            if (random.nextInt(25) == 0) {
                return random.nextBoolean() ? -1 : most + 1;
            }
            return most < 0 ? 0 : random.nextInt(most + 1);
        }

        private int nearHead() {
            int field = twin.now.heads.get(random.nextInt(twin.now.heads.size())).field;
            int near = field + new int[] {0, 1, -1, 8, -8, 2, -16}[random.nextInt(7)];
            return near < 0 || near > 47 ? field : near;
        }

        private int letterOfName() {
            String names = twin.now.heads.stream().map(head -> head.name).reduce("a", String::concat);
            return names.charAt(random.nextInt(names.length())) - 'a';
        }

        String land() {
            StringBuilder text = new StringBuilder();
            int statements = 1 + random.nextInt(7);
            for (int i = 0; i < statements; i++) {
                text.append(statement());
            }
            if (random.nextInt(4) == 0) {
                int at = random.nextInt(text.length());
                text.setCharAt(at, " ;a5zA{/:\u00e90".charAt(random.nextInt(11)));
            }
            if (random.nextInt(12) == 0) {
                text.setLength(random.nextInt(text.length()));
            }
            return text.toString();
        }

        private String statement() {
            switch (random.nextInt(10)) {
                case 0: return "wall " + upTo(47) + " " + upTo(9) + ";";
                case 1: return "folk " + upTo(47) + " " + upTo(9) + " " + name(1) + ";";
                case 2: return "face " + upTo(twin.now.heads.size()) + " " + "neswx".charAt(random.nextInt(21) / 5) + ";";
                case 3: return "does " + upTo(twin.now.heads.size()) + " " + new String[] {"on", "left", "right", "back", "rest", "o"}[random.nextInt(6)] + ";";
                case 4: return "joins " + upTo(twin.now.heads.size()) + " " + upTo(99) + ";";
                case 5: return "nights " + upTo(60) + ";";
                default: return KINDS[random.nextInt(8)] + " " + upTo(9) + " " + name(random.nextInt(30) == 0 ? 7 : 6) + " " + upTo(47) + ";";
            }
        }

        private String upTo(int most) {
            int drawn = random.nextInt(30) == 0 ? most + 1 : random.nextInt(most + 1);
            return (drawn < 10 && random.nextInt(9) == 0 ? "0" : "") + Math.min(drawn, 99);
        }

        private String name(int most) {
            StringBuilder name = new StringBuilder();
            int length = 1 + random.nextInt(most);
            for (int i = 0; i < length; i++) {
                name.append((char) ('a' + (random.nextBoolean() ? random.nextInt(4) : random.nextInt(26))));
            }
            return name.toString();
        }
    }

    private enum Kind { LADY, QUEEN, SLAVER, CHILD, SAINT, COLLIER, PIRATE, MERMAID }

    /** A head, each of whose numbers is told by her kind as the document tells it: by another kind's. */
    private static final class Figure {
        Kind kind;
        int figure;
        String name = "";
        int field;
        int facing;
        int word;
        int followers;
        boolean settled;

        Figure twin() {
            Figure other = new Figure();
            other.kind = kind;
            other.figure = figure;
            other.name = name;
            other.field = field;
            other.facing = facing;
            other.word = word;
            other.followers = followers;
            other.settled = settled;
            return other;
        }

        int steps(Kind as) {
            return switch (as) {
                case LADY -> 1;
                case QUEEN -> 2;
                case SLAVER -> figure / 3 + 1;
                case CHILD -> steps(Kind.LADY);
                case SAINT -> steps(Kind.QUEEN) - 1;
                case COLLIER -> name.length() / 2;
                case PIRATE -> steps(Kind.SLAVER) + 1;
                case MERMAID -> 2 * steps(Kind.SAINT);
            };
        }

        int weight(Kind as) {
            return switch (as) {
                case LADY -> figure + 1;
                case QUEEN -> 2 * weight(Kind.LADY);
                case SLAVER -> 9;
                case CHILD -> weight(Kind.LADY) / 2;
                case SAINT -> weight(Kind.QUEEN) + 3;
                case COLLIER -> weight(Kind.CHILD) + 2;
                case PIRATE -> weight(Kind.SLAVER) - figure;
                case MERMAID -> weight(Kind.SAINT);
            };
        }

        int veers(Kind as, int d) {
            return switch (as) {
                case LADY, SLAVER -> 0;
                case QUEEN -> d % 4 == 0 ? 1 : 0;
                case CHILD -> d % (figure + 2) == 0 ? 3 : 0;
                case SAINT -> followers == 0 ? 2 : veers(Kind.QUEEN, d);
                case COLLIER -> veers(Kind.CHILD, d) + 1;
                case PIRATE -> d % 2;
                case MERMAID -> "aeiou".contains(name.substring(0, 1)) ? 3 : veers(Kind.SAINT, d);
            };
        }

        int enough(Kind as) {
            return switch (as) {
                case LADY -> 20;
                case QUEEN -> 2 * enough(Kind.LADY);
                case SLAVER -> 99;
                case CHILD -> figure + 5;
                case SAINT -> enough(Kind.QUEEN) - 5;
                case COLLIER -> enough(Kind.CHILD);
                case PIRATE -> enough(Kind.SLAVER) / 2;
                case MERMAID -> enough(Kind.SAINT) - figure / 2;
            };
        }

        boolean has(int letter) {
            return name.indexOf('a' + letter) >= 0;
        }

        String line() {
            return name + " " + field + "nesw".substring(facing, facing + 1) + (settled ? "!" : "" + followers);
        }
    }

    /** A land; every night and every thought is gone through on a copy. */
    private static final class Country {
        static final int[] DOWN = {-1, 0, 1, 0};
        static final int[] ASIDE = {0, 1, 0, -1};

        int[][] wall = new int[6][8];
        int[][] people = new int[6][8];
        int[][] letter = new int[6][8];
        List<Figure> heads = new ArrayList<>();
        int night;
        int told;

        Country twin() {
            Country other = new Country();
            for (int r = 0; r < 6; r++) {
                other.wall[r] = wall[r].clone();
                other.people[r] = people[r].clone();
                other.letter[r] = letter[r].clone();
            }
            for (Figure head : heads) {
                other.heads.add(head.twin());
            }
            other.night = night;
            other.told = told;
            return other;
        }

        Country behind(int n) {
            Country other = twin();
            for (int i = 0; i < n; i++) {
                other.goNight();
            }
            return other;
        }

        Country with(Consumer<Country> change) {
            Country other = twin();
            change.accept(other);
            return other;
        }

        void goNight() {
            night++;
            for (Figure head : heads) {
                if (!head.settled && head.word != 4) {
                    turn(head);
                }
            }
        }

        void turn(Figure head) {
            head.facing = (head.facing + new int[] {0, 3, 1, 2}[head.word] + head.veers(head.kind, night)) % 4;
            for (int left = head.steps(head.kind); left > 0; left--) {
                int r = head.field / 8 + DOWN[head.facing];
                int c = head.field % 8 + ASIDE[head.facing];
                if (r < 0 || r > 5 || c < 0 || c > 7) {
                    head.facing = (head.facing + 2) % 4;
                    break;
                }
                if (wall[r][c] != 0) {
                    wall[r][c] = Math.max(0, wall[r][c] - head.weight(head.kind));
                    break;
                }
                head.field = 8 * r + c;
            }
            int r = head.field / 8;
            int c = head.field % 8;
            if (head.has(letter[r][c])) {
                head.followers = Math.min(99, head.followers + people[r][c]);
                people[r][c] = 0;
            }
            for (Figure other : heads) {
                if (other != head && other.field == head.field && !other.settled) {
                    meet(head, other);
                    break;
                }
            }
            if (head.followers >= head.enough(head.kind)) {
                head.settled = true;
            }
        }

        void meet(Figure one, Figure other) {
            told = Math.min(9999, told + 1);
            Figure lesser = lesser(one, other);
            Figure greater = lesser == one ? other : one;
            lesser.facing = (lesser.facing + 2) % 4;
            int half = lesser.followers / 2;
            lesser.followers -= half;
            greater.followers = Math.min(99, greater.followers + half);
        }

        Figure lesser(Figure one, Figure other) {
            if (one.weight(one.kind) != other.weight(other.kind)) {
                return one.weight(one.kind) < other.weight(other.kind) ? one : other;
            }
            int order = one.name.compareTo(other.name);
            if (order != 0) {
                return order < 0 ? one : other;
            }
            return heads.indexOf(one) > heads.indexOf(other) ? one : other;
        }

        int bits(java.util.function.Predicate<Figure> which) {
            int bits = 0;
            for (int i = 0; i < heads.size(); i++) {
                bits += which.test(heads.get(i)) ? 1 << i : 0;
            }
            return bits;
        }

        int sum(ToIntFunction<Figure> what) {
            return heads.stream().mapToInt(what).sum();
        }

        static int sum(int[][] numbers) {
            int sum = 0;
            for (int[] row : numbers) {
                for (int number : row) {
                    sum += number;
                }
            }
            return sum;
        }
    }

    /** What the class must answer. */
    private static final class Twin {
        static final Pattern LAND = Pattern.compile("([a-z]{1,7}( ([a-z]{1,7}|[0-9]{1,2})){1,3};)+");
        static final int NONE = -9;

        Country now = new Country();
        Country image;
        final Deque<Country> past = new ArrayDeque<>();
        final List<Integer> row = new ArrayList<>();
        String letters = "";
        final int[] refusals = new int[7];

        /** What a call answers that is refused: the document's number. */
        private static final class Refused extends RuntimeException {
            private static final long serialVersionUID = 1L;
            final int number;

            Refused(int number) {
                super(null, null, false, false);
                this.number = number;
            }
        }

        private static void refuseIf(boolean so, int number) {
            if (so) {
                throw new Refused(number);
            }
        }

        long call(String name, int[] a) {
            try {
                return answer(name, a);
            } catch (Refused refused) {
                refusals[-refused.number]++;
                boolean isLong = name.equals("rain") || name.equals("share");
                return isLong ? 4000000000000000000L - refused.number : refused.number;
            }
        }

        private void head(int head) {
            refuseIf(head < 0 || head >= now.heads.size(), -1);
        }

        private void field(int field) {
            refuseIf(field < 0 || field > 47, -1);
        }

        private void pair(int one, int other) {
            head(one);
            head(other);
            refuseIf(one == other, -1);
        }

        private void number(int v, int least, int most) {
            refuseIf(v < least, -4);
            refuseIf(v > most, -6);
        }

        private void what(int what, int most) {
            refuseIf(what < 0 || what > most, -2);
        }

        private void keep() {
            past.push(now.twin());
            if (past.size() > 8) {
                past.removeLast();
            }
        }

        private long answer(String name, int[] a) {
            switch (name) {
                case "feed": return feed(a[0]);
                case "land": return land();
                case "head": return ofHead(a[0], a[1]);
                case "field": return ofField(a[0], a[1]);
                case "comes": return comes(a[0], a[1], a[2], a[3]);
                case "named": case "faces": case "does": case "joins": return change(name, a[0], a[1]);
                case "walls": case "folk": return changeField(name, a);
                case "nights": return nights(a[0]);
                case "back": return back();
                case "headThen": return headThen(a[0], a[1], a[2]);
                case "then": return then(a[0], a[1]);
                case "when": head(a[0]); field(a[1]); return first(60, c -> c.heads.get(a[0]).field == a[1]);
                case "settles": return settles(a[0]);
                case "meeting": pair(a[0], a[1]); return first(60, c -> c.heads.get(a[0]).field == c.heads.get(a[1]).field);
                case "bestWord": return best(a, 60, 5, (c, i) -> c.heads.get(a[0]).word = i);
                case "bestLetter": return best(a, 30, 26, (c, i) -> c.heads.get(a[0]).name += (char) ('a' + i));
                case "holds": return holds(a[0], a[1], a[2]);
                case "wallFor": return wallFor(a[0], a[1], a[2]);
                case "names": return names(a[0]);
                case "whatKind": return whatKind(a[0], a[1]);
                case "whatWord": head(a[0]); return byWay(a[0], 5, (c, i) -> c.heads.get(a[0]).word = i);
                case "two": return two(a[0], a[1], a[2]);
                case "rain": return rain(a[0], a[1], a[2], a[3], a[4]);
                case "like": return like(a[0], a[1], a[2]);
                case "rank": return rank(a[0]);
                case "line": return line(a[0], a[1]);
                case "power": return power(a[0]);
                case "share": return share(a[0], a[1]);
                case "nearest": return nearest(a[0], a[1]);
                case "way": return way(a[0], a[1]);
                case "sight": return sight(a[0]);
                case "kinds": what(a[0], 7); return now.heads.stream().filter(h -> h.kind.ordinal() == a[0]).count();
                case "row": refuseIf(a[0] < 0, -4); refuseIf(a[0] > 99 || row.size() == 12, -6); row.add(a[0]); return row.size();
                case "judge": return judge();
                case "clear": return clear();
                case "lots": return lots(a[0], a[1], a[2]);
                case "image": image = now.twin(); return now.night;
                case "restore": return restore();
                case "count": return count(a[0]);
                default: throw new IllegalArgumentException(name);
            }
        }

        private long feed(int letter) {
            number(letter, 0, 255);
            refuseIf(letters.length() == 96, -6);
            letters += (char) letter;
            return letters.length();
        }

        private long land() {
            String text = letters;
            letters = "";
            if (!LAND.matcher(text).matches()) {
                int place = 0;
                while (place < text.length() && mayGoOn(text.substring(0, place + 1))) {
                    place++;
                }
                return -1000 - place;
            }
            Country country = now.twin();
            int place = 0;
            int many = 0;
            for (String statement : text.split(";")) {
                if (!comesTrue(country, statement.split(" "))) {
                    return -2000 - place;
                }
                place += statement.length() + 1;
                many++;
            }
            now = country;
            past.clear();
            return many;
        }

        private static boolean mayGoOn(String text) {
            Matcher matcher = LAND.matcher(text);
            return matcher.matches() || matcher.hitEnd();
        }

        private static boolean comesTrue(Country c, String[] s) {
            String form = s[0];
            for (int i = 1; i < s.length; i++) {
                form += s[i].matches("[0-9]+") ? " #" : s[i].length() == 1 ? " a" : s[i].length() == 7 ? " long" : " abc";
            }
            for (Kind kind : Kind.values()) {
                if (form.matches(kind.name().toLowerCase() + " # (a|abc) #")) {
                    if (num(s[1]) > 9 || num(s[3]) > 47 || c.heads.size() == 5) {
                        return false;
                    }
                    c.heads.add(figure(kind, num(s[1]), s[2], num(s[3])));
                    return true;
                }
            }
            if (form.equals("wall # #") && num(s[1]) < 48 && num(s[2]) < 10) {
                c.wall[num(s[1]) / 8][num(s[1]) % 8] = num(s[2]);
                return true;
            }
            if (form.equals("folk # # a") && num(s[1]) < 48 && num(s[2]) < 10) {
                c.people[num(s[1]) / 8][num(s[1]) % 8] = num(s[2]);
                c.letter[num(s[1]) / 8][num(s[1]) % 8] = s[3].charAt(0) - 'a';
                return true;
            }
            if (form.equals("nights #") && num(s[1]) > 0 && num(s[1]) <= 60 && c.night + num(s[1]) < 1000) {
                for (int i = 0; i < num(s[1]); i++) {
                    c.goNight();
                }
                return true;
            }
            if (!form.matches("(face|does|joins) # (#|a|abc)") || num(s[1]) >= c.heads.size()) {
                return false;
            }
            Figure head = c.heads.get(num(s[1]));
            if (s[0].equals("face") && List.of("n", "e", "s", "w").contains(s[2])) {
                head.facing = "nesw".indexOf(s[2]);
                return true;
            }
            List<String> words = List.of("on", "left", "right", "back", "rest");
            if (s[0].equals("does") && words.contains(s[2])) {
                head.word = words.indexOf(s[2]);
                return true;
            }
            if (form.equals("joins # #")) {
                head.followers = num(s[2]);
                return true;
            }
            return false;
        }

        private static int num(String digits) {
            return Integer.parseInt(digits);
        }

        private static Figure figure(Kind kind, int figure, String name, int field) {
            Figure head = new Figure();
            head.kind = kind;
            head.figure = figure;
            head.name = name;
            head.field = field;
            return head;
        }

        private long ofHead(int head, int what) {
            head(head);
            what(what, 11);
            Figure h = now.heads.get(head);
            int[] all = {h.kind.ordinal(), h.figure, h.field, h.facing, h.word, h.followers, h.settled ? 1 : 0, h.name.length(),
                h.steps(h.kind), h.weight(h.kind), h.veers(h.kind, now.night + 1), h.enough(h.kind)};
            return all[what];
        }

        private long ofField(int field, int what) {
            field(field);
            what(what, 3);
            int r = field / 8;
            int c = field % 8;
            return new int[] {now.wall[r][c], now.people[r][c], now.letter[r][c], now.bits(h -> h.field == field)}[what];
        }

        private long comes(int kind, int figure, int field, int letter) {
            what(kind, 7);
            refuseIf(figure < 0 || letter < 0, -4);
            refuseIf(figure > 9 || letter > 25 || now.heads.size() == 5, -6);
            field(field);
            now.heads.add(figure(Kind.values()[kind], figure, "" + (char) ('a' + letter), field));
            past.clear();
            return now.heads.size() - 1;
        }

        private long change(String name, int head, int v) {
            head(head);
            Figure h = now.heads.get(head);
            long old;
            switch (name) {
                case "named":
                    number(v, 0, 25);
                    refuseIf(h.name.length() == 6, -6);
                    keep();
                    h.name += (char) ('a' + v);
                    return h.name.length();
                case "faces":
                    number(v, 0, 3);
                    keep();
                    old = h.facing;
                    h.facing = v;
                    return old;
                case "does":
                    what(v, 4);
                    keep();
                    old = h.word;
                    h.word = v;
                    return old;
                default:
                    number(v, 0, 99);
                    keep();
                    old = h.followers;
                    h.followers = v;
                    return old;
            }
        }

        private long changeField(String name, int[] a) {
            field(a[0]);
            int r = a[0] / 8;
            int c = a[0] % 8;
            if (name.equals("walls")) {
                number(a[1], 0, 9);
                keep();
                int old = now.wall[r][c];
                now.wall[r][c] = a[1];
                return old;
            }
            refuseIf(a[1] < 0 || a[2] < 0, -4);
            refuseIf(a[1] > 9 || a[2] > 25, -6);
            keep();
            int old = 10 * now.letter[r][c] + now.people[r][c];
            now.people[r][c] = a[1];
            now.letter[r][c] = a[2];
            return old;
        }

        private long nights(int n) {
            number(n, 1, 60);
            refuseIf(now.night + n > 999, -6);
            keep();
            now = now.behind(n);
            return now.told;
        }

        private long back() {
            refuseIf(past.isEmpty(), -3);
            now = past.pop();
            return past.size();
        }

        private long headThen(int head, int n, int what) {
            head(head);
            number(n, 0, 60);
            what(what, 3);
            Figure h = now.behind(n).heads.get(head);
            return new int[] {h.field, h.facing, h.followers, h.settled ? 1 : 0}[what];
        }

        private long then(int n, int what) {
            number(n, 0, 60);
            what(what, 3);
            Country c = now.behind(n);
            return new int[] {c.told, c.bits(h -> h.settled), Country.sum(c.people), Country.sum(c.wall)}[what];
        }

        private long first(int most, java.util.function.Predicate<Country> so) {
            Country c = now.twin();
            for (int i = 0; i <= most; i++) {
                if (so.test(c)) {
                    return i;
                }
                c.goNight();
            }
            return NONE;
        }

        private long settles(int head) {
            if (head != -1) {
                head(head);
                return first(60, c -> c.heads.get(head).settled);
            }
            long least = Long.MAX_VALUE;
            for (int i = 0; i < now.heads.size(); i++) {
                int number = i;
                long nights = first(60, c -> c.heads.get(number).settled);
                if (nights > 0) {
                    least = Math.min(least, 10 * nights + i);
                }
            }
            return least == Long.MAX_VALUE ? NONE : least % 10;
        }

        private interface Change {
            void make(Country c, int i);
        }

        private long best(int[] a, int mostNights, int choices, Change change) {
            head(a[0]);
            number(a[1], 0, mostNights);
            what(a[2], 1);
            if (choices == 26 && now.heads.get(a[0]).name.length() == 6) {
                return NONE;
            }
            int[] many = new int[choices];
            for (int i = 0; i < choices; i++) {
                int choice = i;
                many[i] = now.with(c -> change.make(c, choice)).behind(a[1]).heads.get(a[0]).followers;
            }
            int most = java.util.Arrays.stream(many).max().getAsInt();
            int which = 0;
            while (many[which] < most) {
                which++;
            }
            return a[2] == 0 ? which : most;
        }

        private long holds(int head, int field, int n) {
            head(head);
            field(field);
            number(n, 1, 60);
            for (int i = 0; i <= 9; i++) {
                int v = i;
                Country c = now.with(other -> other.wall[field / 8][field % 8] = v);
                Set<Integer> fields = new HashSet<>();
                for (int night = 0; night < n; night++) {
                    c.goNight();
                    fields.add(c.heads.get(head).field);
                }
                if (!fields.contains(field)) {
                    return v;
                }
            }
            return NONE;
        }

        private long wallFor(int head, int field, int n) {
            head(head);
            field(field);
            number(n, 0, 30);
            for (int i = 0; i < 48; i++) {
                int walled = i;
                if (now.with(c -> c.wall[walled / 8][walled % 8] = 9).behind(n).heads.get(head).field == field) {
                    return i;
                }
            }
            return NONE;
        }

        private long names(int n) {
            number(n, 0, 30);
            int most = now.behind(n).sum(h -> h.followers);
            long best = NONE;
            for (int i = 0; i < now.heads.size(); i++) {
                for (int j = i + 1; j < now.heads.size(); j++) {
                    Country c = now.twin();
                    String name = c.heads.get(i).name;
                    c.heads.get(i).name = c.heads.get(j).name;
                    c.heads.get(j).name = name;
                    int all = c.behind(n).sum(h -> h.followers);
                    if (all > most) {
                        most = all;
                        best = 10 * i + j;
                    }
                }
            }
            return best;
        }

        private long whatKind(int head, int what) {
            head(head);
            what(what, 1);
            return what == 0
                ? byWay(head, 8, (c, i) -> c.heads.get(head).kind = Kind.values()[i])
                : byWay(head, 10, (c, i) -> c.heads.get(head).figure = i);
        }

        private long byWay(int head, int choices, Change change) {
            long bits = 0;
            for (int i = 0; i < choices; i++) {
                int choice = i;
                Country c = now.with(other -> change.make(other, choice));
                List<Integer> fields = new ArrayList<>();
                for (int night = 0; night < row.size(); night++) {
                    fields.add(c.heads.get(head).field);
                    c.goNight();
                }
                bits |= fields.equals(row) ? 1L << i : 0;
            }
            return bits;
        }

        private long two(int one, int other, int n) {
            pair(one, other);
            number(n, 1, 30);
            for (int a = 0; a < 2; a++) {
                for (int b = 0; b < 2; b++) {
                    if (gain(one, other, n, a, b, one) >= gain(one, other, n, 1 - a, b, one)
                        && gain(one, other, n, a, b, other) >= gain(one, other, n, a, 1 - b, other)) {
                        return 10 * a + b;
                    }
                }
            }
            return NONE;
        }

        private int gain(int one, int other, int n, int a, int b, int whose) {
            Country c = now.twin();
            c.heads.get(one).word = a == 1 ? 4 : c.heads.get(one).word;
            c.heads.get(other).word = b == 1 ? 4 : c.heads.get(other).word;
            return c.behind(n).heads.get(whose).followers + 5 * (whose == one ? a : b);
        }

        private long rain(int head, int field, int n, int t, int part) {
            head(head);
            field(field);
            refuseIf(n < 0 || t < 2, -4);
            refuseIf(n > 7 || t > 20, -6);
            what(part, 1);
            return fraction(ways(now, head, field, n, t), (long) Math.pow(t, n), part);
        }

        private static long ways(Country c, int head, int field, int n, int t) {
            if (n == 0) {
                return c.heads.get(head).field == field ? 1 : 0;
            }
            Country rained = c.twin();
            rained.night++;
            return ways(rained, head, field, n - 1, t) + (t - 1) * ways(c.behind(1), head, field, n - 1, t);
        }

        private static long fraction(long above, long below, int part) {
            if (above == 0) {
                return part;
            }
            long divisor = java.math.BigInteger.valueOf(above).gcd(java.math.BigInteger.valueOf(below)).longValue();
            return (part == 0 ? above : below) / divisor;
        }

        private long like(int one, int other, int what) {
            pair(one, other);
            what(what, 2);
            String first = now.heads.get(one).name;
            String second = now.heads.get(other).name;
            int both = Math.min(first.length(), second.length());
            int places = 0;
            int ahead = 0;
            for (int i = 0; i < both; i++) {
                places += first.charAt(i) == second.charAt(i) ? 1 : 0;
                ahead += first.substring(0, i + 1).equals(second.substring(0, i + 1)) ? 1 : 0;
            }
            long shared = first.chars().distinct().filter(sign -> second.indexOf(sign) >= 0).count();
            return new long[] {places, ahead, shared}[what];
        }

        private long rank(int head) {
            head(head);
            String hers = now.heads.get(head).name + (char) 1 + head;
            return now.heads.stream().filter(h -> (h.name + (char) 1 + now.heads.indexOf(h)).compareTo(hers) < 0).count();
        }

        private long line(int head, int place) {
            head(head);
            refuseIf(place < 0, -4);
            String line = now.heads.get(head).line();
            return place < line.length() ? line.charAt(place) : NONE;
        }

        private long power(int head) {
            head(head);
            int all = now.sum(h -> h.followers);
            List<Integer> sums = new ArrayList<>(List.of(0));
            for (int i = 0; i < now.heads.size(); i++) {
                if (i != head) {
                    for (int sum : new ArrayList<>(sums)) {
                        sums.add(sum + now.heads.get(i).followers);
                    }
                }
            }
            double half = all / 2.0;
            return sums.stream().filter(sum -> sum <= half && sum + now.heads.get(head).followers > half).count();
        }

        private long share(int head, int part) {
            head(head);
            what(part, 1);
            return fraction(now.heads.get(head).followers, now.sum(h -> h.followers), part);
        }

        private long nearest(int field, int what) {
            field(field);
            what(what, 1);
            int least = Integer.MAX_VALUE;
            for (int i = 0; i < now.heads.size(); i++) {
                int other = now.heads.get(i).field;
                least = Math.min(least, 10 * (Math.abs(field / 8 - other / 8) + Math.abs(field % 8 - other % 8)) + i);
            }
            if (now.heads.isEmpty()) {
                return NONE;
            }
            return what == 0 ? least % 10 : least / 10;
        }

        private long way(int field, int other) {
            field(field);
            field(other);
            Set<Integer> reached = new HashSet<>(Set.of(field));
            for (int steps = 0; steps < 48; steps++) {
                if (reached.contains(other)) {
                    return steps;
                }
                for (int from : new ArrayList<>(reached)) {
                    for (int facing = 0; facing < 4; facing++) {
                        int r = from / 8 + Country.DOWN[facing];
                        int c = from % 8 + Country.ASIDE[facing];
                        if (r >= 0 && r < 6 && c >= 0 && c < 8 && now.wall[r][c] == 0) {
                            reached.add(8 * r + c);
                        }
                    }
                }
            }
            return NONE;
        }

        private long sight(int what) {
            what(what, 2);
            if (what == 0) {
                return now.sum(h -> h.name.replaceAll("[^aeiou]", "").length());
            }
            if (what == 1) {
                int hungry = 0;
                for (int i = 0; i < 48; i++) {
                    int letter = now.letter[i / 8][i % 8];
                    hungry += now.heads.stream().noneMatch(h -> h.has(letter)) ? now.people[i / 8][i % 8] : 0;
                }
                return hungry;
            }
            return now.bits(h -> now.heads.stream().filter(other -> other.field == h.field).count() == 1);
        }

        private long judge() {
            long wrong = NONE;
            for (int i = row.size() - 1; i >= 0; i--) {
                if (i >= now.heads.size() || now.heads.get(i).field != row.get(i)) {
                    wrong = i;
                }
            }
            row.clear();
            return wrong;
        }

        private long clear() {
            int had = row.size();
            row.clear();
            return had;
        }

        private long lots(int n, int z, int what) {
            number(n, 1, 20);
            what(what, 1);
            int[] seed = {z};
            long sum = 0;
            for (int game = 0; game < n; game++) {
                Country c = now.twin();
                for (Figure head : c.heads) {
                    head.field = draw(seed, 48);
                    head.facing = draw(seed, 4);
                }
                c = c.behind(12);
                sum += what == 0 ? c.told - now.told : c.sum(h -> h.settled ? 1 : 0) - now.sum(h -> h.settled ? 1 : 0);
            }
            return sum;
        }

        private static int draw(int[] seed, int n) {
            long z = seed[0] * 1103515245L + 12345L;
            seed[0] = (int) z;
            return (int) ((z & 0x7fffffffL) >> 16) % n;
        }

        private long restore() {
            refuseIf(image == null, -3);
            now = image.twin();
            past.clear();
            return now.night;
        }

        private long count(int what) {
            switch (what) {
                case 0: return now.heads.size();
                case 1: return now.night;
                case 2: return now.told;
                case 3: return now.bits(h -> h.settled);
                case 4: return now.sum(h -> h.followers);
                case 5: return Country.sum(now.people);
                case 6: return Country.sum(now.wall);
                case 7: return letters.length();
                case 8: return row.size();
                case 9: return past.size();
                case 11: case 12: case 13: case 14: case 15: case 16: return refusals[what - 10];
                default: return NONE;
            }
        }
    }
}
