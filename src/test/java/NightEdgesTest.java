/** What a NIGHT does at each of its edges, and the numbers of each KIND where something is cut, least or turns round. */
public final class NightEdgesTest extends Check {
    private static final String[] KINDS = {"lady", "queen", "slaver", "child", "saint", "collier", "pirate", "mermaid"};

    public static void main(String[] args) {
        numbersOfKinds();
        stepsByLetters();
        veersOfQueenAndPirate();
        veersOfChildAndCollier();
        veersOfSaintAndMermaid();
        veersBehindTheLastNight();
        nextFields();
        cornersWithSteps();
        facingTurnsRound();
        wallsLessByWeight();
        wallsAmongSteps();
        whoDoesNothing();
        followersFollow();
        followersHeld();
        meetsTheLeast();
        meetsNobody();
        halfIsTheOthers();
        lesserTurnsRound();
        lesserOfTwo();
        settledByEnough();
        settledInTurn();
        lastNights();
        mostTold();
        end();
    }

    private static void numbersOfKinds() {
        promise("4, STEPS, WEIGHT, ENOUGH by each FIGURE");
        int[][] steps = {
            {1, 1, 1, 1, 1, 1, 1, 1, 1, 1}, {2, 2, 2, 2, 2, 2, 2, 2, 2, 2}, {1, 1, 1, 2, 2, 2, 3, 3, 3, 4}, {1, 1, 1, 1, 1, 1, 1, 1, 1, 1},
            {1, 1, 1, 1, 1, 1, 1, 1, 1, 1}, {0, 0, 0, 0, 0, 0, 0, 0, 0, 0}, {2, 2, 2, 3, 3, 3, 4, 4, 4, 5}, {2, 2, 2, 2, 2, 2, 2, 2, 2, 2},
        };
        int[][] weight = {
            {1, 2, 3, 4, 5, 6, 7, 8, 9, 10}, {2, 4, 6, 8, 10, 12, 14, 16, 18, 20}, {9, 9, 9, 9, 9, 9, 9, 9, 9, 9}, {0, 1, 1, 2, 2, 3, 3, 4, 4, 5},
            {5, 7, 9, 11, 13, 15, 17, 19, 21, 23}, {2, 3, 3, 4, 4, 5, 5, 6, 6, 7}, {9, 8, 7, 6, 5, 4, 3, 2, 1, 0}, {5, 7, 9, 11, 13, 15, 17, 19, 21, 23},
        };
        int[][] enough = {
            {20, 20, 20, 20, 20, 20, 20, 20, 20, 20}, {40, 40, 40, 40, 40, 40, 40, 40, 40, 40}, {99, 99, 99, 99, 99, 99, 99, 99, 99, 99},
            {5, 6, 7, 8, 9, 10, 11, 12, 13, 14}, {35, 35, 35, 35, 35, 35, 35, 35, 35, 35}, {5, 6, 7, 8, 9, 10, 11, 12, 13, 14},
            {49, 49, 49, 49, 49, 49, 49, 49, 49, 49}, {35, 35, 34, 34, 33, 33, 32, 32, 31, 31},
        };
        for (int kind = 0; kind < 8; kind++) {
            for (int figure = 0; figure <= 9; figure++) {
                GoInland x = new GoInland();
                x.comes(kind, figure, 0, 1);
                due("STEPS of " + KINDS[kind] + " " + figure, x.head(0, 8), steps[kind][figure]);
                due("WEIGHT of " + KINDS[kind] + " " + figure, x.head(0, 9), weight[kind][figure]);
                due("ENOUGH of " + KINDS[kind] + " " + figure, x.head(0, 11), enough[kind][figure]);
            }
        }
    }

    private static void stepsByLetters() {
        promise("4, a COLLIER's STEPS: half of the letters of her NAME, cut");
        int[] steps = {0, 1, 1, 2, 2, 3};
        GoInland x = new GoInland();
        for (int kind = 0; kind < 5; kind++) {
            x.comes(kind + 3, 4, 0, 1);
        }
        for (int letters = 1; letters <= 6; letters++) {
            due("letters", x.head(2, 7), letters);
            due("a COLLIER's by " + letters, x.head(2, 8), steps[letters - 1]);
            due("a CHILD's by " + letters, x.head(0, 8), 1);
            due("a SAINT's by " + letters, x.head(1, 8), 1);
            due("a PIRATE's by " + letters, x.head(3, 8), 3);
            due("a MERMAID's by " + letters, x.head(4, 8), 2);
            for (int head = 0; head < 5; head++) {
                x.named(head, letters);
            }
        }
        GoInland far = told("collier 0 abcdef 0;face 0 s;");
        far.nights(1);
        dueLine(far, 0, "abcdef 0e0");
    }

    /** Five heads of two kinds, who rest while nights go by. */
    private static GoInland resting(int kind, int other) {
        GoInland x = new GoInland();
        for (int head = 0; head < 5; head++) {
            x.comes(head < 3 ? kind : other, 2 * head, head, 1);
            x.does(head, 4);
        }
        return x;
    }

    private static void veersOfQueenAndPirate() {
        promise("4, VEERS of a LADY, a QUEEN, a SLAVER, a PIRATE");
        String queens = "000100010001000100010001";
        String pirates = "101010101010101010101010";
        GoInland x = resting(1, 6);
        GoInland still = resting(0, 2);
        for (int night = 1; night <= 24; night++) {
            for (int head = 0; head < 3; head++) {
                due("a QUEEN's in " + night, x.head(head, 10), queens.charAt(night - 1) - '0');
                due("a LADY's in " + night, still.head(head, 10), 0);
            }
            for (int head = 3; head < 5; head++) {
                due("a PIRATE's in " + night, x.head(head, 10), pirates.charAt(night - 1) - '0');
                due("a SLAVER's in " + night, still.head(head, 10), 0);
            }
            x.nights(1);
            still.nights(1);
        }
    }

    private static void veersOfChildAndCollier() {
        promise("4, VEERS of a CHILD, a COLLIER");
        for (int figure = 0; figure <= 9; figure++) {
            int[] due = new int[25];
            for (int night = figure + 2; night <= 24; night += figure + 2) {
                due[night] = 3;
            }
            GoInland x = new GoInland();
            x.comes(3, figure, 0, 1);
            x.comes(5, figure, 1, 1);
            x.does(0, 4);
            x.does(1, 4);
            for (int night = 1; night <= 24; night++) {
                due("a CHILD's of " + figure + " in " + night, x.head(0, 10), due[night]);
                due("a COLLIER's of " + figure + " in " + night, x.head(1, 10), due[night] + 1);
                x.nights(1);
            }
        }
    }

    private static void veersOfSaintAndMermaid() {
        promise("4, VEERS of a SAINT, a MERMAID");
        GoInland x = told("saint 3 ab 0;saint 3 b 1;mermaid 3 ba 2;mermaid 3 ub 3;mermaid 3 b 4;", "joins 1 1;joins 3 1;joins 4 1;");
        for (int head = 0; head < 5; head++) {
            x.does(head, 4);
        }
        for (int night = 1; night <= 8; night++) {
            int queens = night == 4 || night == 8 ? 1 : 0;
            due("a SAINT's without FOLLOWERS in " + night, x.head(0, 10), 2);
            due("a SAINT's with one in " + night, x.head(1, 10), queens);
            due("a MERMAID's without FOLLOWERS in " + night, x.head(2, 10), 2);
            due("a MERMAID's whose NAME begins with u in " + night, x.head(3, 10), 3);
            due("a MERMAID's with one in " + night, x.head(4, 10), queens);
            x.nights(1);
        }
        x.joins(1, 0);
        x.joins(3, 0);
        x.joins(0, 99);
        due("a SAINT's who has none any more", x.head(1, 10), 2);
        due("a MERMAID's whose NAME begins with u, without", x.head(3, 10), 3);
        due("a SAINT's with 99 in 9", x.head(0, 10), 0);
    }

    private static void veersBehindTheLastNight() {
        promise("4, VEERS in the NIGHT behind 999");
        GoInland x = told("queen 0 b 40;does 0 rest;pirate 0 b 1;does 1 rest;", "child 8 b 2;does 2 rest;child 9 b 3;does 3 rest;");
        passTo960(x);
        x.nights(39);
        due("4 divides 1000", x.head(0, 10), 1);
        due("1000 is even", x.head(1, 10), 0);
        due("10 divides 1000", x.head(2, 10), 3);
        due("11 doesn't divide 1000", x.head(3, 10), 0);
        x.does(0, 0);
        due("in mind she veers in it", x.headThen(0, 1, 1), 1);
        due("in mind she goes on in 1002", x.headThen(0, 3, 0), 46);
    }

    private static void nextFields() {
        promise("13, the next FIELD from each, each way");
        int[] down = {-1, 0, 1, 0};
        int[] aside = {0, 1, 0, -1};
        int[] back = {2, 3, 0, 1};
        for (int row = 0; row < 6; row++) {
            for (int column = 0; column < 8; column++) {
                for (int facing = 0; facing < 4; facing++) {
                    GoInland x = new GoInland();
                    x.comes(0, 0, 8 * row + column, 0);
                    x.faces(0, facing);
                    x.nights(1);
                    int toRow = row + down[facing];
                    int toColumn = column + aside[facing];
                    boolean none = toRow < 0 || toRow > 5 || toColumn < 0 || toColumn > 7;
                    String from = "from row " + row + " column " + column + " facing " + facing;
                    due("FIELD " + from, x.head(0, 2), none ? 8 * row + column : 8 * toRow + toColumn);
                    due("FACING " + from, x.head(0, 3), none ? back[facing] : facing);
                }
            }
        }
    }

    private static void cornersWithSteps() {
        promise("13, is there no next FIELD she goes no more that NIGHT");
        GoInland x = told("queen 0 b 22;face 0 e;queen 0 b 31;face 1 e;slaver 9 b 36;face 2 e;slaver 9 b 3;face 3 e;");
        x.nights(1);
        dueLine(x, 0, "b 23w0");
        dueLine(x, 1, "b 31w0");
        dueLine(x, 2, "b 39w0");
        dueLine(x, 3, "b 7e0");
        x.nights(1);
        dueLine(x, 0, "b 21w0");
        dueLine(x, 1, "b 29w0");
        dueLine(x, 2, "b 35w0");
        dueLine(x, 3, "b 7w0");
        GoInland rows = told("slaver 9 b 8;slaver 9 b 33;slaver 9 b 34;face 2 s;slaver 9 b 11;face 3 s;");
        rows.nights(1);
        dueLine(rows, 0, "b 0s0");
        dueLine(rows, 1, "b 1n0");
        dueLine(rows, 2, "b 42n0");
        dueLine(rows, 3, "b 43s0");
    }

    private static void facingTurnsRound() {
        promise("13, FACING, 0 .. 3 again");
        String[] words = {"on", "left", "right", "back"};
        String[] then = {"nesw", "wnes", "eswn", "swne"};
        for (int word = 0; word < 4; word++) {
            for (int facing = 0; facing < 4; facing++) {
                String from = "nesw".charAt(facing) + " " + words[word];
                GoInland lady = told("lady 0 b 20;face 0 " + "nesw".charAt(facing) + ";does 0 " + words[word] + ";");
                lady.nights(1);
                due("LADY " + from, "nesw".charAt(lady.head(0, 3)), then[word].charAt(facing));
                GoInland collier = told("collier 0 b 20;face 0 " + "nesw".charAt(facing) + ";does 0 " + words[word] + ";");
                collier.nights(1);
                char once = then[word].charAt(facing);
                char first = "eswn".charAt("nesw".indexOf(once));
                due("COLLIER " + from + ", 1 more", "nesw".charAt(collier.head(0, 3)), first);
                collier.nights(1);
                due("COLLIER " + from + ", 4 more", "nesw".charAt(collier.head(0, 3)), then[word].charAt("nesw".indexOf(first)));
                GoInland mermaid = told("mermaid 0 ab 20;face 0 " + "nesw".charAt(facing) + ";does 0 " + words[word] + ";");
                mermaid.nights(1);
                due("MERMAID " + from + ", 3 more", "nesw".charAt(mermaid.head(0, 3)), "wnes".charAt("nesw".indexOf(once)));
                GoInland saint = told("saint 0 ab 20;face 0 " + "nesw".charAt(facing) + ";does 0 " + words[word] + ";");
                saint.nights(1);
                due("SAINT " + from + ", 2 more", "nesw".charAt(saint.head(0, 3)), "swne".charAt("nesw".indexOf(once)));
            }
        }
    }

    private static void wallsLessByWeight() {
        promise("13, a WALL is less by her WEIGHT, 0 held");
        for (int wall = 1; wall <= 9; wall++) {
            for (int figure = 0; figure <= 9; figure++) {
                GoInland x = new GoInland();
                x.comes(0, figure, 9, 0);
                x.walls(1, wall);
                x.nights(1);
                String told = "WALL of " + wall + " behind a LADY " + figure;
                due(told, x.field(1, 0), figure + 1 < wall ? wall - figure - 1 : 0);
                due("FIELD ahead of a " + told, x.head(0, 2), 9);
                due("FACING ahead of a " + told, x.head(0, 3), 0);
            }
        }
        GoInland light = told("child 0 b 9;wall 1 1;");
        light.nights(1);
        due("a WALL of 1 against a WEIGHT of 0", light.field(1, 0), 1);
        dueLine(light, 0, "b 9n0");
        GoInland pirate = told("nights 1;pirate 9 b 9;wall 1 1;");
        pirate.nights(1);
        due("a WALL of 1 against a PIRATE 9", pirate.field(1, 0), 1);
        GoInland heavy = told("saint 9 b 9;joins 0 1;wall 1 9;");
        heavy.nights(1);
        due("a WALL of 9 against a WEIGHT of 23", heavy.field(1, 0), 0);
        heavy.nights(1);
        dueLine(heavy, 0, "b 1n1");
    }

    private static void wallsAmongSteps() {
        promise("13, has it a WALL she goes no more that NIGHT");
        GoInland x = told("slaver 9 b 0;face 0 e;wall 1 1;slaver 9 b 8;face 1 e;wall 10 9;slaver 9 b 16;face 2 e;wall 21 9;");
        x.nights(1);
        dueLine(x, 0, "b 0e0");
        due("the WALL ahead of the first step", x.field(1, 0), 0);
        dueLine(x, 1, "b 9e0");
        due("the WALL ahead of the second", x.field(10, 0), 0);
        dueLine(x, 2, "b 20e0");
        due("the WALL behind the last", x.field(21, 0), 9);
        x.nights(1);
        dueLine(x, 0, "b 4e0");
        dueLine(x, 1, "b 13e0");
        dueLine(x, 2, "b 20e0");
        GoInland own = told("wall 9 9;lady 0 b 9;");
        own.nights(1);
        dueLine(own, 0, "b 1n0");
        due("the WALL of her own FIELD", own.field(9, 0), 9);
    }

    private static void whoDoesNothing() {
        promise("13, who is SETTLED or rests");
        GoInland x = told("lady 0 a 9;joins 0 20;does 0 rest;folk 9 5 a;face 0 w;lady 0 a 9;does 1 rest;");
        due("nobody MEETS", x.nights(1), 0);
        dueLine(x, 0, "a 9w20");
        due("PEOPLE of the FIELD of one who rests", x.field(9, 1), 5);
        due("NIGHT", x.count(1), 1);
        due("who rests and has ENOUGH is not SETTLED", x.count(3), 0);
        GoInland settled = told("collier 0 a 9;joins 0 5;nights 1;folk 9 5 a;does 0 left;");
        dueLine(settled, 0, "a 9e!");
        settled.nights(1);
        dueLine(settled, 0, "a 9e!");
        due("FOLLOWERS of one SETTLED", settled.head(0, 5), 5);
        due("PEOPLE of her FIELD", settled.field(9, 1), 5);
        settled.joins(0, 0);
        settled.nights(1);
        due("she stays SETTLED with FOLLOWERS 0", settled.head(0, 6), 1);
        dueLine(settled, 0, "a 9e!");
        due("nobody there at all", new GoInland().nights(60), 0);
    }

    private static void followersFollow() {
        promise("13, PEOPLE follow if the LETTER is in her NAME");
        GoInland x = told("lady 0 abcdez 40;lady 0 z 41;lady 0 abcdez 42;lady 0 abcdez 43;");
        x.folk(32, 9, 0);
        x.folk(33, 9, 0);
        x.folk(34, 9, 25);
        x.folk(35, 9, 5);
        x.nights(1);
        due("the first letter", x.head(0, 5), 9);
        due("PEOPLE then", x.field(32, 1), 0);
        due("LETTER then", x.field(32, 2), 0);
        due("another letter", x.head(1, 5), 0);
        due("PEOPLE then", x.field(33, 1), 9);
        due("the last of 6", x.head(2, 5), 9);
        due("PEOPLE then", x.field(34, 1), 0);
        due("LETTER then", x.field(34, 2), 25);
        due("no letter of 6", x.head(3, 5), 0);
        GoInland still = told("lady 0 a 0;folk 0 4 a;lady 0 a 20;wall 12 9;folk 20 3 a;collier 0 a 47;folk 47 2 a;");
        still.nights(1);
        due("who finds no FIELD", still.head(0, 5), 4);
        due("who finds a WALL", still.head(1, 5), 3);
        due("who has no STEPS", still.head(2, 5), 2);
    }

    private static void followersHeld() {
        promise("13, FOLLOWERS, 99 held");
        int[] had = {0, 89, 90, 91, 99};
        int[] due = {9, 98, 99, 99, 99};
        for (int i = 0; i < had.length; i++) {
            GoInland x = told("slaver 0 a 9;folk 1 9 a;joins 0 " + had[i] + ";");
            x.nights(1);
            due("9 more than " + had[i], x.head(0, 5), due[i]);
            due("PEOPLE then", x.field(1, 1), 0);
            due("SETTLED by 99", x.head(0, 6), due[i] == 99 ? 1 : 0);
        }
    }

    private static void meetsTheLeast() {
        promise("13, she MEETS the least of them");
        GoInland x = new GoInland();
        for (int head = 0; head < 5; head++) {
            x.comes(5, 0, 20, 1);
            x.joins(head, 4);
            x.does(head, head == 4 ? 0 : 4);
        }
        due("the last of 5 MEETS one", x.nights(1), 1);
        due("the first has 2 more", x.head(0, 5), 6);
        due("the second none", x.head(1, 5), 4);
        due("she is the LESSER by her number", x.head(4, 5), 2);
        x.does(0, 0);
        x.does(4, 4);
        due("the first MEETS the second", x.nights(1), 2);
        due("the second is the LESSER", x.head(1, 5), 2);
        due("the third has what she had", x.head(2, 5), 4);
        GoInland all = new GoInland();
        for (int head = 0; head < 5; head++) {
            all.comes(5, 9, 20, 1);
        }
        due("each MEETS one a NIGHT", all.nights(1), 5);
        due("each MEETS one a NIGHT", all.nights(59), 300);
    }

    private static void meetsNobody() {
        promise("13, is another one there who is not SETTLED");
        GoInland alone = told("lady 0 a 20;lady 0 a 21;lady 0 a 28;");
        due("side by side", alone.nights(2), 0);
        GoInland settled = told("lady 9 a 20;joins 0 20;lady 0 b 11;face 1 e;joins 1 8;");
        due("one who is SETTLED just now", settled.nights(1), 0);
        due("both are there", settled.field(12, 3), 3);
        due("FOLLOWERS", settled.head(1, 5), 8);
        GoInland ahead = told("lady 0 b 11;face 0 e;joins 0 8;lady 9 a 12;does 1 rest;joins 1 20;");
        due("one who has ENOUGH, but rests", ahead.nights(1), 1);
        due("FOLLOWERS", ahead.head(0, 5), 4);
        GoInland second = told("child 0 a 12;joins 0 10;face 0 w;lady 0 b 11;does 1 rest;lady 0 c 10;does 2 rest;nights 1;");
        due("SETTLED where another is", second.head(0, 6), 1);
        due("TOLD", second.count(2), 1);
        second.does(2, 0);
        second.faces(2, 1);
        due("the least who is not SETTLED", second.nights(1), 2);
        due("who is there", second.field(11, 3), 7);
        due("she was turned", second.head(1, 3), 2);
    }

    private static void halfIsTheOthers() {
        promise("13, half of her FOLLOWERS, cut, are the other's, 99 held");
        int[] lesser = {0, 1, 2, 3, 98, 99};
        int[] left = {0, 1, 1, 2, 49, 50};
        for (int i = 0; i < lesser.length; i++) {
            GoInland x = told("slaver 0 a 0;face 0 e;joins 0 10;lady 0 b 1;does 1 rest;joins 1 " + lesser[i] + ";");
            x.nights(1);
            due("the LESSER of " + lesser[i], x.head(1, 5), left[i]);
            due("the other of 10", x.head(0, 5), 10 + lesser[i] - left[i]);
        }
        int[] other = {49, 50, 51, 98, 99};
        for (int had : other) {
            GoInland x = told("slaver 0 a 0;face 0 e;lady 0 b 1;does 1 rest;joins 1 99;joins 0 " + had + ";");
            x.nights(1);
            due("the other of " + had, x.head(0, 5), had == 49 ? 98 : 99);
            due("the LESSER of 99", x.head(1, 5), 50);
        }
        GoInland met = told("lady 0 a 0;face 0 e;joins 0 9;slaver 0 b 1;does 1 rest;joins 1 98;");
        met.nights(1);
        due("whose turn it is, the LESSER of 9", met.head(0, 5), 5);
        due("the other of 98", met.head(1, 5), 99);
        due("the other is not SETTLED by it", met.head(1, 6), 0);
    }

    private static void lesserTurnsRound() {
        promise("13, the LESSER turns back");
        for (int facing = 0; facing < 4; facing++) {
            GoInland x = told("slaver 0 a 0;face 0 e;lady 0 b 1;does 1 rest;face 1 " + "nesw".charAt(facing) + ";");
            x.nights(1);
            due("who was facing " + facing, x.head(1, 3), facing < 2 ? facing + 2 : facing - 2);
            due("the other", x.head(0, 3), 1);
        }
        int[] from = {28, 19, 12, 21};
        for (int facing = 0; facing < 4; facing++) {
            GoInland x = told("slaver 0 a 20;does 0 rest;lady 0 b " + from[facing] + ";face 1 " + "nesw".charAt(facing) + ";");
            x.nights(1);
            due("who went facing " + facing, x.head(1, 3), facing < 2 ? facing + 2 : facing - 2);
            due("she is there", x.head(1, 2), 20);
            due("the other", x.head(0, 3), 0);
        }
    }

    /** Two on a FIELD on the edge, a WALL beside them, of whom one rests. */
    private static void dueLesser(String one, String other, int lesser) {
        for (int turn = 0; turn < 2; turn++) {
            String both = one + " 0;" + other + " 0;does 0 rest;does 1 rest;joins 0 2;joins 1 2;";
            GoInland x = told(both, "wall 1 9;does " + turn + " on;");
            x.nights(1);
            due("TOLD of " + one + " and " + other, x.count(2), 1);
            due("LESSER of " + one + " and " + other + " in the turn of " + turn, x.head(0, 5) == 1 ? 0 : 1, lesser);
        }
    }

    private static void lesserOfTwo() {
        promise("13, LESSER");
        dueLesser("collier 2 z", "collier 3 a", 0);
        dueLesser("collier 3 a", "collier 2 z", 1);
        dueLesser("collier 4 a", "collier 3 z", 0);
        dueLesser("collier 3 z", "collier 4 a", 1);
        dueLesser("collier 5 a", "collier 4 z", 1);
        dueLesser("collier 2 a", "collier 1 b", 0);
        dueLesser("collier 1 b", "collier 2 a", 1);
        dueLesser("collier 0 ab", "collier 0 abc", 0);
        dueLesser("collier 0 abc", "collier 0 ab", 1);
        dueLesser("collier 0 ab", "collier 0 b", 0);
        dueLesser("collier 0 b", "collier 0 ab", 1);
        dueLesser("collier 0 abcdef", "collier 0 abcdeg", 0);
        dueLesser("collier 0 abcdeg", "collier 0 abcdef", 1);
        dueLesser("collier 0 a", "collier 0 a", 1);
        dueLesser("collier 0 abcdef", "collier 0 abcdef", 1);
        dueLesser("lady 8 z", "slaver 0 a", 1);
        dueLesser("lady 7 z", "slaver 0 a", 0);
        dueLesser("lady 9 a", "slaver 9 z", 1);
    }

    private static void settledByEnough() {
        promise("13, ENOUGH or more");
        int[] figures = {0, 1, 8, 9};
        for (int kind = 0; kind < 8; kind++) {
            for (int figure : figures) {
                for (int less = -1; less <= 1; less++) {
                    GoInland x = new GoInland();
                    x.comes(kind, figure, 20, 1);
                    int joined = x.head(0, 11) - less;
                    if (joined > 99) {
                        continue;
                    }
                    x.joins(0, joined);
                    due("SETTLED ahead of her turn", x.head(0, 6), 0);
                    x.nights(1);
                    due(KINDS[kind] + " " + figure + " SETTLED with " + joined, x.head(0, 6), less > 0 ? 0 : 1);
                }
            }
        }
    }

    private static void settledInTurn() {
        promise("13, she whose turn it was is SETTLED");
        GoInland met = told("lady 0 a 0;face 0 e;joins 0 10;lady 9 b 1;does 1 rest;joins 1 15;");
        met.nights(1);
        due("who MET has 5 more", met.head(1, 5), 20);
        due("who MET is not SETTLED in another's turn", met.count(3), 0);
        GoInland later = told("lady 0 a 0;face 0 e;joins 0 10;collier 9 b 1;joins 1 19;");
        later.nights(1);
        due("in her own turn, that NIGHT, she is", later.count(3), 2);
        GoInland lost = told("lady 0 a 0;face 0 e;joins 0 20;lady 9 b 1;does 1 rest;");
        lost.nights(1);
        due("who has ENOUGH no more is not SETTLED", lost.count(3), 0);
        due("FOLLOWERS", lost.head(0, 5), 10);
        GoInland five = new GoInland();
        for (int head = 0; head < 5; head++) {
            five.comes(5, 0, 9 * head, 1);
            five.joins(head, 5);
        }
        five.nights(1);
        due("all 5 of them", five.count(3), 31);
    }

    private static void lastNights() {
        promise("13, NIGHT 999");
        GoInland x = told("lady 0 a 40;");
        passTo960(x);
        due("nights(40)", x.nights(40), -6);
        due("NIGHT", x.count(1), 960);
        due("nights(38)", x.nights(38), 0);
        due("nights(2) of 998", x.nights(2), -6);
        due("nights(1) of 998", x.nights(1), 0);
        due("NIGHT", x.count(1), 999);
        due("nights(1) of 999", x.nights(1), -6);
        due("nights(60) of 999", x.nights(60), -6);
        due("nights(0) of 999", x.nights(0), -4);
        due("a land of nights 1", tell(x, "nights 1;"), -2000);
        due("NIGHT", x.count(1), 999);
        due("back()", x.back(), 7);
        due("NIGHT", x.count(1), 998);
    }

    /** As many as five heads can MEET in 999 nights, and 60 more in mind: below 9999, which is never reached. */
    private static void mostTold() {
        promise("13, TOLD");
        GoInland x = new GoInland();
        for (int head = 0; head < 5; head++) {
            x.comes(5, 9, 20, 1);
        }
        passTo960(x);
        due("TOLD", x.nights(39), 4995);
        due("TOLD in mind", x.then(60, 0), 5295);
        due("TOLD now", x.count(2), 4995);
    }
}
