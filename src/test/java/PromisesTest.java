/** For each promise of DOC.md cases worked out by hand: ordinary ones, edges, wrong inputs. */
public final class PromisesTest extends Check {
    public static void main(String[] args) {
        newObject();
        feed();
        landForm();
        landStatements();
        landComes();
        headOfEachKind();
        headOfNightsAndNames();
        field();
        comes();
        named();
        faces();
        does();
        joins();
        walls();
        folk();
        nightsRefused();
        nightsWallsAndEdges();
        nightsVeers();
        nightsFollow();
        nightsMeet();
        nightsLesser();
        nightsSettle();
        back();
        headThen();
        then();
        when();
        settles();
        meeting();
        bestWord();
        bestLetter();
        holds();
        wallFor();
        names();
        whatKind();
        whatWord();
        two();
        rain();
        like();
        rank();
        line();
        power();
        share();
        nearest();
        way();
        sight();
        kinds();
        row();
        judge();
        clear();
        lots();
        image();
        count();
        end();
    }

    private static void newObject() {
        promise("1");
        GoInland x = new GoInland();
        for (int what = 0; what <= 9; what++) {
            due("count(" + what + ")", x.count(what), 0);
        }
        for (int field = 0; field < 48; field++) {
            due("wall of " + field, x.field(field, 0), 0);
            due("people of " + field, x.field(field, 1), 0);
            due("letter of " + field, x.field(field, 2), 0);
            due("heads on " + field, x.field(field, 3), 0);
        }
        due("head(0, 0)", x.head(0, 0), -1);
        due("restore()", x.restore(), -3);
    }

    private static void feed() {
        promise("2");
        GoInland x = new GoInland();
        due("feed(-1)", x.feed(-1), -4);
        due("feed(256)", x.feed(256), -6);
        due("feed(0)", x.feed(0), 1);
        due("feed(255)", x.feed(255), 2);
        for (int i = 3; i <= 96; i++) {
            due("feed(97)", x.feed(97), i);
        }
        due("feed(97) of 97", x.feed(97), -6);
        due("feed(-1) of 97", x.feed(-1), -4);
        due("feed(min)", x.feed(Integer.MIN_VALUE), -4);
        due("feed(max)", x.feed(Integer.MAX_VALUE), -6);
        due("count(7)", x.count(7), 96);
        due("count(14)", x.count(14), 3);
        due("count(16)", x.count(16), 3);
        due("land()", x.land(), -1000);
        due("count(7)", x.count(7), 0);
        due("feed(97)", x.feed(97), 1);
    }

    private static void landForm() {
        promise("3, form");
        GoInland x = new GoInland();
        dueLand(x, "", -1000);
        dueLand(x, "l", -1001);
        dueLand(x, "Lady", -1000);
        dueLand(x, " wall 1 2;", -1000);
        dueLand(x, "5", -1000);
        dueLand(x, "abcdefgh", -1007);
        dueLand(x, "abcdefg", -1007);
        dueLand(x, "wall5", -1004);
        dueLand(x, "wall;", -1004);
        dueLand(x, "wall ;", -1005);
        dueLand(x, "wall  1", -1005);
        dueLand(x, "wall 5a", -1006);
        dueLand(x, "wall a5", -1006);
        dueLand(x, "wall 123", -1007);
        dueLand(x, "wall abcdefgh", -1012);
        dueLand(x, "wall 1 ", -1007);
        dueLand(x, "wall 1 2 3 4;", -1010);
        dueLand(x, "wall 1 2 3 ;", -1010);
        dueLand(x, "wall 1 2", -1008);
        dueLand(x, "wall 1 2;;", -1009);
        dueLand(x, "wall 1 2; ", -1009);
        dueLand(x, "wall 1 2;x", -1010);
        dueLand(x, "wall 1 2;wall 48 1;rock", -1023);
        dueLand(x, "wall 1 -2;", -1007);
        dueLand(x, "`a 1;", -1000);
        dueLand(x, "a{ 1;", -1001);
        dueLand(x, "a /;", -1002);
        dueLand(x, "a :;", -1002);
        for (int refusal = 11; refusal <= 16; refusal++) {
            due("count(" + refusal + ")", x.count(refusal), 0);
        }
        due("count(6)", x.count(6), 0);
        StringBuilder whole = new StringBuilder();
        for (int i = 0; i < 12; i++) {
            whole.append("wall 1 ").append(i % 10).append(';');
        }
        whole.setLength(96);
        dueLand(x, whole.toString(), -1096);
    }

    private static void landStatements() {
        promise("3, statements");
        String[] bad = {
            "rock 1 2;", "wal 1 2;", "walls 1 2;", "wall 1;", "wall 1 2 3;", "wall a 2;", "wall 1 a;", "wall 48 2;", "wall 1 10;",
            "folk 3 10 z;", "folk 48 9 z;", "folk 3 9 zz;", "folk 3 9 5;", "folk 3 9;", "folk z 9 z;", "folk 3 z z;",
            "face 0 n;", "does 0 on;", "joins 0 1;", "nights 0;", "nights 61;", "nights a;", "nights 1 1;",
            "lady 10 a 1;", "lady a a 1;", "lady 1 1 1;", "lady 1 abcdefg 1;", "lady 1 a 48;", "lady 1 a a;", "lady 1 a;", "lady 1;",
            "head 1 a 1;", "on 1 a 1;", "n 1 a 1;",
        };
        for (String text : bad) {
            GoInland none = new GoInland();
            dueLand(none, text, -2000);
            due("count(0)", none.count(0), 0);
            due("count(1)", none.count(1), 0);
        }
        String[] badOfHead = {
            "face 0 x;", "face 0 ne;", "face 0 1;", "face 1 n;", "face a n;", "face 0;", "face 0 n n;",
            "does 0 up;", "does 0 1;", "does 1 on;", "does a on;", "does 0;", "does 0 on on;",
            "joins 0 a;", "joins 1 1;", "joins a 1;", "joins 0;", "joins 0 1 1;",
        };
        for (String text : badOfHead) {
            dueLand(told("lady 1 a 1;"), text, -2000);
        }
        GoInland x = told("lady 1 a 1;");
        dueLand(x, "wall 1 2;wall 48 1;", -2009);
        due("nothing of it came", x.field(1, 0), 0);
        dueLand(x, "lady 1 b 1;joins 1 5;joins 2 5;lady 1 c 1;", -2021);
        due("no head came", x.count(0), 1);
        dueLand(x, "lady 1 b 1;joins 1 5;joins 1 6;lady 1 c 1;", 4);
        dueLand(x, "lady 1 d 1;wall 2 2;lady 1 e 1;lady 1 f 1;", -2031);
        due("heads", x.count(0), 3);
        dueLand(x, "lady 1 d 1;lady 1 e 1;", 2);
        dueLand(x, "lady 1 f 1;", -2000);
        GoInland late = new GoInland();
        passTo960(late);
        dueLand(late, "nights 40;", -2000);
        dueLand(late, "nights 20;nights 20;", -2010);
        due("night", late.count(1), 960);
        dueLand(late, "nights 20;nights 19;", 2);
        due("night", late.count(1), 999);
    }

    private static void landComes() {
        promise("3, what comes");
        GoInland x = new GoInland();
        dueLand(x, "wall 7 9;folk 47 8 z;queen 9 abcdef 0;face 0 w;does 0 left;joins 0 99;", 6);
        due("wall", x.field(7, 0), 9);
        due("people", x.field(47, 1), 8);
        due("letter", x.field(47, 2), 25);
        dueLine(x, 0, "abcdef 0w99");
        due("kind", x.head(0, 0), 1);
        due("figure", x.head(0, 1), 9);
        due("word", x.head(0, 4), 1);
        dueLand(x, "folk 8 0 c;joins 0 0;", 2);
        due("people", x.field(8, 1), 0);
        due("letter", x.field(8, 2), 2);
        due("followers", x.head(0, 5), 0);
        dueLand(x, "wall 07 00;folk 08 09 a;mermaid 02 b 09;joins 01 07;", 4);
        due("wall", x.field(7, 0), 0);
        due("people", x.field(8, 1), 9);
        dueLine(x, 1, "b 9n7");
        due("kind", x.head(1, 0), 7);
        String[] kinds = {"lady", "queen", "slaver", "child", "saint", "collier", "pirate", "mermaid"};
        for (int kind = 0; kind < 8; kind++) {
            GoInland one = told(kinds[kind] + " 3 ab 12;");
            due(kinds[kind], one.head(0, 0), kind);
            due("name of " + kinds[kind], one.head(0, 7), 2);
        }
        String[] words = {"on", "left", "right", "back", "rest"};
        for (int word = 0; word < 5; word++) {
            GoInland one = told("lady 3 ab 12;does 0 " + words[word] + ";");
            due(words[word], one.head(0, 4), word);
        }
        String[] facings = {"n", "e", "s", "w"};
        for (int facing = 0; facing < 4; facing++) {
            GoInland one = told("lady 3 ab 12;face 0 " + facings[facing] + ";");
            due(facings[facing], one.head(0, 3), facing);
        }
        GoInland gone = told("lady 0 a 40;nights 2;wall 16 9;");
        due("night", gone.count(1), 2);
        due("field", gone.head(0, 2), 24);
        gone.walls(1, 1);
        dueLand(gone, "wall 1 99;", -2000);
        due("a fault leaves what can be taken back", gone.count(9), 1);
        dueLand(gone, "wall 1 9;", 1);
        due("a land leaves none", gone.count(9), 0);
    }

    private static void headOfEachKind() {
        promise("4");
        int[][] steps = {{1, 1, 1}, {2, 2, 2}, {1, 2, 4}, {1, 1, 1}, {1, 1, 1}, {0, 0, 0}, {2, 3, 5}, {2, 2, 2}};
        int[][] weights = {{1, 6, 10}, {2, 12, 20}, {9, 9, 9}, {0, 3, 5}, {5, 15, 23}, {2, 5, 7}, {9, 4, 0}, {5, 15, 23}};
        int[][] enough = {{20, 20, 20}, {40, 40, 40}, {99, 99, 99}, {5, 10, 14}, {35, 35, 35}, {5, 10, 14}, {49, 49, 49}, {35, 33, 31}};
        int[] veersAtFirst = {0, 0, 0, 0, 2, 1, 1, 2};
        int[] figures = {0, 5, 9};
        for (int kind = 0; kind < 8; kind++) {
            for (int i = 0; i < 3; i++) {
                GoInland x = new GoInland();
                x.comes(kind, figures[i], 20, 1);
                String who = "kind " + kind + " figure " + figures[i];
                due("kind of " + who, x.head(0, 0), kind);
                due("figure of " + who, x.head(0, 1), figures[i]);
                due("field of " + who, x.head(0, 2), 20);
                due("facing of " + who, x.head(0, 3), 0);
                due("word of " + who, x.head(0, 4), 0);
                due("followers of " + who, x.head(0, 5), 0);
                due("settled of " + who, x.head(0, 6), 0);
                due("letters of " + who, x.head(0, 7), 1);
                due("steps of " + who, x.head(0, 8), steps[kind][i]);
                due("weight of " + who, x.head(0, 9), weights[kind][i]);
                due("veers of " + who, x.head(0, 10), veersAtFirst[kind]);
                due("enough of " + who, x.head(0, 11), enough[kind][i]);
                due("head(0, 12)", x.head(0, 12), -2);
                due("head(0, -1)", x.head(0, -1), -2);
                due("head(1, 0)", x.head(1, 0), -1);
                due("head(-1, 12)", x.head(-1, 12), -1);
            }
        }
    }

    private static void headOfNightsAndNames() {
        promise("4, nights and names");
        GoInland x = told("queen 5 b 0;child 5 b 9;saint 5 b 18;collier 5 b 27;pirate 5 b 36;");
        x.nights(27);
        due("queen's veers in 28", x.head(0, 10), 1);
        due("child's veers in 28", x.head(1, 10), 3);
        due("saint's veers without followers", x.head(2, 10), 2);
        due("collier's veers in 28", x.head(3, 10), 4);
        due("pirate's veers in 28", x.head(4, 10), 0);
        x.joins(2, 1);
        due("saint's veers with followers in 28", x.head(2, 10), 1);
        x.nights(1);
        due("queen's veers in 29", x.head(0, 10), 0);
        due("child's veers in 29", x.head(1, 10), 0);
        x.joins(2, 1);
        due("saint's veers with followers in 29", x.head(2, 10), 0);
        due("collier's veers in 29", x.head(3, 10), 1);
        due("pirate's veers in 29", x.head(4, 10), 1);
        for (int letters = 1; letters <= 6; letters++) {
            due("letters", x.head(3, 7), letters);
            due("collier's steps by " + letters, x.head(3, 8), letters / 2);
            x.named(3, 0);
        }
        String vowels = "aeiou";
        for (int letter = 0; letter < 26; letter++) {
            GoInland one = new GoInland();
            one.comes(7, 0, 0, letter);
            int want = vowels.indexOf('a' + letter) >= 0 ? 3 : 2;
            due("mermaid's veers by letter " + letter, one.head(0, 10), want);
            one.joins(0, 1);
            due("mermaid's veers with followers by letter " + letter, one.head(0, 10), want == 3 ? 3 : 0);
            one.named(0, 0);
            due("only her first letter tells", one.head(0, 10), want == 3 ? 3 : 0);
        }
        GoInland child = told("child 0 a 0;");
        due("child 0 in 1", child.head(0, 10), 0);
        child.nights(1);
        due("child 0 in 2", child.head(0, 10), 3);
    }

    private static void field() {
        promise("5");
        GoInland x = told("wall 47 3;folk 0 7 c;lady 1 a 5;lady 1 a 5;lady 1 a 6;");
        due("wall", x.field(47, 0), 3);
        due("people", x.field(0, 1), 7);
        due("letter", x.field(0, 2), 2);
        due("heads on 5", x.field(5, 3), 3);
        due("heads on 6", x.field(6, 3), 4);
        due("heads on 7", x.field(7, 3), 0);
        due("field(48, 0)", x.field(48, 0), -1);
        due("field(-1, 9)", x.field(-1, 9), -1);
        due("field(0, 4)", x.field(0, 4), -2);
        due("field(0, -1)", x.field(0, -1), -2);
    }

    private static void comes() {
        promise("6");
        GoInland x = new GoInland();
        x.walls(1, 1);
        due("comes(8, -1, 0, 0)", x.comes(8, -1, 0, 0), -2);
        due("comes(-1, 0, 0, 0)", x.comes(-1, 0, 0, 0), -2);
        due("comes(0, -1, 0, 26)", x.comes(0, -1, 0, 26), -4);
        due("comes(0, 10, 0, -1)", x.comes(0, 10, 0, -1), -4);
        due("comes(0, 10, -1, 0)", x.comes(0, 10, -1, 0), -6);
        due("comes(0, 0, 48, 26)", x.comes(0, 0, 48, 26), -6);
        due("comes(0, 0, 48, 0)", x.comes(0, 0, 48, 0), -1);
        due("comes(0, 0, -1, 0)", x.comes(0, 0, -1, 0), -1);
        due("refused ones leave what can be taken back", x.count(9), 1);
        due("comes(7, 9, 47, 25)", x.comes(7, 9, 47, 25), 0);
        due("she leaves none", x.count(9), 0);
        dueLine(x, 0, "z 47n0");
        due("comes(0, 0, 0, 0)", x.comes(0, 0, 0, 0), 1);
        due("comes(0, 0, 0, 0)", x.comes(0, 0, 0, 0), 2);
        due("comes(0, 0, 0, 0)", x.comes(0, 0, 0, 0), 3);
        due("comes(0, 0, 0, 0)", x.comes(0, 0, 0, 0), 4);
        due("a sixth one", x.comes(0, 0, 0, 0), -6);
        due("a sixth one on no field", x.comes(0, 0, 48, 0), -6);
        due("a sixth one of no kind", x.comes(8, 0, 48, 0), -2);
        due("count(0)", x.count(0), 5);
    }

    private static void named() {
        promise("7");
        GoInland x = told("lady 1 ab 5;");
        due("named(1, 0)", x.named(1, 0), -1);
        due("named(-1, -1)", x.named(-1, -1), -1);
        due("named(0, -1)", x.named(0, -1), -4);
        due("named(0, 26)", x.named(0, 26), -6);
        due("named(0, 25)", x.named(0, 25), 3);
        due("named(0, 0)", x.named(0, 0), 4);
        due("named(0, 2)", x.named(0, 2), 5);
        due("named(0, 3)", x.named(0, 3), 6);
        due("named(0, 3) of 7", x.named(0, 3), -6);
        due("named(0, -1) of 7", x.named(0, -1), -4);
        dueLine(x, 0, "abzacd 5n0");
        due("what can be taken back", x.count(9), 4);
    }

    private static void faces() {
        promise("8");
        GoInland x = told("lady 1 ab 5;");
        due("faces(0, 3)", x.faces(0, 3), 0);
        due("faces(0, 1)", x.faces(0, 1), 3);
        due("faces(0, 1) again", x.faces(0, 1), 1);
        due("it counts, too", x.count(9), 3);
        due("faces(0, 4)", x.faces(0, 4), -6);
        due("faces(0, -1)", x.faces(0, -1), -4);
        due("faces(1, -1)", x.faces(1, -1), -1);
        due("facing", x.head(0, 3), 1);
        due("refused ones don't count", x.count(9), 3);
    }

    private static void does() {
        promise("9");
        GoInland x = told("lady 1 ab 5;");
        due("does(0, 4)", x.does(0, 4), 0);
        due("does(0, 1)", x.does(0, 1), 4);
        due("does(0, 5)", x.does(0, 5), -2);
        due("does(0, -1)", x.does(0, -1), -2);
        due("does(1, 5)", x.does(1, 5), -1);
        due("word", x.head(0, 4), 1);
        due("what can be taken back", x.count(9), 2);
    }

    private static void joins() {
        promise("10");
        GoInland x = told("lady 1 ab 5;");
        due("joins(0, 99)", x.joins(0, 99), 0);
        due("joins(0, 0)", x.joins(0, 0), 99);
        due("joins(0, 7)", x.joins(0, 7), 0);
        due("joins(0, 100)", x.joins(0, 100), -6);
        due("joins(0, -1)", x.joins(0, -1), -4);
        due("joins(1, -1)", x.joins(1, -1), -1);
        due("followers", x.head(0, 5), 7);
        due("she is not settled by it", x.head(0, 6), 0);
        due("what can be taken back", x.count(9), 3);
    }

    private static void walls() {
        promise("11");
        GoInland x = new GoInland();
        due("walls(47, 9)", x.walls(47, 9), 0);
        due("walls(47, 0)", x.walls(47, 0), 9);
        due("walls(0, 4)", x.walls(0, 4), 0);
        due("walls(0, 10)", x.walls(0, 10), -6);
        due("walls(0, -1)", x.walls(0, -1), -4);
        due("walls(48, -1)", x.walls(48, -1), -1);
        due("walls(-1, 1)", x.walls(-1, 1), -1);
        due("wall", x.field(0, 0), 4);
        due("what can be taken back", x.count(9), 3);
    }

    private static void folk() {
        promise("12");
        GoInland x = new GoInland();
        due("folk(47, 9, 25)", x.folk(47, 9, 25), 0);
        due("folk(47, 3, 1)", x.folk(47, 3, 1), 259);
        due("folk(47, 0, 0)", x.folk(47, 0, 0), 13);
        due("folk(0, 10, 0)", x.folk(0, 10, 0), -6);
        due("folk(0, 0, 26)", x.folk(0, 0, 26), -6);
        due("folk(0, -1, 26)", x.folk(0, -1, 26), -4);
        due("folk(0, 10, -1)", x.folk(0, 10, -1), -4);
        due("folk(48, -1, 0)", x.folk(48, -1, 0), -1);
        due("what can be taken back", x.count(9), 3);
    }

    private static void nightsRefused() {
        promise("13");
        GoInland x = new GoInland();
        due("nights(0)", x.nights(0), -4);
        due("nights(-1)", x.nights(-1), -4);
        due("nights(61)", x.nights(61), -6);
        due("nights(max)", x.nights(Integer.MAX_VALUE), -6);
        for (int i = 1; i <= 16; i++) {
            due("nights(60)", x.nights(60), 0);
            due("night", x.count(1), 60 * i);
        }
        due("nights(40)", x.nights(40), -6);
        due("nights(39)", x.nights(39), 0);
        due("nights(1) of 1000", x.nights(1), -6);
        due("night", x.count(1), 999);
    }

    private static void nightsWallsAndEdges() {
        promise("13, walls and edges");
        GoInland x = told("lady 0 ann 9;wall 1 2;");
        x.nights(1);
        due("wall behind 1", x.field(1, 0), 1);
        due("field behind 1", x.head(0, 2), 9);
        x.nights(1);
        due("wall behind 2", x.field(1, 0), 0);
        due("field behind 2", x.head(0, 2), 9);
        x.nights(1);
        dueLine(x, 0, "ann 1n0");
        x.nights(1);
        dueLine(x, 0, "ann 1s0");
        x.nights(5);
        dueLine(x, 0, "ann 41s0");
        x.nights(1);
        dueLine(x, 0, "ann 41n0");

        GoInland side = told("lady 0 a 22;face 0 e;lady 0 a 17;face 1 w;");
        side.nights(1);
        dueLine(side, 0, "a 23e0");
        dueLine(side, 1, "a 16w0");
        side.nights(1);
        dueLine(side, 0, "a 23w0");
        dueLine(side, 1, "a 16e0");

        GoInland queen = told("queen 0 a 19;face 0 e;wall 21 9;");
        queen.nights(1);
        dueLine(queen, 0, "a 20e0");
        due("wall less by 2", queen.field(21, 0), 7);
        GoInland heavy = told("queen 9 a 19;face 0 e;wall 21 9;");
        heavy.nights(1);
        due("wall held at 0", heavy.field(21, 0), 0);
        dueLine(heavy, 0, "a 20e0");

        GoInland light = told("child 0 a 19;face 0 e;wall 20 9;");
        light.nights(1);
        due("a wall stands against no weight", light.field(20, 0), 9);

        GoInland edge = told("pirate 6 a 4;face 0 n;");
        edge.nights(1);
        dueLine(edge, 0, "a 7w0");

        GoInland still = told("collier 0 ab 9;collier 0 b 20;folk 20 3 b;");
        still.nights(1);
        dueLine(still, 0, "ab 10e0");
        dueLine(still, 1, "b 20e3");
    }

    private static void nightsVeers() {
        promise("13, veers and words");
        GoInland queen = told("queen 0 b 40;");
        int[] fields = {24, 8, 0, 0, 2};
        String[] facings = {"n", "n", "s", "e", "e"};
        for (int i = 0; i < 5; i++) {
            queen.nights(1);
            dueLine(queen, 0, "b " + fields[i] + facings[i] + "0");
        }
        GoInland words = told("lady 0 a 18;does 0 left;lady 0 a 21;does 1 right;lady 0 a 28;does 2 back;", "lady 0 a 33;does 3 rest;");
        words.nights(1);
        dueLine(words, 0, "a 17w0");
        dueLine(words, 1, "a 22e0");
        dueLine(words, 2, "a 36s0");
        dueLine(words, 3, "a 33n0");
        words.nights(1);
        dueLine(words, 0, "a 25s0");
        dueLine(words, 1, "a 30s0");
        dueLine(words, 2, "a 28n0");
        dueLine(words, 3, "a 33n0");
        GoInland both = told("saint 0 b 20;does 0 back;");
        both.nights(1);
        dueLine(both, 0, "b 12n0");
        GoInland child = told("child 1 b 20;");
        child.nights(2);
        dueLine(child, 0, "b 4n0");
        child.nights(1);
        dueLine(child, 0, "b 3w0");
        GoInland mermaid = told("mermaid 1 ab 20;");
        mermaid.nights(1);
        dueLine(mermaid, 0, "ab 18w0");
    }

    private static void nightsFollow() {
        promise("13, who follows");
        GoInland x = told("lady 4 ann 0;face 0 e;folk 1 9 n;folk 2 9 b;folk 3 5 a;folk 0 3 a;");
        x.nights(1);
        due("followers", x.head(0, 5), 9);
        due("people", x.field(1, 1), 0);
        due("letter stays", x.field(1, 2), 13);
        due("people she left", x.field(0, 1), 3);
        x.nights(1);
        due("followers", x.head(0, 5), 9);
        due("people of no letter of hers", x.field(2, 1), 9);
        x.nights(1);
        due("followers", x.head(0, 5), 14);
        GoInland held = told("slaver 0 a 0;face 0 e;folk 1 9 a;joins 0 95;");
        held.nights(1);
        due("followers held", held.head(0, 5), 99);
        due("people all go", held.field(1, 1), 0);
        GoInland through = told("queen 0 a 0;face 0 e;folk 1 9 a;folk 2 8 a;");
        through.nights(1);
        due("only her last field's people", through.head(0, 5), 8);
        due("the others stay", through.field(1, 1), 9);
    }

    private static void nightsMeet() {
        promise("13, who meets");
        GoInland x = told("lady 4 a 0;face 0 e;lady 2 b 1;does 1 rest;joins 1 9;");
        due("nights(1)", x.nights(1), 1);
        dueLine(x, 0, "a 1e4");
        dueLine(x, 1, "b 1s5");
        due("nights(1)", x.nights(1), 1);
        dueLine(x, 0, "a 2e4");

        GoInland lesserGoes = told("lady 2 a 0;face 0 e;joins 0 9;lady 4 b 1;does 1 rest;");
        lesserGoes.nights(1);
        dueLine(lesserGoes, 0, "a 1w5");
        dueLine(lesserGoes, 1, "b 1n4");

        GoInland least = told("lady 9 a 1;does 0 rest;lady 1 b 1;does 1 rest;", "joins 0 8;joins 1 8;lady 5 c 0;face 2 e;joins 2 10;");
        due("nights(1)", least.nights(1), 1);
        dueLine(least, 0, "a 1n13");
        dueLine(least, 1, "b 1n8");
        dueLine(least, 2, "c 1w5");

        GoInland held = told("slaver 0 a 0;face 0 e;joins 0 90;slaver 0 a 1;does 1 rest;joins 1 40;");
        held.nights(1);
        due("followers held", held.head(0, 5), 99);
        dueLine(held, 1, "a 1s20");

        GoInland passing = told("child 0 b 9;joins 0 5;nights 1;lady 9 a 0;face 1 e;");
        dueLine(passing, 0, "b 1n!");
        due("one who is settled is not met", passing.nights(1), 0);
        due("they are on one field", passing.field(1, 3), 3);

        GoInland turned = told("lady 0 b 8;lady 0 a 0;");
        due("one meets, the other goes on", turned.nights(1), 1);
        dueLine(turned, 0, "b 0n0");
        dueLine(turned, 1, "a 8s0");
        GoInland two = told("lady 0 b 8;collier 0 a 0;");
        due("each meets in her turn", two.nights(1), 2);
        dueLine(two, 0, "b 0n0");
        dueLine(two, 1, "a 0e0");
    }

    private static void nightsLesser() {
        promise("13, the lesser");
        GoInland name = told("lady 1 ab 0;face 0 e;lady 1 aa 1;does 1 rest;");
        name.nights(1);
        dueLine(name, 0, "ab 1e0");
        dueLine(name, 1, "aa 1s0");
        GoInland ends = told("lady 1 ab 0;face 0 e;lady 1 abc 1;does 1 rest;");
        ends.nights(1);
        dueLine(ends, 0, "ab 1w0");
        dueLine(ends, 1, "abc 1n0");
        GoInland alike = told("lady 1 ab 1;does 0 rest;lady 1 ab 0;face 1 e;");
        alike.nights(1);
        dueLine(alike, 0, "ab 1n0");
        dueLine(alike, 1, "ab 1w0");
        GoInland first = told("lady 1 ab 0;face 0 e;lady 1 ab 1;does 1 rest;");
        first.nights(1);
        dueLine(first, 0, "ab 1e0");
        dueLine(first, 1, "ab 1s0");
        GoInland weight = told("lady 1 zz 0;face 0 e;lady 2 aa 1;does 1 rest;");
        weight.nights(1);
        dueLine(weight, 0, "zz 1w0");
        dueLine(weight, 1, "aa 1n0");
    }

    private static void nightsSettle() {
        promise("13, who settles");
        GoInland x = told("lady 0 a 20;joins 0 20;lady 0 a 22;joins 1 19;lady 0 a 24;joins 2 21;does 2 rest;");
        x.nights(1);
        dueLine(x, 0, "a 12n!");
        dueLine(x, 1, "a 14n19");
        dueLine(x, 2, "a 24n21");
        due("settled", x.count(3), 1);
        x.nights(1);
        dueLine(x, 0, "a 12n!");
        dueLine(x, 1, "a 6n19");
        GoInland given = told("lady 9 a 0;face 0 e;joins 0 15;lady 1 b 1;does 1 rest;joins 1 10;");
        given.nights(1);
        dueLine(given, 0, "a 1e!");
        GoInland taken = told("lady 1 a 0;face 0 e;joins 0 22;lady 9 b 1;does 1 rest;joins 1 15;");
        taken.nights(1);
        dueLine(taken, 0, "a 1w11");
        due("the other waits for her turn", taken.head(1, 6), 0);
        due("her followers", taken.head(1, 5), 26);
        taken.does(1, 3);
        taken.nights(1);
        due("settled in her turn", taken.head(1, 6), 1);
    }

    private static void back() {
        promise("14");
        GoInland x = told("lady 1 ab 20;folk 12 5 a;");
        due("back() of none", x.back(), -3);
        x.named(0, 2);
        x.faces(0, 0);
        x.does(0, 0);
        x.joins(0, 5);
        x.walls(4, 3);
        x.folk(4, 3, 3);
        x.nights(1);
        due("followers", x.head(0, 5), 10);
        due("count(9)", x.count(9), 7);
        due("back() of nights", x.back(), 6);
        due("night", x.count(1), 0);
        due("followers", x.head(0, 5), 5);
        due("people", x.field(12, 1), 5);
        due("field", x.head(0, 2), 20);
        due("back() of folk", x.back(), 5);
        due("people", x.field(4, 1), 0);
        due("letter", x.field(4, 2), 0);
        due("back() of walls", x.back(), 4);
        due("wall", x.field(4, 0), 0);
        due("back() of joins", x.back(), 3);
        due("followers", x.head(0, 5), 0);
        due("back() of does", x.back(), 2);
        due("back() of faces", x.back(), 1);
        due("back() of named", x.back(), 0);
        due("letters", x.head(0, 7), 2);
        due("back() of none", x.back(), -3);
        due("count(13)", x.count(13), 2);
        for (int i = 1; i <= 9; i++) {
            x.walls(0, i);
        }
        due("8 at most", x.count(9), 8);
        for (int i = 7; i >= 0; i--) {
            due("back()", x.back(), i);
            due("wall", x.field(0, 0), i + 1);
        }
        due("the oldest is no more", x.back(), -3);
        x.joins(0, 3);
        x.joins(0, 4);
        x.image();
        x.row(1);
        due("image and row leave it", x.count(9), 2);
        due("back()", x.back(), 1);
        x.joins(0, 9);
        due("back()", x.back(), 1);
        due("followers", x.head(0, 5), 3);
        x.restore();
        due("restore leaves none", x.count(9), 0);
    }

    private static void headThen() {
        promise("15");
        GoInland x = told("lady 0 a 40;folk 24 9 a;joins 0 11;");
        due("field behind 0", x.headThen(0, 0, 0), 40);
        due("field behind 2", x.headThen(0, 2, 0), 24);
        due("field behind 60", x.headThen(0, 60, 0), 24);
        due("facing behind 2", x.headThen(0, 2, 1), 0);
        due("followers behind 1", x.headThen(0, 1, 2), 11);
        due("followers behind 2", x.headThen(0, 2, 2), 20);
        due("settled behind 1", x.headThen(0, 1, 3), 0);
        due("settled behind 2", x.headThen(0, 2, 3), 1);
        due("headThen(1, -1, 0)", x.headThen(1, -1, 0), -1);
        due("headThen(-1, 0, 0)", x.headThen(-1, 0, 0), -1);
        due("headThen(0, -1, 9)", x.headThen(0, -1, 9), -4);
        due("headThen(0, 61, 9)", x.headThen(0, 61, 9), -6);
        due("headThen(0, 60, 4)", x.headThen(0, 60, 4), -2);
        due("headThen(0, 60, -1)", x.headThen(0, 60, -1), -2);
        due("nothing changes", x.count(1), 0);
        dueLine(x, 0, "a 40n11");
        GoInland turned = told("lady 0 a 0;");
        due("facing behind 1", turned.headThen(0, 1, 1), 2);
        GoInland late = new GoInland();
        passTo960(late);
        late.nights(39);
        late.comes(1, 0, 40, 1);
        due("the night may pass 999", late.headThen(0, 1, 1), 1);
    }

    private static void then() {
        promise("16");
        GoInland x = told("lady 0 a 40;folk 24 9 a;joins 0 11;folk 3 4 b;wall 3 5;lady 0 b 11;");
        due("told behind 5", x.then(5, 0), 0);
        due("settled behind 1", x.then(1, 1), 0);
        due("settled behind 2", x.then(2, 1), 1);
        due("people behind 0", x.then(0, 2), 13);
        due("people behind 2", x.then(2, 2), 4);
        due("walls behind 0", x.then(0, 3), 5);
        due("walls behind 1", x.then(1, 3), 4);
        due("walls behind 60", x.then(60, 3), 0);
        due("people behind 60", x.then(60, 2), 0);
        due("then(-1, 9)", x.then(-1, 9), -4);
        due("then(61, 9)", x.then(61, 9), -6);
        due("then(0, 4)", x.then(0, 4), -2);
        due("then(0, -1)", x.then(0, -1), -2);
        due("walls now", x.count(6), 5);
        GoInland two = told("lady 0 b 8;collier 0 a 0;");
        due("told behind 1", two.then(1, 0), 2);
        due("told now", two.count(2), 0);
    }

    /** She is on 46 behind 60 nights, on 47 behind 61: each of 6 walls takes her 9, and a step. */
    private static GoInland farLand() {
        GoInland x = told("lady 0 a 40;face 0 e;");
        for (int field = 41; field <= 46; field++) {
            x.walls(field, 9);
        }
        return x;
    }

    private static void when() {
        promise("17");
        GoInland x = told("lady 0 a 40;lady 0 b 7;does 1 rest;");
        due("when(0, 40)", x.when(0, 40), 0);
        due("when(0, 24)", x.when(0, 24), 2);
        due("when(0, 0)", x.when(0, 0), 5);
        due("when(0, 1)", x.when(0, 1), -9);
        due("when(1, 15)", x.when(1, 15), -9);
        due("when(2, 0)", x.when(2, 0), -1);
        due("when(0, 48)", x.when(0, 48), -1);
        due("when(0, -1)", x.when(0, -1), -1);
        GoInland slow = told("lady 0 a 40;", "wall 8 9;wall 16 9;wall 24 9;wall 32 9;wall 0 9;");
        due("5 walls of 9 and 5 steps", slow.when(0, 0), 50);
        slow.does(0, 4);
        slow.nights(1);
        slow.does(0, 0);
        due("the last night", told("collier 0 ab 8;").when(0, 9), 1);
        GoInland queen = told("queen 0 b 40;");
        due("she goes over 32 in the first night", queen.when(0, 32), 20);
        GoInland far = farLand();
        due("in the last night", far.when(0, 46), 60);
        due("a night too late", far.when(0, 47), -9);
    }

    private static void settles() {
        promise("18");
        GoInland x = told("lady 0 a 40;folk 8 9 a;joins 0 11;lady 0 b 47;joins 1 20;does 1 rest;");
        due("settles(0)", x.settles(0), 4);
        due("settles(1)", x.settles(1), -9);
        due("settles(-1)", x.settles(-1), 0);
        x.does(1, 0);
        due("settles(1)", x.settles(1), 1);
        due("settles(-1)", x.settles(-1), 1);
        x.nights(1);
        due("settles(1) of one settled", x.settles(1), 0);
        due("settles(-1) of the others", x.settles(-1), 0);
        x.nights(3);
        due("settles(-1) of all settled", x.settles(-1), -9);
        due("settles(-2)", x.settles(-2), -1);
        due("settles(2)", x.settles(2), -1);
        due("nobody", new GoInland().settles(-1), -9);
        due("no head 0", new GoInland().settles(0), -1);
        GoInland several = told("lady 0 a 0;lady 0 b 9;joins 1 20;lady 0 c 18;joins 2 20;");
        due("of several the least", several.settles(-1), 1);
        GoInland later = told("lady 0 a 40;folk 24 9 a;joins 0 11;lady 0 b 47;joins 1 20;");
        later.then(60, 0);
        due("the greater number, a night ahead", later.settles(-1), 1);
        GoInland far = farLand();
        far.joins(0, 11);
        far.folk(46, 9, 0);
        due("in the last night", far.settles(0), 60);
        due("first in the last night", far.settles(-1), 0);
        far.folk(46, 0, 0);
        far.folk(47, 9, 0);
        due("a night too late", far.settles(0), -9);
        due("first a night too late", far.settles(-1), -9);
    }

    private static void meeting() {
        promise("19");
        GoInland x = told("lady 0 a 40;lady 0 b 8;does 1 rest;lady 0 c 8;does 2 rest;lady 0 d 9;does 3 rest;");
        due("meeting(0, 1)", x.meeting(0, 1), 4);
        due("meeting(1, 0)", x.meeting(1, 0), 4);
        due("meeting(1, 2)", x.meeting(1, 2), 0);
        due("meeting(1, 3)", x.meeting(1, 3), -9);
        due("meeting(1, 1)", x.meeting(1, 1), -1);
        due("meeting(0, 4)", x.meeting(0, 4), -1);
        due("meeting(-1, 0)", x.meeting(-1, 0), -1);
        GoInland far = farLand();
        far.comes(0, 0, 46, 1);
        far.comes(0, 0, 47, 1);
        far.does(1, 4);
        far.does(2, 4);
        due("in the last night", far.meeting(0, 1), 60);
        due("a night too late", far.meeting(0, 2), -9);
    }

    private static void bestWord() {
        promise("20");
        GoInland x = told("lady 0 a 18;folk 17 3 a;folk 19 5 a;folk 26 5 a;folk 10 2 a;");
        due("bestWord(0, 1, 0)", x.bestWord(0, 1, 0), 2);
        due("bestWord(0, 1, 1)", x.bestWord(0, 1, 1), 5);
        due("bestWord(0, 0, 0)", x.bestWord(0, 0, 0), 0);
        due("bestWord(0, 0, 1)", x.bestWord(0, 0, 1), 0);
        x.folk(18, 9, 0);
        due("resting, nobody follows", x.bestWord(0, 1, 1), 5);
        x.folk(26, 6, 0);
        due("back is best", x.bestWord(0, 1, 0), 3);
        x.folk(17, 7, 0);
        due("left is best", x.bestWord(0, 1, 0), 1);
        x.folk(10, 7, 0);
        due("on, of several the least", x.bestWord(0, 1, 0), 0);
        due("bestWord(1, -1, 0)", x.bestWord(1, -1, 0), -1);
        due("bestWord(0, -1, 9)", x.bestWord(0, -1, 9), -4);
        due("bestWord(0, 61, 9)", x.bestWord(0, 61, 9), -6);
        due("bestWord(0, 60, 2)", x.bestWord(0, 60, 2), -2);
        due("bestWord(0, 60, -1)", x.bestWord(0, 60, -1), -2);
        due("word", x.head(0, 4), 0);
        GoInland rest = told("lady 0 a 18;joins 0 9;lady 9 b 10;does 1 rest;", "lady 9 b 17;does 2 rest;lady 9 b 19;does 3 rest;lady 9 b 26;does 4 rest;");
        due("rest is best", rest.bestWord(0, 1, 0), 4);
        due("rest keeps 9", rest.bestWord(0, 1, 1), 9);
    }

    private static void bestLetter() {
        promise("21");
        GoInland x = told("lady 0 abcde 18;folk 10 3 q;folk 2 3 z;");
        due("bestLetter(0, 1, 0)", x.bestLetter(0, 1, 0), 16);
        due("bestLetter(0, 2, 0)", x.bestLetter(0, 2, 0), 16);
        due("bestLetter(0, 2, 1)", x.bestLetter(0, 2, 1), 3);
        due("bestLetter(0, 0, 0)", x.bestLetter(0, 0, 0), 0);
        x.folk(2, 4, 25);
        due("bestLetter(0, 2, 0)", x.bestLetter(0, 2, 0), 25);
        due("bestLetter(0, 30, 1)", x.bestLetter(0, 30, 1), 4);
        due("bestLetter(1, -1, 0)", x.bestLetter(1, -1, 0), -1);
        due("bestLetter(0, -1, 9)", x.bestLetter(0, -1, 9), -4);
        due("bestLetter(0, 31, 9)", x.bestLetter(0, 31, 9), -6);
        due("bestLetter(0, 30, 2)", x.bestLetter(0, 30, 2), -2);
        due("bestLetter(0, 30, -1)", x.bestLetter(0, 30, -1), -2);
        due("letters", x.head(0, 7), 5);
        x.named(0, 0);
        due("a whole name", x.bestLetter(0, 2, 0), -9);
        due("a whole name", x.bestLetter(0, 2, 1), -9);
        due("a whole name, no such what", x.bestLetter(0, 2, 2), -2);
    }

    private static void holds() {
        promise("22");
        GoInland x = told("lady 1 a 40;");
        due("24 in 1", x.holds(0, 24, 1), 0);
        due("32 in 1", x.holds(0, 32, 1), 1);
        due("32 in 2", x.holds(0, 32, 2), 3);
        due("32 in 5", x.holds(0, 32, 5), 9);
        due("32 in 6", x.holds(0, 32, 6), -9);
        due("1 in 60", x.holds(0, 1, 60), 0);
        x.walls(32, 9);
        due("the wall there is nothing to it", x.holds(0, 32, 2), 3);
        due("holds(1, 32, 0)", x.holds(1, 32, 0), -1);
        due("holds(0, 48, 0)", x.holds(0, 48, 0), -1);
        due("holds(0, 32, 0)", x.holds(0, 32, 0), -4);
        due("holds(0, 32, 61)", x.holds(0, 32, 61), -6);
        due("wall", x.field(32, 0), 9);
        GoInland away = told("lady 1 a 40;");
        due("where she is now, in 1", away.holds(0, 40, 1), 0);
        away.does(0, 4);
        due("where she rests", away.holds(0, 40, 1), -9);
    }

    private static void wallFor() {
        promise("23");
        GoInland x = told("queen 0 b 40;");
        due("on 24 behind 1, whatever", x.wallFor(0, 24, 1), 0);
        due("on 32 behind 1", x.wallFor(0, 32, 1), 24);
        due("on 40 behind 1", x.wallFor(0, 40, 1), 32);
        due("on 41 behind 1", x.wallFor(0, 41, 1), -9);
        due("on 40 behind 0", x.wallFor(0, 40, 0), 0);
        due("on 41 behind 0", x.wallFor(0, 41, 0), -9);
        x.walls(24, 1);
        due("on 32 behind 1", x.wallFor(0, 32, 1), 0);
        due("on 24 behind 2, whatever it has", x.wallFor(0, 24, 2), 16);
        due("wallFor(1, 0, -1)", x.wallFor(1, 0, -1), -1);
        due("wallFor(0, 48, -1)", x.wallFor(0, 48, -1), -1);
        due("wallFor(0, 0, -1)", x.wallFor(0, 0, -1), -4);
        due("wallFor(0, 0, 31)", x.wallFor(0, 0, 31), -6);
        due("walls", x.count(6), 1);
        GoInland rests = told("lady 0 b 40;does 0 rest;");
        due("resting, behind 30", rests.wallFor(0, 40, 30), 0);
    }

    private static void names() {
        promise("24");
        GoInland x = told("lady 0 a 18;lady 0 b 20;lady 0 c 22;folk 10 3 b;folk 12 4 c;");
        due("names(0)", x.names(0), -9);
        due("1 and 2: 4 more", x.names(1), 12);
        x.folk(12, 3, 2);
        due("of several the first", x.names(1), 1);
        x.folk(14, 5, 0);
        due("0 and 2: 5 more", x.names(1), 2);
        due("names(-1)", x.names(-1), -4);
        due("names(31)", x.names(31), -6);
        due("names(30) of nobody", new GoInland().names(30), -9);
        dueLine(x, 0, "a 18n0");
        GoInland good = told("lady 0 a 18;lady 0 b 20;folk 10 3 a;folk 12 3 b;");
        due("better as it is", good.names(1), -9);
        GoInland same = told("lady 0 a 18;lady 0 b 20;");
        due("no more than as it is", same.names(30), -9);
        due("5 heads", fullLand().names(30), -9);
    }

    private static void whatKind() {
        promise("25");
        GoInland x = told("lady 3 b 20;");
        due("an empty row", x.whatKind(0, 0), 255);
        due("an empty row", x.whatKind(0, 1), 1023);
        x.row(20);
        due("where she is", x.whatKind(0, 0), 255);
        x.row(12);
        due("1 a row less", x.whatKind(0, 0), 1 | 8);
        due("figures", x.whatKind(0, 1), 1023);
        x.row(4);
        due("2 rows less", x.whatKind(0, 0), 1 | 8);
        due("the row stays", x.count(8), 3);
        x.clear();
        x.row(20);
        x.row(4);
        due("2 steps", x.whatKind(0, 0), 2 | 4);
        x.clear();
        x.row(20);
        x.row(36);
        due("2 steps back", x.whatKind(0, 0), 128);
        x.clear();
        x.row(48);
        due("no field", x.whatKind(0, 0), 0);
        due("no field", x.whatKind(0, 1), 0);
        due("whatKind(0, 2)", x.whatKind(0, 2), -2);
        due("whatKind(0, -1)", x.whatKind(0, -1), -2);
        due("whatKind(1, 2)", x.whatKind(1, 2), -1);
        GoInland slaver = told("slaver 0 b 40;");
        slaver.row(40);
        slaver.row(24);
        due("figures by which a slaver goes 2 steps", slaver.whatKind(0, 1), 8 | 16 | 32);
        due("kind", slaver.head(0, 0), 2);
        due("figure", slaver.head(0, 1), 0);
    }

    private static void whatWord() {
        promise("26");
        GoInland x = told("lady 3 b 0;");
        due("an empty row", x.whatWord(0), 31);
        x.row(0);
        due("where she is", x.whatWord(0), 31);
        x.row(0);
        due("not going", x.whatWord(0), 1 | 2 | 16);
        x.row(8);
        due("then going", x.whatWord(0), 1);
        due("the row stays", x.count(8), 3);
        x.clear();
        x.row(0);
        x.row(1);
        due("right", x.whatWord(0), 4);
        x.clear();
        x.row(0);
        x.row(8);
        due("back", x.whatWord(0), 8);
        x.clear();
        x.row(99);
        due("none", x.whatWord(0), 0);
        due("whatWord(1)", x.whatWord(1), -1);
        due("whatWord(-1)", x.whatWord(-1), -1);
        due("word", x.head(0, 4), 0);
    }

    private static void two() {
        promise("27");
        GoInland x = told("lady 0 a 18;lady 0 a 20;folk 10 4 a;folk 12 6 a;");
        due("5 for rest above 4, below 6", x.two(0, 1, 1), 10);
        due("two(1, 0, 1)", x.two(1, 0, 1), 1);
        x.folk(12, 4, 0);
        due("both rest", x.two(0, 1, 1), 11);
        x.folk(12, 5, 0);
        x.folk(10, 5, 0);
        due("alike, the first", x.two(0, 1, 1), 0);
        due("two(0, 0, 0)", x.two(0, 0, 0), -1);
        due("two(0, 2, 0)", x.two(0, 2, 0), -1);
        due("two(0, 1, 0)", x.two(0, 1, 0), -4);
        due("two(0, 1, 31)", x.two(0, 1, 31), -6);
        due("word", x.head(0, 4), 0);
        GoInland rests = told("lady 0 a 18;does 0 rest;lady 0 a 20;");
        due("behind 30", rests.two(0, 1, 30), 11);
        GoInland none = told("slaver 0 b 18;joins 0 20;queen 9 a 20;face 1 w;");
        due("one flees, the other comes to rest", none.two(0, 1, 1), -9);
        due("the same, seen from the other", none.two(1, 0, 1), -9);
        none.joins(0, 8);
        due("half of 8 is not worth her way", none.two(0, 1, 1), 11);
    }

    private static void rain() {
        promise("28");
        GoInland x = told("lady 0 a 40;");
        dueRain(x, 0, 40, 0, 2, 1, 1);
        dueRain(x, 0, 32, 0, 2, 0, 1);
        dueRain(x, 0, 40, 1, 2, 1, 2);
        dueRain(x, 0, 40, 1, 20, 1, 20);
        dueRain(x, 0, 32, 1, 20, 19, 20);
        dueRain(x, 0, 32, 2, 4, 3, 8);
        dueRain(x, 0, 24, 2, 4, 9, 16);
        dueRain(x, 0, 40, 7, 20, 1, 1280000000L);
        dueRain(x, 0, 41, 7, 20, 0, 1);
        GoInland queen = told("queen 0 b 40;nights 3;", "queen 0 b 43;");
        due("a night of rain is a night, too", queen.rain(1, 43, 2, 2, 1), 4);
        dueRain(queen, 1, 45, 1, 2, 1, 2);
        dueRain(queen, 1, 27, 2, 2, 1, 4);
        dueRain(queen, 1, 45, 2, 2, 1, 4);
        GoInland third = told("nights 2;queen 0 b 43;");
        dueRain(third, 0, 29, 2, 2, 1, 4);
        dueRain(third, 0, 27, 2, 2, 1, 4);
        dueRain(third, 0, 45, 2, 2, 1, 4);
        dueRain(third, 0, 43, 2, 2, 1, 4);
        due("rain(2, 0, -1, 1, 9)", x.rain(2, 0, -1, 1, 9), refused(-1));
        due("rain(0, 48, -1, 1, 9)", x.rain(0, 48, -1, 1, 9), refused(-1));
        due("rain(0, 0, -1, 21, 9)", x.rain(0, 0, -1, 21, 9), refused(-4));
        due("rain(0, 0, 8, 1, 9)", x.rain(0, 0, 8, 1, 9), refused(-4));
        due("rain(0, 0, 8, 2, 9)", x.rain(0, 0, 8, 2, 9), refused(-6));
        due("rain(0, 0, 7, 21, 9)", x.rain(0, 0, 7, 21, 9), refused(-6));
        due("rain(0, 0, 7, 20, 2)", x.rain(0, 0, 7, 20, 2), refused(-2));
        due("rain(0, 0, 7, 20, -1)", x.rain(0, 0, 7, 20, -1), refused(-2));
        due("-1 as 4000000000000000001", x.rain(9, 0, 0, 2, 0), 4000000000000000001L);
        due("count(11)", x.count(11), 3);
        due("count(12)", x.count(12), 2);
        due("count(14)", x.count(14), 2);
        due("count(16)", x.count(16), 2);
        due("night", x.count(1), 0);
    }

    private static void like() {
        promise("29");
        GoInland x = told("lady 0 anna 1;lady 0 annex 1;lady 0 xenna 1;lady 0 q 1;");
        due("places", x.like(0, 1, 0), 3);
        due("ahead", x.like(0, 1, 1), 3);
        due("shared", x.like(0, 1, 2), 2);
        due("places", x.like(0, 2, 0), 1);
        due("ahead", x.like(0, 2, 1), 0);
        due("shared", x.like(1, 2, 2), 4);
        due("places", x.like(0, 3, 0), 0);
        due("shared", x.like(3, 0, 2), 0);
        due("like(0, 0, 9)", x.like(0, 0, 9), -1);
        due("like(0, 4, 0)", x.like(0, 4, 0), -1);
        due("like(-1, 0, 0)", x.like(-1, 0, 0), -1);
        due("like(0, 1, 3)", x.like(0, 1, 3), -2);
        due("like(0, 1, -1)", x.like(0, 1, -1), -2);
        GoInland whole = told("lady 0 abc 1;lady 0 abc 1;");
        due("whole ahead", whole.like(0, 1, 1), 3);
        due("whole places", whole.like(0, 1, 0), 3);
        GoInland six = told("lady 0 abcdef 1;lady 0 abcdef 1;");
        for (int what = 0; what < 3; what++) {
            due("6 letters alike", six.like(0, 1, what), 6);
        }
    }

    private static void rank() {
        promise("30");
        GoInland x = told("lady 0 bob 1;lady 0 bo 1;lady 0 ann 1;lady 0 bob 1;lady 0 c 1;");
        due("bob", x.rank(0), 2);
        due("bo", x.rank(1), 1);
        due("ann", x.rank(2), 0);
        due("the other bob", x.rank(3), 3);
        due("c", x.rank(4), 4);
        due("rank(5)", x.rank(5), -1);
        due("rank(-1)", x.rank(-1), -1);
        GoInland six = told("lady 0 abcdef 1;lady 0 abcdef 1;lady 0 abcde 1;");
        due("6 letters", six.rank(0), 1);
        due("6 letters alike", six.rank(1), 2);
        due("5 letters", six.rank(2), 0);
    }

    private static void line() {
        promise("31");
        GoInland x = told("lady 0 bob 7;joins 0 20;does 0 left;lady 0 z 47;face 1 e;joins 1 99;");
        due("line(0, 0)", x.line(0, 0), 'b');
        due("line(0, 3)", x.line(0, 3), ' ');
        due("line(0, 4)", x.line(0, 4), '7');
        due("line(0, 5)", x.line(0, 5), 'n');
        due("line(0, 6)", x.line(0, 6), '2');
        due("line(0, 7)", x.line(0, 7), '0');
        due("line(0, 8)", x.line(0, 8), -9);
        due("line(0, max)", x.line(0, Integer.MAX_VALUE), -9);
        due("line(0, -1)", x.line(0, -1), -4);
        due("line(2, -1)", x.line(2, -1), -1);
        dueLine(x, 1, "z 47e99");
        x.nights(1);
        dueLine(x, 0, "bob 6w!");
        dueLine(x, 1, "z 47w!");
        x.faces(0, 2);
        dueLine(x, 0, "bob 6s!");
    }

    private static void power() {
        promise("32");
        GoInland x = told("lady 0 a 1;joins 0 2;lady 0 a 1;joins 1 1;lady 0 a 1;joins 2 1;");
        due("2 of 2, 1, 1", x.power(0), 3);
        due("1 of 2, 1, 1", x.power(1), 1);
        x.joins(0, 9);
        due("9 of 9, 1, 1", x.power(0), 4);
        due("1 of 9, 1, 1", x.power(1), 0);
        x.joins(0, 0);
        x.joins(1, 0);
        x.joins(2, 0);
        due("0 of all", x.power(0), 0);
        due("power(3)", x.power(3), -1);
        due("power(-1)", x.power(-1), -1);
        GoInland one = told("lady 0 a 1;joins 0 1;");
        due("one alone", one.power(0), 1);
    }

    private static void share() {
        promise("33");
        GoInland x = told("lady 0 a 1;joins 0 6;lady 0 a 1;joins 1 9;lady 0 a 1;");
        due("share(0, 0)", x.share(0, 0), 2);
        due("share(0, 1)", x.share(0, 1), 5);
        due("share(1, 0)", x.share(1, 0), 3);
        due("share(1, 1)", x.share(1, 1), 5);
        due("share(2, 0)", x.share(2, 0), 0);
        due("share(2, 1)", x.share(2, 1), 1);
        due("share(3, 2)", x.share(3, 2), refused(-1));
        due("share(-1, 0)", x.share(-1, 0), refused(-1));
        due("share(0, 2)", x.share(0, 2), refused(-2));
        due("share(0, -1)", x.share(0, -1), refused(-2));
        due("count(11)", x.count(11), 2);
        due("count(12)", x.count(12), 2);
        GoInland none = told("lady 0 a 1;");
        due("none above", none.share(0, 0), 0);
        due("none below", none.share(0, 1), 1);
        none.joins(0, 7);
        due("all above", none.share(0, 0), 1);
        due("all below", none.share(0, 1), 1);
    }

    private static void nearest() {
        promise("34");
        GoInland x = told("lady 0 a 0;lady 0 a 47;lady 0 a 9;lady 0 a 18;");
        due("nearest(0, 0)", x.nearest(0, 0), 0);
        due("nearest(0, 1)", x.nearest(0, 1), 0);
        due("nearest(47, 0)", x.nearest(47, 0), 1);
        due("nearest(10, 0)", x.nearest(10, 0), 2);
        due("nearest(10, 1)", x.nearest(10, 1), 1);
        due("nearest(7, 0)", x.nearest(7, 0), 1);
        due("nearest(7, 1)", x.nearest(7, 1), 5);
        due("nearest(1, 0): of several the least", x.nearest(1, 0), 0);
        due("nearest(40, 0)", x.nearest(40, 0), 0);
        due("nearest(40, 1)", x.nearest(40, 1), 5);
        due("nearest(48, 2)", x.nearest(48, 2), -1);
        due("nearest(-1, 0)", x.nearest(-1, 0), -1);
        due("nearest(0, 2)", x.nearest(0, 2), -2);
        due("nearest(0, -1)", x.nearest(0, -1), -2);
        due("nobody", new GoInland().nearest(0, 0), -9);
        due("nobody", new GoInland().nearest(0, 1), -9);
    }

    private static void way() {
        promise("35");
        GoInland x = new GoInland();
        due("way(0, 47)", x.way(0, 47), 12);
        due("way(7, 8)", x.way(7, 8), 8);
        due("way(5, 5)", x.way(5, 5), 0);
        x.walls(5, 9);
        due("way(5, 5) with a wall", x.way(5, 5), 0);
        due("from a wall", x.way(5, 6), 1);
        due("to a wall", x.way(6, 5), -9);
        for (int row = 0; row < 5; row++) {
            x.walls(8 * row + 3, 1);
        }
        due("around walls", x.way(2, 4), 12);
        x.walls(43, 1);
        due("walled off", x.way(2, 4), -9);
        due("way(48, 0)", x.way(48, 0), -1);
        due("way(0, 48)", x.way(0, 48), -1);
        due("way(-1, 0)", x.way(-1, 0), -1);
        due("way(0, -1)", x.way(0, -1), -1);
        GoInland corner = new GoInland();
        corner.way(0, 47);
        corner.walls(1, 1);
        corner.walls(8, 1);
        due("to a walled corner", corner.way(47, 0), -9);
    }

    /** All the heads there may be: a, b, c, d, e on the fields 3, 3, 4, 5, 6. */
    private static GoInland fullLand() {
        GoInland x = new GoInland();
        for (int i = 0; i < 5; i++) {
            x.comes(i, 1, Math.max(3, i + 2), i);
        }
        return x;
    }

    private static void sight() {
        promise("36");
        GoInland x = told("lady 0 anouk 0;lady 0 b 1;lady 0 eieio 1;lady 0 xyz 3;folk 1 5 a;folk 2 7 c;folk 3 4 f;");
        due("vowels", x.sight(0), 8);
        due("hungry", x.sight(1), 11);
        due("alone", x.sight(2), 1 | 8);
        due("sight(3)", x.sight(3), -2);
        due("sight(-1)", x.sight(-1), -2);
        GoInland full = fullLand();
        full.folk(0, 6, 25);
        due("vowels of 5", full.sight(0), 2);
        due("hungry on field 0", full.sight(1), 6);
        due("alone of 5", full.sight(2), 28);
        due("nobody", new GoInland().sight(2), 0);
    }

    private static void kinds() {
        promise("37");
        GoInland x = told("lady 0 a 0;queen 0 b 1;queen 0 c 1;mermaid 0 d 1;");
        due("kinds(0)", x.kinds(0), 1);
        due("kinds(1)", x.kinds(1), 2);
        due("kinds(4)", x.kinds(4), 0);
        due("kinds(7)", x.kinds(7), 1);
        due("kinds(8)", x.kinds(8), -2);
        due("kinds(-1)", x.kinds(-1), -2);
    }

    private static void row() {
        promise("38");
        GoInland x = new GoInland();
        due("row(-1)", x.row(-1), -4);
        due("row(100)", x.row(100), -6);
        due("row(99)", x.row(99), 1);
        due("row(0)", x.row(0), 2);
        for (int i = 3; i <= 12; i++) {
            due("row(5)", x.row(5), i);
        }
        due("row(5) of 13", x.row(5), -6);
        due("row(-1) of 13", x.row(-1), -4);
        due("count(8)", x.count(8), 12);
    }

    private static void judge() {
        promise("39");
        GoInland x = told("lady 0 a 7;lady 0 a 8;");
        due("an empty row", x.judge(), -9);
        x.row(7);
        due("7", x.judge(), -9);
        due("the row has none then", x.count(8), 0);
        x.row(7);
        x.row(8);
        due("7 8", x.judge(), -9);
        x.row(7);
        x.row(9);
        x.row(9);
        due("7 9 9", x.judge(), 1);
        due("the row has none then", x.count(8), 0);
        x.row(7);
        x.row(8);
        x.row(0);
        due("7 8 0", x.judge(), 2);
        x.row(8);
        due("8", x.judge(), 0);
        GoInland nobody = new GoInland();
        nobody.row(0);
        due("0 of nobody", nobody.judge(), 0);
    }

    private static void clear() {
        promise("40");
        GoInland x = new GoInland();
        due("clear()", x.clear(), 0);
        x.row(1);
        x.row(2);
        due("clear()", x.clear(), 2);
        due("clear()", x.clear(), 0);
        due("row(1)", x.row(1), 1);
    }

    private static int seed;

    private static int drawBelow(int n) {
        seed = seed * 1103515245 + 12345;
        return (seed & 0x7fffffff) / 65536 % n;
    }

    /** Three heads, where they are or where the seed has them be, and people on all fields. */
    private static GoInland lotsLand(boolean drawn) {
        int[] kinds = {3, 1, 6};
        int[] figures = {0, 3, 9};
        int[] fields = {40, 5, 5};
        GoInland x = new GoInland();
        for (int i = 0; i < 3; i++) {
            x.comes(kinds[i], figures[i], drawn ? drawBelow(48) : fields[i], i);
            x.faces(i, drawn ? drawBelow(4) : 0);
        }
        for (int field = 0; field < 48; field++) {
            x.folk(field, 3, field % 3);
        }
        return x;
    }

    private static void lots() {
        promise("41");
        GoInland x = lotsLand(false);
        int allTold = 0;
        int allSettled = 0;
        for (int game = 0; game < 60; game++) {
            int z = game * 1234567891;
            seed = z;
            GoInland drawn = lotsLand(true);
            int told = drawn.nights(12);
            int settled = Integer.bitCount(drawn.count(3));
            due("told by seed " + z, x.lots(1, z, 0), told);
            due("settled by seed " + z, x.lots(1, z, 1), settled);
            due("told in two games", x.lots(2, z, 0), told + x.lots(1, seed, 0));
            due("settled in two games", x.lots(2, z, 1), settled + x.lots(1, seed, 1));
            allTold += told;
            allSettled += settled;
        }
        GoInland met = told("lady 0 b 8;collier 0 a 0;nights 1;");
        due("told now", met.count(2), 2);
        for (int z = 0; z < 60; z++) {
            seed = z;
            GoInland drawn = new GoInland();
            drawn.nights(1);
            drawn.comes(0, 0, drawBelow(48), 1);
            drawn.faces(0, drawBelow(4));
            drawn.comes(5, 0, drawBelow(48), 0);
            drawn.faces(1, drawBelow(4));
            due("told more by seed " + z, met.lots(1, z, 0), drawn.nights(12));
        }
        due("some met", allTold > 0 ? 1 : 0, 1);
        due("some settled", allSettled > 0 ? 1 : 0, 1);
        due("lots(0, 0, 9)", x.lots(0, 0, 9), -4);
        due("lots(-1, 0, 0)", x.lots(-1, 0, 0), -4);
        due("lots(21, 0, 9)", x.lots(21, 0, 9), -6);
        due("lots(20, -1, 2)", x.lots(20, -1, 2), -2);
        due("lots(20, -1, -1)", x.lots(20, -1, -1), -2);
        dueLine(x, 0, "a 40n0");
        due("night", x.count(1), 0);
        due("nobody", new GoInland().lots(20, 5, 0), 0);
        GoInland settled = told("lady 0 a 9;joins 0 20;nights 1;");
        due("settled already", settled.lots(20, 7, 1), 0);
        settled.comes(0, 0, 0, 0);
        settled.joins(1, 20);
        due("one more in each", settled.lots(20, 7, 1), 20);
    }

    private static void image() {
        promise("42, 43");
        GoInland x = told("lady 0 a 40;wall 3 3;folk 5 5 f;nights 2;");
        due("restore()", x.restore(), -3);
        due("image()", x.image(), 2);
        x.row(1);
        x.feed(97);
        x.nights(5);
        x.walls(3, 0);
        x.folk(5, 1, 1);
        x.comes(1, 1, 1, 1);
        x.named(0, 1);
        x.joins(0, 20);
        due("restore()", x.restore(), 2);
        due("heads", x.count(0), 1);
        due("night", x.count(1), 2);
        due("wall", x.field(3, 0), 3);
        due("people", x.field(5, 1), 5);
        due("letter", x.field(5, 2), 5);
        dueLine(x, 0, "a 24n0");
        due("the row stays", x.count(8), 1);
        due("letters stay", x.count(7), 1);
        due("refusals stay", x.count(13), 1);
        due("none to be taken back", x.back(), -3);
        x.nights(1);
        due("the image stays", x.restore(), 2);
        x.nights(1);
        due("image() anew", x.image(), 3);
        x.nights(1);
        due("restore()", x.restore(), 3);
        x.walls(1, 1);
        x.image();
        due("back() behind an image", x.back(), 0);
        due("wall taken back", x.field(1, 0), 0);
        x.restore();
        due("wall of the image", x.field(1, 0), 1);
        GoInland late = told("lady 0 a 40;");
        late.walls(1, 1);
        due("restore() refused", late.restore(), -3);
        due("leaves what can be taken back", late.count(9), 1);
        GoInland empty = new GoInland();
        empty.image();
        empty.comes(0, 5, 20, 3);
        empty.named(0, 1);
        empty.faces(0, 2);
        empty.does(0, 1);
        empty.joins(0, 30);
        empty.nights(1);
        dueLine(empty, 0, "db 21e!");
        due("restore()", empty.restore(), 0);
        due("heads", empty.count(0), 0);
        due("settled", empty.count(3), 0);
        due("followers", empty.count(4), 0);
        due("vowels", empty.sight(0), 0);
        due("comes() anew", empty.comes(1, 1, 7, 2), 0);
        dueLine(empty, 0, "c 7n0");
        due("word", empty.head(0, 4), 0);
        due("letters", empty.head(0, 7), 1);
    }

    private static void count() {
        promise("44");
        GoInland x = told("lady 0 a 40;joins 0 20;lady 0 b 9;joins 1 7;folk 1 5 a;folk 2 4 a;wall 3 9;wall 4 2;");
        x.feed(97);
        x.row(3);
        x.nights(1);
        due("heads", x.count(0), 2);
        due("night", x.count(1), 1);
        due("told", x.count(2), 0);
        due("settled", x.count(3), 1);
        due("followers", x.count(4), 27);
        due("people", x.count(5), 9);
        due("walls", x.count(6), 11);
        due("letters", x.count(7), 1);
        due("row", x.count(8), 1);
        due("taken back", x.count(9), 1);
        due("count(10)", x.count(10), -9);
        due("count(17)", x.count(17), -9);
        due("count(-1)", x.count(-1), -9);
        due("count(max)", x.count(Integer.MAX_VALUE), -9);
        due("count(min)", x.count(Integer.MIN_VALUE), -9);
        x.head(9, 0);
        x.sight(9);
        x.sight(9);
        x.restore();
        x.feed(-1);
        x.feed(999);
        x.feed(999);
        due("nobody", x.count(11), 1);
        due("other", x.count(12), 2);
        due("state", x.count(13), 1);
        due("below", x.count(14), 1);
        due("-5", x.count(15), 0);
        due("room", x.count(16), 2);
        GoInland two = told("lady 0 b 8;collier 0 a 0;nights 1;");
        due("told", two.count(2), 2);
        GoInland full = fullLand();
        full.folk(0, 6, 0);
        full.walls(0, 7);
        full.joins(4, 9);
        due("settled of 5", full.count(3), 0);
        due("followers of 5", full.count(4), 9);
        due("people on field 0", full.count(5), 6);
        due("wall on field 0", full.count(6), 7);
    }
}
