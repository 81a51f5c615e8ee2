/** A LAND told in letters, at each of the edges of its form, of its numbers and of what was there ahead of it. */
public final class LandEdgesTest extends Check {
    private static final String LETTERS = "abcdefghijklmnopqrstuvwxyz";
    private static final String DIGITS = "0123456789";

    public static void main(String[] args) {
        lettersFed();
        everySign();
        lengthsOfWordsAndParts();
        numberOfParts();
        whatLacks();
        formAheadOfStatements();
        firstStatementAtFault();
        rangesOfHeads();
        rangesOfFields();
        rangesOfDeeds();
        kindsOfParts();
        wordsAlmostRight();
        headsThatAreThere();
        nightsThatGoBy();
        roomForHeads();
        withFaultNothing();
        withoutFaultAll();
        end();
    }

    private static void dueLand(String text, int want) {
        dueLand(new GoInland(), text, want);
    }

    /** A text of 96 letters, of ten STATEMENTS. */
    private static String longest() {
        return "wall 9 4;".repeat(4) + "wall 10 5;".repeat(6);
    }

    private static void lettersFed() {
        promise("2");
        GoInland x = new GoInland();
        for (int i = 1; i <= 96; i++) {
            due("feed", x.feed(i == 1 ? 0 : i == 2 ? 255 : 'a'), i);
            due("letters", x.count(7), i);
        }
        due("a 97th", x.feed('a'), -6);
        due("letters", x.count(7), 96);
        due("land()", x.land(), -1000);
        due("letters", x.count(7), 0);
        due("feed", x.feed('a'), 1);
        promise("3, 96 letters");
        due("letters of the longest", longest().length(), 96);
        dueLand(longest(), 10);
        dueLand(longest().substring(0, 95), -1095);
        dueLand(longest().substring(0, 95) + " ", -1096);
    }

    /** Each of the 256 letters behind a text; those that fit lack something yet, or make it whole. */
    private static void dueSigns(String ahead, String fitting, int whole) {
        for (int sign = 0; sign < 256; sign++) {
            GoInland x = new GoInland();
            tellLetters(x, ahead);
            x.feed(sign);
            boolean fits = fitting.indexOf(sign) >= 0;
            int due = -1000 - ahead.length() - (fits ? 1 : 0);
            due("land behind \"" + ahead + "\" and " + sign, x.land(), fits && sign == ';' ? whole : due);
        }
    }

    private static void everySign() {
        promise("3, the place of the first letter that doesn't fit");
        dueSigns("", LETTERS, 0);
        dueSigns("wal", LETTERS + " ", 0);
        dueSigns("wall ", LETTERS + DIGITS, 0);
        dueSigns("wall 1", DIGITS + " ;", -2000);
        dueSigns("wall 12", " ;", -2000);
        dueSigns("wall a", LETTERS + " ;", -2000);
        dueSigns("wall 12 ", LETTERS + DIGITS, 0);
        dueSigns("wall 1 2", DIGITS + " ;", 1);
        dueSigns("wall 1 2 3", DIGITS + ";", -2000);
        dueSigns("wall 1 2 a", LETTERS + ";", -2000);
        dueSigns("wall 1 2;", LETTERS, 0);
    }

    private static void lengthsOfWordsAndParts() {
        promise("3, 1 .. 7 letters, 1 or 2 digits");
        dueLand("a 1;", -2000);
        dueLand("abcdefg 1;", -2000);
        dueLand("abcdefgh 1;", -1007);
        dueLand("wall a;", -2000);
        dueLand("wall abcdefg;", -2000);
        dueLand("wall abcdefgh;", -1012);
        dueLand("wall 1 abcdefgh;", -1014);
        dueLand("wall 1 2 abcdefgh;", -1016);
        dueLand("wall 1;", -2000);
        dueLand("wall 12;", -2000);
        dueLand("wall 123;", -1007);
        dueLand("wall 000;", -1007);
        dueLand("wall 1 123;", -1009);
        dueLand("wall 1 2 123;", -1011);
        dueLand("wall 1 2;abcdefgh 1;", -1016);
        dueLand("1wall 1 2;", -1000);
        dueLand("wal1 1 2;", -1003);
    }

    private static void numberOfParts() {
        promise("3, 1 .. 3 PARTS, each with one blank ahead");
        dueLand("wall;", -1004);
        dueLand("wall ;", -1005);
        dueLand("nights 1;", 1);
        dueLand("wall 1 2;", 1);
        dueLand("folk 1 2 a;", 1);
        dueLand("folk 1 2 a 3;", -1010);
        dueLand("folk 1 2 a b;", -1010);
        dueLand("folk 1 2 a ;", -1010);
        dueLand("folk  1 2 a;", -1005);
        dueLand("folk 1  2 a;", -1007);
        dueLand("folk 1 2  a;", -1009);
        dueLand(" folk 1 2 a;", -1000);
        dueLand("folk 1 2 a;folk;", -1015);
        dueLand("folk 1 2 a; folk 1 2 a;", -1011);
    }

    private static void whatLacks() {
        promise("3, the end, if something lacks");
        String whole = "lady 10 ann 12;";
        for (int letters = 0; letters < whole.length(); letters++) {
            dueLand(whole.substring(0, letters), -1000 - letters);
        }
        String two = "wall 1 2;" + whole;
        for (int letters = 10; letters < two.length(); letters++) {
            dueLand(two.substring(0, letters), -1000 - letters);
        }
        dueLand(";", -1000);
        dueLand(" ", -1000);
        dueLand("wall 1 2;;", -1009);
    }

    private static void formAheadOfStatements() {
        promise("3, FAULT: kind 1, else kind 2");
        dueLand("rock 1;wall", -1011);
        dueLand("rock 1;wall 1 2", -1015);
        dueLand("wall 48 1;wall 1 2;?", -1019);
        dueLand("nights 0;lady 1 abcdefgh 1;", -1023);
        dueLand("wall 123;rock 1;", -1007);
    }

    private static void firstStatementAtFault() {
        promise("3, the first letter of the first STATEMENT at fault");
        dueLand("rock 1;rock 2;", -2000);
        dueLand("wall 1 2;rock 1;rock 2;", -2009);
        dueLand("wall 1 2;wall 11 2;rock 1;", -2019);
        dueLand("lady 1 a 1;face 0 n;joins 0 9;does 0 on;folk 1 2 a;nights 9;wall 48 1;", -2060);
        String nine = "wall 9 4;".repeat(4) + "wall 10 5;".repeat(5);
        due("letters ahead", nine.length(), 86);
        dueLand(nine + "wall 48 1;", -2086);
    }

    private static void rangesOfHeads() {
        promise("3, FIGURE, NAME, FIELD of a HEAD");
        dueLand("lady 0 a 0;", 1);
        dueLand("lady 9 abcdef 47;", 1);
        dueLand("lady 00 a 00;", 1);
        dueLand("lady 09 a 09;", 1);
        dueLand("lady 10 a 0;", -2000);
        dueLand("lady 99 a 0;", -2000);
        dueLand("lady 9 abcdefg 0;", -2000);
        dueLand("lady 0 a 48;", -2000);
        dueLand("lady 0 a 99;", -2000);
        for (int letters = 1; letters <= 6; letters++) {
            GoInland x = told("mermaid 9 " + "uvwxyz".substring(0, letters) + " 47;");
            dueLine(x, 0, "uvwxyz".substring(0, letters) + " 47n0");
            due("letters of her NAME", x.head(0, 7), letters);
            due("FIGURE", x.head(0, 1), 9);
        }
    }

    private static void rangesOfFields() {
        promise("3, FIELD, WALL, PEOPLE, LETTER of a FIELD");
        dueLand("wall 0 0;", 1);
        dueLand("wall 47 9;", 1);
        dueLand("wall 48 9;", -2000);
        dueLand("wall 99 9;", -2000);
        dueLand("wall 47 10;", -2000);
        dueLand("wall 47 99;", -2000);
        dueLand("folk 0 0 a;", 1);
        dueLand("folk 47 9 z;", 1);
        dueLand("folk 48 9 z;", -2000);
        dueLand("folk 47 10 z;", -2000);
        dueLand("folk 47 9 zz;", -2000);
        dueLand("folk 47 9 abcdefg;", -2000);
        dueLand("folk 47 9 1;", -2000);
        GoInland x = told("wall 47 9;folk 47 9 z;wall 0 1;folk 0 1 b;");
        due("WALL of 47", x.field(47, 0), 9);
        due("PEOPLE of 47", x.field(47, 1), 9);
        due("LETTER of 47", x.field(47, 2), 25);
        due("WALL of 0", x.field(0, 0), 1);
        due("PEOPLE of 0", x.field(0, 1), 1);
        due("LETTER of 0", x.field(0, 2), 1);
        dueLand(x, "wall 47 0;folk 47 0 a;", 2);
        due("WALL of 47", x.field(47, 0), 0);
        due("PEOPLE of 47", x.field(47, 1), 0);
        due("LETTER of 47", x.field(47, 2), 0);
    }

    private static void rangesOfDeeds() {
        promise("3, FACING, WORD, FOLLOWERS, NIGHTS");
        GoInland x = told("lady 1 a 1;");
        String[] facings = {"n", "e", "s", "w"};
        for (int facing = 3; facing >= 0; facing--) {
            dueLand(x, "face 0 " + facings[facing] + ";", 1);
            due("FACING " + facings[facing], x.head(0, 3), facing);
        }
        String[] words = {"on", "left", "right", "back", "rest"};
        for (int word = 4; word >= 0; word--) {
            dueLand(x, "does 0 " + words[word] + ";", 1);
            due("WORD " + words[word], x.head(0, 4), word);
        }
        dueLand(x, "joins 0 99;", 1);
        due("FOLLOWERS", x.head(0, 5), 99);
        dueLand(x, "joins 0 0;", 1);
        due("FOLLOWERS", x.head(0, 5), 0);
        dueLand(x, "joins 0 100;", -1010);
        dueLand(x, "nights 0;", -2000);
        dueLand(x, "nights 00;", -2000);
        dueLand(x, "nights 61;", -2000);
        dueLand(x, "nights 99;", -2000);
        due("NIGHT", x.count(1), 0);
        dueLand(x, "nights 1;", 1);
        due("NIGHT", x.count(1), 1);
        dueLand(x, "nights 60;", 1);
        due("NIGHT", x.count(1), 61);
    }

    private static void kindsOfParts() {
        promise("3, not its PARTS");
        String[] bad = {
            "lady a a 1;", "lady 1 1 1;", "lady 1 a a;", "lady 1;", "lady a;", "lady 1 a;", "lady 1 1;", "wall a 1;", "wall 1 a;", "wall 1;",
            "wall a;", "wall 1 2 3;", "wall 1 2 a;", "folk a 1 a;", "folk 1 a a;", "folk 1 1 1;", "folk 1;", "folk 1 1;", "folk 1 a;", "face a n;",
            "face 0 1;", "face 0;", "face n;", "face 0 n n;", "face 0 n 0;", "does a on;", "does 0 1;", "does 0;", "does on;", "does 0 on on;",
            "does 0 on 1;", "joins a 1;", "joins 0 a;", "joins 0;", "joins a;", "joins 0 1 1;", "joins 0 1 a;", "nights a;", "nights 1 1;",
            "nights 1 a;", "nights 1 1 1;",
        };
        dueAtFault(bad);
    }

    /** Each text, where a HEAD is there already: nothing of it comes. */
    private static void dueAtFault(String[] texts) {
        for (String text : texts) {
            GoInland x = told("lady 0 a 47;");
            dueLand(x, text, -2000);
            due("HEADS", x.count(0), 1);
            due("NIGHT", x.count(1), 0);
            dueLine(x, 0, "a 47n0");
        }
    }

    private static void wordsAlmostRight() {
        promise("3, no such WORD");
        String[] bad = {
            "lad 1 a 1;", "ladys 1 a 1;", "adyl 1 a 1;", "ady 1 a 1;", "quee 1 a 1;", "queens 1 a 1;", "slave 1 a 1;", "childs 1 a 1;", "sain 1 a 1;",
            "collie 1 a 1;", "pirates 1 a 1;", "mermai 1 a 1;", "mermaiz 1 a 1;", "wal 1 1;", "walls 1 1;", "fol 1 1 a;", "folks 1 1 a;",
            "fac 0 n;", "faces 0 n;", "doe 0 on;", "join 0 1;", "joinss 0 1;", "night 1;", "nightss 1;", "on 0 1;", "rest 0 1;", "n 0 1;", "head 1 a 1;",
            "face 0 ns;", "face 0 o;", "face 0 north;", "does 0 o;", "does 0 onn;", "does 0 lef;", "does 0 lefts;", "does 0 rights;", "does 0 bac;",
            "does 0 res;", "does 0 rests;", "does 0 n;", "face 0 on;",
        };
        dueAtFault(bad);
    }

    private static void headsThatAreThere() {
        promise("3, no such HEAD");
        String[] deeds = {"face 0 n;", "does 0 on;", "joins 0 1;"};
        for (String deed : deeds) {
            dueLand(deed, -2000);
            dueLand("wall 1 1;" + deed, -2009);
            dueLand(deed + "lady 1 a 1;", -2000);
            dueLand("lady 1 a 1;" + deed, 2);
            dueLand("lady 1 a 1;" + deed.replace('0', '1'), -2011);
            dueLand("lady 1 a 1;" + deed.replace('0', '5'), -2011);
            dueLand("lady 1 a 1;" + deed.replace("0", "99"), -2011);
            GoInland x = told("lady 1 a 1;lady 1 b 2;lady 1 c 3;lady 1 d 4;lady 1 e 5;");
            dueLand(x, deed.replace('0', '4'), 1);
            dueLand(x, deed.replace("0", "04"), 1);
            dueLand(x, deed.replace('0', '5'), -2000);
        }
    }

    private static void nightsThatGoBy() {
        promise("3, NIGHT above 999");
        GoInland x = new GoInland();
        passTo960(x);
        dueLand(x, "nights 40;", -2000);
        dueLand(x, "nights 39;nights 1;", -2010);
        due("NIGHT", x.count(1), 960);
        dueLand(x, "nights 38;nights 1;", 2);
        due("NIGHT", x.count(1), 999);
        dueLand(x, "nights 1;", -2000);
        dueLand(x, "nights 60;", -2000);
        dueLand(x, "nights 61;", -2000);
        due("NIGHT", x.count(1), 999);
        GoInland many = new GoInland();
        for (int i = 0; i < 2; i++) {
            dueLand(many, "nights 60;".repeat(8) + "nights 9;", 9);
        }
        dueLand(many, "nights 21;", 1);
        due("NIGHT", many.count(1), 999);
    }

    private static void roomForHeads() {
        promise("3, no room");
        String five = "lady 1 a 1;".repeat(5);
        GoInland x = new GoInland();
        dueLand(x, "lady 1 a 1;".repeat(6), -2055);
        due("HEADS", x.count(0), 0);
        dueLand(x, five, 5);
        due("HEADS", x.count(0), 5);
        dueLand(x, "lady 1 a 1;", -2000);
        dueLand(x, "wall 1 1;lady 1 a 1;", -2009);
        GoInland four = told("lady 1 a 1;".repeat(4));
        dueLand(four, "lady 1 a 1;lady 1 a 1;", -2011);
        due("HEADS", four.count(0), 4);
        dueLand(four, "mermaid 1 a 1;", 1);
        due("the last one's KIND", four.head(4, 0), 7);
    }

    private static void withFaultNothing() {
        promise("3, with FAULT nothing, and nothing is counted");
        GoInland x = told("lady 0 a 40;folk 32 9 a;");
        x.walls(1, 1);
        x.image();
        x.row(5);
        String[] bad = {"nights 1;wall 1 9;rock 1;", "nights 1;wall 1 9;rock", "", "lady 1 b 1;joins 0 5;does 0 rest;face 0 s;folk 1 1 b;wall 1 99;"};
        int[] due = {-2018, -1022, -1000, -2053};
        for (int i = 0; i < bad.length; i++) {
            dueLand(x, bad[i], due[i]);
            for (int refusal = 11; refusal <= 16; refusal++) {
                due("count(" + refusal + ")", x.count(refusal), 0);
            }
            due("HEADS", x.count(0), 1);
            due("NIGHT", x.count(1), 0);
            due("PEOPLE of all", x.count(5), 9);
            due("WALLS of all", x.count(6), 1);
            due("the ROW", x.count(8), 1);
            due("what can be TAKEN BACK", x.count(9), 1);
            due("WORD", x.head(0, 4), 0);
            dueLine(x, 0, "a 40n0");
        }
        due("back()", x.back(), 0);
        due("WALL", x.field(1, 0), 0);
        due("restore()", x.restore(), 0);
        due("WALL of the image", x.field(1, 0), 1);
    }

    private static void withoutFaultAll() {
        promise("3, without FAULT all of it comes, one behind the other");
        GoInland x = new GoInland();
        dueLand(x, "wall 1 5;wall 1 7;", 2);
        due("WALL", x.field(1, 0), 7);
        dueLand(x, "lady 0 a 40;nights 1;folk 24 9 a;nights 1;joins 0 5;does 0 rest;nights 60;", 7);
        due("NIGHT", x.count(1), 62);
        dueLine(x, 0, "a 24n5");
        due("PEOPLE, who followed", x.field(24, 1), 0);
        dueLand(x, "lady 0 b 47;face 1 w;face 0 s;does 0 on;nights 1;", 5);
        dueLine(x, 0, "a 32s5");
        dueLine(x, 1, "b 46w0");
        x.walls(2, 2);
        x.feed('w');
        due("what can be TAKEN BACK", x.count(9), 1);
        tellLetters(x, "all 2 2;");
        due("land()", x.land(), 1);
        due("a LAND without FAULT leaves none", x.count(9), 0);
        due("back()", x.back(), -3);
    }
}
