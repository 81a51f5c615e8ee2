/** What the asking calls answer at their edges: none, the least of several, the last night, a full row, a wrap-around. */
public final class AnswerEdgesTest extends Check {
    public static void main(String[] args) {
        takenBack();
        takenBackEachDeed();
        takenBackNoMore();
        behindNoNights();
        behindSixtyNights();
        whenAndSettles();
        meeting();
        bestWord();
        bestLetter();
        holds();
        wallFor();
        names();
        whatKind();
        whatFigure();
        whatWord();
        two();
        rainOfNone();
        rainOfMost();
        like();
        rank();
        nameOfHerOwn();
        line();
        power();
        share();
        nearest();
        way();
        sight();
        kinds();
        row();
        judge();
        lotsDraws();
        lotsTogether();
        imageAndRestore();
        imageLeavesOut();
        counts();
        countsOfSettled();
        end();
    }

    /** She faces along the last row; each WALL of 9 takes her nine NIGHTS, and a step. */
    private static GoInland alongWalls(int first, int last) {
        GoInland x = told("lady 0 a 40;face 0 e;");
        for (int field = first; field <= last; field++) {
            x.walls(field, 9);
        }
        return x;
    }

    private static void takenBack() {
        promise("14, 8 at most, the latest first");
        GoInland x = new GoInland();
        for (int wall = 1; wall <= 8; wall++) {
            x.walls(0, wall);
            due("what can be", x.count(9), wall);
        }
        x.walls(0, 9);
        due("what can be behind a 9th", x.count(9), 8);
        for (int left = 7; left >= 5; left--) {
            due("back()", x.back(), left);
            due("WALL", x.field(0, 0), left + 1);
        }
        for (int people = 1; people <= 4; people++) {
            x.folk(3, people, 0);
            due("what can be", x.count(9), Math.min(8, 5 + people));
        }
        for (int left = 7; left >= 4; left--) {
            due("back()", x.back(), left);
            due("PEOPLE", x.field(3, 1), left - 4);
            due("WALL", x.field(0, 0), 6);
        }
        for (int left = 3; left >= 0; left--) {
            due("back()", x.back(), left);
            due("WALL", x.field(0, 0), left + 2);
        }
        due("back() of none", x.back(), -3);
        due("back() of none", x.back(), -3);
        due("WALL", x.field(0, 0), 2);
        due("refusals", x.count(13), 2);
        x.walls(0, 9);
        due("back()", x.back(), 0);
        due("WALL", x.field(0, 0), 2);
    }

    private static void takenBackEachDeed() {
        promise("14, each that is not refused counts, also if all stays as it was");
        GoInland x = told("lady 0 abcde 40;does 0 rest;");
        x.named(0, 0);
        due("named()", x.count(9), 1);
        x.faces(0, 0);
        due("faces()", x.count(9), 2);
        x.does(0, 4);
        due("does()", x.count(9), 3);
        x.joins(0, 0);
        due("joins()", x.count(9), 4);
        x.walls(0, 0);
        due("walls()", x.count(9), 5);
        x.folk(0, 0, 0);
        due("folk()", x.count(9), 6);
        x.nights(1);
        due("nights()", x.count(9), 7);
        x.named(0, 0);
        x.faces(0, 4);
        x.does(0, 5);
        x.joins(0, 100);
        x.walls(0, 10);
        x.folk(0, 10, 0);
        x.nights(0);
        due("refused ones", x.count(9), 7);
        due("back() of nights()", x.back(), 6);
        due("NIGHT", x.count(1), 0);
        for (int left = 5; left >= 0; left--) {
            due("back()", x.back(), left);
            due("letters of her NAME", x.head(0, 7), left > 0 ? 6 : 5);
        }
        dueLine(x, 0, "abcde 40n0");
        GoInland whole = told("lady 0 a 40;folk 32 9 a;wall 24 5;joins 0 11;");
        whole.nights(3);
        dueLine(whole, 0, "a 32n!");
        due("back() of SETTLED, PEOPLE, FOLLOWERS, FIELD", whole.back(), 0);
        dueLine(whole, 0, "a 40n11");
        due("PEOPLE", whole.field(32, 1), 9);
        due("SETTLED", whole.count(3), 0);
        GoInland met = told("collier 0 a 20;collier 0 b 20;");
        met.nights(2);
        due("TOLD", met.count(2), 4);
        met.back();
        due("TOLD taken back", met.count(2), 0);
        due("FACING taken back", met.head(0, 3) + met.head(1, 3), 0);
        GoInland walls = told("lady 0 a 40;wall 32 5;");
        walls.nights(2);
        due("WALL", walls.field(32, 0), 3);
        walls.back();
        due("WALL taken back", walls.field(32, 0), 5);
    }

    private static void takenBackNoMore() {
        promise("14, comes(), a LAND without FAULT, restore() leave none");
        GoInland x = new GoInland();
        x.walls(0, 1);
        x.comes(0, 0, 48, 0);
        due("comes() refused", x.count(9), 1);
        x.comes(0, 0, 47, 0);
        due("comes()", x.count(9), 0);
        due("back()", x.back(), -3);
        due("HEADS", x.count(0), 1);
        x.walls(0, 2);
        due("a LAND with FAULT", tell(x, "wall 0 10;"), -2000);
        due("a LAND of no form", tell(x, "wall"), -1004);
        due("what can be", x.count(9), 1);
        due("a LAND without", tell(x, "wall 0 5;"), 1);
        due("what can be", x.count(9), 0);
        due("back()", x.back(), -3);
        due("WALL", x.field(0, 0), 5);
        x.walls(0, 2);
        due("restore() refused", x.restore(), -3);
        due("what can be", x.count(9), 1);
        x.image();
        due("image()", x.count(9), 1);
        x.restore();
        due("restore()", x.count(9), 0);
        due("back()", x.back(), -3);
        due("WALL", x.field(0, 0), 2);
        x.walls(0, 3);
        due("counted anew", x.count(9), 1);
        due("back()", x.back(), 0);
        due("WALL", x.field(0, 0), 2);
    }

    private static void behindNoNights() {
        promise("15, 16, n of 0");
        GoInland x = told("lady 0 a 40;joins 0 20;nights 1;collier 0 b 47;face 1 w;joins 1 4;folk 47 3 b;wall 3 2;");
        due("FIELD", x.headThen(1, 0, 0), 47);
        due("FACING", x.headThen(1, 0, 1), 3);
        due("FOLLOWERS", x.headThen(1, 0, 2), 4);
        due("SETTLED", x.headThen(1, 0, 3), 0);
        due("SETTLED", x.headThen(0, 0, 3), 1);
        due("TOLD", x.then(0, 0), 0);
        due("who is SETTLED", x.then(0, 1), 1);
        due("PEOPLE", x.then(0, 2), 3);
        due("WALLS", x.then(0, 3), 2);
        due("behind 1: FOLLOWERS", x.headThen(1, 1, 2), 7);
        due("behind 1: SETTLED", x.headThen(1, 1, 3), 1);
        due("behind 1: who is SETTLED", x.then(1, 1), 3);
        due("behind 1: PEOPLE", x.then(1, 2), 0);
        due("behind 1: FACING, 4 quarters more", x.headThen(1, 1, 1), 3);
        due("behind 2: FACING of one SETTLED", x.headThen(1, 2, 1), 3);
        GoInland none = new GoInland();
        for (int what = 0; what < 4; what++) {
            due("then(0, " + what + ") of a new object", none.then(0, what), 0);
            due("then(60, " + what + ") of a new object", none.then(60, what), 0);
        }
    }

    private static void behindSixtyNights() {
        promise("15, 16, n of 60");
        GoInland x = alongWalls(41, 46);
        due("FIELD behind 59", x.headThen(0, 59, 0), 45);
        due("FIELD behind 60", x.headThen(0, 60, 0), 46);
        due("WALLS behind 58", x.then(58, 3), 1);
        due("WALLS behind 59", x.then(59, 3), 0);
        x.folk(46, 9, 0);
        x.joins(0, 11);
        due("FOLLOWERS behind 59", x.headThen(0, 59, 2), 11);
        due("FOLLOWERS behind 60", x.headThen(0, 60, 2), 20);
        due("SETTLED behind 59", x.headThen(0, 59, 3), 0);
        due("SETTLED behind 60", x.headThen(0, 60, 3), 1);
        due("who is SETTLED behind 59", x.then(59, 1), 0);
        due("who is SETTLED behind 60", x.then(60, 1), 1);
        due("PEOPLE behind 59", x.then(59, 2), 9);
        due("PEOPLE behind 60", x.then(60, 2), 0);
        due("NIGHT now", x.count(1), 0);
        due("WALLS now", x.count(6), 54);
        due("FOLLOWERS now", x.count(4), 11);
        GoInland met = told("collier 0 a 20;collier 0 b 20;");
        due("TOLD behind 59", met.then(59, 0), 118);
        due("TOLD behind 60", met.then(60, 0), 120);
        due("TOLD now", met.count(2), 0);
        GoInland late = told("collier 0 a 20;collier 0 b 20;");
        passTo960(late);
        late.nights(39);
        due("TOLD behind 60 of NIGHT 999", late.then(60, 0), 2118);
        due("NIGHT now", late.count(1), 999);
    }

    private static void whenAndSettles() {
        promise("17, 18");
        GoInland x = alongWalls(41, 46);
        due("when() where she is", x.when(0, 40), 0);
        due("when() in the first NIGHT", alongWalls(42, 42).when(0, 41), 1);
        due("when() behind 60", x.when(0, 46), 60);
        due("when() behind 61", x.when(0, 47), -9);
        due("when() nowhere near", x.when(0, 0), -9);
        GoInland twice = told("lady 0 a 0;face 0 w;");
        due("when() first of several", twice.when(0, 0), 0);
        due("when() on her way back", twice.when(0, 7), 8);
        x.joins(0, 20);
        due("settles() in the first NIGHT", x.settles(0), 1);
        due("FIRST in the first NIGHT", x.settles(-1), 0);
        x.joins(0, 19);
        x.folk(46, 1, 0);
        due("settles() behind 60", x.settles(0), 60);
        due("FIRST behind 60", x.settles(-1), 0);
        x.folk(46, 0, 0);
        x.folk(47, 1, 0);
        due("settles() behind 61", x.settles(0), -9);
        due("FIRST behind 61", x.settles(-1), -9);
        GoInland five = new GoInland();
        due("FIRST of nobody", five.settles(-1), -9);
        for (int head = 0; head < 5; head++) {
            five.comes(0, 0, 40 + head, 0);
            five.joins(head, 20);
        }
        due("FIRST of 5", five.settles(-1), 0);
        five.joins(0, 0);
        five.joins(1, 0);
        due("FIRST, of several the least", five.settles(-1), 2);
        five.joins(2, 0);
        five.joins(3, 0);
        due("FIRST, the last of 5", five.settles(-1), 4);
        five.nights(1);
        due("settles() of one SETTLED", five.settles(4), 0);
        due("FIRST of those who never are", five.settles(-1), -9);
    }

    private static void meeting() {
        promise("19");
        GoInland x = alongWalls(41, 46);
        x.comes(0, 0, 46, 1);
        x.comes(0, 0, 47, 1);
        x.comes(0, 0, 0, 1);
        x.comes(0, 0, 0, 1);
        for (int head = 1; head < 5; head++) {
            x.does(head, 4);
        }
        due("on one FIELD now", x.meeting(3, 4), 0);
        due("apart for ever", x.meeting(1, 2), -9);
        x.nights(1);
        due("behind 59 of 60", x.meeting(1, 0), 59);
        GoInland last = alongWalls(41, 46);
        last.comes(0, 0, 46, 1);
        last.does(1, 4);
        last.comes(0, 0, 47, 1);
        last.does(2, 4);
        due("behind 60", last.meeting(0, 1), 60);
        due("behind 61", last.meeting(0, 2), -9);
        last.walls(46, 8);
        due("behind 59", last.meeting(0, 1), 59);
        due("behind 60", last.meeting(2, 0), -9);
        GoInland late = alongWalls(41, 46);
        late.walls(46, 0);
        late.walls(47, 8);
        late.comes(0, 0, 47, 1);
        late.does(1, 4);
        due("behind 60", late.meeting(0, 1), 60);
        late.walls(47, 9);
        due("behind 61", late.meeting(0, 1), -9);
    }

    private static void bestWord() {
        promise("20, BEST WORD");
        GoInland x = alongWalls(41, 46);
        x.folk(46, 9, 0);
        for (int field = 16; field <= 32; field += 8) {
            x.walls(field, 9);
        }
        due("behind 59", x.bestWord(0, 59, 1), 0);
        due("behind 60", x.bestWord(0, 60, 1), 9);
        due("which behind 60", x.bestWord(0, 60, 0), 0);
        x.does(0, 4);
        due("which behind 60, though she rests", x.bestWord(0, 60, 0), 0);
        due("behind 60, though she rests", x.bestWord(0, 60, 1), 9);
        x.joins(0, 7);
        due("which behind 0, of all the least", x.bestWord(0, 0, 0), 0);
        due("behind 0", x.bestWord(0, 0, 1), 7);
        GoInland words = told("lady 0 a 20;");
        int[] fields = {12, 19, 21, 28};
        for (int word = 3; word >= 0; word--) {
            words.folk(fields[word], 9 - word, 0);
            due("which behind 1", words.bestWord(0, 1, 0), word);
            due("behind 1", words.bestWord(0, 1, 1), 9 - word);
        }
        for (int word = 0; word < 4; word++) {
            words.folk(fields[word], 4, 0);
        }
        due("of four the least", words.bestWord(0, 1, 0), 0);
        words.folk(12, 3, 0);
        due("of three the least", words.bestWord(0, 1, 0), 1);
        GoInland settled = told("lady 0 a 20;joins 0 20;nights 1;");
        due("which of one SETTLED", settled.bestWord(0, 60, 0), 0);
        due("of one SETTLED", settled.bestWord(0, 60, 1), 20);
    }

    private static void bestLetter() {
        promise("21, LETTER");
        GoInland x = told("lady 0 a 40;face 0 e;wall 41 9;wall 42 9;wall 43 9;folk 43 9 q;");
        due("which behind 29", x.bestLetter(0, 29, 0), 0);
        due("behind 29", x.bestLetter(0, 29, 1), 0);
        due("which behind 30", x.bestLetter(0, 30, 0), 16);
        due("behind 30", x.bestLetter(0, 30, 1), 9);
        x.joins(0, 5);
        due("which behind 0, of all the least", x.bestLetter(0, 0, 0), 0);
        due("behind 0", x.bestLetter(0, 0, 1), 5);
        GoInland ends = told("lady 0 m 20;folk 12 5 z;");
        due("the last letter", ends.bestLetter(0, 1, 0), 25);
        ends.folk(4, 5, 0);
        due("of two the least", ends.bestLetter(0, 2, 0), 0);
        due("of two", ends.bestLetter(0, 2, 1), 5);
        ends.folk(4, 4, 0);
        due("the better of two", ends.bestLetter(0, 2, 0), 25);
        GoInland names = told("lady 0 abcde 20;folk 12 5 z;");
        due("a NAME of 5", names.bestLetter(0, 1, 0), 25);
        due("a NAME of 5", names.bestLetter(0, 1, 1), 5);
        names.named(0, 25);
        due("a NAME of 6", names.bestLetter(0, 1, 0), -9);
        due("a NAME of 6", names.bestLetter(0, 1, 1), -9);
        due("a NAME of 6 behind 0", names.bestLetter(0, 0, 1), -9);
        due("a NAME of 6 behind 31", names.bestLetter(0, 31, 0), -6);
        due("it is no refusal", names.count(11) + names.count(12) + names.count(13) + names.count(14), 0);
        GoInland collier = told("collier 9 z 40;does 0 left;folk 32 3 z;");
        due("any letter has a COLLIER go", collier.bestLetter(0, 1, 0), 0);
        due("any letter has a COLLIER go", collier.bestLetter(0, 1, 1), 3);
        GoInland met = told("lady 0 az 20;does 0 rest;joins 0 8;lady 0 a 28;joins 1 4;");
        due("no letter is behind z, so she is the LESSER by any", met.bestLetter(1, 1, 0), 0);
        due("and half of hers are the other's", met.bestLetter(1, 1, 1), 2);
    }

    private static void holds() {
        promise("22, HOLDS");
        GoInland x = alongWalls(41, 45);
        due("46 in 50: none", x.holds(0, 46, 50), 0);
        due("46 in 51: 1", x.holds(0, 46, 51), 1);
        due("46 in 58: 8", x.holds(0, 46, 58), 8);
        due("46 in 59: 9", x.holds(0, 46, 59), 9);
        due("46 in 60: none is enough", x.holds(0, 46, 60), -9);
        due("45 in 49: 9", x.holds(0, 45, 49), 9);
        due("45 in 50", x.holds(0, 45, 50), -9);
        due("41 in 1: 1", x.holds(0, 41, 1), 1);
        due("where she is, in 1: 0 brings her away", told("lady 0 a 20;").holds(0, 20, 1), 0);
        due("where she stays, in 1", told("lady 0 a 20;wall 12 9;").holds(0, 20, 1), -9);
        due("where she stays at an edge", told("lady 0 a 4;").holds(0, 4, 1), -9);
        GoInland later = told("lady 0 a 4;face 0 w;");
        due("where she was, until she comes again", later.holds(0, 4, 8), 0);
        due("where she comes again in 9", later.holds(0, 4, 9), 1);
        due("where she comes again, in 12", later.holds(0, 4, 12), 4);
        x.walls(46, 9);
        due("its WALL now is nothing to it", x.holds(0, 46, 51), 1);
        due("its WALL now stays", x.field(46, 0), 9);
    }

    private static void wallFor() {
        promise("23, WALL");
        due("FIELD 0 alone has her stay", told("lady 0 a 1;face 0 w;").wallFor(0, 1, 1), 0);
        due("FIELD 47 alone has her stay", told("lady 0 a 46;face 0 e;").wallFor(0, 46, 1), 47);
        due("of all the least", told("lady 0 a 46;face 0 e;").wallFor(0, 47, 1), 0);
        due("of 16 and 18 the least", told("lady 0 a 17;face 0 w;").wallFor(0, 17, 4), 16);
        due("nowhere", told("lady 0 a 46;face 0 e;").wallFor(0, 45, 1), -9);
        due("behind 0 where she is", told("lady 0 a 46;").wallFor(0, 46, 0), 0);
        due("behind 0 elsewhere", told("lady 0 a 46;").wallFor(0, 45, 0), -9);
        GoInland x = told("lady 0 a 40;face 0 e;wall 41 9;wall 42 9;");
        due("behind 30 on 43, as it is", x.wallFor(0, 43, 30), 0);
        due("behind 30 on 44", x.wallFor(0, 44, 30), 45);
        due("behind 30 on 45", x.wallFor(0, 45, 30), 46);
        due("behind 30 on 46", x.wallFor(0, 46, 30), 47);
        due("behind 30 on 47", x.wallFor(0, 47, 30), -9);
        due("behind 29 on 44, as it is", x.wallFor(0, 44, 29), 0);
        GoInland less = told("lady 0 a 40;face 0 e;wall 41 1;");
        due("9, whatever it has", less.wallFor(0, 40, 2), 41);
        GoInland own = told("lady 0 a 9;");
        due("her own FIELD's holds nobody", own.wallFor(0, 9, 1), 1);
    }

    private static void names() {
        promise("24, NAMES");
        due("of nobody", new GoInland().names(30), -9);
        due("of one", told("lady 0 a 20;folk 12 9 b;").names(30), -9);
        GoInland five = new GoInland();
        for (int head = 0; head < 5; head++) {
            five.comes(0, 0, 9 + head, head);
        }
        five.folk(4, 5, 4);
        due("3 and 4", five.names(1), 34);
        five.folk(4, 5, 0);
        due("0 and 3", five.names(1), 3);
        five.folk(5, 6, 0);
        due("0 and 4, one more", five.names(1), 4);
        five.folk(5, 5, 0);
        due("of several the first", five.names(1), 3);
        due("behind 0 all is as it is", five.names(0), -9);
        five.folk(1, 5, 0);
        due("as many as it is", five.names(1), -9);
        five.folk(1, 4, 0);
        due("one more than it is", five.names(1), 3);
        GoInland far = told("lady 0 q 40;face 0 e;wall 41 9;wall 42 9;wall 43 9;lady 0 a 0;does 1 rest;folk 43 9 a;");
        due("behind 29", far.names(29), -9);
        due("behind 30", far.names(30), 1);
        dueLine(far, 0, "q 40e0");
        dueLine(far, 1, "a 0n0");
        GoInland lengths = told("collier 9 ab 40;does 0 left;lady 0 c 0;does 1 rest;folk 40 5 c;");
        due("a NAME as long as hers goes with it", lengths.names(1), 1);
    }

    private static final int[] UP_AND_DOWN = {40, 32, 24, 16, 8, 0, 0, 8, 16, 24, 32, 40};

    private static void whatKind() {
        promise("25, WHAT KIND");
        GoInland x = told("lady 9 b 40;");
        due("an empty ROW", x.whatKind(0, 0), 255);
        for (int i = 0; i < 11; i++) {
            x.row(UP_AND_DOWN[i]);
        }
        due("11 in the ROW", x.whatKind(0, 0), 1 | 8);
        x.row(40);
        due("12 in the ROW: a CHILD veers in the last NIGHT", x.whatKind(0, 0), 1);
        due("the ROW stays", x.count(8), 12);
        x.clear();
        for (int i = 0; i < 11; i++) {
            x.row(UP_AND_DOWN[i]);
        }
        x.row(33);
        due("the last as a CHILD's", x.whatKind(0, 0), 8);
        x.clear();
        for (int i = 0; i < 11; i++) {
            x.row(UP_AND_DOWN[i]);
        }
        x.row(32);
        due("the last as nobody's", x.whatKind(0, 0), 0);
        x.clear();
        x.row(41);
        due("not where she is", x.whatKind(0, 0), 0);
        GoInland settled = told("lady 9 b 40;joins 0 20;nights 1;");
        for (int i = 0; i < 12; i++) {
            settled.row(32);
        }
        due("one who is SETTLED", settled.whatKind(0, 0), 255);
        due("one who is SETTLED", settled.whatKind(0, 1), 1023);
        GoInland each = told("mermaid 1 b 20;");
        each.row(20);
        int[] behind = {12, 4, 21, 28, 36};
        int[] kinds = {1 | 8, 2, 0, 16, 128};
        for (int i = 0; i < behind.length; i++) {
            each.clear();
            each.row(20);
            each.row(behind[i]);
            due("KINDS of 20, " + behind[i], each.whatKind(0, 0), kinds[i] | (behind[i] == 12 ? 4 : 0));
        }
        each.clear();
        each.row(20);
        each.row(20);
        due("a COLLIER of one letter stays", each.whatKind(0, 0), 32);
        each.clear();
        each.row(20);
        each.row(22);
        due("a PIRATE", each.whatKind(0, 0), 64);
    }

    private static void whatFigure() {
        promise("25, FIGURES");
        GoInland x = told("slaver 5 b 40;");
        int[] behind = {32, 24, 16, 8, 0};
        int[] figures = {1 | 2 | 4, 8 | 16 | 32, 64 | 128 | 256, 512, 0};
        for (int i = 0; i < behind.length; i++) {
            x.row(40);
            x.row(behind[i]);
            due("FIGURES of 40, " + behind[i], x.whatKind(0, 1), figures[i]);
            x.clear();
        }
        due("an empty ROW", x.whatKind(0, 1), 1023);
        due("FIGURE now", x.head(0, 1), 5);
        GoInland child = told("child 5 b 40;");
        for (int i = 0; i < 12; i++) {
            child.row(UP_AND_DOWN[i]);
        }
        due("each FIGURE veers by then", child.whatKind(0, 1), 0);
        child.clear();
        for (int i = 0; i < 11; i++) {
            child.row(UP_AND_DOWN[i]);
        }
        due("but one in the last NIGHT", child.whatKind(0, 1), 512);
    }

    private static void whatWord() {
        promise("26, WHAT WORD");
        GoInland x = told("lady 0 b 40;");
        due("an empty ROW", x.whatWord(0), 31);
        for (int i = 0; i < 12; i++) {
            x.row(UP_AND_DOWN[i]);
        }
        due("12 in the ROW", x.whatWord(0), 1);
        due("the ROW stays", x.count(8), 12);
        x.clear();
        for (int i = 0; i < 12; i++) {
            x.row(i < 11 ? UP_AND_DOWN[i] : 41);
        }
        due("the last is nobody's", x.whatWord(0), 0);
        x.clear();
        x.row(39);
        due("not where she is", x.whatWord(0), 0);
        int[] behind = {12, 19, 21, 28, 20};
        GoInland each = told("lady 0 b 20;");
        for (int word = 0; word < 5; word++) {
            each.clear();
            each.row(20);
            each.row(behind[word]);
            due("WORD to " + behind[word], each.whatWord(0), 1 << word);
        }
        each.does(0, 4);
        due("though she rests now", each.whatWord(0), 16);
        due("WORD now", each.head(0, 4), 4);
    }

    private static void two() {
        promise("27, TWO");
        GoInland x = told("lady 0 a 40;face 0 e;wall 41 9;wall 42 9;wall 43 9;folk 43 6 a;lady 0 b 0;");
        due("behind 29 both rest", x.two(0, 1, 29), 11);
        due("behind 30 the one goes", x.two(0, 1, 30), 1);
        due("behind 30 the one goes, told second", x.two(1, 0, 30), 10);
        x.folk(43, 5, 0);
        due("5 by going are no less than 5 by rest: the first pair", x.two(0, 1, 30), 1);
        x.folk(43, 4, 0);
        due("4 by going are less", x.two(0, 1, 30), 11);
        GoInland first = told("lady 0 a 20;folk 12 5 a;lady 0 b 30;folk 22 5 b;");
        due("of four pairs the first", first.two(0, 1, 1), 0);
        first.folk(22, 4, 1);
        due("of two pairs the first", first.two(0, 1, 1), 1);
        first.folk(12, 6, 0);
        due("the only pair", first.two(0, 1, 1), 1);
        GoInland settled = told("lady 0 a 20;joins 0 20;lady 0 b 40;joins 1 20;nights 1;");
        due("5 more for those who are SETTLED, too", settled.two(0, 1, 1), 11);
        GoInland rests = told("lady 0 a 20;does 0 rest;folk 12 9 a;lady 0 b 40;");
        due("as ever is to rest, without 5", rests.two(0, 1, 30), 11);
    }

    private static void rainOfNone() {
        promise("28, RAIN, 0 as 0 over 1");
        GoInland x = told("lady 0 a 40;");
        dueRain(x, 0, 40, 0, 2, 1, 1);
        dueRain(x, 0, 40, 0, 20, 1, 1);
        dueRain(x, 0, 32, 0, 20, 0, 1);
        dueRain(x, 0, 41, 7, 2, 0, 1);
        dueRain(x, 0, 40, 1, 2, 1, 2);
        dueRain(x, 0, 32, 1, 2, 1, 2);
        dueRain(x, 0, 40, 1, 3, 1, 3);
        dueRain(x, 0, 32, 1, 3, 2, 3);
        dueRain(x, 0, 24, 1, 3, 0, 1);
        x.does(0, 4);
        dueRain(x, 0, 40, 7, 20, 1, 1);
        dueRain(x, 0, 32, 7, 20, 0, 1);
    }

    /** Of 7 NIGHTS she goes in k: 0 .. 4 of them bring her to 40 .. 8, 5 to 0, the 6th has her turn, the 7th brings her to 8. */
    private static void rainOfMost() {
        promise("28, RAIN of 7 NIGHTS");
        GoInland x = told("lady 0 a 40;");
        dueRain(x, 0, 40, 7, 2, 1, 128);
        dueRain(x, 0, 32, 7, 2, 7, 128);
        dueRain(x, 0, 24, 7, 2, 21, 128);
        dueRain(x, 0, 16, 7, 2, 35, 128);
        dueRain(x, 0, 8, 7, 2, 36 / 4, 128 / 4);
        dueRain(x, 0, 0, 7, 2, 28 / 4, 128 / 4);
        dueRain(x, 0, 40, 7, 20, 1, 1280000000L);
        dueRain(x, 0, 32, 7, 20, 7 * 19, 1280000000L);
        dueRain(x, 0, 0, 7, 20, (21L * 2476099 + 7L * 47045881) / 2, 640000000L);
        dueRain(x, 0, 8, 7, 20, (35L * 130321 + 893871739L) / 2, 640000000L);
        GoInland late = told("queen 0 b 43;does 0 rest;");
        passTo960(late);
        late.nights(39);
        late.does(0, 0);
        dueRain(late, 0, 45, 1, 20, 19, 20);
        int[] behind1001 = {43, 27, 45, 47};
        for (int field : behind1001) {
            dueRain(late, 0, field, 2, 2, 1, 4);
        }
    }

    private static void dueLike(String one, String other, int places, int ahead, int shared) {
        GoInland x = told("lady 0 " + one + " 0;lady 0 " + other + " 0;");
        int[] due = {places, ahead, shared};
        for (int what = 0; what < 3; what++) {
            due("like(" + one + ", " + other + ", " + what + ")", x.like(0, 1, what), due[what]);
            due("like(" + other + ", " + one + ", " + what + ")", x.like(1, 0, what), due[what]);
        }
    }

    private static void like() {
        promise("29, LIKE");
        dueLike("a", "a", 1, 1, 1);
        dueLike("a", "b", 0, 0, 0);
        dueLike("z", "zzzzzz", 1, 1, 1);
        dueLike("a", "zzzzza", 0, 0, 1);
        dueLike("abcdef", "abcdef", 6, 6, 6);
        dueLike("abcdef", "bcdefa", 0, 0, 6);
        dueLike("abcdef", "xbcdef", 5, 0, 5);
        dueLike("abcdef", "abcdex", 5, 5, 5);
        dueLike("abcdef", "abcde", 5, 5, 5);
        dueLike("aabb", "abab", 2, 1, 2);
        dueLike("az", "za", 0, 0, 2);
    }

    private static void rank() {
        promise("30, RANK");
        GoInland alike = told("lady 0 a 0;lady 0 a 0;lady 0 a 0;lady 0 a 0;lady 0 a 0;");
        GoInland down = told("lady 0 z 0;lady 0 abcdef 0;lady 0 abcde 0;lady 0 abc 0;lady 0 a 0;");
        int[] downs = {4, 3, 2, 1, 0};
        for (int head = 0; head < 5; head++) {
            due("of five alike", alike.rank(head), head);
            due("of five down", down.rank(head), downs[head]);
        }
        due("of one", told("lady 0 z 0;").rank(0), 0);
    }

    /** A HEAD comes where there was one, by then no more, of a longer NAME: only letters of her own tell. */
    private static GoInland afterLonger(int letter) {
        GoInland x = new GoInland();
        x.image();
        x.comes(0, 0, 0, 1);
        x.named(0, 25);
        x.named(0, 25);
        x.restore();
        x.comes(0, 0, 40, 1);
        x.comes(0, 0, 40, 1);
        x.named(1, letter);
        return x;
    }

    private static void nameOfHerOwn() {
        promise("29, 30, where a NAME ends");
        int[] letters = {0, 25};
        for (int letter : letters) {
            GoInland x = afterLonger(letter);
            for (int what = 0; what < 3; what++) {
                due("LIKE of b and a longer one", x.like(0, 1, what), 1);
                due("LIKE of a longer one and b", x.like(1, 0, what), 1);
            }
            due("RANK of b", x.rank(0), 0);
            due("RANK of a longer one", x.rank(1), 1);
            dueLine(x, 0, "b 40n0");
            x.joins(0, 2);
            x.joins(1, 2);
            x.walls(32, 9);
            x.does(1, 4);
            x.nights(1);
            due("the LESSER of both", x.head(0, 5), 1);
        }
        GoInland z = afterLonger(25);
        z.comes(0, 0, 0, 25);
        z.comes(0, 0, 0, 0);
        z.folk(32, 9, 25);
        due("whose PEOPLE z has", z.headThen(0, 1, 2) + z.headThen(1, 1, 2), 9);
        due("b has none of them", z.headThen(0, 1, 2), 0);
    }

    private static void dueLetters(GoInland x, int head, String line) {
        for (int place = 0; place < line.length(); place++) {
            due("letter " + place + " of " + line, x.line(head, place), line.charAt(place));
        }
        due("behind the last of " + line, x.line(head, line.length()), -9);
        due("far behind " + line, x.line(head, Integer.MAX_VALUE), -9);
        due("ahead of " + line, x.line(head, -1), -4);
    }

    private static void line() {
        promise("31, LINE");
        GoInland x = told("lady 0 a 0;slaver 0 abcdef 47;face 1 w;joins 1 99;lady 0 z 9;joins 2 9;face 2 e;", "lady 0 zz 10;joins 3 10;face 3 s;");
        dueLetters(x, 0, "a 0n0");
        dueLetters(x, 1, "abcdef 47w99");
        dueLetters(x, 2, "z 9e9");
        dueLetters(x, 3, "zz 10s10");
        x.nights(1);
        dueLetters(x, 1, "abcdef 46w!");
    }

    private static GoInland withFollowers(int... followers) {
        GoInland x = new GoInland();
        for (int head = 0; head < followers.length; head++) {
            x.comes(0, 0, head, head);
            x.joins(head, followers[head]);
        }
        return x;
    }

    private static void power() {
        promise("32, POWER, not more than half of all, but with her");
        due("of none", withFollowers(0).power(0), 0);
        due("of one", withFollowers(1).power(0), 1);
        due("of one of two alike", withFollowers(1, 1).power(0), 1);
        due("of the other", withFollowers(1, 1).power(1), 1);
        due("of 2 beside 1", withFollowers(2, 1).power(0), 2);
        due("of 1 beside 2", withFollowers(2, 1).power(1), 0);
        due("of 0 beside 1", withFollowers(1, 0).power(1), 0);
        due("of 1 beside 0", withFollowers(1, 0).power(0), 2);
        due("of 99 five times", withFollowers(99, 99, 99, 99, 99).power(4), 6);
        due("of 99 beside four without", withFollowers(0, 0, 99, 0, 0).power(2), 16);
        due("of 0 among five", withFollowers(0, 1, 1, 1, 1).power(0), 0);
        due("of 4 beside 1, 1, 1, 1: half with her is not more", withFollowers(4, 1, 1, 1, 1).power(0), 15);
        due("of 5 beside 1, 1, 1, 1", withFollowers(5, 1, 1, 1, 1).power(0), 16);
        due("of 1 beside 4, 1, 1, 1", withFollowers(4, 1, 1, 1, 1).power(4), 1);
        due("of five without", withFollowers(0, 0, 0, 0, 0).power(3), 0);
    }

    private static void dueShare(GoInland x, int head, int above, int below) {
        due("share(" + head + ") above", x.share(head, 0), above);
        due("share(" + head + ") below", x.share(head, 1), below);
    }

    private static void share() {
        promise("33, SHARE");
        dueShare(withFollowers(0), 0, 0, 1);
        dueShare(withFollowers(0, 0), 1, 0, 1);
        dueShare(withFollowers(99), 0, 1, 1);
        dueShare(withFollowers(99, 0), 1, 0, 1);
        dueShare(withFollowers(99, 99, 99, 99, 99), 4, 1, 5);
        dueShare(withFollowers(1, 99, 99, 99, 99), 0, 1, 397);
        dueShare(withFollowers(98, 99), 0, 98, 197);
        dueShare(withFollowers(6, 9), 0, 2, 5);
        dueShare(withFollowers(6, 9), 1, 3, 5);
    }

    private static void nearest() {
        promise("34, NEAREST");
        GoInland none = new GoInland();
        due("who of nobody", none.nearest(47, 0), -9);
        due("how many off of nobody", none.nearest(47, 1), -9);
        due("it is no refusal", none.count(11), 0);
        GoInland far = told("lady 0 a 0;");
        due("who from 47", far.nearest(47, 0), 0);
        due("how many from 47", far.nearest(47, 1), 12);
        due("how many from 0", far.nearest(0, 1), 0);
        due("how many from 7, not by the row's end", far.nearest(7, 1), 7);
        due("how many from 8", far.nearest(8, 1), 1);
        GoInland several = told("lady 0 a 9;lady 0 b 10;lady 0 c 9;lady 0 d 2;lady 0 e 18;");
        due("who, of two on one FIELD the least", several.nearest(9, 0), 0);
        due("who, of three the least", several.nearest(11, 0), 1);
        due("who, of several 1 off the least", several.nearest(17, 0), 0);
        due("how many from 17", several.nearest(17, 1), 1);
        due("the last one", several.nearest(26, 0), 4);
        due("on her FIELD", several.nearest(18, 1), 0);
    }

    private static void way() {
        promise("35, WAY");
        GoInland x = new GoInland();
        for (int field = 0; field < 48; field++) {
            due("from a FIELD to itself", x.way(field, field), 0);
            due("from 0 to " + field, x.way(0, field), field / 8 + field % 8);
            due("from " + field + " to 47", x.way(field, 47), 5 - field / 8 + 7 - field % 8);
        }
        x.walls(9, 1);
        due("with a WALL on both", x.way(9, 9), 0);
        due("from a FIELD with a WALL", x.way(9, 10), 1);
        due("to a FIELD with a WALL", x.way(10, 9), -9);
        due("around one", x.way(8, 10), 4);
        x.walls(9, 0);
        due("a WALL of 0 is none", x.way(8, 10), 2);
        for (int column = 0; column < 7; column++) {
            x.walls(8 + column, 9);
            x.walls(25 + column, 1);
            x.walls(40 + column, 5);
        }
        due("the longest round", x.way(0, 47), 26);
        due("and back", x.way(47, 0), 26);
        x.walls(47, 1);
        due("from the walled end", x.way(47, 0), 26);
        due("to the walled end", x.way(0, 47), -9);
        x.walls(16, 1);
        due("shut in", x.way(0, 32), -9);
        due("up to there", x.way(0, 17), 15);
    }

    private static void sight() {
        promise("36, VOWELS, HUNGRY, ALONE");
        GoInland none = new GoInland();
        for (int what = 0; what < 3; what++) {
            due("of nobody", none.sight(what), 0);
        }
        for (int field = 0; field < 48; field++) {
            none.folk(field, 9, field % 26);
        }
        due("HUNGRY, all there can be", none.sight(1), 432);
        GoInland vowels = told("lady 0 aeioua 0;lady 0 eeeeee 1;lady 0 iiiiii 2;lady 0 oooooo 3;", "lady 0 uuuuuu 47;");
        due("VOWELS, all there can be", vowels.sight(0), 30);
        due("ALONE, all five", vowels.sight(2), 31);
        due("VOWELS of others", told("lady 0 bcdfgh 0;lady 0 jklmnp 0;lady 0 qrstvw 0;lady 0 xyz 0;").sight(0), 0);
        GoInland two = told("lady 0 az 0;lady 0 m 0;folk 1 3 a;folk 2 4 z;folk 3 5 m;folk 4 6 b;folk 5 7 y;");
        due("HUNGRY whose LETTER is in no NAME", two.sight(1), 13);
        due("ALONE, who share a FIELD", two.sight(2), 0);
        two.comes(0, 0, 47, 1);
        due("HUNGRY", two.sight(1), 7);
        due("ALONE, the third", two.sight(2), 4);
        two.comes(0, 0, 47, 1);
        due("ALONE, two and two", two.sight(2), 0);
        due("ALONE, one", told("lady 0 a 20;").sight(2), 1);
    }

    private static void kinds() {
        promise("37, KINDS");
        GoInland x = new GoInland();
        for (int kind = 0; kind < 8; kind++) {
            due("of nobody", x.kinds(kind), 0);
        }
        GoInland five = told("mermaid 0 a 0;mermaid 0 a 0;mermaid 0 a 0;mermaid 0 a 0;mermaid 0 a 0;");
        due("five MERMAIDS", five.kinds(7), 5);
        due("PIRATES", five.kinds(6), 0);
        GoInland each = told("lady 0 a 0;slaver 0 a 0;collier 0 a 0;");
        int[] due = {1, 0, 1, 0, 0, 1, 0, 0};
        for (int kind = 0; kind < 8; kind++) {
            due("of " + kind, each.kinds(kind), due[kind]);
        }
    }

    private static void row() {
        promise("38, 40, the ROW");
        GoInland x = new GoInland();
        due("clear() of none", x.clear(), 0);
        for (int i = 1; i <= 12; i++) {
            due("row()", x.row(i % 2 == 0 ? 0 : 99), i);
            due("in the ROW", x.count(8), i);
        }
        due("a 13th", x.row(0), -6);
        due("a 13th out of range", x.row(-1), -4);
        due("in the ROW", x.count(8), 12);
        due("clear() of 12", x.clear(), 12);
        due("clear() of none", x.clear(), 0);
        due("row()", x.row(7), 1);
        due("clear() of 1", x.clear(), 1);
    }

    private static void judge() {
        promise("39, JUDGED");
        GoInland x = told("lady 0 a 0;lady 0 a 47;lady 0 a 0;lady 0 a 9;lady 0 a 8;");
        int[] fields = {0, 47, 0, 9, 8};
        due("an empty ROW", x.judge(), -9);
        for (int size = 1; size <= 5; size++) {
            for (int i = 0; i < size; i++) {
                x.row(fields[i]);
            }
            due("the first " + size, x.judge(), -9);
            due("the ROW then", x.count(8), 0);
        }
        for (int wrong = 0; wrong < 5; wrong++) {
            for (int i = 0; i < 5; i++) {
                x.row(i >= wrong ? fields[i] + 1 : fields[i]);
            }
            due("all from " + wrong + " are not so", x.judge(), wrong);
            due("the ROW then", x.count(8), 0);
        }
        for (int i = 0; i < 12; i++) {
            x.row(i < 5 ? fields[i] : 0);
        }
        due("none there behind 5", x.judge(), 5);
        due("the ROW then", x.count(8), 0);
        x.row(99);
        due("no FIELD", x.judge(), 0);
        GoInland nobody = new GoInland();
        nobody.row(0);
        due("nobody there", nobody.judge(), 0);
        due("the ROW then", nobody.count(8), 0);
    }

    /** z, with all the digits that an int has no place for, is wrapped by a cast. */
    private static int next(int z) {
        return (int) (1103515245L * z + 12345L);
    }

    private static int draw(int z, int n) {
        return (z < 0 ? (int) (z + 2147483648L) : z) / 65536 % n;
    }

    private static void lotsDraws() {
        promise("41, DRAWS");
        int[] seeds = {0, 1, -1, Integer.MAX_VALUE, Integer.MIN_VALUE, 12345, -1103515245, 65535, 65536, 1 << 30};
        for (int z : seeds) {
            int z1 = next(z);
            int z2 = next(z1);
            int z3 = next(z2);
            int z4 = next(z3);
            GoInland x = told("collier 0 a 0;slaver 9 a 0;");
            GoInland drawn = told("collier 0 a " + draw(z1, 48) + ";slaver 9 a " + draw(z3, 48) + ";");
            drawn.faces(0, draw(z2, 4));
            drawn.faces(1, draw(z4, 4));
            int told = drawn.nights(12);
            due("TOLD by " + z, x.lots(1, z, 0), told);
        }
        GoInland zero = told("lady 0 a 47;joins 0 11;folk 0 9 a;");
        due("z of 0 draws FIELD 0, and FACING by " + next(next(0)), draw(next(0), 48), 0);
        int facing = draw(next(next(0)), 4);
        GoInland there = told("lady 0 a 0;joins 0 11;folk 0 9 a;");
        there.faces(0, facing);
        there.nights(12);
        due("SETTLED by 0", zero.lots(1, 0, 1), there.count(3));
    }

    private static void lotsTogether() {
        promise("41, LOTS, together");
        GoInland x = told("lady 0 a 9;joins 0 20;lady 0 b 10;joins 1 19;", "lady 0 c 11;joins 2 20;nights 1;collier 0 a 47;joins 3 5;");
        due("who is SETTLED now", x.count(3), 5);
        int each = 0;
        int z = 77;
        int told = 0;
        for (int n = 1; n <= 20; n++) {
            each += x.lots(1, z, 1);
            told += x.lots(1, z, 0);
            due("SETTLED more in " + n, x.lots(n, 77, 1), each);
            due("TOLD more in " + n, x.lots(n, 77, 0), told);
            for (int draws = 0; draws < 8; draws++) {
                z = next(z);
            }
        }
        due("one more a game at least", each >= 20 ? 1 : 0, 1);
        due("NIGHT now", x.count(1), 1);
        due("TOLD now", x.count(2), 0);
        due("who is SETTLED now", x.count(3), 5);
        due("of nobody", new GoInland().lots(20, 5, 0), 0);
        due("of nobody", new GoInland().lots(20, 5, 1), 0);
        GoInland late = told("collier 0 a 0;joins 0 5;does 0 rest;");
        passTo960(late);
        late.nights(39);
        late.does(0, 0);
        due("from NIGHT 999", late.lots(20, 5, 1), 20);
    }

    private static void imageAndRestore() {
        promise("42, 43");
        GoInland x = new GoInland();
        due("restore() of none", x.restore(), -3);
        due("image() of a new object", x.image(), 0);
        x.comes(0, 0, 40, 0);
        x.nights(60);
        due("restore()", x.restore(), 0);
        due("HEADS", x.count(0), 0);
        due("restore() again", x.restore(), 0);
        x.comes(1, 2, 40, 3);
        x.nights(3);
        due("image() in place of the other", x.image(), 3);
        String line = lineOf(x, 0);
        x.nights(7);
        x.named(0, 9);
        x.does(0, 3);
        due("restore()", x.restore(), 3);
        dueLine(x, 0, line);
        due("WORD", x.head(0, 4), 0);
        due("KIND", x.head(0, 0), 1);
        due("FIGURE", x.head(0, 1), 2);
        GoInland late = new GoInland();
        passTo960(late);
        late.nights(39);
        due("image() in NIGHT 999", late.image(), 999);
        due("restore() in NIGHT 999", late.restore(), 999);
    }

    private static void imageLeavesOut() {
        promise("42, 43, all but the image, letters, the ROW, REFUSALS");
        GoInland x = told("collier 0 a 20;collier 0 b 20;wall 3 3;folk 5 5 f;nights 2;joins 1 5;nights 1;does 0 left;");
        due("who is SETTLED", x.count(3), 2);
        due("TOLD", x.count(2), 6);
        x.feed('x');
        x.row(1);
        x.image();
        due("image() takes none of the letters", x.count(7), 1);
        due("image() takes none of the ROW", x.count(8), 1);
        x.row(2);
        x.feed('y');
        x.feed(-1);
        x.walls(3, 0);
        x.folk(5, 0, 0);
        x.does(0, 0);
        x.joins(1, 0);
        x.nights(5);
        x.comes(0, 0, 0, 0);
        due("restore()", x.restore(), 3);
        due("HEADS", x.count(0), 2);
        due("NIGHT", x.count(1), 3);
        due("TOLD", x.count(2), 6);
        due("who is SETTLED", x.count(3), 2);
        due("FOLLOWERS", x.head(1, 5), 5);
        due("WORD", x.head(0, 4), 1);
        due("WALL", x.field(3, 0), 3);
        due("PEOPLE", x.field(5, 1), 5);
        due("LETTER", x.field(5, 2), 5);
        due("letters", x.count(7), 2);
        due("the ROW", x.count(8), 2);
        due("REFUSALS", x.count(14), 1);
        due("what can be TAKEN BACK", x.count(9), 0);
    }

    private static void counts() {
        promise("44");
        GoInland x = new GoInland();
        int[] others = {Integer.MIN_VALUE, -9, -1, 10, 17, 18, 100, Integer.MAX_VALUE};
        for (int what : others) {
            due("count(" + what + ")", x.count(what), -9);
        }
        for (int what = 0; what <= 16; what++) {
            due("count(" + what + ") of a new object", x.count(what), what == 10 ? -9 : 0);
        }
        for (int field = 0; field < 48; field++) {
            x.walls(field, 9);
            x.folk(field, 9, 25);
        }
        due("WALLS, all there can be", x.count(6), 432);
        due("PEOPLE, all there can be", x.count(5), 432);
        for (int head = 0; head < 5; head++) {
            x.comes(0, 0, 40, 0);
            x.joins(head, 99);
        }
        due("FOLLOWERS, all there can be", x.count(4), 495);
        due("HEADS, all there can be", x.count(0), 5);
        for (int i = 1; i <= 100; i++) {
            x.nearest(48, 0);
        }
        due("100 refusals", x.count(11), 100);
    }

    private static void countsOfSettled() {
        promise("44, who is SETTLED (bits)");
        for (int bits = 0; bits < 32; bits++) {
            GoInland x = new GoInland();
            for (int head = 0; head < 5; head++) {
                x.comes(5, 0, 9 * head, 1);
                x.joins(head, (bits >> head & 1) == 1 ? 5 : 4);
            }
            due("in mind", x.then(1, 1), bits);
            due("ahead of the NIGHT", x.count(3), 0);
            x.nights(1);
            due("behind the NIGHT", x.count(3), bits);
            due("one on her FIELD alone", x.field(27, 3), 8);
        }
    }
}
