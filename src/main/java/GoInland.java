/** A land of fields on which figureheads go by nights. What each call answers is told in DOC.md. */
public final class GoInland {
    private static final int FINE = 0;
    private static final int NOBODY = -1;
    private static final int OTHER = -2;
    private static final int STATE = -3;
    private static final int BELOW = -4;
    private static final int ROOM = -6;
    private static final int NONE = -9;
    private static final long LONG_REFUSAL = 4000000000000000000L;

    private static final int FIELDS = 48;
    private static final int COLUMNS = 8;
    private static final int HEADS = 5;
    private static final int KINDS = 8;
    private static final int MOST_FIGURE = 9;
    private static final int LETTERS = 26;
    private static final int NAME_ROOM = 6;
    private static final int DIRECTIONS = 4;
    private static final int WORDS = 5;
    private static final int REST = 4;
    private static final int MOST_FOLLOWERS = 99;
    private static final int MOST_WALL = 9;
    private static final int MOST_PEOPLE = 9;
    private static final int MOST_NIGHT = 999;
    private static final int MOST_TOLD = 9999;
    private static final int FAR_NIGHTS = 60;
    private static final int NEAR_NIGHTS = 30;
    private static final int ROW_ROOM = 12;
    private static final int MOST_ROW = 99;
    private static final int MOST_GAMES = 20;
    private static final int GAME_NIGHTS = 12;
    private static final int MOST_RAIN_NIGHTS = 7;
    private static final int LEAST_ODDS = 2;
    private static final int MOST_ODDS = 20;
    private static final int REST_GAIN = 5;

    private final Land now;
    private final Land image;
    private boolean imageTaken;
    private final Past past;
    private final Tale tale;
    private final Mind mind;
    private final Walk walk;
    private final int[] row;
    private int rowSize;
    private final int[] refusals;

    public GoInland() {
        now = new Land();
        image = new Land();
        past = new Past();
        tale = new Tale();
        mind = new Mind();
        walk = new Walk();
        row = new int[ROW_ROOM];
        refusals = new int[-ROOM + 1];
    }

    // ---- Refusals ----

    private int refuse(int refusal) {
        if (refusal <= NOBODY && refusal >= ROOM) {
            refusals[-refusal]++;
        }
        return refusal;
    }

    private long refuseLong(int refusal) {
        return LONG_REFUSAL - refuse(refusal);
    }

    private boolean noHead(int head) {
        return head < 0 || head >= now.headCount;
    }

    private static boolean noField(int field) {
        return field < 0 || field >= FIELDS;
    }

    private boolean noPair(int one, int other) {
        return noHead(one) || noHead(other) || one == other;
    }

    /** What is wrong first: that somebody or some place is not there, or that a number is out of its range. */
    private static int faultOfNumber(boolean nobody, int v, int least, int most) {
        if (nobody) {
            return NOBODY;
        }
        if (v < least) {
            return BELOW;
        }
        return v > most ? ROOM : FINE;
    }

    /** The same, and last that there is no such thing to be asked. */
    private static int faultOfAsked(boolean nobody, int v, int least, int most, int what, int mostWhat) {
        int fault = faultOfNumber(nobody, v, least, most);
        boolean other = what < 0 || what > mostWhat;
        return fault == FINE && other ? OTHER : fault;
    }

    // ---- A land told in letters ----

    public int feed(int letter) {
        if (letter < 0) {
            return refuse(BELOW);
        }
        if (letter > Tale.MOST_LETTER || tale.isFull()) {
            return refuse(ROOM);
        }
        return tale.addLetter(letter);
    }

    /** The land told comes in mind first, so that one with a fault leaves the land as it is. */
    public int land() {
        int fault = tale.placeOfBadForm();
        int answer = fault < 0 ? 0 : Tale.BAD_FORM - fault;
        Land told = mind.think(now);
        int place = 0;
        for (int i = 0; i < tale.size && place < tale.size && answer >= 0; i++) {
            int next = tale.readStatement(place);
            answer = tale.comesTo(told) ? answer + 1 : Tale.BAD_STATEMENT - place;
            place = next;
        }
        tale.forget();
        if (answer > 0) {
            now.copy(told);
            past.forget();
        }
        return answer;
    }

    // ---- The land as it is ----

    public int head(int head, int what) {
        if (noHead(head)) {
            return refuse(NOBODY);
        }
        Head one = now.heads[head];
        switch (what) {
            case 0: return one.kind;
            case 1: return one.figure;
            case 2: return one.field;
            case 3: return one.facing;
            case 4: return one.word;
            case 5: return one.followers;
            case 6: return one.settled ? 1 : 0;
            case 7: return one.length;
            case 8: return one.steps();
            case 9: return one.weight();
            case 10: return one.veers(now.night + 1);
            case 11: return one.enough();
            default: return refuse(OTHER);
        }
    }

    public int field(int field, int what) {
        if (noField(field)) {
            return refuse(NOBODY);
        }
        switch (what) {
            case 0: return now.wall[field];
            case 1: return now.people[field];
            case 2: return now.letter[field];
            case 3: return now.headsOn(field);
            default: return refuse(OTHER);
        }
    }

    public int comes(int kind, int figure, int field, int letter) {
        if (kind < 0 || kind >= KINDS) {
            return refuse(OTHER);
        }
        if (figure < 0 || letter < 0) {
            return refuse(BELOW);
        }
        if (figure > MOST_FIGURE || letter >= LETTERS || now.isFull()) {
            return refuse(ROOM);
        }
        if (noField(field)) {
            return refuse(NOBODY);
        }
        past.forget();
        now.addHead(kind, figure, field);
        now.lengthenNewestName(letter);
        return now.headCount - 1;
    }

    public int named(int head, int letter) {
        if (noHead(head)) {
            return refuse(NOBODY);
        }
        if (letter < 0) {
            return refuse(BELOW);
        }
        Head one = now.heads[head];
        if (letter >= LETTERS || one.hasFullName()) {
            return refuse(ROOM);
        }
        past.keep(now);
        one.lengthenName(letter);
        return one.length;
    }

    public int faces(int head, int facing) {
        int fault = faultOfNumber(noHead(head), facing, 0, DIRECTIONS - 1);
        if (fault != FINE) {
            return refuse(fault);
        }
        past.keep(now);
        int old = now.heads[head].facing;
        now.heads[head].facing = facing;
        return old;
    }

    public int does(int head, int word) {
        if (noHead(head)) {
            return refuse(NOBODY);
        }
        if (word < 0 || word >= WORDS) {
            return refuse(OTHER);
        }
        past.keep(now);
        int old = now.heads[head].word;
        now.heads[head].word = word;
        return old;
    }

    public int joins(int head, int v) {
        int fault = faultOfNumber(noHead(head), v, 0, MOST_FOLLOWERS);
        if (fault != FINE) {
            return refuse(fault);
        }
        past.keep(now);
        int old = now.heads[head].followers;
        now.heads[head].followers = v;
        return old;
    }

    public int walls(int field, int v) {
        int fault = faultOfNumber(noField(field), v, 0, MOST_WALL);
        if (fault != FINE) {
            return refuse(fault);
        }
        past.keep(now);
        int old = now.wall[field];
        now.wall[field] = v;
        return old;
    }

    public int folk(int field, int v, int letter) {
        if (noField(field)) {
            return refuse(NOBODY);
        }
        if (v < 0 || letter < 0) {
            return refuse(BELOW);
        }
        if (v > MOST_PEOPLE || letter >= LETTERS) {
            return refuse(ROOM);
        }
        past.keep(now);
        int old = 10 * now.letter[field] + now.people[field];
        now.people[field] = v;
        now.letter[field] = letter;
        return old;
    }

    public int nights(int n) {
        if (n < 1) {
            return refuse(BELOW);
        }
        if (n > FAR_NIGHTS || now.night + n > MOST_NIGHT) {
            return refuse(ROOM);
        }
        past.keep(now);
        now.passNights(n);
        return now.told;
    }

    public int back() {
        if (past.size == 0) {
            return refuse(STATE);
        }
        past.takeBack(now);
        return past.size;
    }

    // ---- In mind ----

    public int headThen(int head, int n, int what) {
        int fault = faultOfAsked(noHead(head), n, 0, FAR_NIGHTS, what, 3);
        if (fault != FINE) {
            return refuse(fault);
        }
        Head one = mind.behindNights(now, n).heads[head];
        switch (what) {
            case 0: return one.field;
            case 1: return one.facing;
            case 2: return one.followers;
            default: return one.settled ? 1 : 0;
        }
    }

    public int then(int n, int what) {
        int fault = faultOfAsked(false, n, 0, FAR_NIGHTS, what, 3);
        if (fault != FINE) {
            return refuse(fault);
        }
        Land later = mind.behindNights(now, n);
        switch (what) {
            case 0: return later.told;
            case 1: return later.settledBits();
            case 2: return later.allPeople();
            default: return later.allWalls();
        }
    }

    public int when(int head, int field) {
        if (noHead(head) || noField(field)) {
            return refuse(NOBODY);
        }
        return mind.nightsUntilOn(now, head, field);
    }

    public int settles(int head) {
        if (head == -1) {
            return mind.firstToSettle(now);
        }
        if (noHead(head)) {
            return refuse(NOBODY);
        }
        return mind.nightsUntilSettled(now, head);
    }

    public int meeting(int one, int other) {
        if (noPair(one, other)) {
            return refuse(NOBODY);
        }
        return mind.nightsUntilTogether(now, one, other);
    }

    public int bestWord(int head, int n, int what) {
        int fault = faultOfAsked(noHead(head), n, 0, FAR_NIGHTS, what, 1);
        if (fault != FINE) {
            return refuse(fault);
        }
        return mind.bestChoice(now, head, n, Mind.HER_WORD, what == 1);
    }

    public int bestLetter(int head, int n, int what) {
        int fault = faultOfAsked(noHead(head), n, 0, NEAR_NIGHTS, what, 1);
        if (fault != FINE) {
            return refuse(fault);
        }
        if (now.heads[head].hasFullName()) {
            return NONE;
        }
        return mind.bestChoice(now, head, n, Mind.HER_NEXT_LETTER, what == 1);
    }

    public int holds(int head, int field, int n) {
        int fault = faultOfNumber(noHead(head) || noField(field), n, 1, FAR_NIGHTS);
        if (fault != FINE) {
            return refuse(fault);
        }
        return mind.leastWallThatHolds(now, head, field, n);
    }

    public int wallFor(int head, int field, int n) {
        int fault = faultOfNumber(noHead(head) || noField(field), n, 0, NEAR_NIGHTS);
        if (fault != FINE) {
            return refuse(fault);
        }
        return mind.fieldToWall(now, head, field, n);
    }

    public int names(int n) {
        int fault = faultOfNumber(false, n, 0, NEAR_NIGHTS);
        if (fault != FINE) {
            return refuse(fault);
        }
        return mind.namesToChange(now, n);
    }

    public int whatKind(int head, int what) {
        if (noHead(head)) {
            return refuse(NOBODY);
        }
        switch (what) {
            case 0: return mind.choicesOfWay(now, head, Mind.HER_KIND, row, rowSize);
            case 1: return mind.choicesOfWay(now, head, Mind.HER_FIGURE, row, rowSize);
            default: return refuse(OTHER);
        }
    }

    public int whatWord(int head) {
        if (noHead(head)) {
            return refuse(NOBODY);
        }
        return mind.choicesOfWay(now, head, Mind.HER_WORD, row, rowSize);
    }

    public int two(int one, int other, int n) {
        int fault = faultOfNumber(noPair(one, other), n, 1, NEAR_NIGHTS);
        if (fault != FINE) {
            return refuse(fault);
        }
        return mind.steadyPair(now, one, other, n);
    }

    public long rain(int head, int field, int n, int t, int part) {
        if (noHead(head) || noField(field)) {
            return refuseLong(NOBODY);
        }
        if (n < 0 || t < LEAST_ODDS) {
            return refuseLong(BELOW);
        }
        if (n > MOST_RAIN_NIGHTS || t > MOST_ODDS) {
            return refuseLong(ROOM);
        }
        if (part < 0 || part > 1) {
            return refuseLong(OTHER);
        }
        long all = 1;
        for (int i = 0; i < n; i++) {
            all *= t;
        }
        return inLowestTerms(mind.waysOnto(now, head, field, n, t), all, part);
    }

    /** A part of a fraction: 0 what stands above the line, 1 what stands below it. */
    private static long inLowestTerms(long above, long below, int part) {
        if (above == 0 || below == 0) {
            return part;
        }
        long divisor = above;
        long rest = below;
        // Euclid's steps on numbers below 2 to the 63rd are fewer than 100.
        for (int i = 0; i < 100 && rest != 0; i++) {
            long next = divisor % rest;
            divisor = rest;
            rest = next;
        }
        long whole = part == 0 ? above : below;
        return divisor == 0 ? whole : whole / divisor;
    }

    // ---- Names, lines, powers ----

    public int like(int one, int other, int what) {
        if (noPair(one, other)) {
            return refuse(NOBODY);
        }
        Head first = now.heads[one];
        Head second = now.heads[other];
        switch (what) {
            case 0: return first.placesAlike(second);
            case 1: return first.lettersAlikeAhead(second);
            case 2: return first.lettersShared(second);
            default: return refuse(OTHER);
        }
    }

    public int rank(int head) {
        if (noHead(head)) {
            return refuse(NOBODY);
        }
        int ahead = 0;
        for (int i = 0; i < now.headCount; i++) {
            int order = now.heads[i].nameAgainst(now.heads[head]);
            if (order < 0 || order == 0 && i < head) {
                ahead++;
            }
        }
        return ahead;
    }

    public int line(int head, int place) {
        if (noHead(head)) {
            return refuse(NOBODY);
        }
        if (place < 0) {
            return refuse(BELOW);
        }
        StringBuilder told = new StringBuilder();
        now.heads[head].tell(told);
        return place < told.length() ? told.charAt(place) : NONE;
    }

    public int power(int head) {
        if (noHead(head)) {
            return refuse(NOBODY);
        }
        int all = now.allFollowers();
        int hers = now.heads[head].followers;
        int sets = 0;
        for (int set = 0; set < 1 << now.headCount; set++) {
            if ((set >> head & 1) == 0) {
                int theirs = now.followersOf(set);
                if (2 * theirs <= all && 2 * (theirs + hers) > all) {
                    sets++;
                }
            }
        }
        return sets;
    }

    // ---- Shares, places ----

    public long share(int head, int part) {
        if (noHead(head)) {
            return refuseLong(NOBODY);
        }
        if (part < 0 || part > 1) {
            return refuseLong(OTHER);
        }
        return inLowestTerms(now.heads[head].followers, now.allFollowers(), part);
    }

    public int nearest(int field, int what) {
        if (noField(field)) {
            return refuse(NOBODY);
        }
        if (what < 0 || what > 1) {
            return refuse(OTHER);
        }
        int who = NONE;
        int fewest = NONE;
        for (int i = 0; i < now.headCount; i++) {
            int off = Walk.stepsOff(now.heads[i].field, field);
            if (who == NONE || off < fewest) {
                who = i;
                fewest = off;
            }
        }
        return what == 0 ? who : fewest;
    }

    public int way(int field, int other) {
        if (noField(field) || noField(other)) {
            return refuse(NOBODY);
        }
        return walk.fewestSteps(now, field, other);
    }

    public int sight(int what) {
        switch (what) {
            case 0: return now.vowels();
            case 1: return now.hungry();
            case 2: return now.alone();
            default: return refuse(OTHER);
        }
    }

    public int kinds(int kind) {
        if (kind < 0 || kind >= KINDS) {
            return refuse(OTHER);
        }
        int many = 0;
        for (int i = 0; i < now.headCount; i++) {
            if (now.heads[i].kind == kind) {
                many++;
            }
        }
        return many;
    }

    // ---- The row, lots, the image ----

    public int row(int v) {
        if (v < 0) {
            return refuse(BELOW);
        }
        if (v > MOST_ROW || rowSize >= ROW_ROOM) {
            return refuse(ROOM);
        }
        row[rowSize] = v;
        rowSize++;
        return rowSize;
    }

    public int judge() {
        int wrong = NONE;
        for (int i = 0; i < rowSize && wrong == NONE; i++) {
            if (i >= now.headCount || now.heads[i].field != row[i]) {
                wrong = i;
            }
        }
        rowSize = 0;
        return wrong;
    }

    public int clear() {
        int had = rowSize;
        rowSize = 0;
        return had;
    }

    public int lots(int n, int z, int what) {
        int fault = faultOfAsked(false, n, 1, MOST_GAMES, what, 1);
        if (fault != FINE) {
            return refuse(fault);
        }
        return mind.playGames(now, n, z, what == 1);
    }

    public int image() {
        image.copy(now);
        imageTaken = true;
        return now.night;
    }

    public int restore() {
        if (!imageTaken) {
            return refuse(STATE);
        }
        now.copy(image);
        past.forget();
        return now.night;
    }

    public int count(int what) {
        switch (what) {
            case 0: return now.headCount;
            case 1: return now.night;
            case 2: return now.told;
            case 3: return now.settledBits();
            case 4: return now.allFollowers();
            case 5: return now.allPeople();
            case 6: return now.allWalls();
            case 7: return tale.size;
            case 8: return rowSize;
            case 9: return past.size;
            default: return what >= 11 && what <= 16 ? refusals[what - 10] : NONE;
        }
    }

    /** One figurehead: who she is and how she goes by her kind. */
    private static final class Head {
        private static final int LADY = 0;
        private static final int QUEEN = 1;
        private static final int SLAVER = 2;
        private static final int CHILD = 3;
        private static final int SAINT = 4;
        private static final int COLLIER = 5;
        private static final int PIRATE = 6;
        private static final int MERMAID = 7;

        private int kind;
        private int figure;
        private final int[] name = new int[NAME_ROOM];
        private int length;
        private int field;
        private int facing;
        private int word;
        private int followers;
        private boolean settled;

        void begin(int herKind, int herFigure, int herField) {
            kind = herKind;
            figure = herFigure;
            length = 0;
            field = herField;
            facing = 0;
            word = 0;
            followers = 0;
            settled = false;
        }

        void become(Head other) {
            kind = other.kind;
            figure = other.figure;
            copyName(other);
            field = other.field;
            facing = other.facing;
            word = other.word;
            followers = other.followers;
            settled = other.settled;
        }

        void copyName(Head other) {
            length = other.length;
            System.arraycopy(other.name, 0, name, 0, NAME_ROOM);
        }

        int steps() {
            switch (kind) {
                case QUEEN: return 2;
                case SLAVER: return figure / 3 + 1;
                case COLLIER: return length / 2;
                case PIRATE: return figure / 3 + 2;
                case MERMAID: return 2;
                default: return 1;
            }
        }

        int weight() {
            int ladys = figure + 1;
            switch (kind) {
                case QUEEN: return 2 * ladys;
                case SLAVER: return 9;
                case CHILD: return ladys / 2;
                case SAINT: return 2 * ladys + 3;
                case COLLIER: return ladys / 2 + 2;
                case PIRATE: return 9 - figure;
                case MERMAID: return 2 * ladys + 3;
                default: return ladys;
            }
        }

        /** How many quarters to the right she veers in a night; a collier's may be all four. */
        int veers(int night) {
            int queens = night % 4 == 0 ? 1 : 0;
            int childs = night % (figure + 2) == 0 ? 3 : 0;
            int saints = followers == 0 ? 2 : queens;
            switch (kind) {
                case QUEEN: return queens;
                case CHILD: return childs;
                case SAINT: return saints;
                case COLLIER: return childs + 1;
                case PIRATE: return night % 2 == 0 ? 0 : 1;
                case MERMAID: return length > 0 && isVowel(name[0]) ? 3 : saints;
                default: return 0;
            }
        }

        int enough() {
            switch (kind) {
                case LADY: return 20;
                case QUEEN: return 40;
                case SLAVER: return 99;
                case SAINT: return 35;
                case PIRATE: return 49;
                case MERMAID: return 35 - figure / 2;
                default: return figure + 5;
            }
        }

        boolean goes() {
            return !settled && word != REST;
        }

        /** How many quarters to the right her word tells her. */
        int quartersByWord() {
            switch (word) {
                case 1: return 3;
                case 2: return 1;
                case 3: return 2;
                default: return 0;
            }
        }

        void turn(int quarters) {
            facing = (facing + quarters) % DIRECTIONS;
        }

        void gain(int more) {
            followers = Math.min(followers + more, MOST_FOLLOWERS);
        }

        boolean hasFullName() {
            return length >= NAME_ROOM;
        }

        void lengthenName(int letter) {
            if (!hasFullName()) {
                name[length] = letter;
                length++;
            }
        }

        boolean hasLetter(int letter) {
            for (int i = 0; i < length; i++) {
                if (name[i] == letter) {
                    return true;
                }
            }
            return false;
        }

        int vowelsInName() {
            int vowels = 0;
            for (int i = 0; i < length; i++) {
                if (isVowel(name[i])) {
                    vowels++;
                }
            }
            return vowels;
        }

        private static boolean isVowel(int letter) {
            switch ('a' + letter) {
                case 'a': case 'e': case 'i': case 'o': case 'u': return true;
                default: return false;
            }
        }

        /** Below 0 if her name is ahead of the other's, 0 if they are alike. */
        int nameAgainst(Head other) {
            for (int i = 0; i < length && i < other.length; i++) {
                if (name[i] != other.name[i]) {
                    return name[i] - other.name[i];
                }
            }
            return length - other.length;
        }

        int placesAlike(Head other) {
            int places = 0;
            for (int i = 0; i < length && i < other.length; i++) {
                if (name[i] == other.name[i]) {
                    places++;
                }
            }
            return places;
        }

        int lettersAlikeAhead(Head other) {
            int letters = 0;
            while (letters < length && letters < other.length && name[letters] == other.name[letters]) {
                letters++;
            }
            return letters;
        }

        int lettersShared(Head other) {
            int letters = 0;
            for (int letter = 0; letter < LETTERS; letter++) {
                if (hasLetter(letter) && other.hasLetter(letter)) {
                    letters++;
                }
            }
            return letters;
        }

        void tell(StringBuilder line) {
            for (int i = 0; i < length; i++) {
                line.append((char) ('a' + name[i]));
            }
            line.append(' ').append(field).append("nesw".charAt(facing));
            if (settled) {
                line.append('!');
            } else {
                line.append(followers);
            }
        }
    }

    /** All that there is of the land at one time, and how a night changes it. */
    private static final class Land {
        private static final int NO_FIELD = -1;
        private static final int NO_HEAD = -1;

        private final int[] wall = new int[FIELDS];
        private final int[] people = new int[FIELDS];
        private final int[] letter = new int[FIELDS];
        private final Head[] heads = new Head[HEADS];
        private int headCount;
        private int night;
        private int told;

        Land() {
            for (int i = 0; i < HEADS; i++) {
                heads[i] = new Head();
            }
        }

        void copy(Land other) {
            System.arraycopy(other.wall, 0, wall, 0, FIELDS);
            System.arraycopy(other.people, 0, people, 0, FIELDS);
            System.arraycopy(other.letter, 0, letter, 0, FIELDS);
            for (int i = 0; i < other.headCount; i++) {
                heads[i].become(other.heads[i]);
            }
            headCount = other.headCount;
            night = other.night;
            told = other.told;
        }

        boolean isFull() {
            return headCount >= HEADS;
        }

        /** A head more, who has no letter of her name yet; nobody comes if there is no room. */
        void addHead(int kind, int figure, int field) {
            if (!isFull()) {
                heads[headCount].begin(kind, figure, field);
                headCount++;
            }
        }

        void lengthenNewestName(int more) {
            if (headCount > 0) {
                heads[headCount - 1].lengthenName(more);
            }
        }

        void passNights(int n) {
            for (int i = 0; i < n; i++) {
                night++;
                for (int number = 0; number < headCount; number++) {
                    if (heads[number].goes()) {
                        takeTurn(number);
                    }
                }
            }
        }

        /** A night in which nobody does anything. */
        void rainNight() {
            night++;
        }

        private void takeTurn(int number) {
            Head one = heads[number];
            one.turn(one.quartersByWord() + one.veers(night));
            go(one);
            gather(one);
            meet(number);
            if (one.followers >= one.enough()) {
                one.settled = true;
            }
        }

        private void go(Head one) {
            int steps = one.steps();
            for (int i = 0; i < steps; i++) {
                int next = beside(one.field, one.facing);
                if (next == NO_FIELD) {
                    one.turn(2);
                    return;
                }
                if (wall[next] > 0) {
                    wall[next] = Math.max(wall[next] - one.weight(), 0);
                    return;
                }
                one.field = next;
            }
        }

        /** The next field as one is facing. */
        static int beside(int field, int facing) {
            int column = field % COLUMNS;
            switch (facing) {
                case 0: return field >= COLUMNS ? field - COLUMNS : NO_FIELD;
                case 1: return column < COLUMNS - 1 ? field + 1 : NO_FIELD;
                case 2: return field < FIELDS - COLUMNS ? field + COLUMNS : NO_FIELD;
                case 3: return column > 0 ? field - 1 : NO_FIELD;
                default: return NO_FIELD;
            }
        }

        private void gather(Head one) {
            if (one.hasLetter(letter[one.field])) {
                one.gain(people[one.field]);
                people[one.field] = 0;
            }
        }

        private void meet(int number) {
            int met = leastAwakeBeside(number);
            if (met == NO_HEAD) {
                return;
            }
            told = Math.min(told + 1, MOST_TOLD);
            Head one = heads[number];
            Head other = heads[met];
            int order = one.weight() - other.weight();
            if (order == 0) {
                order = one.nameAgainst(other);
            }
            if (order == 0) {
                order = met - number;
            }
            Head lesser = order < 0 ? one : other;
            Head greater = order < 0 ? other : one;
            int half = lesser.followers / 2;
            lesser.turn(2);
            lesser.followers -= half;
            greater.gain(half);
        }

        private int leastAwakeBeside(int number) {
            for (int i = 0; i < headCount; i++) {
                if (i != number && heads[i].field == heads[number].field && !heads[i].settled) {
                    return i;
                }
            }
            return NO_HEAD;
        }

        int headsOn(int field) {
            int bits = 0;
            for (int i = 0; i < headCount; i++) {
                if (heads[i].field == field) {
                    bits |= 1 << i;
                }
            }
            return bits;
        }

        int settledBits() {
            int bits = 0;
            for (int i = 0; i < headCount; i++) {
                if (heads[i].settled) {
                    bits |= 1 << i;
                }
            }
            return bits;
        }

        /** The followers of a set of heads, told in bits. */
        int followersOf(int set) {
            int sum = 0;
            for (int i = 0; i < headCount; i++) {
                if ((set >> i & 1) == 1) {
                    sum += heads[i].followers;
                }
            }
            return sum;
        }

        int allFollowers() {
            return followersOf((1 << headCount) - 1);
        }

        int allPeople() {
            return sumOf(people);
        }

        int allWalls() {
            return sumOf(wall);
        }

        private static int sumOf(int[] numbers) {
            int sum = 0;
            for (int i = 0; i < numbers.length; i++) {
                sum += numbers[i];
            }
            return sum;
        }

        int vowels() {
            int vowels = 0;
            for (int i = 0; i < headCount; i++) {
                vowels += heads[i].vowelsInName();
            }
            return vowels;
        }

        int hungry() {
            int hungry = 0;
            for (int field = 0; field < FIELDS; field++) {
                if (!isInSomeName(letter[field])) {
                    hungry += people[field];
                }
            }
            return hungry;
        }

        private boolean isInSomeName(int one) {
            for (int i = 0; i < headCount; i++) {
                if (heads[i].hasLetter(one)) {
                    return true;
                }
            }
            return false;
        }

        int alone() {
            int bits = 0;
            for (int i = 0; i < headCount; i++) {
                if (headsOn(heads[i].field) == 1 << i) {
                    bits |= 1 << i;
                }
            }
            return bits;
        }
    }

    /** The lands that can be taken back, the latest of them first. */
    private static final class Past {
        private static final int MOST = 8;

        private final Land[] lands = new Land[MOST];
        private int next;
        private int size;

        Past() {
            for (int i = 0; i < MOST; i++) {
                lands[i] = new Land();
            }
        }

        void keep(Land land) {
            lands[next].copy(land);
            next = (next + 1) % MOST;
            size = Math.min(size + 1, MOST);
        }

        void takeBack(Land land) {
            if (size > 0) {
                next = (next + MOST - 1) % MOST;
                land.copy(lands[next]);
                size--;
            }
        }

        void forget() {
            size = 0;
        }
    }

    /** The letters of a land told, and what they say. */
    private static final class Tale {
        private static final int ROOM_FOR_LETTERS = 96;
        private static final int MOST_LETTER = 255;
        private static final int BAD_FORM = -1000;
        private static final int BAD_STATEMENT = -2000;
        private static final int MOST_PARTS = 3;
        private static final int MOST_RUN = 7;
        private static final int MOST_DIGITS = 2;
        private static final String KIND_WORDS = "lady queen slaver child saint collier pirate mermaid";
        private static final String DEED_WORDS = "wall folk face does joins nights";
        private static final String FACING_WORDS = "n e s w";
        private static final String WORD_WORDS = "on left right back rest";

        private final int[] letters = new int[ROOM_FOR_LETTERS];
        private int size;
        /** Where the word (0) and the parts (1 and on) of the statement being read begin. */
        private final int[] from = new int[MOST_PARTS + 1];
        private final int[] length = new int[MOST_PARTS + 1];
        private int parts;

        boolean isFull() {
            return size >= ROOM_FOR_LETTERS;
        }

        int addLetter(int letter) {
            if (!isFull()) {
                letters[size] = letter;
                size++;
            }
            return size;
        }

        void forget() {
            size = 0;
        }

        private static boolean isLetter(int sign) {
            return sign >= 'a' && sign <= 'z';
        }

        private static boolean isDigit(int sign) {
            return sign >= '0' && sign <= '9';
        }

        /** The first place at which the letters are not words and parts any more; -1 if they are. */
        int placeOfBadForm() {
            int part = 0;
            int run = 0;
            boolean digits = false;
            for (int place = 0; place < size; place++) {
                int sign = letters[place];
                if (isLetter(sign) && run < MOST_RUN && (run == 0 || !digits)) {
                    digits = false;
                    run++;
                } else if (isDigit(sign) && part > 0 && run < MOST_DIGITS && (run == 0 || digits)) {
                    digits = true;
                    run++;
                } else if (sign == ' ' && run > 0 && part < MOST_PARTS) {
                    part++;
                    run = 0;
                } else if (sign == ';' && run > 0 && part > 0) {
                    part = 0;
                    run = 0;
                } else {
                    return place;
                }
            }
            boolean complete = size > 0 && part == 0 && run == 0;
            return complete ? -1 : size;
        }

        /** Marks the word and the parts of the statement at a place; answers the place behind it. */
        int readStatement(int place) {
            parts = 0;
            from[0] = place;
            length[0] = 0;
            for (int i = place; i < size; i++) {
                if (letters[i] == ';') {
                    return i + 1;
                }
                if (letters[i] != ' ') {
                    length[parts]++;
                } else if (parts < MOST_PARTS) {
                    parts++;
                    from[parts] = i + 1;
                    length[parts] = 0;
                }
            }
            return size;
        }

        /** What the statement read tells comes to a land; false, with nothing changed, if it is not as it must be. */
        boolean comesTo(Land land) {
            int kind = placeAmong(0, KIND_WORDS);
            if (kind >= 0) {
                return headComes(land, kind);
            }
            switch (placeAmong(0, DEED_WORDS)) {
                case 0: return wallComes(land);
                case 1: return folkCome(land);
                case 2: return headTurns(land);
                case 3: return wordComes(land);
                case 4: return followersCome(land);
                case 5: return nightsGoBy(land);
                default: return false;
            }
        }

        private boolean headComes(Land land, int kind) {
            int figure = number(1, MOST_FIGURE);
            int field = number(3, FIELDS - 1);
            if (parts != 3 || figure < 0 || !isName(2) || field < 0 || land.isFull()) {
                return false;
            }
            land.addHead(kind, figure, field);
            for (int i = 0; i < length[2]; i++) {
                land.lengthenNewestName(letterAt(2, i));
            }
            return true;
        }

        private boolean wallComes(Land land) {
            int field = number(1, FIELDS - 1);
            int wall = number(2, MOST_WALL);
            if (parts != 2 || field < 0 || wall < 0) {
                return false;
            }
            land.wall[field] = wall;
            return true;
        }

        private boolean folkCome(Land land) {
            int field = number(1, FIELDS - 1);
            int people = number(2, MOST_PEOPLE);
            if (parts != 3 || field < 0 || people < 0 || !isName(3) || length[3] != 1) {
                return false;
            }
            land.people[field] = people;
            land.letter[field] = letterAt(3, 0);
            return true;
        }

        private boolean headTurns(Land land) {
            int head = number(1, land.headCount - 1);
            int facing = placeAmong(2, FACING_WORDS);
            if (parts != 2 || head < 0 || facing < 0) {
                return false;
            }
            land.heads[head].facing = facing;
            return true;
        }

        private boolean wordComes(Land land) {
            int head = number(1, land.headCount - 1);
            int word = placeAmong(2, WORD_WORDS);
            if (parts != 2 || head < 0 || word < 0) {
                return false;
            }
            land.heads[head].word = word;
            return true;
        }

        private boolean followersCome(Land land) {
            int head = number(1, land.headCount - 1);
            int followers = number(2, MOST_FOLLOWERS);
            if (parts != 2 || head < 0 || followers < 0) {
                return false;
            }
            land.heads[head].followers = followers;
            return true;
        }

        private boolean nightsGoBy(Land land) {
            int n = number(1, FAR_NIGHTS);
            if (parts != 1 || n < 1 || land.night + n > MOST_NIGHT) {
                return false;
            }
            land.passNights(n);
            return true;
        }

        /** The number that a part tells; -1 if it is none, or above the greatest. */
        private int number(int part, int most) {
            if (part > parts || length[part] < 1) {
                return -1;
            }
            int value = 0;
            for (int i = 0; i < length[part]; i++) {
                int sign = signAt(part, i);
                if (!isDigit(sign)) {
                    return -1;
                }
                value = 10 * value + sign - '0';
            }
            return value <= most ? value : -1;
        }

        private boolean isName(int part) {
            return part <= parts && length[part] <= NAME_ROOM && isLetter(signAt(part, 0));
        }

        private int letterAt(int part, int place) {
            return signAt(part, place) - 'a';
        }

        private int signAt(int part, int place) {
            int at = from[part] + place;
            return at < size ? letters[at] : 0;
        }

        /** Which of some words, told with a blank between, a part is; -1 none. */
        private int placeAmong(int part, String words) {
            int which = 0;
            int begin = 0;
            for (int end = 0; end <= words.length(); end++) {
                if (end == words.length() || words.charAt(end) == ' ') {
                    if (part <= parts && length[part] == end - begin && isAt(part, words, begin)) {
                        return which;
                    }
                    which++;
                    begin = end + 1;
                }
            }
            return -1;
        }

        private boolean isAt(int part, String words, int begin) {
            for (int i = 0; i < length[part] && begin + i < words.length(); i++) {
                if (signAt(part, i) != words.charAt(begin + i)) {
                    return false;
                }
            }
            return true;
        }
    }

    /** What would become of a land, thought through on a land of its own. */
    private static final class Mind {
        private static final int WITHOUT_SIGN = 0x7fffffff;
        /** What of a head can be chosen otherwise. */
        private static final int HER_KIND = 0;
        private static final int HER_FIGURE = 1;
        private static final int HER_WORD = 2;
        private static final int HER_NEXT_LETTER = 3;

        private static final int PAIRS = 4;

        private final Land thought = new Land();
        /** What each of two has by each pair of their choices. */
        private final int[] ones = new int[PAIRS];
        private final int[] others = new int[PAIRS];
        private int seed;

        Land think(Land now) {
            thought.copy(now);
            return thought;
        }

        Land behindNights(Land now, int n) {
            think(now);
            thought.passNights(n);
            return thought;
        }

        int nightsUntilOn(Land now, int head, int field) {
            think(now);
            for (int i = 0; i <= FAR_NIGHTS; i++) {
                if (thought.heads[head].field == field) {
                    return i;
                }
                thought.passNights(1);
            }
            return NONE;
        }

        int nightsUntilSettled(Land now, int head) {
            think(now);
            for (int i = 0; i <= FAR_NIGHTS; i++) {
                if (thought.heads[head].settled) {
                    return i;
                }
                thought.passNights(1);
            }
            return NONE;
        }

        int firstToSettle(Land now) {
            think(now);
            for (int i = 0; i < FAR_NIGHTS; i++) {
                thought.passNights(1);
                int newly = thought.settledBits() & ~now.settledBits();
                if (newly != 0) {
                    return Integer.numberOfTrailingZeros(newly);
                }
            }
            return NONE;
        }

        int nightsUntilTogether(Land now, int one, int other) {
            think(now);
            for (int i = 0; i <= FAR_NIGHTS; i++) {
                if (thought.heads[one].field == thought.heads[other].field) {
                    return i;
                }
                thought.passNights(1);
            }
            return NONE;
        }

        private static int choicesOf(int trait) {
            switch (trait) {
                case HER_KIND: return KINDS;
                case HER_FIGURE: return MOST_FIGURE + 1;
                case HER_WORD: return WORDS;
                default: return LETTERS;
            }
        }

        private void choose(int head, int trait, int choice) {
            switch (trait) {
                case HER_KIND: thought.heads[head].kind = choice; break;
                case HER_FIGURE: thought.heads[head].figure = choice; break;
                case HER_WORD: thought.heads[head].word = choice; break;
                default: thought.heads[head].lengthenName(choice); break;
            }
        }

        /** The choice by which one has most followers behind n nights, or how many these are. */
        int bestChoice(Land now, int head, int n, int trait, boolean howMany) {
            int choices = choicesOf(trait);
            int best = NONE;
            int most = NONE;
            for (int choice = 0; choice < choices; choice++) {
                think(now);
                choose(head, trait, choice);
                thought.passNights(n);
                if (thought.heads[head].followers > most) {
                    best = choice;
                    most = thought.heads[head].followers;
                }
            }
            return howMany ? most : best;
        }

        int leastWallThatHolds(Land now, int head, int field, int n) {
            for (int wall = 0; wall <= MOST_WALL; wall++) {
                think(now);
                thought.wall[field] = wall;
                boolean held = true;
                for (int i = 0; i < n && held; i++) {
                    thought.passNights(1);
                    held = thought.heads[head].field != field;
                }
                if (held) {
                    return wall;
                }
            }
            return NONE;
        }

        int fieldToWall(Land now, int head, int field, int n) {
            for (int walled = 0; walled < FIELDS; walled++) {
                think(now);
                thought.wall[walled] = MOST_WALL;
                thought.passNights(n);
                if (thought.heads[head].field == field) {
                    return walled;
                }
            }
            return NONE;
        }

        int namesToChange(Land now, int n) {
            int best = NONE;
            int most = behindNights(now, n).allFollowers();
            for (int one = 0; one < now.headCount; one++) {
                for (int other = one + 1; other < now.headCount; other++) {
                    think(now);
                    thought.heads[one].copyName(now.heads[other]);
                    thought.heads[other].copyName(now.heads[one]);
                    thought.passNights(n);
                    if (thought.allFollowers() > most) {
                        best = 10 * one + other;
                        most = thought.allFollowers();
                    }
                }
            }
            return best;
        }

        /** The choices, in bits, by which one goes a way told. */
        int choicesOfWay(Land now, int head, int trait, int[] way, int size) {
            int choices = choicesOf(trait);
            int bits = 0;
            for (int choice = 0; choice < choices; choice++) {
                think(now);
                choose(head, trait, choice);
                if (goesThatWay(head, way, size)) {
                    bits |= 1 << choice;
                }
            }
            return bits;
        }

        /** Whether the way tells her field behind 0, 1, .. nights from the land as it is thought. */
        private boolean goesThatWay(int head, int[] way, int size) {
            for (int i = 0; i < size && i < way.length; i++) {
                if (i > 0) {
                    thought.passNights(1);
                }
                if (thought.heads[head].field != way[i]) {
                    return false;
                }
            }
            return true;
        }

        /** The first pair of choices, 0 as ever or 1 rest, of which neither would have more by her other one. */
        int steadyPair(Land now, int one, int other, int n) {
            for (int pair = 0; pair < PAIRS; pair++) {
                think(now);
                restIf(one, pair >> 1);
                restIf(other, pair & 1);
                thought.passNights(n);
                ones[pair] = thought.heads[one].followers + REST_GAIN * (pair >> 1);
                others[pair] = thought.heads[other].followers + REST_GAIN * (pair & 1);
            }
            for (int pair = 0; pair < PAIRS; pair++) {
                if (ones[pair ^ 2] <= ones[pair] && others[pair ^ 1] <= others[pair]) {
                    return 10 * (pair >> 1) + (pair & 1);
                }
            }
            return NONE;
        }

        private void restIf(int head, int choice) {
            if (choice == 1) {
                choose(head, HER_WORD, REST);
            }
        }

        /** Of t to the n equally likely courses, those by which one is on a field behind n nights. */
        long waysOnto(Land now, int head, int field, int n, int t) {
            long sum = 0;
            for (int rains = 0; rains < 1 << n; rains++) {
                think(now);
                long ways = 1;
                for (int i = 0; i < n; i++) {
                    if ((rains >> i & 1) == 1) {
                        thought.rainNight();
                    } else {
                        thought.passNights(1);
                        ways *= t - 1;
                    }
                }
                if (thought.heads[head].field == field) {
                    sum += ways;
                }
            }
            return sum;
        }

        int playGames(Land now, int n, int z, boolean settled) {
            int told = 0;
            int settling = 0;
            seed = z;
            for (int game = 0; game < n; game++) {
                think(now);
                scatterHeads();
                thought.passNights(GAME_NIGHTS);
                told += thought.told - now.told;
                settling += Integer.bitCount(thought.settledBits()) - Integer.bitCount(now.settledBits());
            }
            return settled ? settling : told;
        }

        private void scatterHeads() {
            for (int i = 0; i < thought.headCount; i++) {
                thought.heads[i].field = drawBelow(FIELDS);
                thought.heads[i].facing = drawBelow(DIRECTIONS);
            }
        }

        private int drawBelow(int n) {
            seed = seed * 1103515245 + 12345;
            int draw = (seed & WITHOUT_SIGN) / 65536;
            return n > 0 ? draw % n : 0;
        }
    }

    /** Ways over fields, step by step. */
    private static final class Walk {
        private static final int UNREACHED = -1;

        private final int[] steps = new int[FIELDS];
        private final int[] reached = new int[FIELDS];

        /** Rows and columns, together, from a field to another. */
        static int stepsOff(int field, int other) {
            int rows = Math.abs(field / COLUMNS - other / COLUMNS);
            int columns = Math.abs(field % COLUMNS - other % COLUMNS);
            return rows + columns;
        }

        int fewestSteps(Land land, int first, int last) {
            for (int i = 0; i < FIELDS; i++) {
                steps[i] = UNREACHED;
            }
            steps[first] = 0;
            reached[0] = first;
            int count = 1;
            for (int i = 0; i < count && i < FIELDS; i++) {
                count = stepOn(land, reached[i], count);
            }
            return steps[last] == UNREACHED ? NONE : steps[last];
        }

        /** Reaches what is beside a field; answers how many fields are reached then. */
        private int stepOn(Land land, int field, int already) {
            int count = already;
            for (int facing = 0; facing < DIRECTIONS; facing++) {
                int next = Land.beside(field, facing);
                if (next != Land.NO_FIELD && steps[next] == UNREACHED && land.wall[next] == 0 && count < FIELDS) {
                    steps[next] = steps[field] + 1;
                    reached[count] = next;
                    count++;
                }
            }
            return count;
        }
    }
}
