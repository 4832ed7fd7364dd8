/** Told by the stamps: where two men can have gone, by the traces they left. See README.md. */
public final class StampTales {
    public static final int NONE = -1;

    private static final int NO_SUCH = -99;
    private static final int MOST_BYTES = 500;
    private static final int FED_BYTES = 20;
    private static final int LAST_HOUR = 96;
    private static final int DAY_HOURS = 24;
    private static final int NIGHT_HOURS = 8;

    private final byte[] text;
    private int length;
    private final Atlas atlas;
    private final Atlas draft;
    private final Reader reader;
    private final Search first;
    private final Search second;
    private final Story story;

    public StampTales() {
        text = new byte[MOST_BYTES];
        atlas = new Atlas();
        draft = new Atlas();
        reader = new Reader(text, draft);
        // Both men search in one table: what outlives a search is kept apart, as findings.
        int[] table = new int[Search.TABLE];
        first = new Search(atlas, new Man(), table);
        second = new Search(atlas, new Man(), table);
        story = new Story(atlas);
    }

    public int feed(int a, int b, int c, int d, int e) {
        if (length + FED_BYTES > MOST_BYTES) {
            return NONE;
        }
        append(a);
        append(b);
        append(c);
        append(d);
        append(e);
        return length;
    }

    private void append(int four) {
        for (int shift = 24; shift >= 0 && length < MOST_BYTES; shift -= 8) {
            text[length] = (byte) (four >> shift);
            length++;
        }
    }

    public boolean end(int n) {
        if (n < 0 || n > length) {
            return false;
        }
        length = n;
        return true;
    }

    public int fault() {
        return reader.faultOf(length);
    }

    public int map() {
        if (reader.faultOf(length) != NONE) {
            return NONE;
        }
        atlas.takeOver(draft);
        length = 0;
        first.man.startAnew();
        second.man.startAnew();
        story.size = 0;
        return atlas.towns;
    }

    public boolean man(int man, int home, int sleep, int end) {
        if (!isMan(man) || !atlas.hasTown(home) || sleep < 0 || sleep > Man.MOST_SLEEP || end < 1 || end > LAST_HOUR) {
            return false;
        }
        searchOf(man).man.settle(home, sleep, end);
        return true;
    }

    public int stamp(int man, int land, boolean out, int from, int to) {
        if (!isMan(man) || !atlas.hasLand(land) || from < Man.FIRST_DAY || to < from || to > Man.LAST_DAY) {
            return NONE;
        }
        Man who = searchOf(man).man;
        int number = who.add(Man.STAMP, land, from, to);
        if (number >= 0) {
            who.out[number] = out;
        }
        return number;
    }

    public int paper(int man, int town, int hour) {
        if (!isMan(man) || !atlas.hasTown(town) || !isHour(hour)) {
            return NONE;
        }
        return searchOf(man).man.add(Man.PAPER, town, hour, hour);
    }

    public int look(int man, int town, int from, int to) {
        if (!isMan(man) || !atlas.hasTown(town) || !isHour(from) || !isHour(to) || to < from) {
            return NONE;
        }
        return searchOf(man).man.add(Man.LOOK, town, from, to);
    }

    public boolean doubt(int man, int trace, boolean is) {
        return isMan(man) && searchOf(man).man.setDoubted(trace, is);
    }

    public int undo(int man) {
        return isMan(man) ? searchOf(man).man.dropLast() : NONE;
    }

    public int link(int link, int what) {
        if (!atlas.hasLink(link)) {
            return NONE;
        }
        switch (what) {
            case 0: return atlas.from[link];
            case 1: return atlas.to[link];
            case 2: return atlas.hour[link];
            case 3: return atlas.lasts[link];
            case 4: return atlas.price[link];
            case 5: return atlas.daily[link] ? 1 : 0;
            default: return NONE;
        }
    }

    public int town(int town, int what) {
        if (!atlas.hasTown(town)) {
            return NO_SUCH;
        }
        switch (what) {
            case 0: return atlas.landOf[town];
            case 1: return atlas.clock[town];
            default: return NO_SUCH;
        }
    }

    public int trace(int man, int trace, int what) {
        if (!isMan(man) || !searchOf(man).man.has(trace)) {
            return NO_SUCH;
        }
        Man who = searchOf(man).man;
        switch (what) {
            case 0: return who.kind[trace];
            case 1: return who.place[trace];
            case 2: return who.from[trace];
            case 3: return who.to[trace];
            case 4: return who.out[trace] ? 1 : 0;
            case 5: return who.doubted[trace] ? 1 : 0;
            default: return NO_SUCH;
        }
    }

    public int ways(int man) {
        return isMan(man) ? searchOf(man).howManyWays() : NONE;
    }

    public int may(int man, int hour) {
        return isTimeOf(man, hour) ? searchOf(man).whereAt(hour) : NONE;
    }

    public int surely(int man, int hour) {
        if (!isTimeOf(man, hour)) {
            return NONE;
        }
        int where = searchOf(man).whereAt(hour);
        return isOneTown(where) ? Integer.numberOfTrailingZeros(where) : NONE;
    }

    public int extreme(int man, int what) {
        if (!isMan(man) || what < Search.CHEAPEST || what > Search.LONGEST) {
            return NONE;
        }
        return searchOf(man).extremeOf(what);
    }

    public int tale(int man, int k) {
        return isMan(man) && k >= NONE ? searchOf(man).taleAt(k) : NONE;
    }

    public int toDoubt(int man) {
        return isMan(man) ? searchOf(man).fewestToDoubt() : NONE;
    }

    public int away(int man) {
        return isMan(man) ? searchOf(man).freestWithout() : NONE;
    }

    public int met(int hour, boolean surely) {
        if (!isTimeOf(0, hour) || !isTimeOf(1, hour)) {
            return NONE;
        }
        int one = first.whereAt(hour);
        int other = second.whereAt(hour);
        if (surely) {
            return one == other && isOneTown(one) ? one : 0;
        }
        return one & other & ~Search.UNDER_WAY;
    }

    public int leg(int link, int hour) {
        if (!atlas.hasLink(link) || !isHour(hour)) {
            return NONE;
        }
        return story.add(link, hour);
    }

    public int forget() {
        int legs = story.size;
        story.size = 0;
        return legs;
    }

    public int barred(int man) {
        return isMan(man) ? story.barOf(searchOf(man).man) : NONE;
    }

    public int count(int what) {
        switch (what) {
            case 0: return atlas.lands;
            case 1: return atlas.towns;
            case 2: return atlas.links;
            case 3: return first.man.size;
            case 4: return second.man.size;
            case 5: return story.size;
            case 6: return length;
            default: return NONE;
        }
    }

    /** A MAP has a TOWN at least, so without towns there is none, and nobody to ask for. */
    private boolean isMan(int man) {
        return atlas.towns > 0 && (man == 0 || man == 1);
    }

    private Search searchOf(int man) {
        return man == 0 ? first : second;
    }

    private boolean isTimeOf(int man, int hour) {
        return isMan(man) && hour >= 0 && hour <= searchOf(man).man.end;
    }

    private static boolean isHour(int hour) {
        return hour >= 0 && hour <= LAST_HOUR;
    }

    /** At each hour of a way he is in one town or under way: one town alone in some way is one town in all. */
    private static boolean isOneTown(int where) {
        return Integer.bitCount(where) == 1 && where != Search.UNDER_WAY;
    }

    /** What a MAP tells: lands, towns and links, by their numbers. */
    private static final class Atlas {
        static final int MOST_LANDS = 4;
        static final int MOST_TOWNS = 8;
        static final int MOST_LINKS = 16;
        static final int IN = 1;
        static final int OUT = 2;

        int lands;
        int towns;
        int links;
        final int[] stamping = new int[MOST_LANDS];
        final int[] landOf = new int[MOST_TOWNS];
        final int[] clock = new int[MOST_TOWNS];
        final int[] from = new int[MOST_LINKS];
        final int[] to = new int[MOST_LINKS];
        final int[] hour = new int[MOST_LINKS];
        final int[] lasts = new int[MOST_LINKS];
        final int[] price = new int[MOST_LINKS];
        final boolean[] daily = new boolean[MOST_LINKS];
        // The lands that stamp whoever takes the link, as it leaves and as it comes; NONE if it does not.
        final int[] outLand = new int[MOST_LINKS];
        final int[] inLand = new int[MOST_LINKS];

        void clear() {
            lands = 0;
            towns = 0;
            links = 0;
        }

        void takeOver(Atlas other) {
            lands = other.lands;
            towns = other.towns;
            links = other.links;
            System.arraycopy(other.stamping, 0, stamping, 0, MOST_LANDS);
            System.arraycopy(other.landOf, 0, landOf, 0, MOST_TOWNS);
            System.arraycopy(other.clock, 0, clock, 0, MOST_TOWNS);
            System.arraycopy(other.from, 0, from, 0, MOST_LINKS);
            System.arraycopy(other.to, 0, to, 0, MOST_LINKS);
            System.arraycopy(other.hour, 0, hour, 0, MOST_LINKS);
            System.arraycopy(other.lasts, 0, lasts, 0, MOST_LINKS);
            System.arraycopy(other.price, 0, price, 0, MOST_LINKS);
            // LANGUAGE.md lets arraycopy be read as one over numbers alone, so these go one by one.
            for (int k = 0; k < MOST_LINKS; k++) {
                daily[k] = other.daily[k];
            }
            System.arraycopy(other.outLand, 0, outLand, 0, MOST_LINKS);
            System.arraycopy(other.inLand, 0, inLand, 0, MOST_LINKS);
        }

        void addLand(int how) {
            if (lands < MOST_LANDS) {
                stamping[lands] = how;
                lands++;
            }
        }

        void addTown(int land, int ahead) {
            if (towns < MOST_TOWNS) {
                landOf[towns] = land;
                clock[towns] = ahead;
                towns++;
            }
        }

        void addLink(int start, int goal, boolean each, int at, int hours, int cost) {
            if (links < MOST_LINKS) {
                from[links] = start;
                to[links] = goal;
                daily[links] = each;
                hour[links] = at;
                lasts[links] = hours;
                price[links] = cost;
                outLand[links] = stampingLand(start, goal, OUT);
                inLand[links] = stampingLand(goal, start, IN);
                links++;
            }
        }

        boolean hasLand(int land) {
            return land >= 0 && land < lands;
        }

        boolean hasTown(int town) {
            return town >= 0 && town < towns;
        }

        boolean hasLink(int link) {
            return link >= 0 && link < links;
        }

        boolean leavesAt(int link, int h) {
            return hour[link] == (daily[link] ? h % DAY_HOURS : h);
        }

        private int stampingLand(int town, int otherTown, int when) {
            int land = landOf[town];
            return land != landOf[otherTown] && (stamping[land] & when) != 0 ? land : NONE;
        }

        /** A day is added and taken off again: by the town's clock the hour may lie below 0, and is cut downwards. */
        int dayAt(int h, int town) {
            return (h + clock[town] + DAY_HOURS) / DAY_HOURS - 1;
        }
    }

    /** Reads the text into a draft. Where a step answers false, the token that it stands at is the FAULT. */
    private static final class Reader {
        private static final int THE_END = 0;
        private static final int WORD = 1;
        private static final int NUMBER = 2;
        private static final int SEMICOLON = 3;
        private static final int STRANGE = 4;
        private static final int MOST_LETTERS = 8;
        private static final int MOST_DAILY_HOUR = 23;
        private static final int MOST_SAIL_HOUR = 95;
        private static final int MOST_LASTS = 48;
        private static final int MOST_PRICE = 99;
        private static final int MOST_CLOCK = 12;
        // Above every number that a MAP may hold: longer rows of digits all count as this one.
        private static final int TOO_MUCH = 1000;

        private final byte[] text;
        private final Atlas draft;
        private final long[] landNames = new long[Atlas.MOST_LANDS];
        private final long[] townNames = new long[Atlas.MOST_TOWNS];
        private int length;
        private int start;
        private int behind;
        private int kind;
        private int value;
        // A word of at most 8 letters is held in one number, so that names are like if their codes are.
        private long code;

        Reader(byte[] text, Atlas draft) {
            this.text = text;
            this.draft = draft;
        }

        int faultOf(int bytes) {
            length = Math.min(bytes, text.length);
            behind = 0;
            draft.clear();
            next();
            for (int lines = 0; lines < MOST_BYTES && kind != THE_END; lines++) {
                if (!readLine()) {
                    return start;
                }
            }
            return draft.towns == 0 ? length : NONE;
        }

        private boolean readLine() {
            if (isWord("land")) {
                return readLand();
            }
            if (isWord("town")) {
                return readTown();
            }
            if (isWord("run")) {
                return readLink(true);
            }
            return isWord("sail") && readLink(false);
        }

        private boolean readLand() {
            if (draft.lands >= Atlas.MOST_LANDS) {
                return false;
            }
            next();
            if (!isNewName()) {
                return false;
            }
            long name = code;
            next();
            int how = howOfWord();
            if (how < 0) {
                return false;
            }
            next();
            if (kind != SEMICOLON) {
                return false;
            }
            next();
            landNames[draft.lands] = name;
            draft.addLand(how);
            return true;
        }

        private boolean readTown() {
            if (draft.towns >= Atlas.MOST_TOWNS) {
                return false;
            }
            next();
            if (!isNewName()) {
                return false;
            }
            long name = code;
            next();
            if (!passWord("of")) {
                return false;
            }
            int land = landOfWord();
            if (land < 0) {
                return false;
            }
            next();
            int ahead = 0;
            int sign = isWord("plus") ? 1 : isWord("minus") ? -1 : 0;
            if (sign != 0) {
                next();
                if (!isNumber(0, MOST_CLOCK)) {
                    return false;
                }
                ahead = sign * value;
                next();
            }
            if (kind != SEMICOLON) {
                return false;
            }
            next();
            townNames[draft.towns] = name;
            draft.addTown(land, ahead);
            return true;
        }

        private boolean readLink(boolean daily) {
            if (draft.links >= Atlas.MOST_LINKS) {
                return false;
            }
            next();
            int from = townOfWord();
            if (from < 0) {
                return false;
            }
            next();
            int to = townOfWord();
            if (to < 0 || to == from) {
                return false;
            }
            next();
            if (!passWord("at") || !isNumber(0, daily ? MOST_DAILY_HOUR : MOST_SAIL_HOUR)) {
                return false;
            }
            int hour = value;
            next();
            if (!passWord("for") || !isNumber(1, MOST_LASTS)) {
                return false;
            }
            int lasts = value;
            next();
            if (!passWord("cost") || !isNumber(0, MOST_PRICE)) {
                return false;
            }
            int price = value;
            next();
            if (kind != SEMICOLON) {
                return false;
            }
            next();
            draft.addLink(from, to, daily, hour, lasts, price);
            return true;
        }

        private boolean passWord(String word) {
            if (!isWord(word)) {
                return false;
            }
            next();
            return true;
        }

        private boolean isNumber(int least, int most) {
            return kind == NUMBER && value >= least && value <= most;
        }

        private int howOfWord() {
            if (isWord("in")) {
                return Atlas.IN;
            }
            if (isWord("out")) {
                return Atlas.OUT;
            }
            if (isWord("both")) {
                return Atlas.IN | Atlas.OUT;
            }
            return isWord("none") ? 0 : NONE;
        }

        private boolean isNewName() {
            return kind == WORD && behind - start <= MOST_LETTERS && !isKept()
                && landOfWord() < 0 && townOfWord() < 0;
        }

        private boolean isKept() {
            return isWord("land") || isWord("in") || isWord("out") || isWord("both") || isWord("none")
                || isWord("town") || isWord("of") || isWord("plus") || isWord("minus")
                || isWord("run") || isWord("sail") || isWord("at") || isWord("for") || isWord("cost");
        }

        private int landOfWord() {
            return placeOfName(landNames, draft.lands);
        }

        private int townOfWord() {
            return placeOfName(townNames, draft.towns);
        }

        private int placeOfName(long[] names, int size) {
            for (int i = 0; i < size && i < names.length; i++) {
                // The length is asked for as well: a longer word's code may have wrapped around to a name's.
                if (kind == WORD && behind - start <= MOST_LETTERS && names[i] == code) {
                    return i;
                }
            }
            return NONE;
        }

        private boolean isWord(String word) {
            if (kind != WORD || behind - start != word.length()) {
                return false;
            }
            for (int i = 0; i < word.length(); i++) {
                if (text[start + i] != word.charAt(i)) {
                    return false;
                }
            }
            return true;
        }

        private void next() {
            start = behind;
            while (start < length && (text[start] == ' ' || text[start] == '\n')) {
                start++;
            }
            behind = start;
            if (start >= length) {
                kind = THE_END;
            } else if (isLetter(start)) {
                takeWord();
            } else if (isDigit(start)) {
                takeNumber();
            } else {
                kind = text[start] == ';' ? SEMICOLON : STRANGE;
                behind++;
            }
        }

        private void takeWord() {
            kind = WORD;
            code = 0;
            while (behind < length && isLetter(behind)) {
                code = code * 32 + (text[behind] - 'a' + 1);
                behind++;
            }
        }

        private void takeNumber() {
            kind = NUMBER;
            value = 0;
            while (behind < length && isDigit(behind)) {
                value = Math.min(TOO_MUCH, value * 10 + (text[behind] - '0'));
                behind++;
            }
        }

        private boolean isLetter(int place) {
            return text[place] >= 'a' && text[place] <= 'z';
        }

        private boolean isDigit(int place) {
            return text[place] >= '0' && text[place] <= '9';
        }
    }

    /** A man: where and how long he goes, and the traces he left. */
    private static final class Man {
        static final int STAMP = 0;
        static final int PAPER = 1;
        static final int LOOK = 2;
        static final int MOST_TRACES = 8;
        static final int MOST_STAMPS = 6;
        static final int MOST_LOOKS = 2;
        static final int MOST_SLEEP = 4;
        static final int FIRST_DAY = -1;
        static final int LAST_DAY = 5;

        int home;
        int sleep;
        int end = LAST_HOUR;
        int size;
        boolean changed = true;
        final int[] kind = new int[MOST_TRACES];
        final int[] place = new int[MOST_TRACES];
        final int[] from = new int[MOST_TRACES];
        final int[] to = new int[MOST_TRACES];
        final boolean[] out = new boolean[MOST_TRACES];
        final boolean[] doubted = new boolean[MOST_TRACES];

        void startAnew() {
            size = 0;
            settle(0, 0, LAST_HOUR);
        }

        void settle(int newHome, int newSleep, int newEnd) {
            home = newHome;
            sleep = newSleep;
            end = newEnd;
            changed = true;
        }

        int add(int what, int where, int first, int last) {
            if (size >= MOST_TRACES || howMany(what) >= mostOf(what)) {
                return NONE;
            }
            kind[size] = what;
            place[size] = where;
            from[size] = first;
            to[size] = last;
            out[size] = false;
            doubted[size] = false;
            size++;
            changed = true;
            return size - 1;
        }

        private int howMany(int what) {
            int many = 0;
            for (int i = 0; i < size; i++) {
                if (kind[i] == what) {
                    many++;
                }
            }
            return many;
        }

        private static int mostOf(int what) {
            if (what == STAMP) {
                return MOST_STAMPS;
            }
            return what == LOOK ? MOST_LOOKS : MOST_TRACES;
        }

        boolean has(int trace) {
            return trace >= 0 && trace < size;
        }

        boolean setDoubted(int trace, boolean is) {
            if (!has(trace) || doubted[trace] == is) {
                return false;
            }
            doubted[trace] = is;
            changed = true;
            return true;
        }

        int dropLast() {
            if (size == 0) {
                return NONE;
            }
            size--;
            changed = true;
            return size;
        }

        boolean counts(int trace, int what) {
            return has(trace) && kind[trace] == what && !doubted[trace];
        }

        boolean stampFits(int trace, int land, boolean isOut, int day) {
            return trace >= 0 && trace < size && place[trace] == land && out[trace] == isOut
                && day >= from[trace] && day <= to[trace];
        }
    }

    /**
     * All ways of a man that fit, looked through backwards in time.
     *
     * <p>What lies ahead of him depends on the hour and four things more, his CELL: how long he slept in the night that
     * is not over yet, his town, how many stamps he has, and which looks saw him (the cell's hour is seen already). The
     * table holds for each hour and cell one number about all ways onward from there, NONE if no such way fits.
     */
    private static final class Search {
        static final int CHEAPEST = 0;
        static final int DEAREST = 1;
        static final int PLAINEST = 2;
        static final int LONGEST = 3;
        static final int WAYS = 4;
        static final int DOUBTS = 5;
        static final int UNDER_WAY = 256;
        // A cell is one number: slept * 256 + town * 32 + stamps * 4 + looks as bits.
        static final int CELLS = 256;
        static final int ONE_TOWN = 32;
        static final int ONE_STAMP = 4;
        // A day takes a row for each hour, but five for each of the seven inside a night, by the hours slept so far.
        static final int SLEEP_ROWS = 5;
        static final int DAY_ROWS = DAY_HOURS + (NIGHT_HOURS - 1) * (SLEEP_ROWS - 1);
        static final int TABLE = (LAST_HOUR / DAY_HOURS * DAY_ROWS + 1) * CELLS;

        private static final int MOST_WAYS = 1000000000;
        // Stands in the table beside a number of ways, which never grows into this bit.
        private static final int REACHED = 1 << 30;

        final Man man;
        private final Atlas atlas;
        private final int[] table;
        private final Findings found = new Findings();
        private final int[] cells = new int[CELLS];
        private final int[] leaving = new int[LAST_HOUR + 1];
        private final int[] stampTrace = new int[Man.MOST_STAMPS];
        private final int[] lookTrace = new int[Man.MOST_LOOKS];
        private int cellCount;
        private int stamps;
        private int looks;
        private int papers;
        private int aim;

        Search(Atlas atlas, Man man, int[] table) {
            this.atlas = atlas;
            this.man = man;
            this.table = table;
        }

        int howManyWays() {
            learnWhere();
            return found.ways;
        }

        int whereAt(int hour) {
            learnWhere();
            return hour >= 0 && hour <= LAST_HOUR ? found.where[hour] : NONE;
        }

        int extremeOf(int what) {
            if (what < CHEAPEST || what > LONGEST) {
                return NONE;
            }
            if (mustLearn(what)) {
                prepare(0);
                fill(what);
                found.extreme[what] = valueAtStart();
            }
            return found.extreme[what];
        }

        int taleAt(int k) {
            if (mustLearn(Findings.TALE)) {
                prepare(0);
                fill(CHEAPEST);
                followTale();
            }
            if (k == NONE) {
                return found.taleSize;
            }
            return k >= 0 && k < found.taleSize ? found.tale[k] : NONE;
        }

        int fewestToDoubt() {
            if (mustLearn(DOUBTS)) {
                prepare(0);
                fill(DOUBTS);
                int value = valueAtStart();
                found.toDoubt = value < 0 ? NONE : value % CELLS;
            }
            return found.toDoubt;
        }

        int freestWithout() {
            learnWhere();
            if (mustLearn(Findings.AWAY)) {
                int most = found.ways;
                found.away = NONE;
                for (int i = 0; i < man.size; i++) {
                    if (!man.doubted[i]) {
                        prepare(1 << i);
                        fill(WAYS);
                        if (valueAtStart() > most) {
                            most = valueAtStart();
                            found.away = i;
                        }
                    }
                }
            }
            return found.away;
        }

        /** True once after each change: whoever asks has to find it out then. */
        private boolean mustLearn(int what) {
            if (man.changed) {
                man.changed = false;
                found.known = 0;
            }
            boolean must = (found.known >> what & 1) == 0;
            found.known |= 1 << what;
            return must;
        }

        private void learnWhere() {
            if (!mustLearn(WAYS)) {
                return;
            }
            prepare(0);
            fill(WAYS);
            found.ways = Math.max(0, valueAtStart());
            for (int h = 0; h <= LAST_HOUR; h++) {
                found.where[h] = 0;
            }
            reach(0, startCell());
            for (int h = 0; h <= man.end; h++) {
                int most = mostSlept(h);
                for (int slept = 0; slept <= most; slept++) {
                    for (int i = 0; i < cellCount; i++) {
                        int cell = slept * CELLS + cells[i];
                        if (table[index(h, cell)] >= REACHED) {
                            goOnFrom(h, cell);
                        }
                    }
                }
            }
        }

        private void goOnFrom(int h, int cell) {
            found.where[h] |= 1 << townOf(cell);
            if (h >= man.end) {
                return;
            }
            reach(h + 1, afterStay(h, cell));
            for (int k = 0; k < atlas.links; k++) {
                if (canTake(k, h, cell) && papersBetween(k, h) == 0) {
                    int comes = h + atlas.lasts[k];
                    if (reach(comes, afterLink(k, h, cell, 0))) {
                        for (int x = h + 1; x < comes; x++) {
                            found.where[x] |= UNDER_WAY;
                        }
                    }
                }
            }
        }

        private boolean reach(int h, int cell) {
            if (cell < 0 || table[index(h, cell)] < 0) {
                return false;
            }
            table[index(h, cell)] |= REACHED;
            return true;
        }

        private void followTale() {
            int cell = startCell();
            int h = 0;
            found.taleSize = valueAtStart() < 0 ? NONE : 0;
            for (int steps = 0; steps < LAST_HOUR && h < man.end && found.taleSize >= 0 && cell >= 0; steps++) {
                int link = firstMove(h, cell);
                if (link < 0) {
                    cell = afterStay(h, cell);
                    h++;
                } else {
                    found.tale[found.taleSize] = link * 100 + h;
                    found.taleSize++;
                    cell = afterLink(link, h, cell, 0);
                    h += atlas.lasts[link];
                }
            }
        }

        /** The link that the cheapest way takes from here, NONE if it may stay: to stay is ahead of all links. */
        private int firstMove(int h, int cell) {
            int least = table[index(h, cell)];
            int next = afterStay(h, cell);
            if (next >= 0 && table[index(h + 1, next)] == least) {
                return NONE;
            }
            for (int k = 0; k < atlas.links; k++) {
                if (canTake(k, h, cell) && valueByLink(k, h, cell) == least) {
                    return k;
                }
            }
            return NONE;
        }

        private void prepare(int leftOut) {
            stamps = 0;
            looks = 0;
            papers = 0;
            for (int i = 0; i < man.size; i++) {
                boolean isLeft = (leftOut >> i & 1) != 0;
                if (!isLeft && man.counts(i, Man.STAMP) && stamps < Man.MOST_STAMPS) {
                    stampTrace[stamps] = i;
                    stamps++;
                }
                if (!isLeft && man.counts(i, Man.LOOK) && looks < Man.MOST_LOOKS) {
                    lookTrace[looks] = i;
                    looks++;
                }
                if (!isLeft && man.counts(i, Man.PAPER) && man.from[i] <= man.end) {
                    papers |= 1 << i;
                }
            }
            for (int h = 0; h <= LAST_HOUR; h++) {
                leaving[h] = linksLeaving(h);
            }
            listCells();
        }

        private int linksLeaving(int h) {
            int bits = 0;
            for (int k = 0; k < atlas.links; k++) {
                if (atlas.leavesAt(k, h) && h + atlas.lasts[k] <= man.end) {
                    bits |= 1 << k;
                }
            }
            return bits;
        }

        /** More stamps come first: to pass a doubted stamp over is to look at the cell with one stamp more. */
        private void listCells() {
            cellCount = 0;
            for (int town = 0; town < atlas.towns; town++) {
                for (int stamped = stamps; stamped >= 0; stamped--) {
                    for (int seen = 0; seen < 1 << looks && cellCount < CELLS; seen++) {
                        cells[cellCount] = cellOf(0, town, stamped, seen);
                        cellCount++;
                    }
                }
            }
        }

        private void fill(int what) {
            aim = what;
            for (int h = man.end; h >= 0; h--) {
                int most = mostSlept(h);
                for (int slept = 0; slept <= most; slept++) {
                    for (int i = 0; i < cellCount; i++) {
                        int cell = slept * CELLS + cells[i];
                        table[index(h, cell)] = valueOf(h, cell);
                    }
                }
            }
        }

        private int valueOf(int h, int cell) {
            int value = h == man.end ? valueAtEnd(cell) : valueByStay(h, cell);
            for (int k = 0; k < atlas.links && leaving[h] >> k != 0; k++) {
                if (canTake(k, h, cell)) {
                    value = join(value, valueByLink(k, h, cell));
                }
            }
            value = charge(value, papersMissed(h, townOf(cell)));
            int stamped = stampsOf(cell);
            if (aim == DOUBTS && stamped < stamps) {
                int passed = table[index(h, cell + ONE_STAMP)];
                value = join(value, charge(passed, 1 << stampTrace[stamped]));
            }
            return value;
        }

        private int valueAtEnd(int cell) {
            if (stampsOf(cell) < stamps) {
                return NONE;
            }
            int missed = 0;
            for (int i = 0; i < looks; i++) {
                if ((cell >> i & 1) == 0) {
                    missed |= 1 << lookTrace[i];
                }
            }
            return charge(aim == WAYS ? 1 : 0, missed);
        }

        private int valueByStay(int h, int cell) {
            int next = afterStay(h, cell);
            return next < 0 ? NONE : table[index(h + 1, next)];
        }

        private int valueByLink(int k, int h, int cell) {
            int missed = papersBetween(k, h);
            int stamped = stampsOf(cell) + (atlas.outLand[k] == NONE ? 0 : 1);
            // Between the two stamps of one crossing, too, some can be doubted: no cell lies there to pass them over.
            int most = aim == DOUBTS && atlas.inLand[k] != NONE ? stamps : stamped;
            int best = NONE;
            for (int i = stamped; i <= most; i++) {
                int next = afterLink(k, h, cell, i - stamped);
                if (next >= 0) {
                    best = join(best, charge(table[index(h + atlas.lasts[k], next)], missed));
                }
                if (i < stamps) {
                    missed |= 1 << stampTrace[i];
                }
            }
            return best < 0 ? NONE : best + weightOf(k);
        }

        private int weightOf(int k) {
            if (aim == CHEAPEST || aim == DEAREST) {
                return atlas.price[k];
            }
            return aim == PLAINEST || aim == LONGEST ? 1 : 0;
        }

        private int join(int one, int other) {
            if (one < 0 || other < 0) {
                return Math.max(one, other);
            }
            if (aim == WAYS) {
                return Math.min(MOST_WAYS, one + other);
            }
            return aim == DEAREST || aim == LONGEST ? Math.max(one, other) : Math.min(one, other);
        }

        /** Missed traces bar a way; but in search of doubts, they add their number (above) and their bits (below). */
        private int charge(int value, int missed) {
            if (value < 0 || missed == 0) {
                return value;
            }
            return aim == DOUBTS ? value + Integer.bitCount(missed) * CELLS + missed : NONE;
        }

        private boolean canTake(int k, int h, int cell) {
            return (leaving[h] >> k & 1) != 0 && atlas.from[k] == townOf(cell);
        }

        private int afterStay(int h, int cell) {
            int slept = cell / CELLS;
            int hour = h % DAY_HOURS;
            if (hour < NIGHT_HOURS) {
                slept = Math.min(man.sleep, slept + 1);
            }
            if (hour == NIGHT_HOURS - 1) {
                slept = slept < man.sleep ? NONE : 0;
            }
            return slept < 0 ? NONE : slept * CELLS + cell % CELLS | seenAt(h + 1, townOf(cell));
        }

        private int afterLink(int k, int h, int cell, int passed) {
            int comes = h + atlas.lasts[k];
            int slept = sleptAfter(h, comes, cell / CELLS);
            if (slept < 0) {
                return NONE;
            }
            int stamped = stampsOf(cell);
            if (atlas.outLand[k] != NONE) {
                int trace = stamped < stamps ? stampTrace[stamped] : NONE;
                if (!man.stampFits(trace, atlas.outLand[k], true, atlas.dayAt(h, atlas.from[k]))) {
                    return NONE;
                }
                stamped++;
            }
            stamped += passed;
            if (atlas.inLand[k] != NONE) {
                int trace = stamped < stamps ? stampTrace[stamped] : NONE;
                if (!man.stampFits(trace, atlas.inLand[k], false, atlas.dayAt(comes, atlas.to[k]))) {
                    return NONE;
                }
                stamped++;
            }
            return cellOf(slept, atlas.to[k], stamped, cell & 3 | seenAt(comes, atlas.to[k]));
        }

        /** Hours slept in the night in which a link comes; NONE, if he slept too little in one that is over by then. */
        private int sleptAfter(int leaves, int comes, int slept) {
            int midnight = leaves - leaves % DAY_HOURS;
            boolean isNight = leaves < midnight + NIGHT_HOURS;
            if (isNight && comes < midnight + NIGHT_HOURS) {
                return slept;
            }
            boolean tooLittle = isNight && slept < man.sleep;
            boolean nightLost = man.sleep > 0 && comes >= midnight + DAY_HOURS + NIGHT_HOURS;
            return tooLittle || nightLost ? NONE : 0;
        }

        private int seenAt(int h, int town) {
            int bits = 0;
            for (int i = 0; i < looks; i++) {
                int trace = lookTrace[i];
                if (man.place[trace] == town && h >= man.from[trace] && h <= man.to[trace]) {
                    bits |= 1 << i;
                }
            }
            return bits;
        }

        private int papersMissed(int h, int town) {
            int bits = 0;
            for (int i = 0; i < man.size && papers >> i != 0; i++) {
                if ((papers >> i & 1) != 0 && man.from[i] == h && man.place[i] != town) {
                    bits |= 1 << i;
                }
            }
            return bits;
        }

        private int papersBetween(int k, int leaves) {
            int bits = 0;
            for (int i = 0; i < man.size && papers >> i != 0; i++) {
                if ((papers >> i & 1) != 0 && man.from[i] > leaves && man.from[i] < leaves + atlas.lasts[k]) {
                    bits |= 1 << i;
                }
            }
            return bits;
        }

        private int startCell() {
            return cellOf(0, man.home, 0, seenAt(0, man.home));
        }

        private int valueAtStart() {
            return table[index(0, startCell())];
        }

        private static int cellOf(int slept, int town, int stamped, int seen) {
            return slept * CELLS + town * ONE_TOWN + stamped * ONE_STAMP + seen;
        }

        private static int townOf(int cell) {
            return cell / ONE_TOWN % Atlas.MOST_TOWNS;
        }

        private static int stampsOf(int cell) {
            return cell % ONE_TOWN / ONE_STAMP;
        }

        private int mostSlept(int h) {
            int hour = h % DAY_HOURS;
            return hour < NIGHT_HOURS ? Math.min(man.sleep, hour) : 0;
        }

        private static int index(int h, int cell) {
            int hour = h % DAY_HOURS;
            int row = h / DAY_HOURS * DAY_ROWS + hour;
            // Each hour inside the night that is ahead of this one has rows besides its first.
            row += (SLEEP_ROWS - 1) * Math.max(0, Math.min(hour, NIGHT_HOURS) - 1);
            return row * CELLS + cell;
        }
    }

    /** What was found out about a man since the last change; known has a bit for each aim of a search, and two more. */
    private static final class Findings {
        static final int TALE = 6;
        static final int AWAY = 7;

        int known;
        int ways;
        int taleSize;
        int toDoubt;
        int away;
        final int[] where = new int[LAST_HOUR + 1];
        final int[] extreme = new int[Search.LONGEST + 1];
        final int[] tale = new int[LAST_HOUR];
    }

    /** The legs that are told, and what bars them. */
    private static final class Story {
        private static final int MOST_LEGS = 20;
        private static final int KIND = 100;

        int size;
        private final Atlas atlas;
        private final int[] links = new int[MOST_LEGS];
        private final int[] hours = new int[MOST_LEGS];
        private final int[] where = new int[LAST_HOUR + 1];
        private final boolean[] stays = new boolean[LAST_HOUR + 1];

        Story(Atlas atlas) {
            this.atlas = atlas;
        }

        int add(int link, int hour) {
            if (size >= MOST_LEGS) {
                return NONE;
            }
            links[size] = link;
            hours[size] = hour;
            size++;
            return size;
        }

        int barOf(Man man) {
            int bar = wrongLeg(man);
            if (bar != NONE) {
                return KIND + bar;
            }
            bar = sleeplessDay(man);
            if (bar != NONE) {
                return 2 * KIND + bar;
            }
            bar = wrongStamp(man);
            if (bar != NONE) {
                return 3 * KIND + bar;
            }
            bar = missedPaper(man);
            if (bar != NONE) {
                return 4 * KIND + bar;
            }
            bar = missedLook(man);
            return bar == NONE ? 0 : 5 * KIND + bar;
        }

        /** Lays out where he is at each hour; that row is whole only if no leg is wrong. */
        private int wrongLeg(Man man) {
            int town = man.home;
            int hour = 0;
            for (int i = 0; i < size; i++) {
                int link = links[i];
                int leaves = hours[i];
                int comes = leaves + atlas.lasts[link];
                if (leaves < hour || atlas.from[link] != town || !atlas.leavesAt(link, leaves) || comes > man.end) {
                    return i;
                }
                stay(hour, leaves, town);
                stays[leaves] = false;
                for (int h = leaves + 1; h < comes; h++) {
                    where[h] = NONE;
                    stays[h] = false;
                }
                town = atlas.to[link];
                hour = comes;
            }
            stay(hour, man.end, town);
            return NONE;
        }

        private void stay(int from, int till, int town) {
            for (int h = from; h <= till; h++) {
                where[h] = town;
                stays[h] = true;
            }
        }

        private int sleeplessDay(Man man) {
            for (int day = 0; day * DAY_HOURS + NIGHT_HOURS <= man.end; day++) {
                int slept = 0;
                for (int i = 0; i < NIGHT_HOURS; i++) {
                    if (stays[day * DAY_HOURS + i]) {
                        slept++;
                    }
                }
                if (slept < man.sleep) {
                    return day;
                }
            }
            return NONE;
        }

        private int wrongStamp(Man man) {
            int stamps = 0;
            int trace = stampBehind(man, NONE);
            for (int i = 0; i < size; i++) {
                int link = links[i];
                int leaves = hours[i];
                int comes = leaves + atlas.lasts[link];
                if (atlas.outLand[link] != NONE) {
                    if (!man.stampFits(trace, atlas.outLand[link], true, atlas.dayAt(leaves, atlas.from[link]))) {
                        return stamps;
                    }
                    stamps++;
                    trace = stampBehind(man, trace);
                }
                if (atlas.inLand[link] != NONE) {
                    if (!man.stampFits(trace, atlas.inLand[link], false, atlas.dayAt(comes, atlas.to[link]))) {
                        return stamps;
                    }
                    stamps++;
                    trace = stampBehind(man, trace);
                }
            }
            return trace == NONE ? NONE : stamps;
        }

        private static int stampBehind(Man man, int trace) {
            for (int i = trace + 1; i < man.size; i++) {
                if (man.counts(i, Man.STAMP)) {
                    return i;
                }
            }
            return NONE;
        }

        private int missedPaper(Man man) {
            for (int i = 0; i < man.size; i++) {
                if (man.counts(i, Man.PAPER) && man.from[i] <= man.end && where[man.from[i]] != man.place[i]) {
                    return i;
                }
            }
            return NONE;
        }

        private int missedLook(Man man) {
            for (int i = 0; i < man.size; i++) {
                if (man.counts(i, Man.LOOK) && !isSeen(man, i)) {
                    return i;
                }
            }
            return NONE;
        }

        private boolean isSeen(Man man, int trace) {
            int last = Math.min(man.to[trace], man.end);
            for (int h = man.from[trace]; h <= last; h++) {
                if (where[h] == man.place[trace]) {
                    return true;
                }
            }
            return false;
        }
    }
}
