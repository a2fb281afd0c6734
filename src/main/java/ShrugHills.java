import java.util.Arrays;

/** A plain whose hills are shifted by the shrugs of those who are asked what they do not know. */
public final class ShrugHills {
    public static final int NONE = -1;
    public static final long NOTHING = -1000000000000000L;

    private static final int MOST_BYTES = 1600;
    private static final int BYTES_FED = 20;
    private static final int MOST_STATEMENTS = 80;
    private static final int LEAST_SIDE = 3;
    private static final int MOST_SIDE = 7;
    private static final int MOST_CELLS = 49;
    private static final int MOST_TOPICS = 5;
    private static final int MOST_PEOPLE = 7;
    private static final int MOST_ROWS = 12;
    private static final int MOST_HEIGHT = 99;
    private static final int USUAL_HEIGHT = 50;
    private static final int MOST_TIRED = 9;
    private static final int MOST_LIFTED = 9;
    private static final int LAST_DAY = 999;
    private static final int MOST_CROWD = 100;
    private static final int NAME_LETTERS = 6;
    private static final int NUMBER_DIGITS = 4;
    private static final int MOST_NUMBER = 9999;
    private static final int MOST_OPEN = 6;
    private static final int MOST_UNDONE = 20;
    private static final int MOST_KEPT = 40;
    private static final int ROW_PARTS = 4;
    private static final int MOST_ASKINGS = 3;
    private static final int MOST_SEEN = 16;
    private static final int LAST_SEEN = 30;
    private static final int MOST_AHEAD = 60;
    private static final int MOST_SILENT_DAYS = 20;
    private static final int MOST_DAYS = 100;
    private static final int MOST_IMAGE = 80;
    private static final int KINDS_REFUSED = 6;

    private static final int ANSWERS = 0;
    private static final int KEEPS_IT = 1;
    private static final int SHRUGS = 2;

    private static final int NO_SUCH_TEXT = 1;
    private static final int NO_SUCH_NUMBER = 2;
    private static final int NO_SUCH_NAME = 3;
    private static final int TOO_DEEP = 4;
    private static final int TOO_MANY = 5;

    // The words of both texts, each ended by a blank; those of a question's head come last, as they may be names.
    private static final String WORDS = "plain by high topic person at tired knows of asks lifts tires holds crowd height known day side number column row or and not all min max first last often total most least ";
    private static final int PLAIN = 0;
    private static final int BY = 1;
    private static final int HIGH = 2;
    private static final int TOPIC = 3;
    private static final int PERSON = 4;
    private static final int AT = 5;
    private static final int TIRED = 6;
    private static final int KNOWS = 7;
    private static final int OF = 8;
    private static final int ASKS = 9;
    private static final int LIFTS = 10;
    private static final int TIRES = 11;
    private static final int HOLDS = 12;
    private static final int CROWD = 13;
    private static final int HEIGHT = 14;
    private static final int KNOWN = 15;
    private static final int DAY = 16;
    private static final int SIDE = 17;
    private static final int NUMBER = 18;
    private static final int COLUMN = 19;
    private static final int ROW = 20;
    private static final int OR = 21;
    private static final int AND = 22;
    private static final int NOT = 23;
    private static final int ALL = 24;
    private static final int MIN = 25;
    private static final int MAX = 26;
    private static final int FIRST = 27;
    private static final int LAST = 28;
    private static final int OFTEN = 29;
    private static final int TOTAL = 30;
    private static final int MOST = 31;
    private static final int LEAST = 32;

    // Facts stand at the number of their word; behind the words, how much each topic would lift.
    private static final int LIFTED = 33;
    private static final int FACTS = 38;

    private final int[] tape = new int[MOST_BYTES];
    private int tapeLength;
    private final Text text = new Text(tape);
    private final Formula question = new Formula();
    private final FormulaReader formulas = new FormulaReader(text, question);
    private final PlainReader reader = new PlainReader(text, formulas);
    private final int[] about = new int[FACTS];
    private Plain told = new Plain();
    private final Land now = new Land();
    private final World world = new World(told);
    private final Past past = new Past();
    private final Foresight foresight = new Foresight(world);
    private final Planner planner = new Planner(world);
    private final Ways ways = new Ways();
    private int faultKind;
    private int faultPlace = NONE;
    private long seedNow = 1;
    private final int[] picture = new int[MOST_IMAGE];
    private int pictureLength;
    private final int[] refused = new int[KINDS_REFUSED];

    public ShrugHills() {
    }

    // ---- the tape

    public int feed(int a, int b, int c, int d, int e) {
        if (tapeLength + BYTES_FED > MOST_BYTES) {
            return refuseNumber(0);
        }
        append(a);
        append(b);
        append(c);
        append(d);
        append(e);
        return tapeLength;
    }

    private void append(int number) {
        for (int shift = 24; shift >= 0 && tapeLength < MOST_BYTES; shift -= 8) {
            tape[tapeLength] = number >> shift & 255;
            tapeLength++;
        }
    }

    public boolean end(int n) {
        if (n < 0 || n > tapeLength) {
            return refuse(0);
        }
        tapeLength = n;
        return true;
    }

    /** Its length; the bytes stay where they are till others are fed. */
    private int takeTape() {
        int length = tapeLength;
        tapeLength = 0;
        return length;
    }

    private boolean refuse(int kind) {
        refused[kind]++;
        return false;
    }

    private int refuseNumber(int kind) {
        refused[kind]++;
        return NONE;
    }

    // ---- the plain

    public int plain() {
        text.begin(takeTape());
        int statements = reader.read();
        noteFault();
        if (text.fault != 0) {
            return refuseNumber(1);
        }
        Plain older = told;
        told = reader.draft;
        reader.draft = older;
        world.told = told;
        now.copyFrom(told.start);
        past.forget();
        foresight.seenRows = 0;
        return statements;
    }

    private void noteFault() {
        faultKind = text.fault;
        faultPlace = text.place;
    }

    public int fault(int what) {
        if (what == 0) {
            return faultKind;
        }
        return what == 1 ? faultPlace : NONE;
    }

    public int has(int what) {
        switch (what) {
            case 0:
                return told.columns;
            case 1:
                return told.rows;
            case 2:
                return told.topics;
            case 3:
                return told.people;
            case 4:
                return told.listRows;
            case 5:
                return now.day;
            case 6:
                return now.together(told.cells());
            case 7:
                return past.keptRows;
            case 8:
                return foresight.seenRows;
            case 9:
                return past.acts;
            default:
                return NONE;
        }
    }

    public int letter(int kind, int which, int k) {
        if (k < 0 || k >= NAME_LETTERS) {
            return NONE;
        }
        if (kind == 0 && isTopic(which)) {
            return letterOf(told.topicNames[which], k);
        }
        if (kind == 1 && isPerson(which)) {
            return letterOf(told.personNames[which], k);
        }
        return NONE;
    }

    private static int letterOf(int name, int k) {
        return name >> 5 * k & 31;
    }

    private boolean isPlain() {
        return told.columns > 0;
    }

    private boolean isTopic(int topic) {
        return topic >= 0 && topic < told.topics;
    }

    private boolean isPerson(int person) {
        return person >= 0 && person < told.people;
    }

    public int height(int column, int row) {
        int cell = told.cellAt(column, row);
        return cell == NONE ? NONE : now.high[cell];
    }

    public int person(int person, int what) {
        if (!isPerson(person)) {
            return NONE;
        }
        switch (what) {
            case 0:
                return now.column[person];
            case 1:
                return now.row[person];
            case 2:
                return now.tired[person];
            case 3:
                return now.known[person];
            default:
                return NONE;
        }
    }

    public int list(int k, int what) {
        if (k < 0 || k >= told.listRows) {
            return NONE;
        }
        if (what == 0) {
            return told.listPerson[k];
        }
        return what == 1 ? told.listTopic[k] : NONE;
    }

    public int would(int person, int topic) {
        return isPerson(person) && isTopic(topic) ? world.deed(now, person, topic) : NONE;
    }

    public int kept(int k, int what) {
        if (k < 0 || k >= past.keptRows || what < 0 || what >= ROW_PARTS) {
            return NONE;
        }
        return past.kept[k * ROW_PARTS + what];
    }

    // ---- ahead

    private boolean isAhead(int n, int least, int most) {
        return isPlain() && n >= least && n <= most && now.day + n <= LAST_DAY;
    }

    public int later(int column, int row, int n) {
        int cell = told.cellAt(column, row);
        if (cell == NONE || !isAhead(n, 0, MOST_AHEAD)) {
            return NONE;
        }
        return foresight.behind(now, n, 0).high[cell];
    }

    public int tired(int person, int n) {
        if (!isPerson(person) || !isAhead(n, 0, MOST_AHEAD)) {
            return NONE;
        }
        return foresight.behind(now, n, 0).tired[person];
    }

    public int rises(int column, int row, int height) {
        int cell = told.cellAt(column, row);
        return cell == NONE ? NONE : foresight.daysToRise(now, cell, height);
    }

    // ---- plans, ways, water

    public int plan(int up, int height, int stay, int k) {
        int upCell = told.cellOf(up);
        int stayCell = told.cellOf(stay);
        if (upCell == NONE || stayCell == NONE || height < 0 || height > MOST_HEIGHT || k < NONE) {
            return NONE;
        }
        int askings = planner.find(now, upCell, height, stayCell);
        if (k == NONE) {
            return askings;
        }
        return k < askings ? planner.chosen[k] : NONE;
    }

    public int way(int from, int to) {
        int fromCell = told.cellOf(from);
        int toCell = told.cellOf(to);
        return fromCell == NONE || toCell == NONE ? NONE : ways.cost(told, now, fromCell, toCell);
    }

    public int pond(int column, int row) {
        int cell = told.cellAt(column, row);
        return cell == NONE ? NONE : told.numberOf(ways.lowestFrom(told, now, cell));
    }

    public int keeps(int from, int to, int n) {
        int fromCell = told.cellOf(from);
        int toCell = told.cellOf(to);
        if (fromCell == NONE || toCell == NONE || !isAhead(n, 1, MOST_SILENT_DAYS)) {
            return NONE;
        }
        int most = ways.cost(told, now, fromCell, toCell);
        for (int size = 0; size <= told.people; size++) {
            for (int set = 0; set < 1 << told.people; set++) {
                if (Integer.bitCount(set) == size
                        && ways.cost(told, foresight.behind(now, n, set), fromCell, toCell) <= most) {
                    return set;
                }
            }
        }
        return NONE;
    }

    public int rest(int n) {
        if (!isAhead(n, 1, MOST_SILENT_DAYS)) {
            return NONE;
        }
        for (int set = 0; set < 1 << told.people; set++) {
            foresight.learnOwnHeights(foresight.behind(now, n, set), set);
        }
        for (int size = 0; size <= told.people; size++) {
            for (int set = 0; set < 1 << told.people; set++) {
                if (Integer.bitCount(set) == size && foresight.isAtRest(set)) {
                    return set;
                }
            }
        }
        return NONE;
    }

    // ---- who was asked

    public int see() {
        int length = takeTape();
        if (!isSeen(length)) {
            return refuseNumber(1);
        }
        System.arraycopy(tape, 0, foresight.seen, 0, length);
        foresight.seenRows = length / ROW_PARTS;
        return foresight.seenRows;
    }

    private boolean isSeen(int length) {
        if (length < ROW_PARTS || length > MOST_SEEN * ROW_PARTS || length % ROW_PARTS != 0) {
            return false;
        }
        for (int at = 0; at + ROW_PARTS <= length; at += ROW_PARTS) {
            if (tape[at] > LAST_SEEN || told.cellAt(tape[at + 1], tape[at + 2]) == NONE
                    || tape[at + 3] > MOST_HEIGHT) {
                return false;
            }
        }
        return true;
    }

    public int who(int topic) {
        return isTopic(topic) ? foresight.whoFits(now, topic) : NONE;
    }

    public int tells(int topic, int what) {
        if (!isTopic(topic) || what < 0 || what > 2) {
            return NONE;
        }
        int people = foresight.whoFits(now, topic);
        if (people == 0) {
            return NONE;
        }
        foresight.findTelling(now, topic, people);
        if (what == 0) {
            return foresight.tellingDay;
        }
        return what == 1 ? told.numberOf(foresight.tellingCell) : foresight.tellingLeft;
    }

    // ---- acts

    public int asks(int person, int topic) {
        if (!isPerson(person) || !isTopic(topic)) {
            return refuseNumber(2);
        }
        past.remember(now);
        return askNow(person, topic);
    }

    private int askNow(int person, int topic) {
        int deed = world.asked(now, person, topic);
        if (deed == SHRUGS) {
            past.keep(now.day, person, topic, world.lifted);
        }
        return deed;
    }

    public boolean teach(int person, int topic, int on) {
        if (!isPerson(person) || !isTopic(topic) || on < 0 || on > 1
                || (now.known[person] >> topic & 1) == on) {
            return refuse(2);
        }
        past.remember(now);
        now.known[person] ^= 1 << topic;
        return true;
    }

    public boolean go(int person, int column, int row) {
        if (!isPerson(person) || told.cellAt(column, row) == NONE || now.isSomeoneAt(column, row, told.people)) {
            return refuse(2);
        }
        past.remember(now);
        now.column[person] = column;
        now.row[person] = row;
        return true;
    }

    public boolean ease(int person) {
        if (!isPerson(person) || now.tired[person] == 0) {
            return refuse(2);
        }
        past.remember(now);
        now.tired[person] = 0;
        return true;
    }

    public int days(int n) {
        if (!isAhead(n, 1, MOST_DAYS)) {
            return refuseNumber(3);
        }
        past.remember(now);
        int shrugs = 0;
        for (int i = 0; i < n; i++) {
            shrugs += dayNow();
        }
        return shrugs;
    }

    /** How many shrugged (0 or 1). */
    private int dayNow() {
        int row = told.rowOf(now.day);
        int deed = row == NONE ? NONE : askNow(told.listPerson[row], told.listTopic[row]);
        now.day++;
        return deed == SHRUGS ? 1 : 0;
    }

    public int chance(int n) {
        if (!isAhead(n, 1, MOST_DAYS)) {
            return refuseNumber(3);
        }
        past.remember(now);
        int shrugs = 0;
        for (int i = 0; i < n; i++) {
            shrugs += crowdNow();
            dayNow();
        }
        return shrugs;
    }

    /** How many of the crowd shrugged (0 or 1). */
    private int crowdNow() {
        if (draw(100) >= told.crowd || told.people == 0 || told.topics == 0) {
            return 0;
        }
        int person = draw(told.people);
        int topic = draw(told.topics);
        return askNow(person, topic) == SHRUGS ? 1 : 0;
    }

    private int draw(int m) {
        seedNow = (1103515245L * seedNow + 12345L) & 0x7fffffffL;
        return m > 0 ? (int) (seedNow / 64 % m) : 0;
    }

    public boolean undo() {
        return past.goBack(now) || refuse(4);
    }

    public boolean seed(int seed) {
        if (seed < 0) {
            return refuse(5);
        }
        seedNow = seed;
        return true;
    }

    // ---- questions

    public long ask() {
        int length = takeTape();
        if (!isPlain()) {
            return NOTHING;
        }
        text.begin(length);
        int head = formulas.readQuestion(question);
        noteFault();
        return text.fault != 0 ? NOTHING : answer(head);
    }

    private long answer(int head) {
        boolean lifting = question.names(LIFTS);
        long result = head == FIRST || head == LAST ? NONE : 0;
        for (int person = 0; person < told.people; person++) {
            world.describe(now, person, about, lifting);
            result = joined(head, result, person, question.value(about));
        }
        return result;
    }

    private static long joined(int head, long result, int person, long value) {
        switch (head) {
            case FIRST:
                return result == NONE && value != 0 ? person : result;
            case LAST:
                return value != 0 ? person : result;
            case OFTEN:
                return value != 0 ? result + 1 : result;
            case TOTAL:
                return result + value;
            case MOST:
                return person == 0 || value > result ? value : result;
            default:
                return person == 0 || value < result ? value : result;
        }
    }

    // ---- images, refusals

    public int image() {
        int cells = told.cells();
        picture[0] = now.day / 256;
        picture[1] = now.day % 256;
        System.arraycopy(now.high, 0, picture, 2, cells);
        int at = 2 + cells;
        for (int person = 0; person < told.people; person++) {
            picture[at] = now.column[person];
            picture[at + 1] = now.row[person];
            picture[at + 2] = now.tired[person];
            picture[at + 3] = now.known[person];
            at += ROW_PARTS;
        }
        picture[at] = checkOf(picture, at);
        pictureLength = at + 1;
        return pictureLength;
    }

    private static int checkOf(int[] bytes, int length) {
        int check = 227;
        for (int i = 0; i < length && i < bytes.length; i++) {
            check = (3 * check + bytes[i]) % 251;
        }
        return check;
    }

    public int octet(int k) {
        return k < 0 || k >= pictureLength ? NONE : picture[k];
    }

    public boolean on() {
        int length = takeTape();
        if (!isImage(length)) {
            return refuse(5);
        }
        int cells = told.cells();
        now.day = tape[0] * 256 + tape[1];
        System.arraycopy(tape, 2, now.high, 0, cells);
        for (int person = 0; person < told.people; person++) {
            int at = 2 + cells + person * ROW_PARTS;
            now.column[person] = tape[at];
            now.row[person] = tape[at + 1];
            now.tired[person] = tape[at + 2];
            now.known[person] = tape[at + 3];
        }
        past.forget();
        return true;
    }

    private boolean isImage(int length) {
        int peopleFrom = 2 + told.cells();
        int last = peopleFrom + told.people * ROW_PARTS;
        if (!isPlain() || length != last + 1 || tape[last] != checkOf(tape, last)
                || tape[0] * 256 + tape[1] > LAST_DAY) {
            return false;
        }
        for (int at = 2; at < peopleFrom; at++) {
            if (tape[at] > MOST_HEIGHT) {
                return false;
            }
        }
        for (int at = peopleFrom; at < last; at += ROW_PARTS) {
            if (!isPersonTold(peopleFrom, at)) {
                return false;
            }
        }
        return true;
    }

    private boolean isPersonTold(int peopleFrom, int at) {
        if (told.cellAt(tape[at], tape[at + 1]) == NONE || tape[at + 2] > MOST_TIRED
                || tape[at + 3] >= 1 << told.topics) {
            return false;
        }
        for (int other = peopleFrom; other < at; other += ROW_PARTS) {
            if (tape[other] == tape[at] && tape[other + 1] == tape[at + 1]) {
                return false;
            }
        }
        return true;
    }

    public int status(int what) {
        return what < 0 || what >= KINDS_REFUSED ? NONE : refused[what];
    }

    /** What changes: the day, the heights (row by row), the people. */
    private static final class Land {
        int day;
        final int[] high = new int[MOST_CELLS];
        final int[] column = new int[MOST_PEOPLE];
        final int[] row = new int[MOST_PEOPLE];
        final int[] tired = new int[MOST_PEOPLE];
        final int[] known = new int[MOST_PEOPLE];

        void copyFrom(Land other) {
            day = other.day;
            System.arraycopy(other.high, 0, high, 0, MOST_CELLS);
            System.arraycopy(other.column, 0, column, 0, MOST_PEOPLE);
            System.arraycopy(other.row, 0, row, 0, MOST_PEOPLE);
            System.arraycopy(other.tired, 0, tired, 0, MOST_PEOPLE);
            System.arraycopy(other.known, 0, known, 0, MOST_PEOPLE);
        }

        int together(int cells) {
            int sum = 0;
            for (int cell = 0; cell < cells && cell < MOST_CELLS; cell++) {
                sum += high[cell];
            }
            return sum;
        }

        boolean isSomeoneAt(int atColumn, int atRow, int people) {
            for (int person = 0; person < people && person < MOST_PEOPLE; person++) {
                if (column[person] == atColumn && row[person] == atRow) {
                    return true;
                }
            }
            return false;
        }
    }

    /** What a text tells; without columns it is no plain. */
    private static final class Plain {
        int columns;
        int rows;
        int topics;
        int people;
        int listRows;
        int crowd;
        final int[] topicNames = new int[MOST_TOPICS];
        final int[] personNames = new int[MOST_PEOPLE];
        final int[] listPerson = new int[MOST_ROWS];
        final int[] listTopic = new int[MOST_ROWS];
        final Formula lifts = new Formula();
        final Formula tires = new Formula();
        final Formula holds = new Formula();
        boolean liftsTold;
        boolean tiresTold;
        boolean holdsTold;
        final Land start = new Land();

        void clear() {
            columns = 0;
            rows = 0;
            topics = 0;
            people = 0;
            listRows = 0;
            crowd = 0;
            Arrays.fill(start.high, USUAL_HEIGHT);
            liftsTold = false;
            tiresTold = false;
            holdsTold = false;
            lifts.length = 0;
            lifts.add(3);
            tires.length = 0;
            tires.addWord(TIRED);
            tires.add(1);
            tires.addMark('+');
            holds.length = 0;
            holds.add(0);
        }

        int cells() {
            return columns * rows;
        }

        int cellAt(int column, int row) {
            return column < 0 || column >= columns || row < 0 || row >= rows ? NONE : row * columns + column;
        }

        int cellOf(int number) {
            return number < 0 ? NONE : cellAt(number % 8, number / 8);
        }

        int numberOf(int cell) {
            return cell < 0 || columns < 1 ? NONE : cell / columns * 8 + cell % columns;
        }

        /** The cell next to one, sides 0 to 3 in the order in which these lie row by row. */
        int nextTo(int cell, int side) {
            int column = columns < 1 ? 0 : cell % columns;
            switch (side) {
                case 0:
                    return cell >= columns ? cell - columns : NONE;
                case 1:
                    return column > 0 ? cell - 1 : NONE;
                case 2:
                    return column + 1 < columns ? cell + 1 : NONE;
                default:
                    return cell + columns < cells() ? cell + columns : NONE;
            }
        }

        int rowOf(int day) {
            return listRows < 1 ? NONE : day % listRows;
        }

        int topicOf(int name) {
            return placeOf(name, topicNames, topics);
        }

        int personOf(int name) {
            return placeOf(name, personNames, people);
        }

        private static int placeOf(int name, int[] names, int count) {
            for (int i = 0; i < count && i < names.length; i++) {
                if (names[i] == name) {
                    return i;
                }
            }
            return NONE;
        }

        /** Whether the topic makes a difference among those that one does not know. */
        boolean topicCounts() {
            return lifts.names(TOPIC) || tires.names(TOPIC) || holds.names(TOPIC);
        }
    }

    /** A sum or test, its parts ahead of what is done with them: numbers from 0 on, words, marks below. */
    private static final class Formula {
        private static final int FIRST_WORD = -1;
        private static final int FIRST_MARK = -100;
        private static final long LIMIT = 1000000;
        // Six open brackets leave at most six numbers waiting each, and six more around them.
        private static final int DEEP = 64;

        final int[] code = new int[MOST_BYTES];
        int length;
        private final long[] waiting = new long[DEEP];

        void add(int number) {
            if (length < code.length) {
                code[length] = number;
                length++;
            }
        }

        void addWord(int word) {
            add(FIRST_WORD - word);
        }

        void addMark(int mark) {
            add(FIRST_MARK - mark);
        }

        boolean names(int word) {
            for (int i = 0; i < length && i < code.length; i++) {
                if (code[i] == FIRST_WORD - word) {
                    return true;
                }
            }
            return false;
        }

        long value(int[] facts) {
            int top = 0;
            for (int i = 0; i < length && i < code.length && top < DEEP; i++) {
                int word = FIRST_WORD - code[i];
                if (word < 0) {
                    waiting[top] = code[i];
                    top++;
                } else if (isFact(word)) {
                    waiting[top] = facts[word];
                    top++;
                } else if (word == NOT || word == KNOWS || word == LIFTS) {
                    if (top > 0) {
                        waiting[top - 1] = ofOne(word, waiting[top - 1], facts);
                    }
                } else if (top > 1) {
                    top--;
                    waiting[top - 1] = ofTwo(code[i], waiting[top - 1], waiting[top]);
                }
            }
            return top > 0 ? waiting[0] : 0;
        }

        private static boolean isFact(int word) {
            return word == TIRED || word == TOPIC || word >= HEIGHT && word <= ROW;
        }

        private static long ofOne(int word, long a, int[] facts) {
            if (word == NOT) {
                return a == 0 ? 1 : 0;
            }
            if (a < 0 || a >= MOST_TOPICS) {
                return 0;
            }
            int topic = (int) a;
            return word == KNOWS ? facts[KNOWS] >> topic & 1 : facts[LIFTED + topic];
        }

        private static long ofTwo(int code, long a, long b) {
            switch (code) {
                case FIRST_MARK - '+':
                    return Math.max(-LIMIT, Math.min(LIMIT, a + b));
                case FIRST_MARK - '-':
                    return Math.max(-LIMIT, Math.min(LIMIT, a - b));
                case FIRST_MARK - '*':
                    return Math.max(-LIMIT, Math.min(LIMIT, a * b));
                case FIRST_MARK - '/':
                    return b == 0 ? 0 : Math.floorDiv(a, b);
                case FIRST_MARK - '<':
                    return a < b ? 1 : 0;
                case FIRST_MARK - '>':
                    return a > b ? 1 : 0;
                case FIRST_MARK - '=':
                    return a == b ? 1 : 0;
                case FIRST_WORD - AND:
                case FIRST_WORD - MIN:
                    return Math.min(a, b);
                default:
                    return Math.max(a, b);
            }
        }
    }

    /** The tape as words, numbers and marks, of which one is looked at; and the first fault. */
    private static final class Text {
        // A mark's kind is its byte.
        static final int ENDED = -1;
        static final int WORD = -2;
        private static final int DIGITS = -3;
        private static final int UNPARTED = -4;

        private final int[] bytes;
        private int length;
        private int next;
        int kind;
        int start;
        private int size;
        int word;
        private int name;
        private int value;
        /** Where the one that was looked at ahead of this began. */
        int taken;
        int fault;
        int place;

        Text(int[] bytes) {
            this.bytes = bytes;
        }

        void begin(int newLength) {
            length = Math.min(newLength, bytes.length);
            next = 0;
            kind = ENDED;
            start = 0;
            fault = 0;
            place = NONE;
            advance();
        }

        void advance() {
            boolean glues = kind == WORD || kind == DIGITS;
            int from = next;
            taken = start;
            while (next < length && (bytes[next] == 10 || bytes[next] == 32)) {
                next++;
            }
            start = next;
            if (next >= length) {
                kind = ENDED;
            } else if (bytes[next] >= 'a' && bytes[next] <= 'z') {
                takeLetters();
                word = size > NAME_LETTERS ? NONE : wordOf(name);
            } else if (bytes[next] >= '0' && bytes[next] <= '9') {
                takeDigits();
            } else {
                kind = bytes[next];
                next++;
            }
            if (glues && start == from && (kind == WORD || kind == DIGITS)) {
                kind = UNPARTED;
            }
        }

        private void takeLetters() {
            name = 0;
            while (next < length && bytes[next] >= 'a' && bytes[next] <= 'z') {
                if (next - start < NAME_LETTERS) {
                    name |= bytes[next] - 'a' + 1 << 5 * (next - start);
                }
                next++;
            }
            size = next - start;
            kind = WORD;
        }

        private void takeDigits() {
            value = 0;
            while (next < length && bytes[next] >= '0' && bytes[next] <= '9') {
                if (next - start < NUMBER_DIGITS) {
                    value = value * 10 + bytes[next] - '0';
                }
                next++;
            }
            size = next - start;
            kind = DIGITS;
        }

        private static int wordOf(int name) {
            int number = 0;
            int letters = 0;
            int other = 0;
            for (int i = 0; i < WORDS.length(); i++) {
                char sign = WORDS.charAt(i);
                if (sign != ' ') {
                    other |= sign - 'a' + 1 << 5 * letters;
                    letters++;
                } else if (other == name) {
                    return number;
                } else {
                    number++;
                    letters = 0;
                    other = 0;
                }
            }
            return NONE;
        }

        /** Always false, so that readers can end with it. */
        boolean fails(int newFault, int newPlace) {
            if (fault == 0) {
                fault = newFault;
                place = newPlace;
            }
            return false;
        }

        boolean isWord(int wanted) {
            return kind == WORD && word == wanted;
        }

        boolean takesWord(int wanted) {
            if (!isWord(wanted)) {
                return fails(NO_SUCH_TEXT, start);
            }
            advance();
            return true;
        }

        boolean takesMark(int wanted) {
            if (kind != wanted) {
                return fails(NO_SUCH_TEXT, start);
            }
            advance();
            return true;
        }

        /** NONE with a fault. */
        int takeNumber(int least, int most) {
            if (kind != DIGITS) {
                fails(NO_SUCH_TEXT, start);
            } else if (size > NUMBER_DIGITS) {
                fails(NO_SUCH_TEXT, start + NUMBER_DIGITS);
            } else if (value < least || value > most) {
                fails(NO_SUCH_NUMBER, start);
            } else {
                int number = value;
                advance();
                return number;
            }
            return NONE;
        }

        /** NONE with a fault. */
        int takeName() {
            if (kind != WORD) {
                fails(NO_SUCH_TEXT, start);
            } else if (size > NAME_LETTERS) {
                fails(NO_SUCH_TEXT, start + NAME_LETTERS);
            } else if (word != NONE && word < FIRST) {
                fails(NO_SUCH_TEXT, start);
            } else {
                int given = name;
                advance();
                return given;
            }
            return NONE;
        }
    }

    /** Reads sums, tests, questions; how many brackets and their like are open is carried along. */
    private static final class FormulaReader {
        static final int OF_LIFTS = 0;
        static final int OF_OTHERS = 1;
        private static final int OF_QUESTIONS = 2;

        private final Text text;
        private Formula into;
        private int place;

        FormulaReader(Text text, Formula into) {
            this.text = text;
            this.into = into;
        }

        /** What is read next goes into it. */
        void begin(Formula formula, int newPlace) {
            into = formula;
            into.length = 0;
            place = newPlace;
        }

        /** The word at its head; NONE with a fault. */
        int readQuestion(Formula formula) {
            int head = text.kind == Text.WORD ? text.word : NONE;
            if (head < FIRST || head > LEAST) {
                text.fails(NO_SUCH_TEXT, text.start);
                return NONE;
            }
            text.advance();
            begin(formula, OF_QUESTIONS);
            boolean read = head <= OFTEN ? test(0) : sum(0);
            return read && text.takesMark(Text.ENDED) ? head : NONE;
        }

        private boolean test(int open) {
            boolean read = both(open);
            for (int i = 0; i < MOST_BYTES && read && text.isWord(OR); i++) {
                text.advance();
                read = both(open);
                into.addWord(OR);
            }
            return read;
        }

        private boolean both(int open) {
            boolean read = fact(open);
            for (int i = 0; i < MOST_BYTES && read && text.isWord(AND); i++) {
                text.advance();
                read = fact(open);
                into.addWord(AND);
            }
            return read;
        }

        private boolean fact(int open) {
            if (text.isWord(NOT)) {
                boolean read = opens(open) && fact(open + 1);
                into.addWord(NOT);
                return read;
            }
            if (text.kind == '[') {
                return opens(open) && test(open + 1) && text.takesMark(']');
            }
            if (text.isWord(ALL)) {
                text.advance();
                into.add(1);
                return true;
            }
            if (!sum(open)) {
                return false;
            }
            int sign = text.kind;
            if (sign != '<' && sign != '>' && sign != '=') {
                return text.fails(NO_SUCH_TEXT, text.start);
            }
            text.advance();
            boolean read = sum(open);
            into.addMark(sign);
            return read;
        }

        private boolean opens(int open) {
            if (open >= MOST_OPEN) {
                return text.fails(TOO_DEEP, text.start);
            }
            text.advance();
            return true;
        }

        private boolean sum(int open) {
            boolean read = product(open);
            for (int i = 0; i < MOST_BYTES && read && (text.kind == '+' || text.kind == '-'); i++) {
                int sign = text.kind;
                text.advance();
                read = product(open);
                into.addMark(sign);
            }
            return read;
        }

        private boolean product(int open) {
            boolean read = part(open);
            for (int i = 0; i < MOST_BYTES && read && (text.kind == '*' || text.kind == '/'); i++) {
                int sign = text.kind;
                text.advance();
                read = part(open);
                into.addMark(sign);
            }
            return read;
        }

        private boolean part(int open) {
            if (text.kind == '(') {
                return opens(open) && sum(open + 1) && text.takesMark(')');
            }
            if (text.kind != Text.WORD) {
                int number = text.takeNumber(0, MOST_NUMBER);
                if (number != NONE) {
                    into.add(number);
                }
                return number != NONE;
            }
            int word = text.word;
            if (word == MIN || word == MAX) {
                return ofTwoSums(open, word);
            }
            if (place == OF_QUESTIONS && (word == KNOWS || word == LIFTS)) {
                boolean read = opens(open) && part(open + 1);
                into.addWord(word);
                return read;
            }
            if (!isFactHere(word)) {
                return text.fails(NO_SUCH_TEXT, text.start);
            }
            text.advance();
            into.addWord(word);
            return true;
        }

        private boolean ofTwoSums(int open, int word) {
            text.advance();
            if (text.kind != '(') {
                return text.fails(NO_SUCH_TEXT, text.start);
            }
            boolean read = opens(open) && sum(open + 1) && text.takesMark(',') && sum(open + 1)
                    && text.takesMark(')');
            into.addWord(word);
            return read;
        }

        private boolean isFactHere(int word) {
            switch (word) {
                case TIRED:
                case HEIGHT:
                case KNOWN:
                case DAY:
                    return true;
                case TOPIC:
                    return place != OF_QUESTIONS;
                case SIDE:
                    return place == OF_LIFTS;
                case NUMBER:
                case COLUMN:
                case ROW:
                    return place == OF_QUESTIONS;
                default:
                    return false;
            }
        }
    }

    /** Reads a plain into the draft. */
    private static final class PlainReader {
        private final Text text;
        private final FormulaReader formulas;
        Plain draft = new Plain();

        PlainReader(Text text, FormulaReader formulas) {
            this.text = text;
            this.formulas = formulas;
        }

        /** How many statements; what it is with a fault is free. */
        int read() {
            draft.clear();
            if (!readPlain()) {
                return NONE;
            }
            int statements = 1;
            while (statements < MOST_STATEMENTS && text.kind != Text.ENDED) {
                if (!readStatement() || !text.takesMark(';')) {
                    return NONE;
                }
                statements++;
            }
            if (text.kind != Text.ENDED) {
                text.fails(TOO_MANY, text.start);
            }
            return statements;
        }

        private boolean readPlain() {
            if (!text.takesWord(PLAIN)) {
                return false;
            }
            int columns = text.takeNumber(LEAST_SIDE, MOST_SIDE);
            if (columns == NONE || !text.takesWord(BY)) {
                return false;
            }
            int rows = text.takeNumber(LEAST_SIDE, MOST_SIDE);
            if (rows == NONE || !text.takesMark(';')) {
                return false;
            }
            draft.columns = columns;
            draft.rows = rows;
            return true;
        }

        private boolean readStatement() {
            int word = text.kind == Text.WORD ? text.word : NONE;
            if (isOneTooMany(word)) {
                return text.fails(TOO_MANY, text.start);
            }
            switch (word) {
                case HIGH:
                    return readHigh();
                case TOPIC:
                    return readTopic();
                case PERSON:
                    return readPerson();
                case KNOWS:
                    return readKnows();
                case ASKS:
                    return readAsks();
                case LIFTS:
                    draft.liftsTold = true;
                    beginRule(draft.lifts, FormulaReader.OF_LIFTS);
                    return formulas.sum(0);
                case TIRES:
                    draft.tiresTold = true;
                    beginRule(draft.tires, FormulaReader.OF_OTHERS);
                    return formulas.sum(0);
                case HOLDS:
                    draft.holdsTold = true;
                    beginRule(draft.holds, FormulaReader.OF_OTHERS);
                    return formulas.test(0);
                case CROWD:
                    return readCrowd();
                default:
                    return text.fails(NO_SUCH_TEXT, text.start);
            }
        }

        private boolean isOneTooMany(int word) {
            switch (word) {
                case TOPIC:
                    return draft.topics >= MOST_TOPICS;
                case PERSON:
                    return draft.people >= MOST_PEOPLE;
                case ASKS:
                    return draft.listRows >= MOST_ROWS;
                case LIFTS:
                    return draft.liftsTold;
                case TIRES:
                    return draft.tiresTold;
                case HOLDS:
                    return draft.holdsTold;
                default:
                    return false;
            }
        }

        private boolean readHigh() {
            text.advance();
            int column = text.takeNumber(0, draft.columns - 1);
            if (column == NONE) {
                return false;
            }
            int row = text.takeNumber(0, draft.rows - 1);
            if (row == NONE) {
                return false;
            }
            int height = text.takeNumber(0, MOST_HEIGHT);
            int cell = draft.cellAt(column, row);
            if (height == NONE || cell == NONE) {
                return false;
            }
            draft.start.high[cell] = height;
            return true;
        }

        /** Whether the name that was taken is none yet. */
        private boolean isNew(int name) {
            if (name == NONE) {
                return false;
            }
            if (draft.topicOf(name) != NONE || draft.personOf(name) != NONE) {
                return text.fails(NO_SUCH_NAME, text.taken);
            }
            return true;
        }

        private boolean readTopic() {
            text.advance();
            int name = text.takeName();
            if (!isNew(name)) {
                return false;
            }
            draft.topicNames[draft.topics] = name;
            draft.topics++;
            return true;
        }

        private boolean readPerson() {
            text.advance();
            int name = text.takeName();
            if (!isNew(name) || !text.takesWord(AT)) {
                return false;
            }
            int column = text.takeNumber(0, draft.columns - 1);
            if (column == NONE) {
                return false;
            }
            int row = text.takeNumber(0, draft.rows - 1);
            if (row == NONE) {
                return false;
            }
            if (draft.start.isSomeoneAt(column, row, draft.people)) {
                return text.fails(NO_SUCH_NUMBER, text.taken);
            }
            int tired = text.takesWord(TIRED) ? text.takeNumber(0, MOST_TIRED) : NONE;
            if (tired == NONE) {
                return false;
            }
            draft.personNames[draft.people] = name;
            draft.start.column[draft.people] = column;
            draft.start.row[draft.people] = row;
            draft.start.tired[draft.people] = tired;
            draft.start.known[draft.people] = 0;
            draft.people++;
            return true;
        }

        /** The person of the name that was taken; NONE with a fault. */
        private int asPerson(int name) {
            int person = draft.personOf(name);
            if (person == NONE) {
                text.fails(NO_SUCH_NAME, text.taken);
            }
            return person;
        }

        /** The topic of the name that was taken; NONE with a fault. */
        private int asTopic(int name) {
            int topic = draft.topicOf(name);
            if (topic == NONE) {
                text.fails(NO_SUCH_NAME, text.taken);
            }
            return topic;
        }

        private boolean readKnows() {
            text.advance();
            int person = asPerson(text.takeName());
            if (person == NONE || !text.takesWord(OF)) {
                return false;
            }
            int topic = asTopic(text.takeName());
            if (topic == NONE) {
                return false;
            }
            if ((draft.start.known[person] >> topic & 1) == 1) {
                return text.fails(NO_SUCH_NAME, text.taken);
            }
            draft.start.known[person] |= 1 << topic;
            return true;
        }

        private boolean readAsks() {
            text.advance();
            int person = asPerson(text.takeName());
            if (person == NONE || !text.takesWord(OF)) {
                return false;
            }
            int topic = asTopic(text.takeName());
            if (topic == NONE) {
                return false;
            }
            draft.listPerson[draft.listRows] = person;
            draft.listTopic[draft.listRows] = topic;
            draft.listRows++;
            return true;
        }

        private void beginRule(Formula formula, int place) {
            text.advance();
            formulas.begin(formula, place);
        }

        private boolean readCrowd() {
            text.advance();
            int crowd = text.takeNumber(0, MOST_CROWD);
            if (crowd == NONE) {
                return false;
            }
            draft.crowd = crowd;
            return true;
        }
    }

    /** What comes of asking, by the plain that is told. */
    private static final class World {
        Plain told;
        /** By the latest one who was asked. */
        int lifted;
        private final int[] facts = new int[FACTS];
        private final Land trial = new Land();
        private int own;
        private int left;
        private int right;
        private int level;
        private int highest;

        World(Plain told) {
            this.told = told;
        }

        private void gather(Land land, int person, int[] into) {
            int cell = told.cellAt(land.column[person], land.row[person]);
            into[TIRED] = land.tired[person];
            into[HEIGHT] = cell == NONE ? 0 : land.high[cell];
            into[KNOWN] = Integer.bitCount(land.known[person]);
            into[DAY] = land.day;
        }

        /** The facts of a question. */
        void describe(Land land, int person, int[] into, boolean lifting) {
            gather(land, person, into);
            into[NUMBER] = person;
            into[COLUMN] = land.column[person];
            into[ROW] = land.row[person];
            into[KNOWS] = land.known[person];
            for (int topic = 0; topic < MOST_TOPICS; topic++) {
                into[LIFTED + topic] = 0;
                if (lifting && topic < told.topics) {
                    trial.copyFrom(land);
                    asked(trial, person, topic);
                    into[LIFTED + topic] = lifted;
                }
            }
        }

        int deed(Land land, int person, int topic) {
            if ((land.known[person] >> topic & 1) == 1) {
                return ANSWERS;
            }
            gather(land, person, facts);
            facts[TOPIC] = topic;
            return told.holds.value(facts) != 0 ? KEEPS_IT : SHRUGS;
        }

        int asked(Land land, int person, int topic) {
            lifted = 0;
            int deed = deed(land, person, topic);
            if (deed == SHRUGS) {
                lookAround(land, person);
                lift(land, left);
                lift(land, right);
                land.tired[person] = within(told.tires.value(facts), MOST_TIRED);
            }
            return deed;
        }

        private static int within(long value, int most) {
            if (value < 0) {
                return 0;
            }
            return value > most ? most : (int) value;
        }

        private void lookAround(Land land, int person) {
            own = told.cellAt(land.column[person], land.row[person]);
            left = told.cellAt(land.column[person] - 1, land.row[person]);
            right = told.cellAt(land.column[person] + 1, land.row[person]);
            level = 0;
            highest = 0;
            for (int cell = 0; cell < told.cells(); cell++) {
                if (isElsewhere(cell) && land.high[cell] > level) {
                    level = land.high[cell];
                }
            }
        }

        private boolean isElsewhere(int cell) {
            return cell != own && cell != left && cell != right;
        }

        private void lift(Land land, int cell) {
            if (cell == NONE) {
                return;
            }
            facts[SIDE] = land.high[cell];
            int times = within(told.lifts.value(facts), MOST_LIFTED);
            for (int i = 0; i < times && land.high[cell] < MOST_HEIGHT && findHighest(land); i++) {
                land.high[highest]--;
                land.high[cell]++;
                lifted++;
            }
        }

        /**
         * Whether one elsewhere is above 0. All ahead of the latest one found are below the level already, as it was
         * the first of the highest; so the search goes on from there.
         */
        private boolean findHighest(Land land) {
            while (level > 0) {
                for (; highest < told.cells(); highest++) {
                    if (land.high[highest] == level && isElsewhere(highest)) {
                        return true;
                    }
                }
                highest = 0;
                level--;
            }
            return false;
        }

        /** A day on which the silent ones do nothing. */
        void passDay(Land land, int silent) {
            int row = told.rowOf(land.day);
            if (row != NONE && (silent >> told.listPerson[row] & 1) == 0) {
                asked(land, told.listPerson[row], told.listTopic[row]);
            }
            land.day++;
        }
    }

    /** What is kept, and what was ahead of the latest acts. */
    private static final class Past {
        final int[] kept = new int[MOST_KEPT * ROW_PARTS];
        int keptRows;
        int acts;
        private int oldest;
        private final Land[] lands = new Land[MOST_UNDONE];
        private final int[][] keptThen = new int[MOST_UNDONE][MOST_KEPT * ROW_PARTS];
        private final int[] keptRowsThen = new int[MOST_UNDONE];

        Past() {
            for (int i = 0; i < MOST_UNDONE; i++) {
                lands[i] = new Land();
            }
        }

        void forget() {
            keptRows = 0;
            acts = 0;
        }

        void keep(int day, int person, int topic, int much) {
            if (keptRows >= MOST_KEPT) {
                System.arraycopy(kept, ROW_PARTS, kept, 0, kept.length - ROW_PARTS);
                keptRows = MOST_KEPT - 1;
            }
            int at = keptRows * ROW_PARTS;
            kept[at] = day;
            kept[at + 1] = person;
            kept[at + 2] = topic;
            kept[at + 3] = much;
            keptRows++;
        }

        void remember(Land now) {
            int at = (oldest + acts) % MOST_UNDONE;
            lands[at].copyFrom(now);
            System.arraycopy(kept, 0, keptThen[at], 0, kept.length);
            keptRowsThen[at] = keptRows;
            if (acts < MOST_UNDONE) {
                acts++;
            } else {
                oldest = (oldest + 1) % MOST_UNDONE;
            }
        }

        boolean goBack(Land now) {
            if (acts == 0) {
                return false;
            }
            acts--;
            int at = (oldest + acts) % MOST_UNDONE;
            now.copyFrom(lands[at]);
            System.arraycopy(keptThen[at], 0, kept, 0, kept.length);
            keptRows = keptRowsThen[at];
            return true;
        }
    }

    /** Days ahead, on copies of the land. */
    private static final class Foresight {
        private final World world;
        private final Land trial = new Land();
        /** For each person the land as it is if he was asked. */
        private final Land[] lands = new Land[MOST_PEOPLE];
        final int[] seen = new int[MOST_SEEN * ROW_PARTS];
        int seenRows;
        /** For each set of silent ones those of all people. */
        private final int[] ownHeights = new int[MOST_PEOPLE << MOST_PEOPLE];
        int tellingDay;
        int tellingCell;
        int tellingLeft;

        Foresight(World world) {
            this.world = world;
            for (int i = 0; i < MOST_PEOPLE; i++) {
                lands[i] = new Land();
            }
        }

        /** The land behind n days on which the silent ones do nothing. */
        Land behind(Land now, int n, int silent) {
            trial.copyFrom(now);
            for (int i = 0; i < n; i++) {
                world.passDay(trial, silent);
            }
            return trial;
        }

        int daysToRise(Land now, int cell, int height) {
            trial.copyFrom(now);
            for (int n = 0; n <= MOST_AHEAD && trial.day <= LAST_DAY; n++) {
                if (trial.high[cell] >= height) {
                    return n;
                }
                world.passDay(trial, 0);
            }
            return NONE;
        }

        /** Of the land as it is behind the days of a set of silent ones. */
        void learnOwnHeights(Land land, int set) {
            for (int person = 0; person < world.told.people; person++) {
                int cell = world.told.cellAt(land.column[person], land.row[person]);
                ownHeights[set * MOST_PEOPLE + person] = cell == NONE ? 0 : land.high[cell];
            }
        }

        /** By the own heights of all sets. */
        boolean isAtRest(int set) {
            for (int person = 0; person < world.told.people; person++) {
                int otherwise = set ^ 1 << person;
                if (ownHeights[otherwise * MOST_PEOPLE + person] > ownHeights[set * MOST_PEOPLE + person]) {
                    return false;
                }
            }
            return true;
        }

        private void askEach(Land now, int topic) {
            for (int person = 0; person < world.told.people; person++) {
                lands[person].copyFrom(now);
                world.asked(lands[person], person, topic);
            }
        }

        int whoFits(Land now, int topic) {
            int people = (1 << world.told.people) - 1;
            if (seenRows == 0) {
                return people;
            }
            askEach(now, topic);
            for (int n = 0; n <= LAST_SEEN; n++) {
                for (int person = 0; person < world.told.people; person++) {
                    if (!isAsSeen(lands[person], n)) {
                        people &= ~(1 << person);
                    }
                    world.passDay(lands[person], 0);
                }
            }
            return people;
        }

        private boolean isAsSeen(Land land, int n) {
            for (int at = 0; at < seenRows * ROW_PARTS && at + ROW_PARTS <= seen.length; at += ROW_PARTS) {
                if (seen[at] == n) {
                    int cell = world.told.cellAt(seen[at + 1], seen[at + 2]);
                    if (land.day > LAST_DAY || cell == NONE || land.high[cell] != seen[at + 3]) {
                        return false;
                    }
                }
            }
            return true;
        }

        void findTelling(Land now, int topic, int people) {
            tellingDay = 0;
            tellingCell = 0;
            tellingLeft = MOST_PEOPLE + 1;
            askEach(now, topic);
            // One of the people is left at the least, so none is fewer than that.
            for (int n = 0; n <= LAST_SEEN && now.day + n <= LAST_DAY && tellingLeft > 1; n++) {
                for (int cell = 0; cell < world.told.cells(); cell++) {
                    int left = mostLeft(people, cell);
                    if (left < tellingLeft) {
                        tellingDay = n;
                        tellingCell = cell;
                        tellingLeft = left;
                    }
                }
                for (int person = 0; person < world.told.people; person++) {
                    world.passDay(lands[person], 0);
                }
            }
        }

        private int mostLeft(int people, int cell) {
            int most = 0;
            for (int person = 0; person < world.told.people; person++) {
                int left = 0;
                for (int other = 0; other < world.told.people && (people >> person & 1) == 1; other++) {
                    if ((people >> other & 1) == 1 && lands[other].high[cell] == lands[person].high[cell]) {
                        left++;
                    }
                }
                most = left > most ? left : most;
            }
            return most;
        }
    }

    /** Looks for the fewest askings. */
    private static final class Planner {
        private final World world;
        private final Land[] lands = new Land[MOST_ASKINGS + 1];
        /** 8 times the person and the topic. */
        final int[] chosen = new int[MOST_ASKINGS];
        private int up;
        private int height;
        private int stay;
        private boolean topicCounts;

        Planner(World world) {
            this.world = world;
            for (int i = 0; i <= MOST_ASKINGS; i++) {
                lands[i] = new Land();
            }
        }

        /** How many askings; NONE without a plan. */
        int find(Land now, int upCell, int newHeight, int stayCell) {
            lands[0].copyFrom(now);
            up = upCell;
            height = newHeight;
            stay = stayCell;
            topicCounts = world.told.topicCounts();
            for (int askings = 0; askings <= MOST_ASKINGS; askings++) {
                if (goesOn(0, askings)) {
                    return askings;
                }
            }
            return NONE;
        }

        private boolean goesOn(int done, int askings) {
            Land land = lands[done];
            if (done >= askings) {
                return land.high[up] >= height && land.high[stay] == lands[0].high[stay];
            }
            for (int person = 0; person < world.told.people; person++) {
                int behind = askings - done - 1;
                if (mayRise(land, up, height, person, behind)
                        && mayRise(land, stay, lands[0].high[stay], person, behind)
                        && goesOnBy(person, done, askings)) {
                    return true;
                }
            }
            return false;
        }

        /** Whether a cell may come up so far, if he is asked and so many behind him; spares rows that can't end well. */
        private boolean mayRise(Land land, int cell, int wanted, int person, int behind) {
            int column = land.column[person];
            int row = land.row[person];
            boolean beside = world.told.cellAt(column - 1, row) == cell || world.told.cellAt(column + 1, row) == cell;
            return land.high[cell] + MOST_LIFTED * (beside ? behind + 1 : behind) >= wanted;
        }

        /** Who does not shrug is passed over: without that asking there would be a shorter plan. */
        private boolean goesOnBy(int person, int done, int askings) {
            boolean tried = false;
            for (int topic = 0; topic < world.told.topics && !(tried && !topicCounts); topic++) {
                lands[done + 1].copyFrom(lands[done]);
                if (world.asked(lands[done + 1], person, topic) == SHRUGS) {
                    tried = true;
                    chosen[done] = 8 * person + topic;
                    if (goesOn(done + 1, askings)) {
                        return true;
                    }
                }
            }
            return false;
        }
    }

    /** Ways over the land, and where water runs to. */
    private static final class Ways {
        private static final int FAR = 1000000;
        private final int[] costs = new int[MOST_CELLS];

        int cost(Plain told, Land land, int from, int to) {
            Arrays.fill(costs, FAR);
            costs[from] = 0;
            boolean better = true;
            for (int i = 0; i < MOST_CELLS && better; i++) {
                better = false;
                for (int cell = 0; cell < told.cells(); cell++) {
                    if (improves(told, land, cell)) {
                        better = true;
                    }
                }
            }
            return costs[to];
        }

        /** Whether a step from one next to it makes a cell cheaper. */
        private boolean improves(Plain told, Land land, int cell) {
            boolean better = false;
            for (int side = 0; side < 4; side++) {
                int other = told.nextTo(cell, side);
                if (other != NONE) {
                    int cost = costs[other] + 1 + Math.abs(land.high[cell] - land.high[other]);
                    if (cost < costs[cell]) {
                        costs[cell] = cost;
                        better = true;
                    }
                }
            }
            return better;
        }

        int lowestFrom(Plain told, Land land, int from) {
            int cell = from;
            for (int i = 0; i < MOST_CELLS; i++) {
                int lowest = cell;
                for (int side = 0; side < 4; side++) {
                    int other = told.nextTo(cell, side);
                    if (other != NONE && land.high[other] < land.high[lowest]) {
                        lowest = other;
                    }
                }
                if (lowest == cell) {
                    return cell;
                }
                cell = lowest;
            }
            return cell;
        }
    }
}
