import java.util.Arrays;

/** Heads that go about in a house whose rooms feel how many are in them. README.md tells how it is used. */
public final class HeadCounts {
    /** None. */
    public static final int NONE = -1;

    private static final int CANNOT = -2;
    private static final int UNKNOWN = -3;

    private static final int TAPE_BYTES = 400;
    private static final int MOST_ROOMS = 6;
    private static final int MOST_DOORS = 10;
    private static final int MOST_HEADS = 6;
    private static final int MOST_SENSES = 6;
    private static final int MOST_ECHOES = 6;
    private static final int MOST_RULES = 6;
    private static final int MOST_IMAGES = 4;
    private static final int MOST_TOLD = 12;
    private static final int MOST_UNDONE = 20;
    private static final int MOST_HALVES = 99;
    private static final int MOST_SITUATIONS = 1000;
    private static final int LAST_MINUTE = 9999;
    /** Rows of counts that are kept: of now and of the nine minutes ahead of it. */
    private static final int ROWS_KEPT = 10;
    /** Six heads of four halves are 24 at most, so a count is one of so many. */
    private static final int UNLIKE_COUNTS = 25;
    /** A head that lives counts till a minute that never comes. */
    private static final int EVER = 1000000;
    /** The counts of all senses stand side by side in one number, each in so many bits. */
    private static final int SENSE_BITS = 8;

    private static final int WRONG_SIGN = 0;
    private static final int WRONG_NUMBER = 1;
    private static final int TOO_DEEP = 2;
    private static final int TOO_MANY_VALUES = 3;
    private static final int WRONG_CLAUSE = 4;

    private final byte[] tape = new byte[TAPE_BYTES];
    private int tapeLength;
    private final Reader reader = new Reader(tape);
    private final HouseReader houseReader = new HouseReader(reader);
    private final RuleReader ruleReader = new RuleReader(reader);
    private final Rule[] rules = new Rule[MOST_RULES];
    private int ruleCount;
    private final World world = new World(new House());
    private final World[] images = new World[MOST_IMAGES];
    private final State trial = new State(world.now.house);
    private long draw;
    private final Scene scene = new Scene();
    private final Search search = new Search(scene);
    private final Crossing crossing = new Crossing(scene);
    private final Watching watching = new Watching(scene);

    public HeadCounts() {
    }

    public int feed(int a, int b, int c, int d, int e) {
        if (tapeLength + 20 > TAPE_BYTES) {
            return NONE;
        }
        putBytes(a);
        putBytes(b);
        putBytes(c);
        putBytes(d);
        putBytes(e);
        return tapeLength;
    }

    public int end(int n) {
        if (n < 0 || n > tapeLength) {
            return NONE;
        }
        tapeLength = n;
        return n;
    }

    public int house() {
        House read = houseReader.read(tapeLength);
        tapeLength = 0;
        if (read == null) {
            return -2 - reader.fault;
        }
        world.enter(read);
        search.isSummed = false;
        return read.heads;
    }

    public int rule() {
        if (ruleCount >= MOST_RULES) {
            return NONE;
        }
        Rule read = ruleReader.read(tapeLength);
        tapeLength = 0;
        if (read == null) {
            return -2 - reader.fault;
        }
        rules[ruleCount] = read;
        ruleCount++;
        return ruleCount - 1;
    }

    public int head(int head, int what) {
        if (!isHead(head)) {
            return NONE;
        }
        State now = world.now;
        switch (what) {
            case 0: return now.at[head];
            case 1: return now.house.halves[head];
            case 2: return now.house.home[head];
            case 3: return now.came[head];
            case 4: return now.gone[head];
            case 5: return now.isAlive(head) ? 0 : now.isCounted(head) ? 1 : 2;
            default: return NONE;
        }
    }

    public int room(int room, int what) {
        if (!isRoom(room)) {
            return NONE;
        }
        State now = world.now;
        switch (what) {
            case 0: return now.counts[room];
            case 1: return now.feltIn(room);
            case 2: return now.livingIn(room);
            case 3: return now.house.most[room];
            case 4: return now.house.delay[room];
            case 5: return now.links[room];
            default: return NONE;
        }
    }

    public int door(int door, int what) {
        if (!isDoor(door)) {
            return NONE;
        }
        State now = world.now;
        switch (what) {
            case 0: return now.house.doorFrom[door];
            case 1: return now.house.doorTo[door];
            case 2: return now.isOpen(door) ? 1 : 0;
            default: return NONE;
        }
    }

    public int sense(int sense, int what) {
        if (!isSense(sense)) {
            return NONE;
        }
        switch (what) {
            case 0: return world.now.house.senseRooms[sense];
            case 1: return world.now.feltBy(sense);
            default: return NONE;
        }
    }

    public int was(int room, int ago) {
        if (!isRoom(room) || ago < 0 || ago >= ROWS_KEPT || ago > world.now.minute) {
            return NONE;
        }
        return world.now.countAgo(room, ago);
    }

    public int go(int head, int room, boolean isBackwards) {
        if (!isHead(head) || !isRoom(room) || !canPass(1) || !world.now.canGo(head, room)) {
            return NONE;
        }
        world.passMinute(head, room, isBackwards);
        search.isSummed = false;
        return world.now.minute;
    }

    public int rest() {
        if (!hasHouse() || !canPass(1)) {
            return NONE;
        }
        world.passMinute(NONE, NONE, false);
        return world.now.minute;
    }

    public boolean die(int head) {
        if (!isHead(head) || !world.now.isAlive(head)) {
            return false;
        }
        world.now.kill(head);
        search.isSummed = false;
        return true;
    }

    public boolean open(int door, boolean is) {
        if (!isDoor(door) || world.now.isOpen(door) == is) {
            return false;
        }
        world.now.turnDoor(door);
        search.isSummed = false;
        return true;
    }

    public int undo() {
        if (world.undoCount == 0) {
            return NONE;
        }
        world.takeBack();
        search.isSummed = false;
        return world.undoCount;
    }

    public int run(int rule, int n) {
        if (!hasHouse() || !isRule(rule) || n < 1 || n > 60 || !canPass(n)) {
            return NONE;
        }
        for (int i = 0; i < n; i++) {
            passByRule(rules[rule]);
        }
        search.isSummed = false;
        return world.now.minute;
    }

    public int would(int rule, int head) {
        if (!isRule(rule) || !isLiving(head)) {
            return NONE;
        }
        int room = rules[rule].roomFor(world.now, head);
        return room == NONE ? CANNOT : room;
    }

    public int tell(int minutes, int sense, int halves) {
        if (minutes == NONE) {
            world.told = 0;
            search.isSummed = false;
            return 0;
        }
        if (minutes < 0 || minutes > 8 || !isSense(sense) || !isHalves(halves) || world.told >= MOST_TOLD) {
            return CANNOT;
        }
        world.addTold(minutes, sense, halves);
        search.isSummed = false;
        return world.told;
    }

    public long fits() {
        if (!hasHouse()) {
            return NONE;
        }
        search.sumUp(world);
        return search.total;
    }

    public int who(int head) {
        if (!isLiving(head)) {
            return NONE;
        }
        search.sumUp(world);
        return search.ends[head];
    }

    public int first() {
        return hasHouse() ? search.firstNotSo(world) : NONE;
    }

    public int next(int what) {
        if (!hasHouse() || what < 0 || what > 2) {
            return NONE;
        }
        search.sumUp(world);
        if (what == 1) {
            return search.situations;
        }
        if (search.situations == 0) {
            return CANNOT;
        }
        return what == 0 ? search.partingRoom : search.mostAlike;
    }

    public int known(int rooms) {
        if (!hasHouse() || rooms < 0 || rooms >= 1 << world.now.house.rooms) {
            return NONE;
        }
        watching.listGoings(world.now);
        return watching.isTellingBy(rooms) ? 1 : 0;
    }

    public int watch() {
        if (!hasHouse()) {
            return NONE;
        }
        watching.listGoings(world.now);
        return watching.fewestRooms();
    }

    public int secret(int head, int room, int what) {
        if (!isLiving(head) || !isRoom(room) || room == world.now.at[head] || what < 0 || what > 6) {
            return NONE;
        }
        crossing.seekSecret(world.now, head, room);
        if (crossing.goers == CANNOT) {
            return CANNOT;
        }
        return what == 0 ? crossing.goers : crossing.roomBehind(what - 1);
    }

    public int theft(int head, int room, int what) {
        if (!isLiving(head) || !isRoom(room) || what < 0 || what > 1) {
            return NONE;
        }
        crossing.seekTheft(world.now, head, room);
        return what == 0 || crossing.minutes < 0 ? crossing.minutes : crossing.goers;
    }

    public int gather(int room, int halves, int what) {
        if (!isRoom(room) || !isHalves(halves) || what < 0 || what > 2) {
            return NONE;
        }
        search.seekCount(world.now, room, halves);
        if (what == 0) {
            return search.minutes;
        }
        return what == 1 ? search.firstHead : search.firstRoom;
    }

    public long messages(int head, int n) {
        if (!isLiving(head) || n < 0 || n > 12) {
            return NONE;
        }
        return watching.rowsFelt(world.now, head, n);
    }

    public int swaps(int what) {
        if (!hasHouse() || what < 0 || what > 1) {
            return NONE;
        }
        return watching.twos(world.now, what == 0);
    }

    public int seed(int x) {
        if (x < 0) {
            return NONE;
        }
        int before = world.seed;
        world.seed = x;
        return before;
    }

    public int nights(int m, int n, int sense, int bar, int what) {
        if (m < 1 || m > 20 || n < 1 || n > 100 || !isSense(sense) || !isHalves(bar) || what < 0 || what > 1) {
            return NONE;
        }
        draw = world.seed;
        int felt = 0;
        int goings = 0;
        for (int night = 0; night < m; night++) {
            trial.copyFrom(world.now);
            for (int minute = 0; minute < n; minute++) {
                goings += passByDraw();
                felt += trial.feltBy(sense) >= bar ? 1 : 0;
            }
        }
        return what == 0 ? felt : goings;
    }

    public int count(int what) {
        State now = world.now;
        switch (what) {
            case 0: return now.house.rooms;
            case 1: return now.house.doors;
            case 2: return now.house.heads;
            case 3: return now.house.senses;
            case 4: return ruleCount;
            case 5: return now.minute;
            case 6: return now.countLiving();
            case 7: return now.echoes;
            case 8: return world.told;
            case 9: return world.undoCount;
            case 10: return now.countGoings();
            case 11: return hasHouse() ? now.house.linger : NONE;
            case 12: return world.seed;
            case 13: return tapeLength;
            default: return NONE;
        }
    }

    public int image(int k) {
        if (k < 0 || k >= MOST_IMAGES) {
            return NONE;
        }
        if (images[k] == null) {
            images[k] = new World(world.now.house);
        }
        images[k].copyFrom(world);
        return world.now.minute;
    }

    public int back(int k) {
        if (k < 0 || k >= MOST_IMAGES || images[k] == null) {
            return NONE;
        }
        world.copyFrom(images[k]);
        search.isSummed = false;
        return world.now.minute;
    }

    private void putBytes(int number) {
        for (int shift = 24; shift >= 0; shift -= 8) {
            if (tapeLength < TAPE_BYTES) {
                tape[tapeLength] = (byte) (number >> shift);
                tapeLength++;
            }
        }
    }

    private boolean hasHouse() {
        return world.now.house.rooms > 0;
    }

    private boolean isHead(int head) {
        return head >= 0 && head < world.now.house.heads;
    }

    private boolean isLiving(int head) {
        return isHead(head) && world.now.isAlive(head);
    }

    private boolean isRoom(int room) {
        return room >= 0 && room < world.now.house.rooms;
    }

    private boolean isDoor(int door) {
        return door >= 0 && door < world.now.house.doors;
    }

    private boolean isSense(int sense) {
        return sense >= 0 && sense < world.now.house.senses;
    }

    private boolean isRule(int rule) {
        return rule >= 0 && rule < ruleCount && rules[rule] != null;
    }

    private static boolean isHalves(int halves) {
        return halves >= 0 && halves <= MOST_HALVES;
    }

    private boolean canPass(int minutes) {
        return world.now.minute + minutes <= LAST_MINUTE;
    }

    private void passByRule(Rule rule) {
        for (int head = 0; head < world.now.house.heads; head++) {
            if (world.now.isAlive(head)) {
                int room = rule.roomFor(world.now, head);
                if (room != NONE) {
                    world.passMinute(head, room, false);
                    return;
                }
            }
        }
        world.passMinute(NONE, NONE, false);
    }

    private int nextDraw() {
        draw = draw * 1103515245L + 12345L & 2147483647L;
        return (int) (draw / 65536);
    }

    /** A draw of 0 to one less than so many. */
    private int nextDrawBelow(int many) {
        int drawn = nextDraw();
        return many > 0 ? drawn % many : 0;
    }

    /** A minute of the trial by draws: how many went. */
    private int passByDraw() {
        int heads = trial.house.heads;
        int head = nextDrawBelow(heads + 1);
        if (head < heads && trial.isAlive(head)) {
            int ways = Integer.bitCount(trial.roomsFor(head));
            if (ways > 0) {
                trial.pass(head, trial.roomAmong(head, nextDrawBelow(ways)), false);
                return 1;
            }
        }
        trial.pass(NONE, NONE, false);
        return 0;
    }

    /** What a text told of rooms, doors, heads and senses; without rooms it is no house. It never changes once it is read. */
    private static final class House {
        int rooms;
        int doors;
        int heads;
        int senses;
        int linger = 3;
        final int[] doorFrom = new int[MOST_DOORS];
        final int[] doorTo = new int[MOST_DOORS];
        final int[] home = new int[MOST_HEADS];
        final int[] halves = new int[MOST_HEADS];
        final int[] delay = new int[MOST_ROOMS];
        final int[] most = new int[MOST_ROOMS];
        final int[] senseRooms = new int[MOST_SENSES];
        final int[] countsAtFirst = new int[MOST_ROOMS];

        House() {
            Arrays.fill(most, MOST_HALVES);
        }

        boolean hasDoor(int from, int to) {
            for (int door = 0; door < doors; door++) {
                if (doorFrom[door] == from && doorTo[door] == to || doorFrom[door] == to && doorTo[door] == from) {
                    return true;
                }
            }
            return false;
        }

        void addDoor(int from, int to) {
            if (doors < MOST_DOORS) {
                doorFrom[doors] = from;
                doorTo[doors] = to;
                doors++;
            }
        }

        void addHead(int room, int half) {
            if (heads < MOST_HEADS) {
                home[heads] = room;
                halves[heads] = half;
                countsAtFirst[room] += half;
                heads++;
            }
        }

        void addSense(int roomBits) {
            if (senses < MOST_SENSES) {
                senseRooms[senses] = roomBits;
                senses++;
            }
        }
    }

    /** A text, cut into words, numbers and signs, and the first fault in it. */
    private static final class Reader {
        /** With a blank behind each; their places are the kinds below. */
        private static final String WORDS =
            "head halves at home came here few crowd least greatest gone minute rooms door delay most sense linger go if and or not ";
        static final int HEAD = 0;
        /** So many words, from the first, are values of rules. */
        static final int VALUE_WORDS = 12;
        static final int ROOMS = 12;
        static final int DOOR = 13;
        static final int DELAY = 14;
        static final int MOST = 15;
        static final int SENSE = 16;
        static final int LINGER = 17;
        static final int GO = 18;
        static final int IF = 19;
        static final int AND = 20;
        static final int OR = 21;
        static final int NOT = 22;
        static final int NUMBER = 30;
        static final int LONG_NUMBER = 31;
        static final int NOT_ABOVE = 32;
        static final int NOT_BELOW = 33;
        static final int OTHER_WORD = 34;
        static final int END = 35;
        /** A sign of one byte is of the kind of its byte and so many more. */
        static final int SIGN = 100;

        private final byte[] text;
        private int length;
        private final int[] kinds = new int[TAPE_BYTES + 1];
        private final int[] numbers = new int[TAPE_BYTES + 1];
        private final int[] places = new int[TAPE_BYTES + 1];
        private int pieces;
        /** The piece that stands next; behind the last one there is the end, which is never passed. */
        private int current;
        /** 0 as long as there is none. */
        int fault;

        Reader(byte[] text) {
            this.text = text;
        }

        void begin(int textLength) {
            length = Math.min(textLength, text.length);
            pieces = 0;
            current = 0;
            fault = 0;
            int place = 0;
            for (int i = 0; i < TAPE_BYTES && place < length; i++) {
                place = text[place] == ' ' ? place + 1 : cutPiece(place);
            }
            addPiece(END, 0, length);
        }

        /** The place behind the piece that starts at one. */
        private int cutPiece(int start) {
            int byteHere = text[start];
            if (byteHere >= '0' && byteHere <= '9') {
                return cutNumber(start);
            }
            if (byteHere >= 'a' && byteHere <= 'z') {
                return cutWord(start);
            }
            if ((byteHere == '<' || byteHere == '>') && start + 1 < length && text[start + 1] == '=') {
                addPiece(byteHere == '<' ? NOT_ABOVE : NOT_BELOW, 0, start);
                return start + 2;
            }
            addPiece(SIGN + (byteHere & 255), 0, start);
            return start + 1;
        }

        private int cutNumber(int start) {
            int end = start;
            int number = 0;
            while (end < length && text[end] >= '0' && text[end] <= '9') {
                number = end - start < 5 ? number * 10 + text[end] - '0' : number;
                end++;
            }
            addPiece(end - start > 5 ? LONG_NUMBER : NUMBER, number, start);
            return end;
        }

        private int cutWord(int start) {
            int end = start;
            while (end < length && text[end] >= 'a' && text[end] <= 'z') {
                end++;
            }
            addPiece(wordIn(start, end), 0, start);
            return end;
        }

        private int wordIn(int start, int end) {
            int word = 0;
            int alike = 0;
            for (int i = 0; i < WORDS.length(); i++) {
                char letter = WORDS.charAt(i);
                if (letter == ' ') {
                    if (alike == end - start) {
                        return word;
                    }
                    word++;
                    alike = 0;
                } else if (alike >= 0 && start + alike < end && text[start + alike] == letter) {
                    alike++;
                } else {
                    alike = NONE;
                }
            }
            return OTHER_WORD;
        }

        private void addPiece(int kind, int number, int place) {
            if (pieces < kinds.length) {
                kinds[pieces] = kind;
                numbers[pieces] = number;
                places[pieces] = place;
                pieces++;
            }
        }

        void refuse(int why) {
            if (fault == 0) {
                fault = 1 + 8 * places[current] + why;
            }
        }

        int kind() {
            return kinds[current];
        }

        int number() {
            return numbers[current];
        }

        void skip() {
            if (current < pieces - 1) {
                current++;
            }
        }

        boolean takes(int kind) {
            if (fault != 0 || kinds[current] != kind) {
                return false;
            }
            skip();
            return true;
        }

        /** Behind a clause: whether another comes. */
        boolean takesSemicolon() {
            if (kinds[current] != SIGN + ';' && kinds[current] != END) {
                refuse(WRONG_SIGN);
            }
            return takes(SIGN + ';');
        }

        /** Whether a number from least to most stands here; if not, that is a fault. */
        boolean hasNumber(int least, int most) {
            if (kinds[current] != NUMBER && kinds[current] != LONG_NUMBER) {
                refuse(WRONG_SIGN);
            } else if (kinds[current] == LONG_NUMBER || numbers[current] < least || numbers[current] > most) {
                refuse(WRONG_NUMBER);
            }
            return fault == 0;
        }

        /** A number from least to most; without it NONE, and that is a fault. */
        int takeNumber(int least, int most) {
            int number = hasNumber(least, most) ? numbers[current] : NONE;
            skip();
            return number;
        }
    }

    /** Makes a house of a text. */
    private static final class HouseReader {
        private static final int CLAUSES = 40;

        private final Reader in;
        private boolean hasLinger;

        HouseReader(Reader in) {
            this.in = in;
        }

        /** The house; null if the reader has a fault behind it. */
        House read(int length) {
            House house = new House();
            in.begin(length);
            hasLinger = false;
            boolean isMore = true;
            for (int clause = 0; clause <= CLAUSES && isMore; clause++) {
                readClause(house, clause);
                isMore = in.takesSemicolon();
            }
            return in.fault == 0 ? house : null;
        }

        private void readClause(House house, int clause) {
            int word = in.kind();
            if (word != Reader.HEAD && (word < Reader.ROOMS || word > Reader.LINGER)) {
                in.refuse(WRONG_SIGN);
            } else if (clause >= CLAUSES || (word == Reader.ROOMS) != (clause == 0) || !hasPlace(house, word)) {
                in.refuse(WRONG_CLAUSE);
            } else {
                in.skip();
                readNumbers(house, word);
            }
        }

        private boolean hasPlace(House house, int word) {
            switch (word) {
                case Reader.DOOR: return house.doors < MOST_DOORS;
                case Reader.HEAD: return house.heads < MOST_HEADS;
                case Reader.SENSE: return house.senses < MOST_SENSES;
                case Reader.LINGER: return !hasLinger;
                default: return true;
            }
        }

        private void readNumbers(House house, int word) {
            if (word == Reader.ROOMS) {
                int rooms = in.takeNumber(2, MOST_ROOMS);
                house.rooms = in.fault == 0 ? rooms : 0;
            } else if (word == Reader.LINGER) {
                house.linger = in.takeNumber(0, 9);
                hasLinger = true;
            } else if (word == Reader.SENSE) {
                house.addSense(in.takeNumber(1, (1 << house.rooms) - 1));
            } else {
                int room = in.takeNumber(0, house.rooms - 1);
                if (in.fault == 0) {
                    readOfRoom(house, word, room);
                }
            }
        }

        private void readOfRoom(House house, int word, int room) {
            switch (word) {
                case Reader.DOOR:
                    readDoor(house, room);
                    break;
                case Reader.HEAD:
                    house.addHead(room, in.takeNumber(1, 4));
                    break;
                case Reader.DELAY:
                    house.delay[room] = in.takeNumber(0, 5);
                    break;
                default:
                    house.most[room] = in.takeNumber(1, MOST_HALVES);
                    break;
            }
        }

        private void readDoor(House house, int from) {
            if (in.hasNumber(0, house.rooms - 1)) {
                if (in.number() == from || house.hasDoor(from, in.number())) {
                    in.refuse(WRONG_NUMBER);
                }
                house.addDoor(from, in.number());
                in.skip();
            }
        }
    }

    /** Makes a rule of a text: of sums and tests rows of signs, each behind what it takes. */
    private static final class RuleReader {
        private static final int CLAUSES = 12;
        private static final int DEEPEST = 10;
        static final int VALUES = 60;

        private final Reader in;
        private final int[] code = new int[TAPE_BYTES];
        private int size;
        private int values;
        private final int[] sumEnd = new int[CLAUSES];
        private final int[] testEnd = new int[CLAUSES];

        RuleReader(Reader in) {
            this.in = in;
        }

        /** The rule; null if the reader has a fault behind it. */
        Rule read(int length) {
            in.begin(length);
            size = 0;
            values = 0;
            int clauses = 0;
            boolean isMore = true;
            while (clauses <= CLAUSES && isMore) {
                readClause(clauses);
                clauses++;
                isMore = in.takesSemicolon();
            }
            if (in.fault != 0 || clauses > CLAUSES) {
                return null;
            }
            return new Rule(Arrays.copyOf(code, size), Arrays.copyOf(sumEnd, clauses), Arrays.copyOf(testEnd, clauses));
        }

        private void readClause(int clause) {
            if (in.kind() != Reader.GO) {
                in.refuse(WRONG_SIGN);
            } else if (clause >= CLAUSES) {
                in.refuse(WRONG_CLAUSE);
            } else {
                in.skip();
                readSum();
                sumEnd[clause] = size;
                if (in.takes(Reader.IF)) {
                    readTest(0);
                }
                testEnd[clause] = size;
            }
        }

        private void put(int sign) {
            if (size < code.length) {
                code[size] = sign;
                size++;
            }
        }

        /** What is joined by and is put at once; or waits till its right side is whole. */
        private void readTest(int depth) {
            readFact(depth);
            boolean isOrDue = false;
            for (int i = 0; i < TAPE_BYTES && in.fault == 0; i++) {
                if (in.takes(Reader.AND)) {
                    readFact(depth);
                    put(Rule.AND);
                } else if (in.takes(Reader.OR)) {
                    if (isOrDue) {
                        put(Rule.OR);
                    }
                    isOrDue = true;
                    readFact(depth);
                } else {
                    break;
                }
            }
            if (isOrDue) {
                put(Rule.OR);
            }
        }

        private void readFact(int depth) {
            int kind = in.kind();
            if (kind != Reader.NOT && kind != Reader.SIGN + '[') {
                readSum();
                int sign = takeSign();
                readSum();
                put(sign);
            } else if (depth >= DEEPEST) {
                in.refuse(TOO_DEEP);
            } else if (in.takes(Reader.NOT)) {
                readFact(depth + 1);
                put(Rule.NOT);
            } else if (in.takes(Reader.SIGN + '[')) {
                readTest(depth + 1);
                if (!in.takes(Reader.SIGN + ']')) {
                    in.refuse(WRONG_SIGN);
                }
            }
        }

        /** The sign of a fact; without it NONE, and that is a fault. */
        private int takeSign() {
            int sign = signOf(in.kind());
            if (sign == NONE) {
                in.refuse(WRONG_SIGN);
            } else if (values >= VALUES) {
                in.refuse(TOO_MANY_VALUES);
            } else {
                values++;
                in.skip();
            }
            return sign;
        }

        private static int signOf(int kind) {
            switch (kind) {
                case Reader.SIGN + '<': return Rule.BELOW;
                case Reader.NOT_ABOVE: return Rule.NOT_ABOVE;
                case Reader.SIGN + '=': return Rule.EQUAL;
                case Reader.NOT_BELOW: return Rule.NOT_BELOW;
                case Reader.SIGN + '>': return Rule.ABOVE;
                default: return NONE;
            }
        }

        /** What is multiplied is put at once; + and - wait till their right side is whole. */
        private void readSum() {
            readValue();
            int due = NONE;
            for (int i = 0; i < TAPE_BYTES && in.fault == 0; i++) {
                int kind = in.kind();
                if (in.takes(Reader.SIGN + '*') || in.takes(Reader.SIGN + '/')) {
                    readValue();
                    put(kind == Reader.SIGN + '*' ? Rule.TIMES : Rule.BY);
                } else if (in.takes(Reader.SIGN + '+') || in.takes(Reader.SIGN + '-')) {
                    if (due != NONE) {
                        put(due);
                    }
                    due = kind == Reader.SIGN + '+' ? Rule.PLUS : Rule.MINUS;
                    readValue();
                } else {
                    break;
                }
            }
            if (due != NONE) {
                put(due);
            }
        }

        private void readValue() {
            int kind = in.kind();
            boolean isWord = kind >= 0 && kind < Reader.VALUE_WORDS;
            if (kind == Reader.LONG_NUMBER) {
                in.refuse(WRONG_NUMBER);
            } else if (!isWord && kind != Reader.NUMBER) {
                in.refuse(WRONG_SIGN);
            } else if (values >= VALUES) {
                in.refuse(TOO_MANY_VALUES);
            } else {
                values++;
                put(isWord ? kind : Rule.NUMBER + in.number());
                in.skip();
            }
        }
    }

    /** Clauses, each of a sum and perhaps a test, one behind the other in one row of signs. */
    private static final class Rule {
        static final int PLUS = 20;
        static final int MINUS = 21;
        static final int TIMES = 22;
        static final int BY = 23;
        static final int BELOW = 24;
        static final int NOT_ABOVE = 25;
        static final int EQUAL = 26;
        static final int NOT_BELOW = 27;
        static final int ABOVE = 28;
        static final int AND = 29;
        static final int OR = 30;
        static final int NOT = 31;
        /** A number is put as so many more. */
        static final int NUMBER = 100;

        private final int[] code;
        private final int[] sumEnd;
        private final int[] testEnd;
        private final long[] stack = new long[RuleReader.VALUES];

        Rule(int[] code, int[] sumEnd, int[] testEnd) {
            this.code = code;
            this.sumEnd = sumEnd;
            this.testEnd = testEnd;
        }

        /** The room to which a head goes by it; NONE. */
        int roomFor(State state, int head) {
            int start = 0;
            for (int clause = 0; clause < sumEnd.length && clause < testEnd.length; clause++) {
                int middle = sumEnd[clause];
                int end = testEnd[clause];
                if (middle == end || valueOf(middle, end, state, head) != 0) {
                    long room = valueOf(start, middle, state, head);
                    boolean isRoom = room >= 0 && room < state.house.rooms;
                    return isRoom && state.canGo(head, (int) room) ? (int) room : NONE;
                }
                start = end;
            }
            return NONE;
        }

        private long valueOf(int from, int to, State state, int head) {
            int top = 0;
            for (int i = from; i < to && i < code.length; i++) {
                int sign = code[i];
                if (sign == NOT) {
                    if (top > 0) {
                        stack[top - 1] = 1 - stack[top - 1];
                    }
                } else if (sign >= PLUS && sign < NUMBER) {
                    if (top > 1) {
                        stack[top - 2] = joined(sign, stack[top - 2], stack[top - 1]);
                        top--;
                    }
                } else if (top < stack.length) {
                    stack[top] = sign >= NUMBER ? sign - NUMBER : state.wordFor(sign, head);
                    top++;
                }
            }
            return top > 0 ? stack[top - 1] : 0;
        }

        private static long joined(int sign, long left, long right) {
            switch (sign) {
                case PLUS: return left + right;
                case MINUS: return left - right;
                case TIMES: return left * right;
                case BY: return right == 0 ? 0 : left / right;
                case BELOW: return left < right ? 1 : 0;
                case NOT_ABOVE: return left <= right ? 1 : 0;
                case EQUAL: return left == right ? 1 : 0;
                case NOT_BELOW: return left >= right ? 1 : 0;
                case ABOVE: return left > right ? 1 : 0;
                case AND: return left & right;
                default: return left | right;
            }
        }
    }

    /** Who is where at a minute, who counts still, which doors are open, and the counts of the minutes ahead. */
    private static final class State {
        House house;
        int minute;
        private int openDoors;
        int echoes;
        final int[] at = new int[MOST_HEADS];
        final int[] came = new int[MOST_HEADS];
        final int[] gone = new int[MOST_HEADS];
        /** Till which minute a head counts. */
        private final int[] until = new int[MOST_HEADS];
        private final int[] echoAt = new int[MOST_ECHOES];
        private final int[] echoHalves = new int[MOST_ECHOES];
        private final int[] echoUntil = new int[MOST_ECHOES];
        final int[] counts = new int[MOST_ROOMS];
        /** The rooms behind the open doors of a room, as bits. */
        final int[] links = new int[MOST_ROOMS];
        /** The counts of a minute stand in the row of its rest by so many rows. */
        private final int[] past = new int[ROWS_KEPT * MOST_ROOMS];

        State(House house) {
            this.house = house;
        }

        void begin(House told) {
            house = told;
            minute = 0;
            openDoors = (1 << told.doors) - 1;
            echoes = 0;
            System.arraycopy(told.home, 0, at, 0, MOST_HEADS);
            Arrays.fill(came, NONE);
            Arrays.fill(gone, 0);
            Arrays.fill(until, EVER);
            linkRooms();
            recount();
            keepCounts();
        }

        void copyFrom(State other) {
            house = other.house;
            minute = other.minute;
            openDoors = other.openDoors;
            echoes = other.echoes;
            System.arraycopy(other.at, 0, at, 0, MOST_HEADS);
            System.arraycopy(other.came, 0, came, 0, MOST_HEADS);
            System.arraycopy(other.gone, 0, gone, 0, MOST_HEADS);
            System.arraycopy(other.until, 0, until, 0, MOST_HEADS);
            System.arraycopy(other.echoAt, 0, echoAt, 0, MOST_ECHOES);
            System.arraycopy(other.echoHalves, 0, echoHalves, 0, MOST_ECHOES);
            System.arraycopy(other.echoUntil, 0, echoUntil, 0, MOST_ECHOES);
            System.arraycopy(other.counts, 0, counts, 0, MOST_ROOMS);
            System.arraycopy(other.links, 0, links, 0, MOST_ROOMS);
            System.arraycopy(other.past, 0, past, 0, ROWS_KEPT * MOST_ROOMS);
        }

        boolean isAlive(int head) {
            return until[head] == EVER;
        }

        boolean isCounted(int head) {
            return minute < until[head];
        }

        boolean isOpen(int door) {
            return (openDoors >> door & 1) == 1;
        }

        private void linkRooms() {
            Arrays.fill(links, 0);
            for (int door = 0; door < house.doors; door++) {
                if (isOpen(door)) {
                    links[house.doorFrom[door]] |= 1 << house.doorTo[door];
                    links[house.doorTo[door]] |= 1 << house.doorFrom[door];
                }
            }
        }

        private void recount() {
            Arrays.fill(counts, 0);
            for (int head = 0; head < house.heads; head++) {
                if (isCounted(head)) {
                    counts[at[head]] += house.halves[head];
                }
            }
            for (int echo = 0; echo < echoes; echo++) {
                counts[echoAt[echo]] += echoHalves[echo];
            }
        }

        private void keepCounts() {
            System.arraycopy(counts, 0, past, minute % ROWS_KEPT * MOST_ROOMS, MOST_ROOMS);
        }

        void turnDoor(int door) {
            openDoors ^= 1 << door;
            linkRooms();
        }

        void kill(int head) {
            until[head] = minute + house.linger;
            recount();
        }

        boolean canGo(int head, int room) {
            return until[head] == EVER && (links[at[head]] >> room & 1) == 1
                && counts[room] + house.halves[head] <= house.most[room];
        }

        /** A minute in which a head that can goes to a room, or, if it is NONE, nobody. */
        void pass(int head, int room, boolean isBackwards) {
            minute++;
            dropEchoes();
            if (head >= 0 && head < house.heads && room >= 0 && room < house.rooms) {
                if (isBackwards) {
                    leaveEcho(head);
                }
                came[head] = at[head];
                at[head] = room;
                gone[head]++;
            }
            recount();
            keepCounts();
        }

        private void dropEchoes() {
            int kept = 0;
            for (int echo = 0; echo < echoes; echo++) {
                if (minute < echoUntil[echo]) {
                    echoAt[kept] = echoAt[echo];
                    echoHalves[kept] = echoHalves[echo];
                    echoUntil[kept] = echoUntil[echo];
                    kept++;
                }
            }
            echoes = kept;
        }

        private void leaveEcho(int head) {
            if (house.linger > 0 && echoes < MOST_ECHOES) {
                echoAt[echoes] = at[head];
                echoHalves[echoes] = house.halves[head];
                echoUntil[echoes] = minute + house.linger;
                echoes++;
            }
        }

        int countAgo(int room, int ago) {
            if (ago == 0) {
                return counts[room];
            }
            return minute < ago ? house.countsAtFirst[room] : past[(minute - ago) % ROWS_KEPT * MOST_ROOMS + room];
        }

        int feltIn(int room) {
            return countAgo(room, house.delay[room]);
        }

        int feltBy(int sense) {
            int felt = 0;
            for (int room = 0; room < house.rooms; room++) {
                if ((house.senseRooms[sense] >> room & 1) == 1) {
                    felt += feltIn(room);
                }
            }
            return felt;
        }

        int livingIn(int room) {
            int living = 0;
            for (int head = 0; head < house.heads; head++) {
                if (isAlive(head) && at[head] == room) {
                    living |= 1 << head;
                }
            }
            return living;
        }

        int countLiving() {
            int living = 0;
            for (int head = 0; head < house.heads; head++) {
                living += isAlive(head) ? 1 : 0;
            }
            return living;
        }

        int countGoings() {
            int goings = 0;
            for (int head = 0; head < house.heads; head++) {
                goings += gone[head];
            }
            return goings;
        }

        /** The rooms to which a head could go, as bits. */
        int roomsFor(int head) {
            int found = 0;
            for (int room = 0; room < house.rooms; room++) {
                if (canGo(head, room)) {
                    found |= 1 << room;
                }
            }
            return found;
        }

        /** Of the rooms to which a head could go the one with so many ahead of it. */
        int roomAmong(int head, int ahead) {
            int found = roomsFor(head);
            for (int i = 0; i < ahead; i++) {
                found &= found - 1;
            }
            return Integer.numberOfTrailingZeros(found);
        }

        /** Of the rooms to which a head could go the one with least felt, or with most; NONE. */
        private int roomByFelt(int head, boolean isMost) {
            int best = NONE;
            int bestFelt = 0;
            for (int room = 0; room < house.rooms; room++) {
                if (canGo(head, room)) {
                    int felt = isMost ? -feltIn(room) : feltIn(room);
                    if (best == NONE || felt < bestFelt) {
                        best = room;
                        bestFelt = felt;
                    }
                }
            }
            return best;
        }

        private int roomOr99(int room) {
            return room == NONE ? 99 : room;
        }

        private int feltOr0(int room) {
            return room == NONE ? 0 : feltIn(room);
        }

        /** What a word of rules, by its place among them, says of a head. */
        int wordFor(int word, int head) {
            switch (word) {
                case 0: return head;
                case 1: return house.halves[head];
                case 2: return at[head];
                case 3: return house.home[head];
                case 4: return roomOr99(came[head]);
                case 5: return feltIn(at[head]);
                case 6: return roomOr99(roomByFelt(head, false));
                case 7: return roomOr99(roomByFelt(head, true));
                case 8: return feltOr0(roomByFelt(head, false));
                case 9: return feltOr0(roomByFelt(head, true));
                case 10: return gone[head];
                default: return minute;
            }
        }
    }

    /** All that an image keeps: the state, the states that can be gone back to, what was told, and x. */
    private static final class World {
        final State now;
        private final State[] undos = new State[MOST_UNDONE];
        private int oldestUndo;
        int undoCount;
        int seed;
        int told;
        final int[] toldMinutes = new int[MOST_TOLD];
        final int[] toldSense = new int[MOST_TOLD];
        final int[] toldHalves = new int[MOST_TOLD];

        World(House house) {
            now = new State(house);
            for (int i = 0; i < MOST_UNDONE; i++) {
                undos[i] = new State(house);
            }
        }

        void enter(House house) {
            now.begin(house);
            undoCount = 0;
            told = 0;
        }

        void copyFrom(World other) {
            now.copyFrom(other.now);
            oldestUndo = other.oldestUndo;
            undoCount = other.undoCount;
            for (int i = 0; i < undoCount; i++) {
                int slot = (oldestUndo + i) % MOST_UNDONE;
                undos[slot].copyFrom(other.undos[slot]);
            }
            seed = other.seed;
            told = other.told;
            System.arraycopy(other.toldMinutes, 0, toldMinutes, 0, MOST_TOLD);
            System.arraycopy(other.toldSense, 0, toldSense, 0, MOST_TOLD);
            System.arraycopy(other.toldHalves, 0, toldHalves, 0, MOST_TOLD);
        }

        void passMinute(int head, int room, boolean isBackwards) {
            undos[(oldestUndo + undoCount) % MOST_UNDONE].copyFrom(now);
            if (undoCount < MOST_UNDONE) {
                undoCount++;
            } else {
                oldestUndo = (oldestUndo + 1) % MOST_UNDONE;
            }
            now.pass(head, room, isBackwards);
        }

        void takeBack() {
            if (undoCount > 0) {
                undoCount--;
                now.copyFrom(undos[(oldestUndo + undoCount) % MOST_UNDONE]);
            }
        }

        void addTold(int minutes, int sense, int halves) {
            if (told < MOST_TOLD) {
                toldMinutes[told] = minutes;
                toldSense[told] = sense;
                toldHalves[told] = halves;
                told++;
            }
        }
    }

    /**
     * Where all living heads are, as one number: a row of rooms, the first head's the highest digit, so that the order
     * of the numbers is that of the rows.
     */
    private static final class Scene {
        int rooms;
        /** How many live: these alone stand in the rows below. */
        int heads;
        int size;
        int start;
        final int[] number = new int[MOST_HEADS];
        final int[] halves = new int[MOST_HEADS];
        final int[] power = new int[MOST_HEADS];
        final int[] most = new int[MOST_ROOMS];
        final int[] links = new int[MOST_ROOMS];
        /** What one half in a room adds to the counts of all senses. */
        final long[] weight = new long[MOST_ROOMS];
        /** The situation that is looked at. */
        final int[] at = new int[MOST_HEADS];
        final int[] counts = new int[MOST_ROOMS];
        /** Of each situation how it was come by; 0: not at all. */
        long[] marks = new long[0];
        long[] nextMarks = new long[0];
        int[] queue = new int[0];
        int[] nextQueue = new int[0];

        void take(State state) {
            House house = state.house;
            rooms = house.rooms;
            System.arraycopy(house.most, 0, most, 0, MOST_ROOMS);
            System.arraycopy(state.links, 0, links, 0, MOST_ROOMS);
            weighRooms(house);
            heads = 0;
            for (int head = 0; head < house.heads; head++) {
                if (state.isAlive(head)) {
                    number[heads] = head;
                    halves[heads] = house.halves[head];
                    at[heads] = state.at[head];
                    heads++;
                }
            }
            size = 1;
            start = 0;
            for (int i = heads - 1; i >= 0; i--) {
                power[i] = size;
                start += at[i] * size;
                size *= rooms;
            }
            unfold(start);
        }

        private void weighRooms(House house) {
            Arrays.fill(weight, 0);
            for (int sense = 0; sense < house.senses; sense++) {
                for (int room = 0; room < rooms; room++) {
                    if ((house.senseRooms[sense] >> room & 1) == 1) {
                        weight[room] += 1L << SENSE_BITS * sense;
                    }
                }
            }
        }

        /** Rows are made anew only for more situations than there ever were, as what is made is never given back. */
        void startQueue() {
            if (marks.length < size) {
                marks = new long[size];
                queue = new int[size];
            }
            put(start, 1, 0);
        }

        /** Queues a situation behind so many, with its mark: how many are queued then. */
        int put(int situation, long mark, int length) {
            if (!isPlace(situation) || length < 0 || length >= queue.length) {
                return length;
            }
            marks[situation] = mark;
            queue[length] = situation;
            return length + 1;
        }

        /** Whether a situation has a place in the rows. */
        private boolean isPlace(int situation) {
            return situation >= 0 && situation < marks.length;
        }

        boolean isMarked(int situation) {
            return isPlace(situation) && marks[situation] != 0;
        }

        void makeNextRows() {
            if (nextMarks.length < size) {
                nextMarks = new long[size];
                nextQueue = new int[size];
            }
        }

        void turnRows() {
            long[] oldMarks = marks;
            marks = nextMarks;
            nextMarks = oldMarks;
            int[] oldQueue = queue;
            queue = nextQueue;
            nextQueue = oldQueue;
        }

        void clearMarks(int length) {
            for (int i = 0; i < length && i < queue.length; i++) {
                marks[queue[i]] = 0;
            }
        }

        /** The room of a living head, by its place among these, in a situation other than the one that is looked at. */
        int roomIn(int situation, int i) {
            int step = power[i];
            return step > 0 && rooms > 0 ? situation / step % rooms : NONE;
        }

        void unfold(int situation) {
            Arrays.fill(counts, 0);
            int rest = situation;
            for (int i = heads - 1; i >= 0 && rooms > 0; i--) {
                int room = rest % rooms;
                rest /= rooms;
                at[i] = room;
                counts[room] += halves[i];
            }
        }

        long sensed() {
            long all = 0;
            for (int i = 0; i < heads; i++) {
                all += halves[i] * weight[at[i]];
            }
            return all;
        }

        boolean isLinked(int from, int to) {
            return (links[from] >> to & 1) == 1;
        }

        boolean canCross(int i, int room) {
            return (links[at[i]] >> room & 1) == 1 && counts[room] + halves[i] <= most[room];
        }

        /** The place of a living head among these; 0 for others. */
        int placeOf(int head) {
            for (int i = 0; i < heads; i++) {
                if (number[i] == head) {
                    return i;
                }
            }
            return 0;
        }
    }

    /** What comes of a situation by minutes in each of which one goes, or nobody. */
    private static final class Search {
        private final Scene scene;
        /** Whether the numbers up to groups are those of the world as it is. */
        boolean isSummed;
        long total;
        int situations;
        int partingRoom;
        int mostAlike;
        final int[] ends = new int[MOST_HEADS];
        private final int[] groups = new int[MOST_ROOMS * UNLIKE_COUNTS];
        int minutes;
        int firstHead;
        int firstRoom;
        private int soughtRoom;
        private int soughtHalves;

        Search(Scene scene) {
            this.scene = scene;
        }

        void sumUp(World world) {
            if (isSummed) {
                return;
            }
            int length = reach(world, world.told);
            total = 0;
            situations = length;
            Arrays.fill(ends, 0);
            Arrays.fill(groups, 0);
            for (int i = 0; i < length; i++) {
                total += scene.marks[scene.queue[i]];
                addEnd(scene.queue[i]);
            }
            scene.clearMarks(length);
            chooseParting();
            isSummed = true;
        }

        private void addEnd(int situation) {
            scene.unfold(situation);
            for (int i = 0; i < scene.heads; i++) {
                ends[scene.number[i]] |= 1 << scene.at[i];
            }
            for (int room = 0; room < scene.rooms; room++) {
                groups[room * UNLIKE_COUNTS + scene.counts[room]]++;
            }
        }

        private void chooseParting() {
            partingRoom = NONE;
            for (int room = 0; room < scene.rooms; room++) {
                int alike = 0;
                for (int count = 0; count < UNLIKE_COUNTS; count++) {
                    alike = Math.max(alike, groups[room * UNLIKE_COUNTS + count]);
                }
                if (partingRoom == NONE || alike < mostAlike) {
                    partingRoom = room;
                    mostAlike = alike;
                }
            }
        }

        /** More that is told never lets more fit, so the first that can't be is found by halves. */
        int firstNotSo(World world) {
            sumUp(world);
            if (situations > 0) {
                return CANNOT;
            }
            int fitting = 0;
            int failing = world.told;
            for (int i = 0; i < MOST_TOLD && failing - fitting > 1; i++) {
                int middle = (fitting + failing) / 2;
                if (canBe(world, middle)) {
                    fitting = middle;
                } else {
                    failing = middle;
                }
            }
            return failing - 1;
        }

        private boolean canBe(World world, int told) {
            int length = reach(world, told);
            scene.clearMarks(length);
            return length > 0;
        }

        /** Queues all situations behind movings that fit so many told, marked with how many these are. */
        private int reach(World world, int told) {
            scene.take(world.now);
            scene.startQueue();
            int last = 0;
            for (int i = 0; i < told; i++) {
                last = Math.max(last, world.toldMinutes[i]);
            }
            int length = keepFitting(world, told, 0, 1);
            for (int minute = 1; minute <= last; minute++) {
                length = advance(length);
                length = keepFitting(world, told, minute, length);
            }
            return length;
        }

        private int keepFitting(World world, int told, int minute, int length) {
            boolean isAsked = false;
            for (int i = 0; i < told; i++) {
                isAsked |= world.toldMinutes[i] == minute;
            }
            if (!isAsked) {
                return length;
            }
            int kept = 0;
            for (int i = 0; i < length; i++) {
                int situation = scene.queue[i];
                scene.unfold(situation);
                if (isAsTold(world, told, minute, scene.sensed())) {
                    scene.queue[kept] = situation;
                    kept++;
                } else {
                    scene.marks[situation] = 0;
                }
            }
            return kept;
        }

        private static boolean isAsTold(World world, int told, int minute, long sensed) {
            for (int i = 0; i < told; i++) {
                if (world.toldMinutes[i] == minute) {
                    long felt = sensed >> SENSE_BITS * world.toldSense[i] & 255;
                    if (felt != world.toldHalves[i]) {
                        return false;
                    }
                }
            }
            return true;
        }

        private int advance(int length) {
            int reached = 0;
            scene.makeNextRows();
            for (int i = 0; i < length; i++) {
                int situation = scene.queue[i];
                long ways = scene.marks[situation];
                scene.marks[situation] = 0;
                reached = addWays(situation, ways, reached);
                reached = spread(situation, ways, reached);
            }
            scene.turnRows();
            return reached;
        }

        private int spread(int situation, long ways, int length) {
            int reached = length;
            scene.unfold(situation);
            for (int i = 0; i < scene.heads; i++) {
                for (int room = 0; room < scene.rooms; room++) {
                    if (scene.canCross(i, room)) {
                        reached = addWays(situation + (room - scene.at[i]) * scene.power[i], ways, reached);
                    }
                }
            }
            return reached;
        }

        private int addWays(int situation, long ways, int length) {
            if (situation < 0 || situation >= scene.nextMarks.length) {
                return length;
            }
            boolean isNew = scene.nextMarks[situation] == 0;
            scene.nextMarks[situation] += ways;
            if (!isNew || length < 0 || length >= scene.nextQueue.length) {
                return length;
            }
            scene.nextQueue[length] = situation;
            return length + 1;
        }

        /** Finds minutes, firstHead and firstRoom: CANNOT for what is not. */
        void seekCount(State state, int room, int halves) {
            scene.take(state);
            soughtRoom = room;
            soughtHalves = halves;
            minutes = CANNOT;
            firstHead = CANNOT;
            firstRoom = CANNOT;
            if (scene.counts[room] == halves) {
                minutes = 0;
            } else if (isSumOfSome(halves)) {
                seekWidely();
            }
        }

        private boolean isSumOfSome(int halves) {
            int sums = 1;
            for (int i = 0; i < scene.heads; i++) {
                sums |= sums << scene.halves[i];
            }
            return halves < UNLIKE_COUNTS && (sums >> halves & 1) == 1;
        }

        /**
         * Each situation is marked with the first going by which it came: as these go out in order, the first to come
         * has the least.
         */
        private void seekWidely() {
            scene.startQueue();
            int length = 1;
            int levelEnd = 1;
            int level = 1;
            for (int i = 0; i < scene.size && i < length && minutes == CANNOT; i++) {
                if (i == levelEnd) {
                    level++;
                    levelEnd = length;
                }
                length = seekFrom(scene.queue[i], level, length);
            }
            scene.clearMarks(length);
        }

        private int seekFrom(int situation, int level, int length) {
            int reached = length;
            scene.unfold(situation);
            for (int i = 0; i < scene.heads; i++) {
                for (int room = 0; room < scene.rooms; room++) {
                    int there = situation + (room - scene.at[i]) * scene.power[i];
                    if (scene.canCross(i, room) && !scene.isMarked(there)) {
                        long mark = level == 1 ? 2 + i * MOST_ROOMS + room : scene.marks[situation];
                        if (isSought(i, room)) {
                            arrive(level, mark);
                            return reached;
                        }
                        reached = scene.put(there, mark, reached);
                    }
                }
            }
            return reached;
        }

        private boolean isSought(int i, int room) {
            int count = scene.counts[soughtRoom];
            if (room == soughtRoom) {
                count += scene.halves[i];
            }
            if (scene.at[i] == soughtRoom) {
                count -= scene.halves[i];
            }
            return count == soughtHalves;
        }

        private void arrive(int level, long mark) {
            int going = (int) mark - 2;
            minutes = level;
            firstHead = scene.number[going / MOST_ROOMS];
            firstRoom = going % MOST_ROOMS;
        }
    }

    /** Goings of several at once that no sense feels. */
    private static final class Crossing {
        private final Scene scene;
        /** How many go; CANNOT. */
        int goers;
        /** Of a theft; CANNOT, UNKNOWN. */
        int minutes;
        private int behind;
        private int mover;
        private int aim;
        private int mostGoers;
        private boolean isTheft;
        private boolean isEnded;
        private long sensedNow;
        private int queued;
        private int goersBefore;

        Crossing(Scene scene) {
            this.scene = scene;
        }

        private void begin(State state, int head, int room) {
            scene.take(state);
            mover = scene.placeOf(head);
            aim = room;
            sensedNow = scene.sensed();
            isEnded = false;
            goers = CANNOT;
            minutes = CANNOT;
        }

        void seekSecret(State state, int head, int room) {
            begin(state, head, room);
            isTheft = false;
            mostGoers = scene.heads;
            behind = scene.start;
            cross(0, scene.start, 0, sensedNow);
        }

        /** The room of a head behind a secret; NONE. */
        int roomBehind(int head) {
            scene.unfold(behind);
            for (int i = 0; i < scene.heads; i++) {
                if (scene.number[i] == head) {
                    return scene.at[i];
                }
            }
            return NONE;
        }

        void seekTheft(State state, int head, int room) {
            begin(state, head, room);
            if (scene.at[mover] == room) {
                minutes = 0;
                goers = 0;
                return;
            }
            isTheft = true;
            mostGoers = 2;
            scene.startQueue();
            queued = 1;
            int level = 1;
            int levelEnd = 1;
            for (int i = 0; i < MOST_SITUATIONS && i < queued && !isEnded; i++) {
                if (i == levelEnd) {
                    level++;
                    levelEnd = queued;
                }
                int situation = scene.queue[i];
                goersBefore = (int) scene.marks[situation] - 1;
                scene.unfold(situation);
                cross(0, situation, 0, sensedNow);
            }
            if (isEnded) {
                minutes = goers == UNKNOWN ? UNKNOWN : level;
            }
            scene.clearMarks(queued);
        }

        /** All ways in which the heads from one on go or stay, those behind a lesser row first. */
        private void cross(int i, int situation, int gone, long sensed) {
            if (i >= scene.heads) {
                arrive(situation, gone, sensed);
                return;
            }
            int from = scene.at[i];
            for (int room = 0; room < scene.rooms && !isEnded; room++) {
                if (room == from) {
                    if (isTheft || i != mover) {
                        cross(i + 1, situation, gone, sensed);
                    }
                } else if (gone < mostGoers && scene.isLinked(from, room) && (isTheft || i != mover || room == aim)) {
                    scene.counts[from] -= scene.halves[i];
                    scene.counts[room] += scene.halves[i];
                    long change = scene.halves[i] * (scene.weight[room] - scene.weight[from]);
                    cross(i + 1, situation + (room - from) * scene.power[i], gone + 1, sensed + change);
                    scene.counts[from] += scene.halves[i];
                    scene.counts[room] -= scene.halves[i];
                }
            }
        }

        private void arrive(int situation, int gone, long sensed) {
            if (gone == 0 || gone > mostGoers || sensed != sensedNow || !isHeld()) {
                return;
            }
            if (isTheft) {
                comeTo(situation, gone);
            } else {
                goers = gone;
                behind = situation;
                mostGoers = gone - 1;
            }
        }

        private boolean isHeld() {
            for (int room = 0; room < scene.rooms; room++) {
                if (scene.counts[room] > scene.most[room]) {
                    return false;
                }
            }
            return true;
        }

        private void comeTo(int situation, int gone) {
            if (scene.isMarked(situation)) {
                return;
            }
            if (scene.roomIn(situation, mover) == aim) {
                goers = goersBefore + gone;
                isEnded = true;
            } else if (queued >= MOST_SITUATIONS) {
                goers = UNKNOWN;
                isEnded = true;
            } else {
                queued = scene.put(situation, 1 + goersBefore + gone, queued);
            }
        }
    }

    /** What counts tell of goings now. */
    private static final class Watching {
        private final Scene scene;
        private int goings;
        private final int[] from = new int[MOST_HEADS * MOST_ROOMS];
        private final int[] to = new int[MOST_HEADS * MOST_ROOMS];
        private final int[] halves = new int[MOST_HEADS * MOST_ROOMS];
        /** By the rooms in which one may be, as bits: how many rows of counts leave just these. */
        private long[] rows = new long[1 << MOST_ROOMS];
        private long[] nextRows = new long[1 << MOST_ROOMS];
        private final int[] reach = new int[MOST_ROOMS];
        private final int[] alike = new int[MOST_ROOMS];

        Watching(Scene scene) {
            this.scene = scene;
        }

        void listGoings(State state) {
            scene.take(state);
            goings = 0;
            for (int i = 0; i < scene.heads; i++) {
                for (int room = 0; room < scene.rooms; room++) {
                    if (scene.canCross(i, room)) {
                        from[goings] = scene.at[i];
                        to[goings] = room;
                        halves[goings] = scene.halves[i];
                        goings++;
                    }
                }
            }
        }

        /** Of the goings listed, whether the counts of a set of rooms tell from where to where. */
        boolean isTellingBy(int set) {
            for (int i = 0; i < goings; i++) {
                if ((set & (1 << from[i] | 1 << to[i])) == 0) {
                    return false;
                }
                for (int j = 0; j < i; j++) {
                    if ((from[i] != from[j] || to[i] != to[j]) && isFeltAlike(set, i, j)) {
                        return false;
                    }
                }
            }
            return true;
        }

        private boolean isFeltAlike(int set, int i, int j) {
            return halves[i] == halves[j]
                && (set & 1 << from[i]) == (set & 1 << from[j])
                && (set & 1 << to[i]) == (set & 1 << to[j]);
        }

        int fewestRooms() {
            for (int many = 0; many <= scene.rooms; many++) {
                for (int set = 0; set < 1 << scene.rooms; set++) {
                    if (Integer.bitCount(set) == many && isTellingBy(set)) {
                        return set;
                    }
                }
            }
            return NONE;
        }

        int twos(State state, boolean isUnfelt) {
            scene.take(state);
            int found = 0;
            for (int i = 0; i < scene.heads; i++) {
                for (int j = 0; j < i; j++) {
                    boolean isFelt = scene.halves[i] != scene.halves[j]
                        && scene.weight[scene.at[i]] != scene.weight[scene.at[j]];
                    if (scene.isLinked(scene.at[i], scene.at[j]) && !(isUnfelt && isFelt)) {
                        found++;
                    }
                }
            }
            return found;
        }

        /** How many unlike rows of counts can be felt while one head alone goes or stays for n minutes. */
        long rowsFelt(State state, int head, int n) {
            scene.take(state);
            listReach(scene.placeOf(head));
            Arrays.fill(rows, 0);
            rows[1 << state.at[head]] = 1;
            for (int minute = 0; minute < n; minute++) {
                Arrays.fill(nextRows, 0);
                for (int set = 1; set < 1 << scene.rooms; set++) {
                    if (rows[set] != 0) {
                        addRows(set);
                    }
                }
                long[] old = rows;
                rows = nextRows;
                nextRows = old;
            }
            long total = 0;
            for (int set = 1; set < 1 << scene.rooms; set++) {
                total += rows[set];
            }
            return total;
        }

        private void listReach(int i) {
            int own = scene.at[i];
            scene.counts[own] -= scene.halves[i];
            for (int room = 0; room < scene.rooms; room++) {
                reach[room] = 1 << room;
                alike[room] = 0;
                for (int other = 0; other < scene.rooms; other++) {
                    if (scene.isLinked(room, other) && scene.counts[other] + scene.halves[i] <= scene.most[other]) {
                        reach[room] |= 1 << other;
                    }
                    if (scene.weight[room] == scene.weight[other]) {
                        alike[room] |= 1 << other;
                    }
                }
            }
        }

        private void addRows(int set) {
            int wide = 0;
            for (int room = 0; room < scene.rooms; room++) {
                if ((set >> room & 1) == 1) {
                    wide |= reach[room];
                }
            }
            for (int room = 0; room < scene.rooms; room++) {
                boolean isLeast = (alike[room] & (1 << room) - 1) == 0;
                if (isLeast && (wide & alike[room]) != 0) {
                    nextRows[wide & alike[room]] += rows[set];
                }
            }
        }
    }
}
