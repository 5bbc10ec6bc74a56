/**
 * A wheel of blades held in the wind, tick by tick. What each call must answer stands in DOC.md,
 * whose words (in capitals there) the names below follow.
 *
 * <p>Every row is made in a constructor and used again: no call makes an object.
 */
public final class HeldBlades {
    public static final int BAD = -1, STATE = -2, FULL = -3, NONE = -9;
    public static final int NO = -1000000;

    private static final int STOPPED = 0, STARTING = 1, SLOW = 2, FAST = 3, STOPPING = 4, TRIPPED = 5;
    private static final int RATED = 0, TRIP = 1, CUT_IN = 2, CUT_OUT = 3, LIMIT = 4, RATE = 5;

    private static final int MOST_WIND = 40, MOST_ICE = 5, MOST_SPEED_TOLD = 999;
    private static final int ROUND = 36;
    private static final int MOST_TICKS_A_CALL = 60, MOST_TICKS_EVER = 9999;
    private static final int MOST_TRIAL = 20, WHOLE_TRIAL = 60, ASKED_TICKS = 10;
    private static final int MOST_LETTERS = 80, MOST_RECORD = 40, MOST_SEEN = 6, MOST_UNDONE = 6;
    private static final int IMAGES = 2;

    private final Settings settings = new Settings();
    private final Text text = new Text();
    private final Reader reader = new Reader();
    private final Moment present = new Moment();
    private final Past past = new Past();
    private final Moment[] images = {new Moment(), new Moment()};
    private final boolean[] kept = new boolean[IMAGES];
    private final Seen seen = new Seen();
    private final Rain roof = new Rain();
    /** What is tried out, so that nothing that is so now is changed by asking. */
    private final Wheel trial = new Wheel();

    public HeldBlades() {
    }

    // ---- what is told

    public int type(int letter) {
        if (!isWithin(letter, 0, 255)) {
            return BAD;
        }
        if (text.length >= MOST_LETTERS) {
            return FULL;
        }
        text.append(letter);
        return text.length;
    }

    public int clear() {
        int had = text.length;
        text.length = 0;
        return had;
    }

    public int tells() {
        int answer = reader.read(text);
        if (answer < 0) {
            return answer;
        }
        settings.become(reader.draft);
        text.length = 0;
        present.startAnew();
        past.lose();
        loseImages();
        seen.size = 0;
        return answer;
    }

    private void loseImages() {
        for (int image = 0; image < kept.length; image++) {
            kept[image] = false;
        }
    }

    // ---- what is done

    public int blows(int wind, int from) {
        if (!isWithin(wind, 0, MOST_WIND) || !isWithin(from, 0, ROUND - 1)) {
            return BAD;
        }
        Wheel wheel = present.wheel;
        if (wheel.wind == wind && wheel.from == from) {
            return STATE;
        }
        past.add(present);
        int was = wheel.wind;
        wheel.wind = wind;
        wheel.from = from;
        return was;
    }

    public int ices(int ice) {
        if (!isWithin(ice, 0, MOST_ICE)) {
            return BAD;
        }
        Wheel wheel = present.wheel;
        if (wheel.ice == ice) {
            return STATE;
        }
        past.add(present);
        int was = wheel.ice;
        wheel.ice = ice;
        return was;
    }

    public int grids(int is) {
        if (!isWithin(is, 0, 1)) {
            return BAD;
        }
        Wheel wheel = present.wheel;
        if (wheel.gridThere == (is == 1)) {
            return STATE;
        }
        past.add(present);
        wheel.gridThere = is == 1;
        return wheel.mode;
    }

    public int wants(int is) {
        if (!isWithin(is, 0, 1)) {
            return BAD;
        }
        Wheel wheel = present.wheel;
        if (wheel.wanted == (is == 1)) {
            return STATE;
        }
        past.add(present);
        wheel.wanted = is == 1;
        return wheel.mode;
    }

    public int resets() {
        Wheel wheel = present.wheel;
        if (wheel.mode != TRIPPED || wheel.speed != 0) {
            return STATE;
        }
        past.add(present);
        wheel.mode = STOPPED;
        return wheel.heading;
    }

    public int ticks(int n) {
        if (!isWithin(n, 1, MOST_TICKS_A_CALL)) {
            return BAD;
        }
        if (present.ticksEver + n > MOST_TICKS_EVER) {
            return FULL;
        }
        past.add(present);
        for (int tick = 0; tick < n; tick++) {
            present.tick(settings);
        }
        return present.wheel.speed;
    }

    public int undo() {
        if (past.size == 0) {
            return STATE;
        }
        past.takeLatest(present);
        return past.size;
    }

    // ---- as it is

    public int now(int what) {
        return isWithin(what, 0, 17) ? present.wheel.tell(what) : NO;
    }

    public int setting(int what) {
        return isWithin(what, RATED, RATE) ? settings.tell(what) : BAD;
    }

    public int record(int k) {
        return k < 0 ? BAD : present.trace.speedAgo(k);
    }

    // ---- what it would bear

    public int gust(int n) {
        if (!isWithin(n, 1, MOST_TRIAL)) {
            return BAD;
        }
        if (present.wheel.mode == TRIPPED) {
            return NONE;
        }
        for (int wind = MOST_WIND; wind >= 0; wind--) {
            if (bearsGust(wind, n)) {
                return wind;
            }
        }
        return NONE;
    }

    private boolean bearsGust(int wind, int n) {
        trial.become(present.wheel);
        for (int tick = 0; tick < WHOLE_TRIAL; tick++) {
            trial.wind = tick < n ? wind : present.wheel.wind;
            trial.step(settings);
            if (trial.mode == TRIPPED) {
                return false;
            }
        }
        return true;
    }

    public int dip() {
        int mode = present.wheel.mode;
        if (mode != SLOW && mode != FAST) {
            return NONE;
        }
        for (int n = MOST_TRIAL; n >= 0; n--) {
            if (ridesDip(n)) {
                return n;
            }
        }
        return NONE;
    }

    private boolean ridesDip(int n) {
        trial.become(present.wheel);
        for (int tick = 0; tick < WHOLE_TRIAL; tick++) {
            trial.gridThere = tick >= n;
            trial.step(settings);
            if (trial.mode == STOPPING || trial.mode == TRIPPED) {
                return false;
            }
        }
        return true;
    }

    // ---- rain

    public int halves(int difference) {
        if (!isWithin(difference, 0, MOST_SPEED_TOLD)) {
            return BAD;
        }
        roof.pour(present.trace);
        return roof.halvesOf(difference);
    }

    public int rain(int what) {
        if (!isWithin(what, 0, 4)) {
            return BAD;
        }
        roof.pour(present.trace);
        switch (what) {
            case 0:
                return roof.kinds;
            case 1:
                return roof.greatestDifference();
            case 2:
                return roof.allHalves();
            case 3:
                return roof.cycles;
            default:
                return roof.turnCount;
        }
    }

    // ---- how much ice

    public int sees(int n, int wind, int x) {
        if (!isWithin(n, 1, MOST_TRIAL) || !isWithin(wind, 0, MOST_WIND)
                || !isWithin(x, 0, MOST_SPEED_TOLD)) {
            return BAD;
        }
        if (seen.size >= MOST_SEEN) {
            return FULL;
        }
        seen.add(n, wind, x);
        return seen.size;
    }

    public int forget() {
        int was = seen.size;
        seen.size = 0;
        return was;
    }

    public int which() {
        return possibleIce();
    }

    public int ask() {
        int possible = possibleIce();
        if (Integer.bitCount(possible) <= 1) {
            return NONE;
        }
        int best = NONE;
        int least = MOST_ICE + 2;
        for (int wind = 0; wind <= MOST_WIND; wind++) {
            int alike = mostAlike(possible, wind);
            if (alike < least) {
                least = alike;
                best = wind;
            }
        }
        return best;
    }

    private int possibleIce() {
        int possible = 0;
        for (int ice = 0; ice <= MOST_ICE; ice++) {
            if (agreesWithSeen(ice)) {
                possible |= 1 << ice;
            }
        }
        return possible;
    }

    private boolean agreesWithSeen(int ice) {
        for (int i = 0; i < seen.size && i < MOST_SEEN; i++) {
            if (speedAfter(seen.ticks[i], seen.winds[i], ice) != seen.speeds[i]) {
                return false;
            }
        }
        return true;
    }

    /** The greatest number of possible ices that this wind would not tell from one another. */
    private int mostAlike(int possible, int wind) {
        int most = 0;
        for (int ice = 0; ice <= MOST_ICE; ice++) {
            if ((possible >> ice & 1) == 1) {
                seen.speedByIce[ice] = speedAfter(ASKED_TICKS, wind, ice);
                most = Math.max(most, alikeUpTo(possible, ice));
            }
        }
        return most;
    }

    /** How many possible ices, up to this one, end at this one's speed: the last of a group counts it whole. */
    private int alikeUpTo(int possible, int last) {
        int alike = 0;
        for (int ice = 0; ice <= last; ice++) {
            if ((possible >> ice & 1) == 1 && seen.speedByIce[ice] == seen.speedByIce[last]) {
                alike++;
            }
        }
        return alike;
    }

    private int speedAfter(int n, int wind, int ice) {
        trial.become(present.wheel);
        trial.wind = wind;
        trial.ice = ice;
        for (int tick = 0; tick < n; tick++) {
            trial.step(settings);
        }
        return trial.speed;
    }

    // ---- images

    public int keep(int image) {
        if (!isWithin(image, 0, IMAGES - 1)) {
            return BAD;
        }
        images[image].become(present);
        kept[image] = true;
        return present.ticksEver;
    }

    public int back(int image) {
        if (!isWithin(image, 0, IMAGES - 1)) {
            return BAD;
        }
        if (!kept[image]) {
            return STATE;
        }
        present.become(images[image]);
        past.lose();
        return present.ticksEver;
    }

    public int count(int what) {
        switch (what) {
            case 0:
                return present.ticksEver;
            case 1:
                return present.trace.size;
            case 2:
                return present.trips;
            case 3:
                return seen.size;
            case 4:
                return text.length;
            case 5:
                return past.size;
            default:
                return BAD;
        }
    }

    private static boolean isWithin(int number, int least, int most) {
        return number >= least && number <= most;
    }

    private static final class Settings {
        private int rated;
        private int trip;
        private int cutIn;
        private int cutOut;
        private int limit;
        private int rate;

        private Settings() {
            startAnew();
        }

        private void startAnew() {
            rated = 100;
            trip = 130;
            cutIn = 4;
            cutOut = 30;
            limit = 72;
            rate = 3;
        }

        private void become(Settings other) {
            rated = other.rated;
            trip = other.trip;
            cutIn = other.cutIn;
            cutOut = other.cutOut;
            limit = other.limit;
            rate = other.rate;
        }

        private int tell(int what) {
            switch (what) {
                case RATED:
                    return rated;
                case TRIP:
                    return trip;
                case CUT_IN:
                    return cutIn;
                case CUT_OUT:
                    return cutOut;
                case LIMIT:
                    return limit;
                default:
                    return rate;
            }
        }

        private boolean mayBe(int what, int value) {
            switch (what) {
                case RATED:
                    return isWithin(value, 40, 120);
                case TRIP:
                    // rated is 100 as long as none is told: then this is the 101 that the document names
                    return isWithin(value, rated + 1, 200);
                case CUT_IN:
                    return isWithin(value, 1, 10);
                case CUT_OUT:
                    return isWithin(value, 11, 40);
                case LIMIT:
                    return isWithin(value, 36, 108);
                default:
                    return isWithin(value, 1, 9);
            }
        }

        private void put(int what, int value) {
            switch (what) {
                case RATED:
                    rated = value;
                    break;
                case TRIP:
                    trip = value;
                    break;
                case CUT_IN:
                    cutIn = value;
                    break;
                case CUT_OUT:
                    cutOut = value;
                    break;
                case LIMIT:
                    limit = value;
                    break;
                default:
                    rate = value;
                    break;
            }
        }
    }

    private static final class Text {
        private final int[] letters = new int[MOST_LETTERS];
        private int length;

        private void append(int letter) {
            if (length >= 0 && length < letters.length) {
                letters[length] = letter;
                length++;
            }
        }

        /** The letter at a place; -1 where there is none. */
        private int letterAt(int place) {
            return place >= 0 && place < length && place < letters.length ? letters[place] : -1;
        }

        private boolean isFigureAt(int place) {
            return isWithin(letterAt(place), '0', '9');
        }

        private int behindBlanks(int place) {
            int behind = place;
            while (behind < length && letterAt(behind) == ' ') {
                behind++;
            }
            return behind;
        }

        private int behindToken(int place) {
            if (!isFigureAt(place)) {
                return place + 1;
            }
            int behind = place;
            while (behind < length && isFigureAt(behind)) {
                behind++;
            }
            return behind;
        }

        /** The NUMBER from a place up to another; -1 if that is none, is above 255 or has a 0 ahead of others. */
        private int numberAt(int place, int behind) {
            int figures = behind - place;
            if (!isFigureAt(place) || figures > 3 || figures > 1 && letterAt(place) == '0') {
                return -1;
            }
            int number = 0;
            for (int i = place; i < behind; i++) {
                number = 10 * number + letterAt(i) - '0';
            }
            return number > 255 ? -1 : number;
        }
    }

    /** Reads THE TEXT into a draft, so that a FAULT leaves the SETTINGS as they are. */
    private static final class Reader {
        private static final int LETTER = 0, NUMBER = 1, END = 2;

        private final Settings draft = new Settings();
        private int awaited;
        private int what;
        private int told;
        private int items;

        /** How many ITEMS; -10 less FAULT. */
        private int read(Text text) {
            draft.startAnew();
            awaited = LETTER;
            told = 0;
            items = 0;
            int place = text.behindBlanks(0);
            for (int token = 0; token < MOST_LETTERS && place < text.length; token++) {
                int behind = text.behindToken(place);
                if (!takes(text, place, behind)) {
                    return -10 - place;
                }
                place = text.behindBlanks(behind);
            }
            if (awaited != LETTER) {
                return -10 - text.length;
            }
            if (isTold(RATED) && !isTold(TRIP)) {
                draft.trip = draft.rated + 30;
            }
            return items;
        }

        private boolean takes(Text text, int place, int behind) {
            switch (awaited) {
                case LETTER:
                    return takesLetter(text.letterAt(place));
                case NUMBER:
                    return takesNumber(text.numberAt(place, behind));
                default:
                    return takesEnd(text.letterAt(place));
            }
        }

        private boolean takesLetter(int letter) {
            what = settingOf(letter);
            if (what < 0 || isTold(what) || what == RATED && isTold(TRIP)) {
                return false;
            }
            told |= 1 << what;
            awaited = NUMBER;
            return true;
        }

        private boolean takesNumber(int number) {
            if (number < 0 || !draft.mayBe(what, number)) {
                return false;
            }
            draft.put(what, number);
            awaited = END;
            return true;
        }

        private boolean takesEnd(int letter) {
            if (letter != ';') {
                return false;
            }
            items++;
            awaited = LETTER;
            return true;
        }

        private boolean isTold(int setting) {
            return (told >> setting & 1) == 1;
        }

        private static int settingOf(int letter) {
            switch (letter) {
                case 'r':
                    return RATED;
                case 't':
                    return TRIP;
                case 'i':
                    return CUT_IN;
                case 'o':
                    return CUT_OUT;
                case 'l':
                    return LIMIT;
                case 's':
                    return RATE;
                default:
                    return -1;
            }
        }
    }

    /** What a TICK changes and looks at: enough to try out what would be. */
    private static final class Wheel {
        private static final int STARTING_PITCH = 20, MOST_PITCH = 90, TORQUE_RATE = 10;

        private int mode;
        private int speed;
        private int pitch;
        private int torque;
        private int wind;
        private int from;
        private int heading;
        private int twist;
        private int ice;
        private boolean gridThere;
        private boolean wanted;
        private int good;
        private int storm;
        private int away;
        private int off;
        private boolean unwinding;

        private Wheel() {
            startAnew();
        }

        private void startAnew() {
            mode = STOPPED;
            speed = 0;
            pitch = MOST_PITCH;
            torque = 0;
            wind = 0;
            from = 0;
            heading = 0;
            twist = 0;
            ice = 0;
            gridThere = true;
            wanted = true;
            good = 0;
            storm = 0;
            away = 0;
            off = 0;
            unwinding = false;
        }

        private void become(Wheel other) {
            mode = other.mode;
            speed = other.speed;
            pitch = other.pitch;
            torque = other.torque;
            wind = other.wind;
            from = other.from;
            heading = other.heading;
            twist = other.twist;
            ice = other.ice;
            gridThere = other.gridThere;
            wanted = other.wanted;
            good = other.good;
            storm = other.storm;
            away = other.away;
            off = other.off;
            unwinding = other.unwinding;
        }

        private void step(Settings s) {
            good = wind >= s.cutIn && wind < s.cutOut ? good + 1 : 0;
            storm = wind >= s.cutOut ? storm + 1 : 0;
            away = gridThere ? 0 : away + 1;
            mode = nextMode(s);
            pitch = nearer(pitch, pitchAim(s), mode == TRIPPED ? 2 * s.rate : s.rate);
            torque = gridThere ? nearer(torque, torqueAim(s), TORQUE_RATE) : 0;
            int error = error();
            speed = Math.max(0, speed + Math.floorDiv(drive(error) - torque - drag(), 8));
            off = error > 2 ? off + 1 : 0;
            turn(s.limit);
        }

        private int nextMode(Settings s) {
            boolean running = mode == STARTING || mode == SLOW || mode == FAST;
            boolean wound = isWound(s.limit);
            if (speed > s.trip && (running || mode == STOPPING)) {
                return TRIPPED;
            }
            if (running && (!wanted || storm >= 2 || away >= 4 || wound)) {
                return STOPPING;
            }
            switch (mode) {
                case STOPPED:
                    return wanted && good >= 3 && away == 0 && !wound && !unwinding ? STARTING : STOPPED;
                case STARTING:
                    return 5 * speed >= 2 * s.rated ? SLOW : STARTING;
                case SLOW:
                    if (speed >= s.rated) {
                        return FAST;
                    }
                    return wind < s.cutIn && 5 * speed < s.rated ? STOPPING : SLOW;
                case FAST:
                    return pitch == 0 && speed < s.rated - 5 ? SLOW : FAST;
                case STOPPING:
                    return speed == 0 && pitch == MOST_PITCH ? STOPPED : STOPPING;
                default:
                    return mode;
            }
        }

        private boolean isWound(int limit) {
            return twist >= limit || twist <= -limit;
        }

        private int pitchAim(Settings s) {
            switch (mode) {
                case STARTING:
                    return STARTING_PITCH;
                case SLOW:
                    return 0;
                case FAST:
                    return Math.max(0, Math.min(MOST_PITCH, pitch + (speed - s.rated) / 4));
                default:
                    return MOST_PITCH;
            }
        }

        private int torqueAim(Settings s) {
            switch (mode) {
                case SLOW:
                    return speed / 2;
                case FAST:
                    return s.rated / 2;
                default:
                    return 0;
            }
        }

        private static int nearer(int value, int aim, int most) {
            return value < aim ? Math.min(aim, value + most) : Math.max(aim, value - most);
        }

        /** By how many FROM is ahead of HEADING, going up: 0 to 35. */
        private int ahead() {
            return from < heading ? from - heading + ROUND : from - heading;
        }

        private int error() {
            int ahead = ahead();
            return Math.min(ahead, ROUND - ahead);
        }

        private int drive(int error) {
            return wind * Math.max(0, 9 - error) * (10 - ice) * (MOST_PITCH - pitch) / 1620;
        }

        private int drag() {
            return speed == 0 ? 0 : speed / 10 + 1;
        }

        private void turn(int limit) {
            if (mode == STOPPED && isWound(limit)) {
                unwinding = true;
            }
            if (twist == 0 || mode != STOPPED) {
                unwinding = false;
            }
            if (unwinding) {
                turnBy(twist > 0 ? -1 : 1);
            } else if (mode <= FAST && off >= 3) {
                int step = ahead() <= ROUND / 2 ? 1 : -1;
                if (twist + step <= limit && twist + step >= -limit) {
                    turnBy(step);
                }
            }
        }

        private void turnBy(int step) {
            heading = (heading + step + ROUND) % ROUND;
            twist += step;
        }

        private int tell(int what) {
            switch (what) {
                case 0:
                    return mode;
                case 1:
                    return speed;
                case 2:
                    return pitch;
                case 3:
                    return torque;
                case 4:
                    return wind;
                case 5:
                    return from;
                case 6:
                    return heading;
                case 7:
                    return twist;
                case 8:
                    return ice;
                case 9:
                    return gridThere ? 1 : 0;
                case 10:
                    return wanted ? 1 : 0;
                case 11:
                    return good;
                case 12:
                    return storm;
                case 13:
                    return away;
                case 14:
                    return off;
                case 15:
                    return unwinding ? 1 : 0;
                case 16:
                    return drive(error());
                default:
                    return error();
            }
        }
    }

    /** THE RECORD: a ring of the last speeds. */
    private static final class Trace {
        private final int[] speeds = new int[MOST_RECORD];
        private int next;
        private int size;

        private void startAnew() {
            next = 0;
            size = 0;
        }

        private void become(Trace other) {
            System.arraycopy(other.speeds, 0, speeds, 0, MOST_RECORD);
            next = other.next;
            size = other.size;
        }

        private void add(int speed) {
            if (next < 0 || next >= MOST_RECORD) {
                next = 0;
            }
            speeds[next] = speed;
            next = next + 1 == MOST_RECORD ? 0 : next + 1;
            size = Math.min(MOST_RECORD, size + 1);
        }

        /** The speed behind the k-th tick ago (0: the latest); NONE where there is none. */
        private int speedAgo(int k) {
            if (k < 0 || k >= size) {
                return NONE;
            }
            return speeds[Math.floorMod(next - 1 - k, MOST_RECORD)];
        }
    }

    /** All that the document's part 2 tells: what is undone, and what images keep. */
    private static final class Moment {
        private final Wheel wheel = new Wheel();
        private final Trace trace = new Trace();
        private int ticksEver;
        private int trips;

        private void startAnew() {
            wheel.startAnew();
            trace.startAnew();
            ticksEver = 0;
            trips = 0;
        }

        private void become(Moment other) {
            wheel.become(other.wheel);
            trace.become(other.trace);
            ticksEver = other.ticksEver;
            trips = other.trips;
        }

        private void tick(Settings settings) {
            boolean wasTripped = wheel.mode == TRIPPED;
            wheel.step(settings);
            if (!wasTripped && wheel.mode == TRIPPED) {
                trips++;
            }
            trace.add(wheel.speed);
            ticksEver++;
        }
    }

    /** A ring of the latest moments that can come again; the oldest gives way. */
    private static final class Past {
        private final Moment[] moments = new Moment[MOST_UNDONE];
        private int next;
        private int size;

        private Past() {
            for (int i = 0; i < MOST_UNDONE; i++) {
                moments[i] = new Moment();
            }
        }

        private void lose() {
            size = 0;
        }

        private void add(Moment moment) {
            moments[Math.floorMod(next, MOST_UNDONE)].become(moment);
            next = Math.floorMod(next + 1, MOST_UNDONE);
            size = Math.min(MOST_UNDONE, size + 1);
        }

        private void takeLatest(Moment into) {
            if (size > 0) {
                next = Math.floorMod(next - 1, MOST_UNDONE);
                into.become(moments[next]);
                size--;
            }
        }
    }

    private static final class Seen {
        private final int[] ticks = new int[MOST_SEEN];
        private final int[] winds = new int[MOST_SEEN];
        private final int[] speeds = new int[MOST_SEEN];
        private final int[] speedByIce = new int[MOST_ICE + 1];
        private int size;

        private void add(int n, int wind, int speed) {
            if (size >= 0 && size < MOST_SEEN) {
                ticks[size] = n;
                winds[size] = wind;
                speeds[size] = speed;
                size++;
            }
        }
    }

    /** Counts the cycles of THE RECORD as rain flows off roofs. */
    private static final class Rain {
        private final int[] turns = new int[MOST_RECORD];
        private int turnCount;
        private final int[] row = new int[MOST_RECORD];
        private int rowSize;
        /** The unlike differences, each with its halves at the same place. */
        private final int[] differences = new int[MOST_RECORD];
        private final int[] halfCounts = new int[MOST_RECORD];
        private int kinds;
        private int cycles;

        private void pour(Trace trace) {
            turnCount = 0;
            rowSize = 0;
            kinds = 0;
            cycles = 0;
            for (int k = trace.size - 1; k >= 0; k--) {
                findTurn(trace.speedAgo(k));
            }
            for (int i = 0; i < turnCount && i < MOST_RECORD; i++) {
                addToRow(turns[i]);
            }
            for (int i = 1; i < rowSize && i < MOST_RECORD; i++) {
                addHalves(Math.abs(row[i] - row[i - 1]), 1);
            }
        }

        /** The latest speed is the last turn as long as none follows: one that goes on the same way takes its place. */
        private void findTurn(int speed) {
            if (turnCount > 0 && turns[turnCount - 1] == speed) {
                return;
            }
            if (turnCount > 1) {
                boolean wasRising = turns[turnCount - 1] > turns[turnCount - 2];
                boolean isRising = speed > turns[turnCount - 1];
                if (wasRising == isRising) {
                    turns[turnCount - 1] = speed;
                    return;
                }
            }
            if (turnCount < MOST_RECORD) {
                turns[turnCount] = speed;
                turnCount++;
            }
        }

        private void addToRow(int turn) {
            if (rowSize >= MOST_RECORD) {
                return;
            }
            row[rowSize] = turn;
            rowSize++;
            while (rowSize >= 4 && isCycleInside()) {
                cycles++;
                addHalves(Math.abs(row[rowSize - 2] - row[rowSize - 3]), 2);
                row[rowSize - 3] = row[rowSize - 1];
                rowSize -= 2;
            }
        }

        /** Asked of a row of four or more. */
        private boolean isCycleInside() {
            int first = Math.abs(row[rowSize - 3] - row[rowSize - 4]);
            int middle = Math.abs(row[rowSize - 2] - row[rowSize - 3]);
            int last = Math.abs(row[rowSize - 1] - row[rowSize - 2]);
            return middle <= first && middle <= last;
        }

        private void addHalves(int difference, int halves) {
            int place = placeOf(difference);
            if (place >= MOST_RECORD) {
                return;
            }
            if (place == kinds) {
                differences[place] = difference;
                halfCounts[place] = 0;
                kinds++;
            }
            halfCounts[place] += halves;
        }

        /** Where a difference stands; behind the last, if it doesn't. */
        private int placeOf(int difference) {
            int place = 0;
            while (place < kinds && differences[place] != difference) {
                place++;
            }
            return place;
        }

        private int halvesOf(int difference) {
            int place = placeOf(difference);
            return place < kinds ? halfCounts[place] : 0;
        }

        private int greatestDifference() {
            int greatest = NONE;
            for (int i = 0; i < kinds; i++) {
                greatest = Math.max(greatest, differences[i]);
            }
            return greatest;
        }

        private int allHalves() {
            int all = 0;
            for (int i = 0; i < kinds; i++) {
                all += halfCounts[i];
            }
            return all;
        }
    }
}
