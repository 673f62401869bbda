import java.util.NoSuchElementException;

/**
 * A simulator of a granary that is guarded by cats on shifts, in which the outgoing cat swears in
 * the incoming one. The numbered promises of ../shared/DOC.md say what each call answers.
 */
public final class GranaryWatch {
    public static final int NONE = -1;
    public static final int NO_ERROR = 0;
    public static final int SYNTAX = 1;
    public static final int OUT_OF_RANGE = 2;
    public static final int DUPLICATE_NAME = 3;
    public static final int UNKNOWN_NAME = 4;
    public static final int TOO_MANY = 5;
    public static final int INCOMPLETE = 6;
    public static final int CAN_SWEAR = 0;
    public static final int NOBODY_SWORN = 1;
    public static final int TOO_TIRED = 2;
    public static final int SAME_PAW = 3;
    public static final int HUNT = 1;
    public static final int OATH = 2;
    public static final int REFUSAL = 3;
    public static final int DAWN = 4;

    private static final String FIRST_SETUP = "cat tom 5 left;cat puss 3 right;cat moss 7 right;sack rye 60 4 open;sack oats 30 9 shut;sack peas 8 2 open;shift tom 4;shift puss 3;shift moss 5;";

    private static final int MOST_CATS = 8;
    private static final int MOST_SACKS = 6;
    private static final int MOST_SHIFTS = 12;
    private static final int MOST_STATEMENTS = 30;
    private static final int MOST_EVENTS = 16;
    private static final int MOST_CHANGES = 8;
    private static final int MOST_INPUT = 600;
    private static final int MOST_OUTPUT = 100;

    private static final int LONGEST_WORD = 8;
    private static final int LONGEST_NAME = 6;
    private static final int LONGEST_NUMBER = 4;

    private static final int MOST_SPEED = 9;
    private static final int MOST_TIREDNESS = 20;
    private static final int TIREDNESS_UNABLE = 12;
    private static final int MOST_MICE = 99;
    private static final int MOST_GRAIN = 9999;
    private static final int MOST_GRAIN_GIVEN = 999;
    private static final int MOST_SHIFT_HOURS = 24;
    private static final int MOST_MILK = 9;
    private static final int MOST_WAIT = 99;
    private static final int MOST_CLOCK = 9999;
    private static final int MOST_PREDICTED = 200;
    private static final int DAY = 24;
    private static final int DAWN_HOUR = 6;

    private final Text text = new Text();
    private final Output output = new Output();
    private final Granary now = new Granary();
    // These granaries are made once and filled again and again, so that calls make no new ones.
    private final Granary draft = new Granary();
    private final Granary trial = new Granary();
    private final Granary saved = new Granary();
    private final Granary[] past = new Granary[MOST_CHANGES];
    private final Setup setup = new Setup(text, draft);
    private final Script script = new Script(text, now);
    private boolean hasSaved;
    private int nextPast;
    private int undoable;

    public GranaryWatch() {
        for (int i = 0; i < past.length; i++) {
            past[i] = new Granary();
        }
        text.appendWords(FIRST_SETUP);
        setup.parse();
        text.length = 0;
        now.copyFrom(draft);
    }

    public int appendInput(int a, int b, int c, int d, int e) {
        if (text.length + 20 > MOST_INPUT) {
            return NONE;
        }
        text.appendFour(a);
        text.appendFour(b);
        text.appendFour(c);
        text.appendFour(d);
        text.appendFour(e);
        return text.length;
    }

    public boolean truncateInput(int length) {
        if (length < 0 || length > text.length) {
            return false;
        }
        text.length = length;
        return true;
    }

    public int loadGranary() {
        boolean isSetup = setup.parse();
        text.length = 0;
        if (!isSetup) {
            return NONE;
        }
        now.copyFrom(draft);
        undoable = 0;
        hasSaved = false;
        return now.catCount;
    }

    public int runScript() {
        boolean isScript = script.parse();
        text.length = 0;
        if (!isScript) {
            return NONE;
        }
        remember();
        return script.execute();
    }

    public int errorCode() {
        return text.error;
    }

    public int errorOffset() {
        return text.errorStart;
    }

    public int clock() {
        return now.clock;
    }

    public int hourOfDay() {
        return now.clock % DAY;
    }

    public int catCount() {
        return now.catCount;
    }

    public int sackCount() {
        return now.sackCount;
    }

    public int shiftCount() {
        return now.shiftCount;
    }

    public int catNameByte(int cat, int index) throws IndexOutOfBoundsException {
        return letterOf(catAt(cat).name, index);
    }

    public int sackNameByte(int sack, int index) throws IndexOutOfBoundsException {
        return letterOf(sackAt(sack).name, index);
    }

    public int speedOf(int cat) throws IndexOutOfBoundsException {
        return catAt(cat).speed;
    }

    public boolean isLeftPawed(int cat) throws IndexOutOfBoundsException {
        return catAt(cat).left;
    }

    public int tirednessOf(int cat) throws IndexOutOfBoundsException {
        return catAt(cat).tiredness;
    }

    public int strengthOf(int cat) throws IndexOutOfBoundsException {
        return catAt(cat).strength();
    }

    public int caughtBy(int cat) throws IndexOutOfBoundsException {
        return catAt(cat).caught;
    }

    public int oathsOf(int cat) throws IndexOutOfBoundsException {
        return catAt(cat).oaths;
    }

    public int grainIn(int sack) throws IndexOutOfBoundsException {
        return sackAt(sack).grain;
    }

    public int miceIn(int sack) throws IndexOutOfBoundsException {
        return sackAt(sack).mice;
    }

    public boolean isOpen(int sack) throws IndexOutOfBoundsException {
        return sackAt(sack).open;
    }

    public int eatenFrom(int sack) throws IndexOutOfBoundsException {
        return sackAt(sack).eaten;
    }

    public int swornCat() {
        return now.sworn;
    }

    public int currentShift() {
        return now.shift;
    }

    public int hoursLeft() {
        return now.hoursLeft;
    }

    public int catOfShift(int shift) throws IndexOutOfBoundsException {
        return shiftAt(shift).cat;
    }

    public int hoursOfShift(int shift) throws IndexOutOfBoundsException {
        return shiftAt(shift).hours;
    }

    public int oathReason(int cat) throws IndexOutOfBoundsException {
        catAt(cat);
        return now.reasonAgainst(cat);
    }

    public int huntingSack() {
        return now.busiestOpenSack();
    }

    public int eventCount() {
        return now.events.count;
    }

    public int eventKind(int back) {
        return now.events.holds(back) ? now.events.kinds[now.events.slot(back)] : NONE;
    }

    public int eventCat(int back) {
        return now.events.holds(back) ? now.events.cats[now.events.slot(back)] : NONE;
    }

    public int eventNumber(int back) {
        return now.events.holds(back) ? now.events.numbers[now.events.slot(back)] : NONE;
    }

    public int milk() {
        return now.milk;
    }

    public int miceAfter(int sack, int hours) throws IndexOutOfBoundsException, IllegalArgumentException {
        sackAt(sack);
        predict(hours);
        return trial.sacks[sack].mice;
    }

    public int grainAfter(int sack, int hours) throws IndexOutOfBoundsException, IllegalArgumentException {
        sackAt(sack);
        predict(hours);
        return trial.sacks[sack].grain;
    }

    public int swornAfter(int hours) throws IllegalArgumentException {
        predict(hours);
        return trial.sworn;
    }

    public int hoursUntilUnguarded() {
        trial.copyFrom(now);
        for (int hours = 0; hours <= MOST_PREDICTED; hours++) {
            if (trial.sworn == NONE) {
                return hours;
            }
            trial.passHour();
        }
        return NONE;
    }

    public int hoursUntilEmpty(int sack) throws IndexOutOfBoundsException {
        sackAt(sack);
        trial.copyFrom(now);
        for (int hours = 0; hours <= MOST_PREDICTED; hours++) {
            if (trial.sacks[sack].grain == 0) {
                return hours;
            }
            trial.passHour();
        }
        return NONE;
    }

    public int caughtWithin(int hours) throws IllegalArgumentException {
        predict(hours);
        return trial.totals.caught - now.totals.caught;
    }

    public int bestFlapToChange(int hours) throws IllegalArgumentException {
        predict(hours);
        int most = trial.grainOfAll();
        int best = NONE;
        for (int sack = 0; sack < now.sackCount; sack++) {
            int grain = grainWithFlapChanged(sack, hours);
            if (grain > most) {
                most = grain;
                best = sack;
            }
        }
        return best;
    }

    public int totalCaught() {
        return now.totals.caught;
    }

    public int totalEaten() {
        return now.totals.eaten;
    }

    public int totalBorn() {
        return now.totals.born;
    }

    public int totalStarved() {
        return now.totals.starved;
    }

    public int totalOaths() {
        return now.totals.oaths;
    }

    public int totalRefusals() {
        return now.totals.refusals;
    }

    public boolean isConsistent() {
        return now.miceAddUp() && now.grainAddsUp() && now.catsAddUp();
    }

    public double averageTiredness() {
        if (now.catCount == 0) {
            return 0.0;
        }
        int sum = 0;
        for (int i = 0; i < now.catCount; i++) {
            sum += now.cats[i].tiredness;
        }
        return (double) sum / (double) now.catCount;
    }

    public float shareOf(int cat) throws IndexOutOfBoundsException {
        int caught = catAt(cat).caught;
        if (now.totals.caught == 0) {
            return 0.0f;
        }
        return (float) caught / (float) now.totals.caught;
    }

    public int letPass(int hours) throws IllegalArgumentException, IllegalStateException {
        requireRange(hours, 1, MOST_WAIT);
        return change(Script.WAIT, NONE, hours);
    }

    public int openFlap(int sack) throws IndexOutOfBoundsException, IllegalStateException {
        sackAt(sack);
        return change(Script.OPEN, sack, 0);
    }

    public int shutFlap(int sack) throws IndexOutOfBoundsException, IllegalStateException {
        sackAt(sack);
        return change(Script.SHUT, sack, 0);
    }

    public int addMice(int sack, int mice) throws IndexOutOfBoundsException, IllegalArgumentException, IllegalStateException {
        sackAt(sack);
        requireRange(mice, 1, MOST_MICE);
        return change(Script.ADD_MICE, sack, mice);
    }

    public int addGrain(int sack, int grain) throws IndexOutOfBoundsException, IllegalArgumentException, IllegalStateException {
        sackAt(sack);
        requireRange(grain, 1, MOST_GRAIN_GIVEN);
        return change(Script.ADD_GRAIN, sack, grain);
    }

    public int dismiss() throws IllegalStateException {
        return change(Script.DISMISS, NONE, 0);
    }

    public int setMilk(int milk) throws IllegalArgumentException {
        requireRange(milk, 0, MOST_MILK);
        return change(Script.SET_MILK, NONE, milk);
    }

    public int undo() throws NoSuchElementException {
        if (undoable == 0) {
            throw new NoSuchElementException("there is no change to undo");
        }
        nextPast = Math.floorMod(nextPast - 1, MOST_CHANGES);
        now.copyFrom(past[nextPast]);
        undoable--;
        return undoable;
    }

    public int writeSacks() {
        output.length = 0;
        for (int i = 0; i < now.sackCount; i++) {
            if (i > 0) {
                output.put(' ');
            }
            output.putSack(now.sacks[i]);
        }
        return output.length;
    }

    public int outputByte(int index) {
        return index >= 0 && index < output.length ? output.bytes[index] : NONE;
    }

    public int saveState() {
        saved.copyFrom(now);
        hasSaved = true;
        return now.clock;
    }

    public int restoreState() throws NoSuchElementException {
        if (!hasSaved) {
            throw new NoSuchElementException("no state is saved");
        }
        now.copyFrom(saved);
        undoable = 0;
        return now.clock;
    }

    private Cat catAt(int index) {
        if (index < 0 || index >= now.catCount) {
            throw new IndexOutOfBoundsException("there is no such cat");
        }
        return now.cats[index];
    }

    private Sack sackAt(int index) {
        if (index < 0 || index >= now.sackCount) {
            throw new IndexOutOfBoundsException("there is no such sack");
        }
        return now.sacks[index];
    }

    private Shift shiftAt(int index) {
        if (index < 0 || index >= now.shiftCount) {
            throw new IndexOutOfBoundsException("there is no such shift");
        }
        return now.shifts[index];
    }

    private static void requireRange(int number, int least, int most) {
        if (number < least || number > most) {
            throw new IllegalArgumentException("the number is out of range");
        }
    }

    private static int letterOf(String name, int index) {
        return index >= 0 && index < name.length() ? name.charAt(index) : NONE;
    }

    private void predict(int hours) {
        requireRange(hours, 0, MOST_PREDICTED);
        trial.copyFrom(now);
        trial.passHours(hours);
    }

    private int grainWithFlapChanged(int sack, int hours) {
        trial.copyFrom(now);
        trial.sacks[sack].open = !trial.sacks[sack].open;
        trial.passHours(hours);
        return trial.grainOfAll();
    }

    private int change(int kind, int sack, int number) {
        if (!now.allows(kind, sack, number)) {
            throw new IllegalStateException("the granary does not allow this change now");
        }
        remember();
        return now.apply(kind, sack, number);
    }

    private void remember() {
        past[nextPast].copyFrom(now);
        nextPast = (nextPast + 1) % MOST_CHANGES;
        undoable = Math.min(undoable + 1, MOST_CHANGES);
    }

    private static final class Cat {
        String name = "";
        int speed;
        boolean left;
        int tiredness;
        int caught;
        int oaths;

        void copyFrom(Cat other) {
            name = other.name;
            speed = other.speed;
            left = other.left;
            tiredness = other.tiredness;
            caught = other.caught;
            oaths = other.oaths;
        }

        void begin() {
            tiredness = 0;
            caught = 0;
            oaths = 0;
        }

        int strength() {
            return Math.max(speed - tiredness / 4, 0);
        }

        void tire() {
            tiredness = Math.min(tiredness + 1, MOST_TIREDNESS);
        }

        void recover(int amount) {
            tiredness = Math.max(tiredness - amount, 0);
        }
    }

    private static final class Sack {
        String name = "";
        int grain;
        int mice;
        boolean open;
        int eaten;

        void copyFrom(Sack other) {
            name = other.name;
            grain = other.grain;
            mice = other.mice;
            open = other.open;
            eaten = other.eaten;
        }
    }

    private static final class Shift {
        int cat;
        int hours;

        void copyFrom(Shift other) {
            cat = other.cat;
            hours = other.hours;
        }
    }

    private static final class Events {
        final int[] kinds = new int[MOST_EVENTS];
        final int[] cats = new int[MOST_EVENTS];
        final int[] numbers = new int[MOST_EVENTS];
        int count;
        int next;

        void copyFrom(Events other) {
            System.arraycopy(other.kinds, 0, kinds, 0, MOST_EVENTS);
            System.arraycopy(other.cats, 0, cats, 0, MOST_EVENTS);
            System.arraycopy(other.numbers, 0, numbers, 0, MOST_EVENTS);
            count = other.count;
            next = other.next;
        }

        void clear() {
            count = 0;
            next = 0;
        }

        void add(int kind, int cat, int number) {
            kinds[next] = kind;
            cats[next] = cat;
            numbers[next] = number;
            next = (next + 1) % MOST_EVENTS;
            count = Math.min(count + 1, MOST_EVENTS);
        }

        boolean holds(int back) {
            return back >= 0 && back < count;
        }

        int slot(int back) {
            return Math.floorMod(next - 1 - back, MOST_EVENTS);
        }
    }

    private static final class Totals {
        int caught;
        int eaten;
        int born;
        int starved;
        int oaths;
        int refusals;
        // What came in from outside, which isConsistent compares with what is there.
        int miceBrought;
        int grainBrought;

        void copyFrom(Totals other) {
            caught = other.caught;
            eaten = other.eaten;
            born = other.born;
            starved = other.starved;
            oaths = other.oaths;
            refusals = other.refusals;
            miceBrought = other.miceBrought;
            grainBrought = other.grainBrought;
        }

        void clear() {
            caught = 0;
            eaten = 0;
            born = 0;
            starved = 0;
            oaths = 0;
            refusals = 0;
            miceBrought = 0;
            grainBrought = 0;
        }
    }

    /** All that undo, saveState and the predictions copy. */
    private static final class Granary {
        final Cat[] cats = new Cat[MOST_CATS];
        final Sack[] sacks = new Sack[MOST_SACKS];
        final Shift[] shifts = new Shift[MOST_SHIFTS];
        final Events events = new Events();
        final Totals totals = new Totals();
        int catCount;
        int sackCount;
        int shiftCount;
        int sworn = NONE;
        int shift;
        int hoursLeft;
        int milk;
        int clock;

        Granary() {
            for (int i = 0; i < cats.length; i++) {
                cats[i] = new Cat();
            }
            for (int i = 0; i < sacks.length; i++) {
                sacks[i] = new Sack();
            }
            for (int i = 0; i < shifts.length; i++) {
                shifts[i] = new Shift();
            }
        }

        void copyFrom(Granary other) {
            catCount = other.catCount;
            sackCount = other.sackCount;
            shiftCount = other.shiftCount;
            sworn = other.sworn;
            shift = other.shift;
            hoursLeft = other.hoursLeft;
            milk = other.milk;
            clock = other.clock;
            events.copyFrom(other.events);
            totals.copyFrom(other.totals);
            for (int i = 0; i < catCount; i++) {
                cats[i].copyFrom(other.cats[i]);
            }
            for (int i = 0; i < sackCount; i++) {
                sacks[i].copyFrom(other.sacks[i]);
            }
            for (int i = 0; i < shiftCount; i++) {
                shifts[i].copyFrom(other.shifts[i]);
            }
        }

        void clear() {
            catCount = 0;
            sackCount = 0;
            shiftCount = 0;
            sworn = NONE;
            shift = 0;
            hoursLeft = 0;
            milk = 3;
            clock = DAWN_HOUR;
            events.clear();
            totals.clear();
        }

        void begin() {
            totals.miceBrought = miceOfAll();
            totals.grainBrought = grainOfAll();
            hoursLeft = shifts[0].hours;
            swearIn(shifts[0].cat);
        }

        /** Tells whether the method of this change would not throw an IllegalStateException. */
        boolean allows(int kind, int sack, int number) {
            switch (kind) {
                case Script.WAIT:
                    return clock + number <= MOST_CLOCK;
                case Script.OPEN:
                    return !sacks[sack].open;
                case Script.SHUT:
                    return sacks[sack].open;
                case Script.ADD_MICE:
                    return sacks[sack].mice + number <= MOST_MICE;
                case Script.ADD_GRAIN:
                    return sacks[sack].grain + number <= MOST_GRAIN;
                case Script.DISMISS:
                    return sworn != NONE;
                default:
                    return true;
            }
        }

        /** Carries an allowed change out and returns what its method answers. */
        int apply(int kind, int sack, int number) {
            switch (kind) {
                case Script.WAIT:
                    return passHours(number);
                case Script.OPEN:
                    sacks[sack].open = true;
                    return openFlaps();
                case Script.SHUT:
                    sacks[sack].open = false;
                    return openFlaps();
                case Script.ADD_MICE:
                    sacks[sack].mice += number;
                    totals.miceBrought += number;
                    return sacks[sack].mice;
                case Script.ADD_GRAIN:
                    sacks[sack].grain += number;
                    totals.grainBrought += number;
                    return sacks[sack].grain;
                case Script.DISMISS:
                    int dismissed = sworn;
                    sworn = NONE;
                    return dismissed;
                default:
                    int before = milk;
                    milk = number;
                    return before;
            }
        }

        int passHours(int hours) {
            int before = totals.caught;
            for (int i = 0; i < hours; i++) {
                passHour();
            }
            return totals.caught - before;
        }

        void passHour() {
            clock++;
            for (int i = 0; i < sackCount; i++) {
                feedMice(i);
            }
            if (clock % DAY == 0) {
                growMice();
            }
            int hunter = hunt();
            restAllBut(hunter);
            hoursLeft--;
            if (hoursLeft <= 0) {
                changeShift();
            }
            if (clock % DAY == DAWN_HOUR) {
                greetDawn();
            }
        }

        void feedMice(int index) {
            Sack sack = sacks[index];
            int eaten = Math.min(sack.mice, sack.grain);
            sack.grain -= eaten;
            sack.eaten += eaten;
            totals.eaten += eaten;
            if (sack.mice == 0 || sack.grain > 0) {
                return;
            }
            int refuge = sack.open ? nextOpenSack(index) : NONE;
            if (refuge == NONE) {
                starve(sack, (sack.mice + 1) / 2);
            } else {
                sacks[refuge].mice += sack.mice;
                sack.mice = 0;
                starve(sacks[refuge], Math.max(sacks[refuge].mice - MOST_MICE, 0));
            }
        }

        int nextOpenSack(int index) {
            for (int step = 1; step < sackCount; step++) {
                int other = (index + step) % sackCount;
                if (sacks[other].open) {
                    return other;
                }
            }
            return NONE;
        }

        void starve(Sack sack, int mice) {
            sack.mice -= mice;
            totals.starved += mice;
        }

        void growMice() {
            for (int i = 0; i < sackCount; i++) {
                int born = Math.min(sacks[i].mice / 2, MOST_MICE - sacks[i].mice);
                sacks[i].mice += born;
                totals.born += born;
            }
        }

        /** Returns the cat that hunted, or NONE. */
        int hunt() {
            int index = busiestOpenSack();
            if (sworn == NONE || index == NONE) {
                return NONE;
            }
            Cat cat = cats[sworn];
            Sack sack = sacks[index];
            int caught = Math.min(cat.strength(), sack.mice);
            sack.mice -= caught;
            cat.caught += caught;
            totals.caught += caught;
            cat.tire();
            events.add(HUNT, sworn, caught);
            return sworn;
        }

        int busiestOpenSack() {
            int busiest = NONE;
            int most = 0;
            for (int i = 0; i < sackCount; i++) {
                if (sacks[i].open && sacks[i].mice > most) {
                    most = sacks[i].mice;
                    busiest = i;
                }
            }
            return busiest;
        }

        void restAllBut(int hunter) {
            for (int i = 0; i < catCount; i++) {
                if (i != hunter) {
                    cats[i].recover(1);
                }
            }
        }

        void changeShift() {
            shift = shift + 1 < shiftCount ? shift + 1 : 0;
            hoursLeft = shifts[shift].hours;
            if (sworn == NONE) {
                return;
            }
            int outgoing = sworn;
            int incoming = shifts[shift].cat;
            if (reasonAgainst(incoming) == CAN_SWEAR) {
                swearIn(incoming);
                events.add(OATH, incoming, outgoing);
            } else {
                sworn = NONE;
                totals.refusals++;
                events.add(REFUSAL, incoming, outgoing);
            }
        }

        int reasonAgainst(int cat) {
            if (sworn == NONE) {
                return NOBODY_SWORN;
            }
            if (cats[cat].tiredness >= TIREDNESS_UNABLE) {
                return TOO_TIRED;
            }
            return cat != sworn && cats[cat].left == cats[sworn].left ? SAME_PAW : CAN_SWEAR;
        }

        void swearIn(int cat) {
            sworn = cat;
            cats[cat].oaths++;
            totals.oaths++;
        }

        void greetDawn() {
            for (int i = 0; i < catCount; i++) {
                cats[i].recover(milk);
            }
            int cat = shifts[shift].cat;
            if (sworn == NONE && cats[cat].tiredness < TIREDNESS_UNABLE) {
                swearIn(cat);
                events.add(DAWN, cat, clock);
            } else {
                events.add(DAWN, NONE, clock);
            }
        }

        int openFlaps() {
            int count = 0;
            for (int i = 0; i < sackCount; i++) {
                if (sacks[i].open) {
                    count++;
                }
            }
            return count;
        }

        int miceOfAll() {
            int sum = 0;
            for (int i = 0; i < sackCount; i++) {
                sum += sacks[i].mice;
            }
            return sum;
        }

        int miceOfAllBackwards() {
            int sum = 0;
            for (int i = sackCount - 1; i >= 0; i--) {
                sum += sacks[i].mice;
            }
            return sum;
        }

        int grainOfAll() {
            int sum = 0;
            for (int i = 0; i < sackCount; i++) {
                sum += sacks[i].grain;
            }
            return sum;
        }

        boolean miceAddUp() {
            int due = totals.miceBrought + totals.born - totals.caught - totals.starved;
            return miceOfAll() == due && miceOfAllBackwards() == due;
        }

        boolean grainAddsUp() {
            int eaten = 0;
            for (int i = 0; i < sackCount; i++) {
                eaten += sacks[i].eaten;
            }
            return eaten == totals.eaten && grainOfAll() == totals.grainBrought - totals.eaten;
        }

        boolean catsAddUp() {
            int caught = 0;
            int oaths = 0;
            for (int i = 0; i < catCount; i++) {
                caught += cats[i].caught;
                oaths += cats[i].oaths;
            }
            return caught == totals.caught && oaths == totals.oaths;
        }

        /** Returns the cat whose name is the word that the text stands at, or NONE. */
        int catNamed(Text text) {
            for (int i = 0; i < catCount; i++) {
                if (text.isWord(cats[i].name)) {
                    return i;
                }
            }
            return NONE;
        }

        /** Returns the sack whose name is the word that the text stands at, or NONE. */
        int sackNamed(Text text) {
            for (int i = 0; i < sackCount; i++) {
                if (text.isWord(sacks[i].name)) {
                    return i;
                }
            }
            return NONE;
        }
    }

    /** The input buffer with the token that a parser stands at and the error of the latest parsing. */
    private static final class Text {
        static final int END = 0;
        static final int WORD = 1;
        static final int NUMBER = 2;
        static final int SEMICOLON = 3;
        static final int BLANK = 4;
        static final int WRONG = 5;

        final byte[] bytes = new byte[MOST_INPUT];
        final StringBuilder letters = new StringBuilder();
        int length;
        int position;
        int kind;
        int start;
        int number;
        int error = NO_ERROR;
        int errorStart = NONE;

        void appendFour(int bits) {
            append(bits >> 24);
            append(bits >> 16);
            append(bits >> 8);
            append(bits);
        }

        void appendWords(String words) {
            for (int i = 0; i < words.length(); i++) {
                append(words.charAt(i));
            }
        }

        void append(int value) {
            if (length < bytes.length) {
                bytes[length] = (byte) value;
                length++;
            }
        }

        void begin() {
            position = 0;
            error = NO_ERROR;
            errorStart = NONE;
        }

        boolean fail(int code) {
            error = code;
            errorStart = start;
            return false;
        }

        /** Goes on to the next token; returns false if the text ends before it. */
        boolean advance() {
            while (position < length && kindOf(bytes[position]) == BLANK) {
                position++;
            }
            start = position;
            if (position >= length) {
                kind = END;
                return false;
            }
            kind = kindOf(bytes[position]);
            position++;
            boolean isRun = kind == WORD || kind == NUMBER;
            while (isRun && position < length && kindOf(bytes[position]) == kind) {
                position++;
            }
            if (kind == WORD && tokenLength() > LONGEST_WORD || kind == NUMBER && tokenLength() > LONGEST_NUMBER) {
                kind = WRONG;
            }
            return true;
        }

        int tokenLength() {
            return position - start;
        }

        static int kindOf(int value) {
            if (value >= 'a' && value <= 'z') {
                return WORD;
            }
            if (value >= '0' && value <= '9') {
                return NUMBER;
            }
            if (value == ';') {
                return SEMICOLON;
            }
            return value == ' ' || value == '\n' ? BLANK : WRONG;
        }

        boolean isWord(String word) {
            if (kind != WORD || tokenLength() != word.length()) {
                return false;
            }
            for (int i = 0; i < word.length(); i++) {
                if (bytes[start + i] != word.charAt(i)) {
                    return false;
                }
            }
            return true;
        }

        String word() {
            letters.setLength(0);
            for (int i = start; i < position; i++) {
                letters.append((char) bytes[i]);
            }
            return letters.toString();
        }

        boolean takeName() {
            advance();
            return kind == WORD && tokenLength() <= LONGEST_NAME || fail(SYNTAX);
        }

        boolean takeEither(String one, String other) {
            advance();
            return isWord(one) || isWord(other) || fail(SYNTAX);
        }

        boolean takeSemicolon() {
            advance();
            return kind == SEMICOLON || fail(SYNTAX);
        }

        boolean takeNumber(int least, int most) {
            advance();
            if (kind != NUMBER) {
                return fail(SYNTAX);
            }
            number = 0;
            for (int i = start; i < position; i++) {
                number = number * 10 + bytes[i] - '0';
            }
            return number >= least && number <= most || fail(OUT_OF_RANGE);
        }
    }

    /** Parses the text as a setup into the draft. */
    private static final class Setup {
        private final Text text;
        private final Granary draft;

        Setup(Text text, Granary draft) {
            this.text = text;
            this.draft = draft;
        }

        boolean parse() {
            text.begin();
            draft.clear();
            // A statement takes bytes, so the text ends before there are more statements than bytes.
            for (int statements = 0; statements <= text.length && text.advance(); statements++) {
                if (!readStatement()) {
                    return false;
                }
            }
            if (draft.catCount == 0 || draft.sackCount == 0 || draft.shiftCount == 0) {
                return text.fail(INCOMPLETE);
            }
            draft.begin();
            return true;
        }

        private boolean readStatement() {
            if (text.isWord("cat")) {
                return readCat();
            }
            if (text.isWord("sack")) {
                return readSack();
            }
            if (text.isWord("shift")) {
                return readShift();
            }
            if (text.isWord("milk")) {
                return readMilk();
            }
            return text.isWord("hour") ? readHour() : text.fail(SYNTAX);
        }

        private boolean readCat() {
            if (draft.catCount >= MOST_CATS) {
                return text.fail(TOO_MANY);
            }
            if (!text.takeName()) {
                return false;
            }
            if (draft.catNamed(text) != NONE) {
                return text.fail(DUPLICATE_NAME);
            }
            Cat cat = draft.cats[draft.catCount];
            cat.begin();
            cat.name = text.word();
            if (!text.takeNumber(1, MOST_SPEED)) {
                return false;
            }
            cat.speed = text.number;
            if (!text.takeEither("left", "right")) {
                return false;
            }
            cat.left = text.isWord("left");
            draft.catCount++;
            return text.takeSemicolon();
        }

        private boolean readSack() {
            if (draft.sackCount >= MOST_SACKS) {
                return text.fail(TOO_MANY);
            }
            if (!text.takeName()) {
                return false;
            }
            if (draft.sackNamed(text) != NONE) {
                return text.fail(DUPLICATE_NAME);
            }
            Sack sack = draft.sacks[draft.sackCount];
            sack.eaten = 0;
            sack.name = text.word();
            if (!text.takeNumber(0, MOST_GRAIN_GIVEN)) {
                return false;
            }
            sack.grain = text.number;
            if (!text.takeNumber(0, MOST_MICE)) {
                return false;
            }
            sack.mice = text.number;
            if (!text.takeEither("open", "shut")) {
                return false;
            }
            sack.open = text.isWord("open");
            draft.sackCount++;
            return text.takeSemicolon();
        }

        private boolean readShift() {
            if (draft.shiftCount >= MOST_SHIFTS) {
                return text.fail(TOO_MANY);
            }
            if (!text.takeName()) {
                return false;
            }
            int cat = draft.catNamed(text);
            if (cat == NONE) {
                return text.fail(UNKNOWN_NAME);
            }
            if (!text.takeNumber(1, MOST_SHIFT_HOURS)) {
                return false;
            }
            draft.shifts[draft.shiftCount].cat = cat;
            draft.shifts[draft.shiftCount].hours = text.number;
            draft.shiftCount++;
            return text.takeSemicolon();
        }

        private boolean readMilk() {
            if (!text.takeNumber(0, MOST_MILK)) {
                return false;
            }
            draft.milk = text.number;
            return text.takeSemicolon();
        }

        private boolean readHour() {
            if (!text.takeNumber(0, DAY - 1)) {
                return false;
            }
            draft.clock = text.number;
            return text.takeSemicolon();
        }
    }

    /** Parses the text as a script and executes it on the granary. */
    private static final class Script {
        static final int WAIT = 0;
        static final int OPEN = 1;
        static final int SHUT = 2;
        static final int ADD_MICE = 3;
        static final int ADD_GRAIN = 4;
        static final int DISMISS = 5;
        static final int SET_MILK = 6;

        private final Text text;
        private final Granary granary;
        private final int[] kinds = new int[MOST_STATEMENTS];
        private final int[] sacks = new int[MOST_STATEMENTS];
        private final int[] numbers = new int[MOST_STATEMENTS];
        private int count;

        Script(Text text, Granary granary) {
            this.text = text;
            this.granary = granary;
        }

        boolean parse() {
            text.begin();
            count = 0;
            // A statement takes bytes, so the text ends before there are more statements than bytes.
            for (int statements = 0; statements <= text.length && text.advance(); statements++) {
                int kind = kindOfStatement();
                if (kind == NONE) {
                    return text.fail(SYNTAX);
                }
                if (!readRest(kind)) {
                    return false;
                }
            }
            return true;
        }

        private int kindOfStatement() {
            if (text.isWord("wait")) {
                return WAIT;
            }
            if (text.isWord("open")) {
                return OPEN;
            }
            if (text.isWord("shut")) {
                return SHUT;
            }
            if (text.isWord("mice")) {
                return ADD_MICE;
            }
            if (text.isWord("grain")) {
                return ADD_GRAIN;
            }
            if (text.isWord("dismiss")) {
                return DISMISS;
            }
            return text.isWord("milk") ? SET_MILK : NONE;
        }

        private boolean readRest(int kind) {
            if (count >= MOST_STATEMENTS) {
                return text.fail(TOO_MANY);
            }
            kinds[count] = kind;
            sacks[count] = NONE;
            numbers[count] = 0;
            if (!readSackName(kind) || !readNumber(kind)) {
                return false;
            }
            count++;
            return text.takeSemicolon();
        }

        private boolean readSackName(int kind) {
            if (kind == WAIT || kind == DISMISS || kind == SET_MILK) {
                return true;
            }
            if (!text.takeName()) {
                return false;
            }
            sacks[count] = granary.sackNamed(text);
            return sacks[count] != NONE || text.fail(UNKNOWN_NAME);
        }

        private boolean readNumber(int kind) {
            if (kind == OPEN || kind == SHUT || kind == DISMISS) {
                return true;
            }
            int least = kind == SET_MILK ? 0 : 1;
            if (!text.takeNumber(least, mostOf(kind))) {
                return false;
            }
            numbers[count] = text.number;
            return true;
        }

        private static int mostOf(int kind) {
            switch (kind) {
                case WAIT:
                    return MOST_WAIT;
                case ADD_MICE:
                    return MOST_MICE;
                case ADD_GRAIN:
                    return MOST_GRAIN_GIVEN;
                default:
                    return MOST_MILK;
            }
        }

        /** Returns the number of statements that were executed. */
        int execute() {
            for (int i = 0; i < count; i++) {
                if (!granary.allows(kinds[i], sacks[i], numbers[i])) {
                    return i;
                }
                granary.apply(kinds[i], sacks[i], numbers[i]);
            }
            return count;
        }
    }

    private static final class Output {
        final byte[] bytes = new byte[MOST_OUTPUT];
        int length;

        void put(int value) {
            if (length < bytes.length) {
                bytes[length] = (byte) value;
                length++;
            }
        }

        void putSack(Sack sack) {
            for (int i = 0; i < sack.name.length(); i++) {
                put(sack.name.charAt(i));
            }
            put(':');
            putNumber(sack.grain);
            put('/');
            putNumber(sack.mice);
            if (sack.open) {
                put('\'');
            }
        }

        void putNumber(int number) {
            for (int unit = 1000; unit > 0; unit /= 10) {
                if (number >= unit || unit == 1) {
                    put('0' + number / unit % 10);
                }
            }
        }
    }
}
