import java.util.NoSuchElementException;

/** A gallery of piles that topple, melt and are lent; ../shared/DOC.md says what each call promises. */
public final class AvalancheGallery {
    public static final int LENT = 1;
    public static final int NO_WAY = 2;

    private static final int MOST_ROOMS = 6;
    private static final int MOST_EXHIBITS = 5;
    private static final int MOST_ASKED = 8;
    private static final int MOST_CHARACTERS = 60;
    private static final int MOST_CHANGES = 8;
    private static final int MOST_GRAINS = 40;
    private static final int MOST_MINUTES = 99;
    private static final int MOST_DAYS = 99;
    private static final int MOST_FEE = 99;
    private static final int LAST_LOAN_DAY = 99;
    private static final int SIDE = 4;
    private static final int SIDES = 4;
    private static final int PLACES = SIDE * SIDE;
    private static final int NONE = -1;
    // Far above any sum of costs, and small enough that two of them can be added.
    private static final int FAR = 1000000;
    // Far above the steps of any toppling; it only shows that the loops end.
    private static final int MOST_STEPS = 1000000;
    // More than the legs of any way, so that minutes decide before legs do.
    private static final int MINUTE_COST = 8;
    // The shortest command has five characters, and a semicolon parts it from the next one.
    private static final int MOST_COMMANDS = (MOST_CHARACTERS + 1) / 6;
    private static final int MOST_VALUES = 4;
    private static final Form[] FORMS = Form.values();

    private final State now = new State();
    private final State saved = new State();
    private boolean somethingSaved;
    private final History history = new History();
    private final Ways ways = new Ways();
    private final Sand sand = new Sand();
    private final Lender lender = new Lender();
    private final Script script = new Script();
    private final StringBuilder output = new StringBuilder();
    // 0 stands for no refusal, as both reasons are greater.
    private int keptReason;
    private int keptDetail;
    private int keptErrorPosition = NONE;
    private int keptFailedCommand = NONE;

    public AvalancheGallery() {
    }

    // Rooms and ways.

    public int addRoom(int warmth) throws IllegalArgumentException, IllegalStateException {
        stopIf(roomFault(warmth));
        remember();
        return now.putRoom(warmth);
    }

    public int setWarmth(int room, int warmth) throws IndexOutOfBoundsException, IllegalArgumentException {
        stopIf(now.roomIndexFault(room));
        stopIf(digitFault(warmth));
        remember();
        int previous = now.warmths[room];
        now.warmths[room] = warmth;
        return previous;
    }

    public int setLeg(int one, int other, int minutes, int warmth)
            throws IndexOutOfBoundsException, IllegalArgumentException {
        stopIf(legFault(one, other, minutes, warmth));
        remember();
        return now.putLeg(one, other, minutes, warmth);
    }

    public int removeLeg(int one, int other) throws IndexOutOfBoundsException, NoSuchElementException {
        stopIf(missingLegFault(one, other));
        remember();
        return now.putLeg(one, other, 0, 0);
    }

    public int roomCount() {
        return now.rooms;
    }

    public int warmth(int room) throws IndexOutOfBoundsException {
        stopIf(now.roomIndexFault(room));
        return now.warmths[room];
    }

    public int legMinutes(int one, int other) throws IndexOutOfBoundsException, NoSuchElementException {
        stopIf(missingLegFault(one, other));
        return now.minutesOfLegs[one][other];
    }

    public int legWarmth(int one, int other) throws IndexOutOfBoundsException, NoSuchElementException {
        stopIf(missingLegFault(one, other));
        return now.warmthOfLegs[one][other];
    }

    public int minutes(int from, int to) throws IndexOutOfBoundsException, NoSuchElementException {
        stopIf(now.pairFault(from, to));
        return presentOnly(ways.minutesBySettling(now, from, to));
    }

    public int minutesByTable(int from, int to) throws IndexOutOfBoundsException, NoSuchElementException {
        stopIf(now.pairFault(from, to));
        ways.fillTable(now);
        return presentOnly(ways.minutesInTable(from, to));
    }

    public int wayLegs(int from, int to) throws IndexOutOfBoundsException, NoSuchElementException {
        stopIf(now.pairFault(from, to));
        stopIf(wayFault(from, to));
        return ways.stops - 1;
    }

    public int wayRoom(int from, int to, int place) throws IndexOutOfBoundsException, NoSuchElementException {
        stopIf(now.pairFault(from, to));
        stopIf(wayFault(from, to));
        if (place < 0 || place >= ways.stops) {
            throw new NoSuchElementException("the way has no such place");
        }
        return ways.way[place];
    }

    // Exhibits and piles.

    public int addExhibit(int room, int limit)
            throws IndexOutOfBoundsException, IllegalArgumentException, IllegalStateException {
        stopIf(pileFault(room, limit));
        remember();
        return now.putExhibit(room, limit);
    }

    public int setLimit(int exhibit, int limit) throws IndexOutOfBoundsException, IllegalArgumentException {
        Exhibit it = existing(exhibit);
        stopIf(digitFault(limit));
        remember();
        int previous = it.caseLimit;
        it.caseLimit = limit;
        return previous;
    }

    public int drop(int exhibit, int x, int y, int grains)
            throws IndexOutOfBoundsException, IllegalArgumentException {
        stopIf(dropFault(exhibit, x, y, grains));
        remember();
        return sand.fallOn(now.exhibits[exhibit], placeAt(x, y), grains);
    }

    public int topplingsIf(int exhibit, int x, int y, int grains)
            throws IndexOutOfBoundsException, IllegalArgumentException {
        stopIf(dropFault(exhibit, x, y, grains));
        sand.tryFall(now.exhibits[exhibit], placeAt(x, y), grains);
        return sand.toppleByPlaces(sand.trial);
    }

    public int topplingsIfByRounds(int exhibit, int x, int y, int grains)
            throws IndexOutOfBoundsException, IllegalArgumentException {
        stopIf(dropFault(exhibit, x, y, grains));
        sand.tryFall(now.exhibits[exhibit], placeAt(x, y), grains);
        return sand.toppleByRounds(sand.trial);
    }

    public int exhibitCount() {
        return now.exhibitsShown;
    }

    public int roomOf(int exhibit) throws IndexOutOfBoundsException {
        return existing(exhibit).room;
    }

    public int limit(int exhibit) throws IndexOutOfBoundsException {
        return existing(exhibit).caseLimit;
    }

    public int grainsAt(int exhibit, int x, int y) throws IndexOutOfBoundsException, IllegalArgumentException {
        Exhibit it = existing(exhibit);
        stopIf(placeFault(x, y));
        return it.pile[placeAt(x, y)];
    }

    public int grains(int exhibit) throws IndexOutOfBoundsException {
        return Sand.countGrains(existing(exhibit).pile);
    }

    public boolean lasts(int exhibit) throws IndexOutOfBoundsException {
        return sand.burnsWhole(existing(exhibit).pile);
    }

    public boolean lastsByToppling(int exhibit) throws IndexOutOfBoundsException {
        return sand.topplesOnceEach(existing(exhibit).pile);
    }

    public int longestSlope(int exhibit) throws IndexOutOfBoundsException {
        return Sand.slopeByRecursion(existing(exhibit).pile);
    }

    public int longestSlopeByGrains(int exhibit) throws IndexOutOfBoundsException {
        return sand.slopeFromFewest(existing(exhibit).pile);
    }

    public int dropped(int exhibit) throws IndexOutOfBoundsException {
        return existing(exhibit).droppedGrains;
    }

    public int spilled(int exhibit) throws IndexOutOfBoundsException {
        return existing(exhibit).spilledGrains;
    }

    public int melted(int exhibit) throws IndexOutOfBoundsException {
        return existing(exhibit).meltedGrains;
    }

    // Couriers and days.

    public int send(int exhibit, int to) throws IndexOutOfBoundsException, UnsupportedOperationException {
        stopIf(sendFault(exhibit, to));
        remember();
        return carry(now.exhibits[exhibit], to);
    }

    public int meltIfSent(int exhibit, int to) throws IndexOutOfBoundsException, NoSuchElementException {
        stopIf(journeyFault(exhibit, to));
        Exhibit it = now.exhibits[exhibit];
        stopIf(wayFault(it.room, to));
        return Math.min(passedOnWay(it.caseLimit), Sand.countGrains(it.pile));
    }

    public int leastPassed(int exhibit, int to) throws IndexOutOfBoundsException, NoSuchElementException {
        stopIf(journeyFault(exhibit, to));
        return presentOnly(ways.passedBySettling(now, now.exhibits[exhibit], to));
    }

    public int leastPassedByRounds(int exhibit, int to) throws IndexOutOfBoundsException, NoSuchElementException {
        stopIf(journeyFault(exhibit, to));
        return presentOnly(ways.passedByRounds(now, now.exhibits[exhibit], to));
    }

    public int passDays(int days) throws IllegalArgumentException {
        stopIf(daysFault(days));
        remember();
        return now.letDaysPass(days);
    }

    public int day() {
        return now.today;
    }

    // Loans.

    public int ask(int exhibit, int first, int last, int fee)
            throws IndexOutOfBoundsException, IllegalArgumentException, IllegalStateException {
        stopIf(askFault(exhibit, first, last, fee));
        remember();
        return now.exhibits[exhibit].noteLoan(first, last, fee);
    }

    public int takeBest(int exhibit) throws IndexOutOfBoundsException, IllegalStateException {
        stopIf(takeFault(exhibit));
        remember();
        return now.lend(exhibit);
    }

    public int askedCount(int exhibit) throws IndexOutOfBoundsException {
        return existing(exhibit).asked;
    }

    public int takenCount(int exhibit) throws IndexOutOfBoundsException {
        return existing(exhibit).taken;
    }

    public int bestFees(int exhibit) throws IndexOutOfBoundsException {
        return lender.feesByLastDays(existing(exhibit));
    }

    public int bestFeesByTrials(int exhibit) throws IndexOutOfBoundsException {
        Exhibit it = existing(exhibit);
        return it.feesOf(it.bestChoice());
    }

    public boolean isLent(int exhibit, int day) throws IndexOutOfBoundsException {
        return existing(exhibit).loanEndOn(day) != NONE;
    }

    public int income() {
        return now.received;
    }

    // Refusals, statistics and output.

    public int refusalReason() throws NoSuchElementException {
        stopIf(refusalFault());
        return keptReason;
    }

    public int refusalDetail() throws NoSuchElementException {
        stopIf(refusalFault());
        return keptDetail;
    }

    public double meanGrains() throws ArithmeticException {
        int count = now.exhibitsShown;
        if (count == 0) {
            throw new ArithmeticException("there are no exhibits");
        }
        int sum = 0;
        for (int exhibit = 0; exhibit < count; exhibit++) {
            sum += Sand.countGrains(now.exhibits[exhibit].pile);
        }
        return (double) sum / (double) count;
    }

    public float lentFraction() throws ArithmeticException {
        int count = now.exhibitsShown;
        if (count == 0) {
            throw new ArithmeticException("there are no exhibits");
        }
        int lent = 0;
        for (int exhibit = 0; exhibit < count; exhibit++) {
            if (now.exhibits[exhibit].loanEndOn(now.today) != NONE) {
                lent++;
            }
        }
        return (float) lent / (float) count;
    }

    public int writePile(int exhibit) throws IndexOutOfBoundsException {
        int[] pile = existing(exhibit).pile;
        output.setLength(0);
        for (int place = 0; place < PLACES; place++) {
            if (place > 0 && place % SIDE == 0) {
                output.append('/');
            }
            output.append(pile[place]);
        }
        return output.length();
    }

    public int writeWay(int from, int to) throws IndexOutOfBoundsException, NoSuchElementException {
        stopIf(now.pairFault(from, to));
        stopIf(wayFault(from, to));
        output.setLength(0);
        for (int place = 0; place < ways.stops; place++) {
            if (place > 0) {
                output.append('>');
            }
            output.append(ways.way[place]);
        }
        output.append('=');
        output.append(ways.wayMinutes);
        return output.length();
    }

    public char outputCharacter(int index) throws IndexOutOfBoundsException {
        if (index < 0 || index >= output.length()) {
            throw new IndexOutOfBoundsException("the output has no such character");
        }
        return output.charAt(index);
    }

    public boolean isConsistent() {
        boolean agrees = true;
        for (int exhibit = 0; exhibit < now.exhibitsShown; exhibit++) {
            Exhibit it = now.exhibits[exhibit];
            agrees = agrees && pileAgrees(it) && leastPassedAgrees(it)
                    && lender.feesByLastDays(it) == it.feesOf(it.bestChoice());
        }
        return agrees && minutesAgree();
    }

    // Commands, undo and saved state.

    public int feed(char character) throws IllegalStateException {
        if (script.length >= MOST_CHARACTERS) {
            throw new IllegalStateException("the input buffer is full");
        }
        script.text[script.length] = character;
        script.length++;
        return script.length;
    }

    public int execute() throws IllegalArgumentException, UnsupportedOperationException {
        int error = script.readAll();
        script.length = 0;
        if (error != NONE) {
            keptErrorPosition = error;
            throw new IllegalArgumentException("the text is malformed");
        }
        history.note(now);
        int failed = runCommands();
        if (failed != NONE) {
            keptFailedCommand = failed;
            now.copyFrom(history.noted());
            throw new UnsupportedOperationException("a command throws an exception");
        }
        history.keep();
        return script.commands;
    }

    public int errorPosition() throws NoSuchElementException {
        return presentOnly(keptErrorPosition);
    }

    public int failedCommand() throws NoSuchElementException {
        return presentOnly(keptFailedCommand);
    }

    public int undo() throws IllegalStateException {
        if (history.changes == 0) {
            throw new IllegalStateException("there is no change that can be undone");
        }
        history.stepBack();
        now.copyFrom(history.noted());
        return history.changes;
    }

    public int undoCount() {
        return history.changes;
    }

    public int save() {
        saved.copyFrom(now);
        somethingSaved = true;
        return saved.exhibitsShown;
    }

    public int restore() throws IllegalStateException {
        if (!somethingSaved) {
            throw new IllegalStateException("nothing was saved");
        }
        now.copyFrom(saved);
        history.changes = 0;
        return now.exhibitsShown;
    }

    // What the calls share.

    private void remember() {
        history.note(now);
        history.keep();
    }

    private static void stopIf(Fault fault) {
        if (fault == Fault.INDEX) {
            throw new IndexOutOfBoundsException("there is no such room or exhibit");
        }
        if (fault == Fault.ARGUMENT) {
            throw new IllegalArgumentException("an argument is not in its range");
        }
        if (fault == Fault.STATE) {
            throw new IllegalStateException("there are too many or none");
        }
        if (fault == Fault.MISSING) {
            throw new NoSuchElementException("there is no leg, way or refusal");
        }
        if (fault == Fault.REFUSED) {
            throw new UnsupportedOperationException("the courier is refused");
        }
    }

    private static int presentOnly(int answer) {
        if (answer == NONE) {
            throw new NoSuchElementException("there is none");
        }
        return answer;
    }

    private Exhibit existing(int exhibit) {
        if (!now.hasExhibit(exhibit)) {
            throw new IndexOutOfBoundsException("there is no such exhibit");
        }
        return now.exhibits[exhibit];
    }

    private static boolean isFrom(int least, int number, int greatest) {
        return number >= least && number <= greatest;
    }

    private static int placeAt(int x, int y) {
        return y * SIDE + x;
    }

    private static int passedBy(int warmth, int limit) {
        return Math.max(0, warmth - limit);
    }

    // Why a call or a command cannot be carried out; shared, so that both refuse the same.

    private static Fault digitFault(int number) {
        return isFrom(0, number, 9) ? Fault.NOTHING : Fault.ARGUMENT;
    }

    private static Fault placeFault(int x, int y) {
        return isFrom(0, x, SIDE - 1) && isFrom(0, y, SIDE - 1) ? Fault.NOTHING : Fault.ARGUMENT;
    }

    private Fault roomFault(int warmth) {
        if (digitFault(warmth) != Fault.NOTHING) {
            return Fault.ARGUMENT;
        }
        return now.rooms >= MOST_ROOMS ? Fault.STATE : Fault.NOTHING;
    }

    private Fault legFault(int one, int other, int minutes, int warmth) {
        if (now.pairFault(one, other) != Fault.NOTHING) {
            return Fault.INDEX;
        }
        if (one == other || !isFrom(1, minutes, MOST_MINUTES)) {
            return Fault.ARGUMENT;
        }
        return digitFault(warmth);
    }

    private Fault missingLegFault(int one, int other) {
        if (now.pairFault(one, other) != Fault.NOTHING) {
            return Fault.INDEX;
        }
        return now.joins(one, other) ? Fault.NOTHING : Fault.MISSING;
    }

    private Fault wayFault(int from, int to) {
        return ways.findWay(now, from, to) ? Fault.NOTHING : Fault.MISSING;
    }

    private Fault pileFault(int room, int limit) {
        if (now.roomIndexFault(room) != Fault.NOTHING) {
            return Fault.INDEX;
        }
        if (digitFault(limit) != Fault.NOTHING) {
            return Fault.ARGUMENT;
        }
        return now.exhibitsShown >= MOST_EXHIBITS ? Fault.STATE : Fault.NOTHING;
    }

    private Fault dropFault(int exhibit, int x, int y, int grains) {
        if (!now.hasExhibit(exhibit)) {
            return Fault.INDEX;
        }
        if (!isFrom(1, grains, MOST_GRAINS)) {
            return Fault.ARGUMENT;
        }
        return placeFault(x, y);
    }

    private Fault journeyFault(int exhibit, int to) {
        return now.hasExhibit(exhibit) ? now.roomIndexFault(to) : Fault.INDEX;
    }

    private Fault sendFault(int exhibit, int to) {
        if (journeyFault(exhibit, to) != Fault.NOTHING) {
            return Fault.INDEX;
        }
        Exhibit it = now.exhibits[exhibit];
        int loanEnd = it.loanEndOn(now.today);
        if (loanEnd != NONE) {
            return refused(LENT, loanEnd);
        }
        if (!ways.findWay(now, it.room, to)) {
            return refused(NO_WAY, it.room);
        }
        return Fault.NOTHING;
    }

    private Fault refused(int reason, int detail) {
        keptReason = reason;
        keptDetail = detail;
        return Fault.REFUSED;
    }

    private Fault refusalFault() {
        return keptReason == 0 ? Fault.MISSING : Fault.NOTHING;
    }

    private static Fault daysFault(int days) {
        return isFrom(1, days, MOST_DAYS) ? Fault.NOTHING : Fault.ARGUMENT;
    }

    private Fault askFault(int exhibit, int first, int last, int fee) {
        if (!now.hasExhibit(exhibit)) {
            return Fault.INDEX;
        }
        if (!isFrom(0, last, LAST_LOAN_DAY) || !isFrom(0, first, last) || !isFrom(1, fee, MOST_FEE)) {
            return Fault.ARGUMENT;
        }
        return now.exhibits[exhibit].asked >= MOST_ASKED ? Fault.STATE : Fault.NOTHING;
    }

    private Fault takeFault(int exhibit) {
        if (!now.hasExhibit(exhibit)) {
            return Fault.INDEX;
        }
        return now.exhibits[exhibit].asked == 0 ? Fault.STATE : Fault.NOTHING;
    }

    // Couriers.

    private int carry(Exhibit it, int to) {
        int melting = 0;
        if (ways.findWay(now, it.room, to)) {
            melting = it.melt(passedOnWay(it.caseLimit));
            it.room = to;
        }
        return melting;
    }

    // One grain melts after the other, so the sum over the legs melts the same grains as leg by leg.
    private int passedOnWay(int limit) {
        int sum = 0;
        for (int place = 1; place < ways.stops; place++) {
            sum += passedBy(now.warmthOfLegs[ways.way[place - 1]][ways.way[place]], limit);
        }
        return sum;
    }

    // Consistency.

    private boolean pileAgrees(Exhibit it) {
        int accounted = Sand.countGrains(it.pile) + it.spilledGrains + it.meltedGrains;
        return it.droppedGrains == accounted
                && sand.burnsWhole(it.pile) == sand.topplesOnceEach(it.pile)
                && Sand.slopeByRecursion(it.pile) == sand.slopeFromFewest(it.pile);
    }

    private boolean leastPassedAgrees(Exhibit it) {
        for (int to = 0; to < now.rooms; to++) {
            if (ways.passedBySettling(now, it, to) != ways.passedByRounds(now, it, to)) {
                return false;
            }
        }
        return true;
    }

    private boolean minutesAgree() {
        ways.fillTable(now);
        for (int from = 0; from < now.rooms; from++) {
            for (int to = 0; to < now.rooms; to++) {
                if (ways.minutesBySettling(now, from, to) != ways.minutesInTable(from, to)) {
                    return false;
                }
            }
        }
        return true;
    }

    // Commands.

    private int runCommands() {
        for (int command = 0; command < script.commands; command++) {
            Form form = script.forms[command];
            int[] values = script.values[command];
            if (commandFault(form, values) != Fault.NOTHING) {
                return command;
            }
            runCommand(form, values);
        }
        return NONE;
    }

    private Fault commandFault(Form form, int[] values) {
        switch (form) {
            case ROOM:
                return roomFault(values[0]);
            case LEG:
                return legFault(values[0], values[1], values[2], values[3]);
            case PILE:
                return pileFault(values[0], values[1]);
            case DROP:
                return dropFault(values[0], values[1], values[2], values[3]);
            case SEND:
                return sendFault(values[0], values[1]);
            case ASK:
                return askFault(values[0], values[1], values[2], values[3]);
            case TAKE:
                return takeFault(values[0]);
            default:
                return daysFault(values[0]);
        }
    }

    private void runCommand(Form form, int[] values) {
        switch (form) {
            case ROOM:
                now.putRoom(values[0]);
                break;
            case LEG:
                now.putLeg(values[0], values[1], values[2], values[3]);
                break;
            case PILE:
                now.putExhibit(values[0], values[1]);
                break;
            case DROP:
                sand.fallOn(now.exhibits[values[0]], placeAt(values[1], values[2]), values[3]);
                break;
            case SEND:
                carry(now.exhibits[values[0]], values[1]);
                break;
            case ASK:
                now.exhibits[values[0]].noteLoan(values[1], values[2], values[3]);
                break;
            case TAKE:
                now.lend(values[0]);
                break;
            default:
                now.letDaysPass(values[0]);
                break;
        }
    }

    /** Which exception a call throws, before it is thrown. */
    private enum Fault {
        NOTHING, INDEX, ARGUMENT, STATE, MISSING, REFUSED
    }

    /** The commands: in a shape, # stands for a digit and % for a number. */
    private enum Form {
        ROOM("room #"),
        LEG("leg #-# %*#"),
        PILE("pile #*#"),
        DROP("drop # #,#+%"),
        SEND("send #>#"),
        ASK("ask # %-%+%"),
        TAKE("take #"),
        DAY("day %");

        final String shape;

        Form(String shape) {
            this.shape = shape;
        }
    }

    /** Everything that changes can change. */
    private static final class State {
        int rooms;
        final int[] warmths = new int[MOST_ROOMS];
        // 0 minutes stand for no leg.
        final int[][] minutesOfLegs = new int[MOST_ROOMS][MOST_ROOMS];
        final int[][] warmthOfLegs = new int[MOST_ROOMS][MOST_ROOMS];
        int exhibitsShown;
        final Exhibit[] exhibits = new Exhibit[MOST_EXHIBITS];
        int today;
        int received;

        State() {
            for (int exhibit = 0; exhibit < MOST_EXHIBITS; exhibit++) {
                exhibits[exhibit] = new Exhibit();
            }
        }

        // Exhibits that are not shown are copied too: an undone one must leave an empty pile.
        void copyFrom(State other) {
            rooms = other.rooms;
            System.arraycopy(other.warmths, 0, warmths, 0, MOST_ROOMS);
            for (int room = 0; room < MOST_ROOMS; room++) {
                System.arraycopy(other.minutesOfLegs[room], 0, minutesOfLegs[room], 0, MOST_ROOMS);
                System.arraycopy(other.warmthOfLegs[room], 0, warmthOfLegs[room], 0, MOST_ROOMS);
            }
            exhibitsShown = other.exhibitsShown;
            for (int exhibit = 0; exhibit < MOST_EXHIBITS; exhibit++) {
                exhibits[exhibit].copyFrom(other.exhibits[exhibit]);
            }
            today = other.today;
            received = other.received;
        }

        boolean hasExhibit(int exhibit) {
            return exhibit >= 0 && exhibit < exhibitsShown;
        }

        Fault roomIndexFault(int room) {
            return room >= 0 && room < rooms ? Fault.NOTHING : Fault.INDEX;
        }

        Fault pairFault(int one, int other) {
            return roomIndexFault(one) == Fault.NOTHING ? roomIndexFault(other) : Fault.INDEX;
        }

        boolean joins(int one, int other) {
            return minutesOfLegs[one][other] > 0;
        }

        int putRoom(int warmth) {
            warmths[rooms] = warmth;
            rooms++;
            return rooms - 1;
        }

        int putLeg(int one, int other, int minutes, int warmth) {
            minutesOfLegs[one][other] = minutes;
            minutesOfLegs[other][one] = minutes;
            warmthOfLegs[one][other] = warmth;
            warmthOfLegs[other][one] = warmth;
            return countLegs();
        }

        private int countLegs() {
            int legs = 0;
            for (int one = 0; one < rooms; one++) {
                for (int other = 0; other < one; other++) {
                    if (joins(one, other)) {
                        legs++;
                    }
                }
            }
            return legs;
        }

        int putExhibit(int room, int limit) {
            Exhibit it = exhibits[exhibitsShown];
            it.room = room;
            it.caseLimit = limit;
            exhibitsShown++;
            return exhibitsShown - 1;
        }

        int letDaysPass(int days) {
            int melting = 0;
            for (int passed = 0; passed < days; passed++) {
                melting += letDayPass();
            }
            return melting;
        }

        private int letDayPass() {
            int melting = 0;
            for (int exhibit = 0; exhibit < exhibitsShown; exhibit++) {
                Exhibit it = exhibits[exhibit];
                if (it.loanEndOn(today) == NONE) {
                    melting += it.melt(passedBy(warmths[it.room], it.caseLimit));
                }
            }
            today++;
            return melting;
        }

        int lend(int exhibit) {
            Exhibit it = exhibits[exhibit];
            int choice = it.bestChoice();
            int fees = it.feesOf(choice);
            it.takeLoans(choice);
            received += fees;
            return fees;
        }
    }

    /** One exhibit: where it is, its pile and its loans. */
    private static final class Exhibit {
        int room;
        int caseLimit;
        final int[] pile = new int[PLACES];
        int droppedGrains;
        int spilledGrains;
        int meltedGrains;
        int asked;
        final int[] firstDays = new int[MOST_ASKED];
        final int[] lastDays = new int[MOST_ASKED];
        final int[] loanFees = new int[MOST_ASKED];
        int taken;
        // For each day the last day of the taken loan on it plus 1, so that 0 stands for none.
        final int[] loanEnds = new int[LAST_LOAN_DAY + 1];

        void copyFrom(Exhibit other) {
            room = other.room;
            caseLimit = other.caseLimit;
            System.arraycopy(other.pile, 0, pile, 0, PLACES);
            droppedGrains = other.droppedGrains;
            spilledGrains = other.spilledGrains;
            meltedGrains = other.meltedGrains;
            asked = other.asked;
            System.arraycopy(other.firstDays, 0, firstDays, 0, MOST_ASKED);
            System.arraycopy(other.lastDays, 0, lastDays, 0, MOST_ASKED);
            System.arraycopy(other.loanFees, 0, loanFees, 0, MOST_ASKED);
            taken = other.taken;
            System.arraycopy(other.loanEnds, 0, loanEnds, 0, LAST_LOAN_DAY + 1);
        }

        int melt(int number) {
            int melting = 0;
            for (int grain = 0; grain < number; grain++) {
                int highest = Sand.highestPlace(pile);
                if (pile[highest] == 0) {
                    break;
                }
                pile[highest]--;
                melting++;
            }
            meltedGrains += melting;
            return melting;
        }

        int loanEndOn(int day) {
            return isFrom(0, day, LAST_LOAN_DAY) ? loanEnds[day] - 1 : NONE;
        }

        int noteLoan(int first, int last, int fee) {
            firstDays[asked] = first;
            lastDays[asked] = last;
            loanFees[asked] = fee;
            asked++;
            return asked;
        }

        void takeLoans(int choice) {
            for (int loan = 0; loan < asked; loan++) {
                if (contains(choice, loan)) {
                    takeLoan(loan);
                }
            }
            asked = 0;
        }

        private void takeLoan(int loan) {
            for (int day = firstDays[loan]; day <= lastDays[loan]; day++) {
                loanEnds[day] = lastDays[loan] + 1;
            }
            taken++;
        }

        // A choice is a set of bits; bit 0 stands for the loan that was asked for first.
        private static boolean contains(int choice, int loan) {
            return (choice >> loan & 1) == 1;
        }

        int bestChoice() {
            int hindered = hinderedLoans();
            int best = 0;
            for (int choice = 1; choice < 1 << asked; choice++) {
                if ((choice & hindered) == 0 && isApart(choice) && isBetter(choice, best)) {
                    best = choice;
                }
            }
            return best;
        }

        private int hinderedLoans() {
            int hindered = 0;
            for (int loan = 0; loan < asked; loan++) {
                if (!isFree(loan)) {
                    hindered |= 1 << loan;
                }
            }
            return hindered;
        }

        int feesOf(int choice) {
            int sum = 0;
            for (int loan = 0; loan < asked; loan++) {
                if (contains(choice, loan)) {
                    sum += loanFees[loan];
                }
            }
            return sum;
        }

        private boolean isBetter(int one, int other) {
            int moreFees = feesOf(one) - feesOf(other);
            if (moreFees != 0) {
                return moreFees > 0;
            }
            int moreLoans = Integer.bitCount(one) - Integer.bitCount(other);
            if (moreLoans != 0) {
                return moreLoans < 0;
            }
            int differing = one ^ other;
            int firstDiffering = differing & -differing;
            return (one & firstDiffering) != 0;
        }

        private boolean isApart(int choice) {
            for (int loan = 0; loan < asked; loan++) {
                if (contains(choice, loan) && meetsEarlier(choice, loan)) {
                    return false;
                }
            }
            return true;
        }

        private boolean meetsEarlier(int choice, int loan) {
            for (int earlier = 0; earlier < loan; earlier++) {
                if (contains(choice, earlier) && firstDays[earlier] <= lastDays[loan]
                        && firstDays[loan] <= lastDays[earlier]) {
                    return true;
                }
            }
            return false;
        }

        boolean isFree(int loan) {
            for (int day = firstDays[loan]; day <= lastDays[loan]; day++) {
                if (loanEnds[day] != 0) {
                    return false;
                }
            }
            return true;
        }
    }

    /** The states before the latest changes. */
    private static final class History {
        // One slot more than changes, so that a state can be noted before the oldest one is given up.
        private final State[] slots = new State[MOST_CHANGES + 1];
        private int free;
        int changes;

        History() {
            for (int slot = 0; slot < slots.length; slot++) {
                slots[slot] = new State();
            }
        }

        void note(State state) {
            slots[free].copyFrom(state);
        }

        State noted() {
            return slots[free];
        }

        void keep() {
            free = (free + 1) % (MOST_CHANGES + 1);
            changes = Math.min(changes + 1, MOST_CHANGES);
        }

        void stepBack() {
            free = (free + MOST_CHANGES) % (MOST_CHANGES + 1);
            changes--;
        }
    }

    /** Ways between rooms, with rows that all calls share. */
    private static final class Ways {
        final int[] way = new int[MOST_ROOMS];
        int stops;
        int wayMinutes;
        private final int[][] costs = new int[MOST_ROOMS][MOST_ROOMS];
        private final int[][] table = new int[MOST_ROOMS][MOST_ROOMS];
        private final int[] sums = new int[MOST_ROOMS];
        private final boolean[] settled = new boolean[MOST_ROOMS];

        boolean findWay(State state, int from, int to) {
            weighMinutes(state);
            settleFrom(to, state.rooms);
            stops = 0;
            if (sums[from] >= FAR) {
                return false;
            }
            wayMinutes = sums[from] / MINUTE_COST;
            int room = from;
            for (int place = 0; place < MOST_ROOMS && stops == 0; place++) {
                way[place] = room;
                if (room == to) {
                    stops = place + 1;
                }
                room = nextRoom(room, state.rooms);
            }
            return stops > 0;
        }

        // The sums lead to the end of the way, so the first room that keeps to them has the smallest index.
        private int nextRoom(int room, int rooms) {
            for (int next = 0; next < rooms; next++) {
                if (costs[room][next] + sums[next] == sums[room]) {
                    return next;
                }
            }
            return room;
        }

        int minutesBySettling(State state, int from, int to) {
            weighMinutes(state);
            settleFrom(from, state.rooms);
            return sums[to] >= FAR ? NONE : sums[to] / MINUTE_COST;
        }

        void fillTable(State state) {
            for (int one = 0; one < state.rooms; one++) {
                for (int other = 0; other < state.rooms; other++) {
                    table[one][other] = state.joins(one, other) ? state.minutesOfLegs[one][other] : FAR;
                }
                table[one][one] = 0;
            }
            for (int over = 0; over < state.rooms; over++) {
                shortenOver(over, state.rooms);
            }
        }

        private void shortenOver(int over, int rooms) {
            for (int one = 0; one < rooms; one++) {
                for (int other = 0; other < rooms; other++) {
                    table[one][other] = Math.min(table[one][other], table[one][over] + table[over][other]);
                }
            }
        }

        int minutesInTable(int from, int to) {
            return table[from][to] >= FAR ? NONE : table[from][to];
        }

        int passedBySettling(State state, Exhibit it, int to) {
            weighPassed(state, it.caseLimit);
            settleFrom(it.room, state.rooms);
            return sums[to] >= FAR ? NONE : sums[to];
        }

        int passedByRounds(State state, Exhibit it, int to) {
            startAt(it.room);
            boolean smaller = true;
            for (int round = 0; round < MOST_ROOMS && smaller; round++) {
                smaller = lookAtLegs(state, it.caseLimit);
            }
            return sums[to] >= FAR ? NONE : sums[to];
        }

        private boolean lookAtLegs(State state, int limit) {
            boolean smaller = false;
            for (int one = 0; one < state.rooms; one++) {
                for (int other = 0; other < state.rooms; other++) {
                    int sum = sums[one] + passedBy(state.warmthOfLegs[one][other], limit);
                    if (state.joins(one, other) && sum < sums[other]) {
                        sums[other] = sum;
                        smaller = true;
                    }
                }
            }
            return smaller;
        }

        private void weighMinutes(State state) {
            for (int one = 0; one < state.rooms; one++) {
                for (int other = 0; other < state.rooms; other++) {
                    costs[one][other] = state.joins(one, other)
                            ? state.minutesOfLegs[one][other] * MINUTE_COST + 1 : FAR;
                }
            }
        }

        private void weighPassed(State state, int limit) {
            for (int one = 0; one < state.rooms; one++) {
                for (int other = 0; other < state.rooms; other++) {
                    costs[one][other] = state.joins(one, other)
                            ? passedBy(state.warmthOfLegs[one][other], limit) : FAR;
                }
            }
        }

        private void startAt(int start) {
            for (int room = 0; room < MOST_ROOMS; room++) {
                sums[room] = FAR;
                settled[room] = false;
            }
            sums[start] = 0;
        }

        private void settleFrom(int start, int rooms) {
            startAt(start);
            for (int round = 0; round < rooms; round++) {
                int nearest = nearestUnsettled(rooms);
                if (nearest == NONE) {
                    break;
                }
                settled[nearest] = true;
                for (int room = 0; room < rooms; room++) {
                    sums[room] = Math.min(sums[room], sums[nearest] + costs[nearest][room]);
                }
            }
        }

        private int nearestUnsettled(int rooms) {
            int nearest = NONE;
            int least = FAR;
            for (int room = 0; room < rooms; room++) {
                if (!settled[room] && sums[room] < least) {
                    nearest = room;
                    least = sums[room];
                }
            }
            return nearest;
        }
    }

    /** Piles that topple, with rows that all calls share. */
    private static final class Sand {
        final int[] trial = new int[PLACES];
        private final int[] topplings = new int[PLACES];
        private final boolean[] marked = new boolean[PLACES];
        private final int[] slopes = new int[PLACES];

        static int beside(int place, int side) {
            int x = place % SIDE;
            int y = place / SIDE;
            switch (side) {
                case 0:
                    return x > 0 ? place - 1 : NONE;
                case 1:
                    return x < SIDE - 1 ? place + 1 : NONE;
                case 2:
                    return y > 0 ? place - SIDE : NONE;
                default:
                    return y < SIDE - 1 ? place + SIDE : NONE;
            }
        }

        static int countGrains(int[] pile) {
            int sum = 0;
            for (int place = 0; place < PLACES; place++) {
                sum += pile[place];
            }
            return sum;
        }

        // Places are numbered row by row, so the first of several has the smallest y, then the smallest x.
        static int highestPlace(int[] pile) {
            int highest = 0;
            for (int place = 1; place < PLACES; place++) {
                if (pile[place] > pile[highest]) {
                    highest = place;
                }
            }
            return highest;
        }

        int fallOn(Exhibit it, int place, int grains) {
            it.pile[place] += grains;
            it.droppedGrains += grains;
            int before = countGrains(it.pile);
            int count = toppleByPlaces(it.pile);
            it.spilledGrains += before - countGrains(it.pile);
            return count;
        }

        void tryFall(Exhibit it, int place, int grains) {
            System.arraycopy(it.pile, 0, trial, 0, PLACES);
            trial[place] += grains;
        }

        private static void toppleOnce(int[] pile, int place) {
            pile[place] -= SIDES;
            for (int side = 0; side < SIDES; side++) {
                int neighbour = beside(place, side);
                if (neighbour != NONE) {
                    pile[neighbour]++;
                }
            }
        }

        int toppleByPlaces(int[] pile) {
            for (int place = 0; place < PLACES; place++) {
                topplings[place] = 0;
            }
            int count = 0;
            int place = 0;
            for (int step = 0; step < MOST_STEPS && place < PLACES; step++) {
                if (pile[place] >= SIDES) {
                    toppleOnce(pile, place);
                    topplings[place]++;
                    count++;
                    place = 0;
                } else {
                    place++;
                }
            }
            return count;
        }

        int toppleByRounds(int[] pile) {
            int count = 0;
            for (int round = 0; round < MOST_STEPS; round++) {
                int ready = markReady(pile);
                if (ready == 0) {
                    break;
                }
                for (int place = 0; place < PLACES; place++) {
                    if (marked[place]) {
                        toppleOnce(pile, place);
                    }
                }
                count += ready;
            }
            return count;
        }

        private int markReady(int[] pile) {
            int ready = 0;
            for (int place = 0; place < PLACES; place++) {
                marked[place] = pile[place] >= SIDES;
                if (marked[place]) {
                    ready++;
                }
            }
            return ready;
        }

        boolean burnsWhole(int[] pile) {
            for (int place = 0; place < PLACES; place++) {
                marked[place] = false;
            }
            int burning = 0;
            for (int round = 0; round < PLACES; round++) {
                for (int place = 0; place < PLACES; place++) {
                    if (!marked[place] && pile[place] >= countUnmarkedBeside(place)) {
                        marked[place] = true;
                        burning++;
                    }
                }
            }
            return burning == PLACES;
        }

        private int countUnmarkedBeside(int place) {
            int count = 0;
            for (int side = 0; side < SIDES; side++) {
                int neighbour = beside(place, side);
                if (neighbour != NONE && !marked[neighbour]) {
                    count++;
                }
            }
            return count;
        }

        boolean topplesOnceEach(int[] pile) {
            for (int place = 0; place < PLACES; place++) {
                trial[place] = pile[place] + countOpenSides(place);
            }
            toppleByPlaces(trial);
            for (int place = 0; place < PLACES; place++) {
                if (topplings[place] != 1) {
                    return false;
                }
            }
            return true;
        }

        private static int countOpenSides(int place) {
            int count = 0;
            for (int side = 0; side < SIDES; side++) {
                if (beside(place, side) == NONE) {
                    count++;
                }
            }
            return count;
        }

        static int slopeByRecursion(int[] pile) {
            int longest = 0;
            for (int place = 0; place < PLACES; place++) {
                longest = Math.max(longest, slopeFrom(pile, place, 1));
            }
            return longest;
        }

        // Grains decrease along a slope, so no slope has more places than there are places.
        private static int slopeFrom(int[] pile, int place, int depth) {
            if (depth >= PLACES) {
                return 1;
            }
            int longest = 0;
            for (int side = 0; side < SIDES; side++) {
                int neighbour = beside(place, side);
                if (neighbour != NONE && pile[neighbour] < pile[place]) {
                    longest = Math.max(longest, slopeFrom(pile, neighbour, depth + 1));
                }
            }
            return longest + 1;
        }

        int slopeFromFewest(int[] pile) {
            int longest = 0;
            for (int grains = 0; grains < SIDES; grains++) {
                for (int place = 0; place < PLACES; place++) {
                    if (pile[place] == grains) {
                        slopes[place] = longestLowerSlope(pile, place) + 1;
                        longest = Math.max(longest, slopes[place]);
                    }
                }
            }
            return longest;
        }

        private int longestLowerSlope(int[] pile, int place) {
            int longest = 0;
            for (int side = 0; side < SIDES; side++) {
                int neighbour = beside(place, side);
                if (neighbour != NONE && pile[neighbour] < pile[place]) {
                    longest = Math.max(longest, slopes[neighbour]);
                }
            }
            return longest;
        }
    }

    /** The best fees without trying sets, with rows that all calls share. */
    private static final class Lender {
        private final int[] order = new int[MOST_ASKED];
        // The best fees of the first loans in the order of their last days, for each number of them.
        private final int[] best = new int[MOST_ASKED + 1];

        int feesByLastDays(Exhibit it) {
            sortByLastDays(it);
            for (int count = 1; count <= it.asked; count++) {
                int loan = order[count - 1];
                best[count] = best[count - 1];
                if (it.isFree(loan)) {
                    int before = countEndedBefore(it, it.firstDays[loan]);
                    best[count] = Math.max(best[count], best[before] + it.loanFees[loan]);
                }
            }
            return best[it.asked];
        }

        private void sortByLastDays(Exhibit it) {
            for (int loan = 0; loan < it.asked; loan++) {
                int place = loan;
                for (int other = loan; other > 0; other--) {
                    if (it.lastDays[order[other - 1]] <= it.lastDays[loan]) {
                        break;
                    }
                    order[other] = order[other - 1];
                    place = other - 1;
                }
                order[place] = loan;
            }
        }

        private static int countEndedBefore(Exhibit it, int day) {
            int count = 0;
            for (int loan = 0; loan < it.asked; loan++) {
                if (it.lastDays[loan] < day) {
                    count++;
                }
            }
            return count;
        }
    }

    /** The input buffer and the commands that are read from it. */
    private static final class Script {
        final char[] text = new char[MOST_CHARACTERS];
        int length;
        final Form[] forms = new Form[MOST_COMMANDS];
        final int[][] values = new int[MOST_COMMANDS][MOST_VALUES];
        int commands;
        // Where the latest command ends, or the character that can continue no command.
        private int end;

        int readAll() {
            commands = 0;
            int start = 0;
            for (int count = 1; count <= MOST_COMMANDS; count++) {
                if (!readCommand(start)) {
                    return end;
                }
                commands = count;
                if (end == length) {
                    return NONE;
                }
                if (text[end] != ';') {
                    return end;
                }
                start = end + 1;
            }
            return start;
        }

        private boolean readCommand(int start) {
            int furthest = start;
            for (Form form : FORMS) {
                if (readShape(form.shape, start)) {
                    forms[commands] = form;
                    return true;
                }
                furthest = Math.max(furthest, end);
            }
            end = furthest;
            return false;
        }

        private boolean readShape(String shape, int start) {
            int value = 0;
            end = start;
            for (int sign = 0; sign < shape.length(); sign++) {
                char due = shape.charAt(sign);
                int before = end;
                if (due == '#' || due == '%') {
                    readNumber(value, due == '#' ? 1 : 2);
                    value++;
                } else if (end < length && text[end] == due) {
                    end++;
                }
                if (end == before) {
                    return false;
                }
            }
            return true;
        }

        private void readNumber(int value, int mostDigits) {
            int number = 0;
            for (int digit = 0; digit < mostDigits; digit++) {
                if (end < length && isFrom('0', text[end], '9')) {
                    number = number * 10 + text[end] - '0';
                    end++;
                }
            }
            if (value < MOST_VALUES) {
                values[commands][value] = number;
            }
        }
    }
}
