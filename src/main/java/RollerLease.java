/** A steam laundry that leases its ironing rollers: setup, leases, simulation, bills and predictions. */
public final class RollerLease {
    public static final int NONE = -1;
    public static final int SYNTAX_ERROR = 1;
    public static final int RANGE_ERROR = 2;
    public static final int CONFLICT_ERROR = 3;
    public static final int LIMIT_ERROR = 4;

    private static final int BUFFER_SIZE = 500;
    private static final int BYTES_PER_APPEND = 20;
    private static final int UNDO_SIZE = 8;
    private static final int SLOTS = 2;

    private static final int MAX_ROLLERS = 6;
    private static final int MAX_CUSTOMERS = 6;
    private static final int MAX_LEASES = 16;
    private static final int MAX_BUNDLES = 16;
    private static final int MAX_HOLIDAYS = 4;
    private static final int MAX_RATES = 4;

    private static final int MAX_REFILL = 50;
    private static final int MAX_TAG = 99;
    private static final int MAX_YARDS = 200;
    private static final int MAX_LIMIT = 9;
    private static final int MAX_LEASE_MINUTES = 200;
    private static final int MAX_ADVANCE = 300;
    private static final int LAST_MINUTE = 999;
    private static final int LAST_END = 1000;

    private static final int FORECAST_MINUTES = 500;
    private static final int SCHEDULE_MINUTES = 20;
    private static final int MAX_ASTERISKS = 9;

    private final byte[] buffer = new byte[BUFFER_SIZE];
    private int buffered = 0;
    private int errorCode = 0;
    private int errorPosition = NONE;
    private int errorObstacle = 0;
    private final StringBuilder output = new StringBuilder();

    private boolean loaded = false;
    private Laundry laundry = new Laundry();
    // A setup is parsed into this one, and predictions are simulated in it: never both at once.
    private Laundry scratch = new Laundry();

    private final Laundry[] history = new Laundry[UNDO_SIZE];
    private int historyEnd = 0;
    private int historyCount = 0;
    private final Laundry[] slots = new Laundry[SLOTS];
    private final boolean[] slotUsed = new boolean[SLOTS];

    public RollerLease() {
    }

    // ---- input buffer and setup

    public int append(int a, int b, int c, int d, int e) {
        if (buffered > BUFFER_SIZE - BYTES_PER_APPEND) {
            return NONE;
        }
        appendBytes(a);
        appendBytes(b);
        appendBytes(c);
        appendBytes(d);
        appendBytes(e);
        return buffered;
    }

    public int parseSetup(int length) throws IndexOutOfBoundsException, IllegalArgumentException {
        if (length < 0 || length > buffered) {
            throw new IndexOutOfBoundsException("the buffer has no such length");
        }
        buffered = 0;
        Parser parser = new Parser(buffer, length, scratch);
        if (parser.beginSetup()) {
            parser.items(0);
        }
        parser.endSetup();
        errorCode = parser.errorCode;
        errorPosition = parser.errorPosition;
        errorObstacle = parser.errorObstacle;
        if (errorCode != 0) {
            throw new IllegalArgumentException("the setup is invalid");
        }
        Laundry replaced = laundry;
        laundry = scratch;
        scratch = replaced;
        loaded = true;
        historyCount = 0;
        slotUsed[0] = false;
        slotUsed[1] = false;
        return laundry.leaseCount;
    }

    public int parseErrorCode() {
        return errorCode;
    }

    public int parseErrorPosition() {
        return errorPosition;
    }

    public int conflictReason() {
        return errorObstacle;
    }

    public int bufferLength() {
        return buffered;
    }

    // ---- boiler and accounts

    public int minute() throws IllegalStateException {
        requireSetup();
        return laundry.minute;
    }

    public int steam() throws IllegalStateException {
        requireSetup();
        return laundry.steam;
    }

    public int steamCapacity() throws IllegalStateException {
        requireSetup();
        return laundry.capacity;
    }

    public int steamRefill() throws IllegalStateException {
        requireSetup();
        return laundry.refill;
    }

    public int revenue() throws IllegalStateException {
        requireSetup();
        return laundry.revenue;
    }

    public int imbalance() throws IllegalStateException {
        requireSetup();
        int difference = laundry.revenue - laundry.sumOfBills();
        return Math.abs(difference) + laundry.overlappingPairs();
    }

    // ---- rollers

    public int rollerCount() throws IllegalStateException {
        requireSetup();
        return laundry.rollerCount;
    }

    public int rollerSpeed(int roller) throws IllegalStateException, IndexOutOfBoundsException {
        return checkedRoller(roller).speed;
    }

    public int rollerHeat(int roller) throws IllegalStateException, IndexOutOfBoundsException {
        return checkedRoller(roller).heat;
    }

    public int minutePrice(int roller) throws IllegalStateException, IndexOutOfBoundsException {
        return checkedRoller(roller).perMinute;
    }

    public int yardPrice(int roller) throws IllegalStateException, IndexOutOfBoundsException {
        return checkedRoller(roller).perYard;
    }

    public boolean isValveOpen(int roller) throws IllegalStateException, IndexOutOfBoundsException {
        return checkedRoller(roller).open;
    }

    public int stallCount(int roller) throws IllegalStateException, IndexOutOfBoundsException {
        return checkedRoller(roller).stalls;
    }

    public int activeLease(int roller) throws IllegalStateException, IndexOutOfBoundsException {
        requireSetup();
        requireIndex(roller, laundry.rollerCount);
        return laundry.leaseCovering(roller, laundry.minute);
    }

    public int idleReason(int roller) throws IllegalStateException, IndexOutOfBoundsException {
        requireSetup();
        requireIndex(roller, laundry.rollerCount);
        return rollerAfterNextMinute(roller).idleReason;
    }

    public int nextBundle(int roller) throws IllegalStateException, IndexOutOfBoundsException {
        requireSetup();
        requireIndex(roller, laundry.rollerCount);
        return rollerAfterNextMinute(roller).processed;
    }

    public double utilization(int roller) throws IllegalStateException, IndexOutOfBoundsException {
        int busy = checkedRoller(roller).busyMinutes;
        return laundry.minute == 0 ? 0.0 : (double) busy / (double) laundry.minute;
    }

    // ---- customers

    public int customerCount() throws IllegalStateException {
        requireSetup();
        return laundry.customerCount;
    }

    public int customerLetter(int customer, int index) throws IllegalStateException, IndexOutOfBoundsException {
        String name = checkedCustomer(customer).name;
        return index < 0 || index >= name.length() ? NONE : name.charAt(index);
    }

    public int bill(int customer) throws IllegalStateException, IndexOutOfBoundsException {
        return checkedCustomer(customer).owed;
    }

    // ---- leases

    public int leaseCount() throws IllegalStateException {
        requireSetup();
        return laundry.leaseCount;
    }

    public int leaseCustomer(int lease) throws IllegalStateException, IndexOutOfBoundsException {
        return checkedLease(lease).customer;
    }

    public int leaseRoller(int lease) throws IllegalStateException, IndexOutOfBoundsException {
        return checkedLease(lease).roller;
    }

    public int leaseStart(int lease) throws IllegalStateException, IndexOutOfBoundsException {
        return checkedLease(lease).start;
    }

    public int leaseEnd(int lease) throws IllegalStateException, IndexOutOfBoundsException {
        return checkedLease(lease).end;
    }

    public int leaseYardsLeft(int lease) throws IllegalStateException, IndexOutOfBoundsException {
        return checkedLease(lease).yardsLeft;
    }

    public int leaseObstacle(int roller, int start, int minutes)
            throws IllegalStateException, IndexOutOfBoundsException, IllegalArgumentException {
        requireSetup();
        requireIndex(roller, laundry.rollerCount);
        requireRange(minutes, 1, MAX_LEASE_MINUTES);
        return laundry.obstacle(roller, start, minutes);
    }

    public int firstFreeStart(int roller, int from, int minutes)
            throws IllegalStateException, IndexOutOfBoundsException, IllegalArgumentException {
        requireSetup();
        requireIndex(roller, laundry.rollerCount);
        requireRange(minutes, 1, MAX_LEASE_MINUTES);
        for (int start = Math.max(from, laundry.minute); start <= LAST_END - minutes; start++) {
            if (!laundry.isTaken(roller, start, start + minutes)) {
                return start;
            }
        }
        return NONE;
    }

    public int cheapestRoller(int yards) throws IllegalStateException, IllegalArgumentException {
        requireSetup();
        requireRange(yards, 1, MAX_YARDS);
        int cheapest = 0;
        for (int roller = 1; roller < laundry.rollerCount; roller++) {
            if (laundry.rollers[roller].priceFor(yards) < laundry.rollers[cheapest].priceFor(yards)) {
                cheapest = roller;
            }
        }
        return cheapest;
    }

    // ---- bundles

    public int bundleCount() throws IllegalStateException {
        requireSetup();
        return laundry.bundleCount;
    }

    public int bundleOwner(int bundle) throws IllegalStateException, IndexOutOfBoundsException {
        return checkedBundle(bundle).owner;
    }

    public int bundleTag(int bundle) throws IllegalStateException, IndexOutOfBoundsException {
        return checkedBundle(bundle).tag;
    }

    public int bundleYardsLeft(int bundle) throws IllegalStateException, IndexOutOfBoundsException {
        return checkedBundle(bundle).yardsLeft;
    }

    public int bundleDeadline(int bundle) throws IllegalStateException, IndexOutOfBoundsException {
        return checkedBundle(bundle).deadline;
    }

    public int bundleFinish(int bundle) throws IllegalStateException, IndexOutOfBoundsException {
        return checkedBundle(bundle).finish;
    }

    public int bundleScorch(int bundle) throws IllegalStateException, IndexOutOfBoundsException {
        return checkedBundle(bundle).scorches;
    }

    public int findBundle(int tag) throws IllegalStateException {
        requireSetup();
        return laundry.bundleWithTag(tag);
    }

    public int lateCount() throws IllegalStateException {
        requireSetup();
        int late = 0;
        for (int bundle = 0; bundle < laundry.bundleCount; bundle++) {
            if (laundry.bundles[bundle].isLate(laundry.minute)) {
                late++;
            }
        }
        return late;
    }

    public float averageScorch() throws IllegalStateException {
        requireSetup();
        int sum = 0;
        for (int bundle = 0; bundle < laundry.bundleCount; bundle++) {
            sum += laundry.bundles[bundle].scorches;
        }
        return laundry.bundleCount == 0 ? 0.0f : (float) sum / (float) laundry.bundleCount;
    }

    // ---- predictions

    public int steamAfter(int minutes) throws IllegalStateException, IllegalArgumentException {
        requireSetup();
        requireRange(minutes, 0, MAX_ADVANCE);
        return forecast(minutes).steam;
    }

    public int revenueAfter(int minutes) throws IllegalStateException, IllegalArgumentException {
        requireSetup();
        requireRange(minutes, 0, MAX_ADVANCE);
        return forecast(minutes).revenue;
    }

    public int predictedFinish(int bundle) throws IllegalStateException, IndexOutOfBoundsException {
        requireSetup();
        requireIndex(bundle, laundry.bundleCount);
        scratch.copyFrom(laundry);
        return finishInScratch(bundle);
    }

    public int finishIfAllOpen(int bundle) throws IllegalStateException, IndexOutOfBoundsException {
        requireSetup();
        requireIndex(bundle, laundry.bundleCount);
        scratch.copyFrom(laundry);
        scratch.openAllValves();
        return finishInScratch(bundle);
    }

    // ---- text output

    public int writeSchedule(int roller, int from)
            throws IllegalStateException, IndexOutOfBoundsException, IllegalArgumentException {
        requireSetup();
        requireIndex(roller, laundry.rollerCount);
        requireRange(from, 0, LAST_END);
        output.setLength(0);
        for (int i = 0; i < SCHEDULE_MINUTES; i++) {
            int lease = laundry.leaseCovering(roller, from + i);
            output.append(lease == NONE ? '.' : laundry.customers[laundry.leases[lease].customer].initial());
        }
        return output.length();
    }

    public int writeBundle(int bundle) throws IllegalStateException, IndexOutOfBoundsException {
        Bundle written = checkedBundle(bundle);
        output.setLength(0);
        output.append(written.tag).append(':').append(written.yardsLeft);
        if (written.isLate(laundry.minute)) {
            output.append('!');
        }
        for (int i = 0; i < written.scorches && i < MAX_ASTERISKS; i++) {
            output.append('*');
        }
        return output.length();
    }

    public int writeBills() throws IllegalStateException {
        requireSetup();
        output.setLength(0);
        for (int customer = 0; customer < laundry.customerCount; customer++) {
            if (customer > 0) {
                output.append(' ');
            }
            output.append(laundry.customers[customer].name).append('=').append(laundry.customers[customer].owed);
        }
        return output.length();
    }

    public int outputByte(int index) throws IndexOutOfBoundsException {
        requireIndex(index, output.length());
        return output.charAt(index);
    }

    // ---- changes

    public int advance(int minutes) throws IllegalStateException, IllegalArgumentException {
        requireSetup();
        requireRange(minutes, 1, MAX_ADVANCE);
        remember();
        int before = laundry.revenue;
        laundry.simulate(minutes);
        return laundry.revenue - before;
    }

    public int leaseByTime(int customer, int roller, int start, int minutes)
            throws IllegalStateException, IndexOutOfBoundsException, IllegalArgumentException {
        requireSetup();
        requireIndex(customer, laundry.customerCount);
        requireIndex(roller, laundry.rollerCount);
        requireRange(minutes, 1, MAX_LEASE_MINUTES);
        requireNoObstacle(roller, start, minutes);
        remember();
        return laundry.putLease(customer, roller, start, minutes, NONE);
    }

    public int leaseByLength(int customer, int roller, int start, int yards)
            throws IllegalStateException, IndexOutOfBoundsException, IllegalArgumentException {
        requireSetup();
        requireIndex(customer, laundry.customerCount);
        requireIndex(roller, laundry.rollerCount);
        requireRange(yards, 1, MAX_YARDS);
        int minutes = laundry.rollers[roller].minutesFor(yards);
        requireNoObstacle(roller, start, minutes);
        remember();
        return laundry.putLease(customer, roller, start, minutes, yards);
    }

    public int cancelLease(int lease)
            throws IllegalStateException, IndexOutOfBoundsException, IllegalArgumentException {
        if (checkedLease(lease).start < laundry.minute) {
            throw new IllegalArgumentException("the lease has begun");
        }
        remember();
        laundry.cancel(lease);
        return laundry.leaseCount;
    }

    public boolean setValve(int roller, boolean open) throws IllegalStateException, IndexOutOfBoundsException {
        Roller changed = checkedRoller(roller);
        remember();
        boolean before = changed.open;
        changed.open = open;
        return before;
    }

    public int addBundle(int customer, int tag, int yards, int limit, int deadline)
            throws IllegalStateException, IndexOutOfBoundsException, IllegalArgumentException {
        requireSetup();
        requireIndex(customer, laundry.customerCount);
        requireRange(tag, 0, MAX_TAG);
        requireRange(yards, 1, MAX_YARDS);
        requireRange(limit, 1, MAX_LIMIT);
        requireRange(deadline, 0, LAST_MINUTE);
        if (laundry.bundleWithTag(tag) != NONE || laundry.bundleCount >= MAX_BUNDLES) {
            throw new IllegalArgumentException("the tag is in use, or there is no room");
        }
        remember();
        return laundry.putBundle(customer, tag, yards, limit, deadline);
    }

    public int setRefill(int refill) throws IllegalStateException, IllegalArgumentException {
        requireSetup();
        requireRange(refill, 0, MAX_REFILL);
        remember();
        int before = laundry.refill;
        laundry.refill = refill;
        return before;
    }

    public int undo() throws IllegalStateException {
        int latest = (historyEnd + UNDO_SIZE - 1) % UNDO_SIZE;
        if (historyCount == 0 || history[latest] == null) {
            throw new IllegalStateException("there is nothing to undo");
        }
        laundry.copyFrom(history[latest]);
        historyEnd = latest;
        historyCount--;
        return historyCount;
    }

    public int undoCount() {
        return historyCount;
    }

    public int saveState(int slot) throws IllegalStateException, IndexOutOfBoundsException {
        requireSetup();
        requireIndex(slot, SLOTS);
        keep(slots, slot);
        slotUsed[slot] = true;
        return laundry.minute;
    }

    public int restoreState(int slot) throws IndexOutOfBoundsException, IllegalStateException {
        requireIndex(slot, SLOTS);
        if (!slotUsed[slot] || slots[slot] == null) {
            throw new IllegalStateException("no state is saved in the slot");
        }
        laundry.copyFrom(slots[slot]);
        historyCount = 0;
        return laundry.minute;
    }

    // ---- helpers

    private void appendBytes(int four) {
        for (int shift = 24; shift >= 0; shift -= 8) {
            buffer[buffered] = (byte) (four >> shift);
            buffered++;
        }
    }

    private void requireSetup() {
        if (!loaded) {
            throw new IllegalStateException("no setup has been loaded");
        }
    }

    private static void requireIndex(int index, int count) {
        if (index < 0 || index >= count) {
            throw new IndexOutOfBoundsException("there is nothing with this index");
        }
    }

    private static void requireRange(int value, int least, int most) {
        if (value < least || value > most) {
            throw new IllegalArgumentException("an argument is out of its range");
        }
    }

    private void requireNoObstacle(int roller, int start, int minutes) {
        if (laundry.obstacle(roller, start, minutes) != 0) {
            throw new IllegalArgumentException("there is a lease obstacle");
        }
    }

    private Roller checkedRoller(int roller) {
        requireSetup();
        requireIndex(roller, laundry.rollerCount);
        return laundry.rollers[roller];
    }

    private Customer checkedCustomer(int customer) {
        requireSetup();
        requireIndex(customer, laundry.customerCount);
        return laundry.customers[customer];
    }

    private Lease checkedLease(int lease) {
        requireSetup();
        requireIndex(lease, laundry.leaseCount);
        return laundry.leases[lease];
    }

    private Bundle checkedBundle(int bundle) {
        requireSetup();
        requireIndex(bundle, laundry.bundleCount);
        return laundry.bundles[bundle];
    }

    private Laundry forecast(int minutes) {
        scratch.copyFrom(laundry);
        scratch.simulate(minutes);
        return scratch;
    }

    // Earlier rollers of the minute use steam and bundles too, so that the whole minute must be simulated.
    private Roller rollerAfterNextMinute(int roller) {
        return forecast(1).rollers[roller];
    }

    private int finishInScratch(int bundle) {
        Bundle watched = scratch.bundles[bundle];
        for (int i = 0; i < FORECAST_MINUTES && watched.finish == NONE; i++) {
            scratch.simulate(1);
        }
        return watched.finish;
    }

    /** Keeps the present state as the one that the next undo() goes back to. */
    private void remember() {
        keep(history, historyEnd);
        historyEnd = (historyEnd + 1) % UNDO_SIZE;
        historyCount = Math.min(historyCount + 1, UNDO_SIZE);
    }

    // Rows are made when they are first needed, since most objects never fill them all.
    private void keep(Laundry[] rows, int index) {
        if (rows[index] == null) {
            rows[index] = new Laundry();
        }
        rows[index].copyFrom(laundry);
    }

    private static final class Roller {
        int speed;
        int heat;
        int perMinute;
        int perYard;
        boolean open;
        int serviceLimit;
        int serviceLeft;
        int wear;
        int stalls;
        int busyMinutes;
        // What the latest simulated minute was like for this roller.
        int idleReason;
        int processed;

        void copyFrom(Roller other) {
            speed = other.speed;
            heat = other.heat;
            perMinute = other.perMinute;
            perYard = other.perYard;
            open = other.open;
            serviceLimit = other.serviceLimit;
            serviceLeft = other.serviceLeft;
            wear = other.wear;
            stalls = other.stalls;
            busyMinutes = other.busyMinutes;
            idleReason = other.idleReason;
            processed = other.processed;
        }

        void begin(int newSpeed, int newHeat, int newPerMinute, int newPerYard) {
            speed = newSpeed;
            heat = newHeat;
            perMinute = newPerMinute;
            perYard = newPerYard;
            open = true;
            serviceLimit = 0;
            serviceLeft = 0;
            wear = 0;
            stalls = 0;
            busyMinutes = 0;
            idleReason = 0;
            processed = NONE;
        }

        int minutesFor(int yards) {
            // Only a row that no setup has filled yet has no speed.
            return speed < 1 ? yards : (yards + speed - 1) / speed;
        }

        int priceFor(int yards) {
            return Math.min(perYard * yards, perMinute * minutesFor(yards));
        }

        void wearDown(int pause) {
            wear++;
            if (serviceLimit != 0 && wear == serviceLimit) {
                wear = 0;
                serviceLeft = pause;
            }
        }
    }

    private static final class Customer {
        String name = "";
        int discount;
        int owed;

        void copyFrom(Customer other) {
            name = other.name;
            discount = other.discount;
            owed = other.owed;
        }

        void begin(String newName) {
            name = newName;
            discount = 0;
            owed = 0;
        }

        char initial() {
            return name.isEmpty() ? '.' : name.charAt(0);
        }
    }

    private static final class Lease {
        int customer;
        int roller;
        int start;
        int end;
        // NONE marks a lease by time.
        int yardsLeft;

        void copyFrom(Lease other) {
            customer = other.customer;
            roller = other.roller;
            start = other.start;
            end = other.end;
            yardsLeft = other.yardsLeft;
        }

        boolean isByTime() {
            return yardsLeft == NONE;
        }

        boolean overlaps(int otherRoller, int from, int to) {
            return roller == otherRoller && start < to && from < end;
        }
    }

    private static final class Bundle {
        int owner;
        int tag;
        int yardsLeft;
        int limit;
        int deadline;
        int finish;
        int scorches;
        int assignedTo;
        int processedMinute;

        void copyFrom(Bundle other) {
            owner = other.owner;
            tag = other.tag;
            yardsLeft = other.yardsLeft;
            limit = other.limit;
            deadline = other.deadline;
            finish = other.finish;
            scorches = other.scorches;
            assignedTo = other.assignedTo;
            processedMinute = other.processedMinute;
        }

        boolean isFinished() {
            return finish != NONE;
        }

        boolean isLate(int minute) {
            return (isFinished() ? finish : minute) > deadline;
        }

        boolean canBeSelected(int customer, int roller, int minute) {
            return owner == customer && finish == NONE && processedMinute != minute
                    && (assignedTo == NONE || assignedTo == roller);
        }
    }

    /** The minutes that differ from others: holidays, and those with a rate. */
    private static final class Calendar {
        final int[] holidayFirst = new int[MAX_HOLIDAYS];
        final int[] holidayLast = new int[MAX_HOLIDAYS];
        int holidayCount;
        final int[] rateFirst = new int[MAX_RATES];
        final int[] rateLast = new int[MAX_RATES];
        final int[] ratePercent = new int[MAX_RATES];
        int rateCount;

        void copyFrom(Calendar other) {
            System.arraycopy(other.holidayFirst, 0, holidayFirst, 0, MAX_HOLIDAYS);
            System.arraycopy(other.holidayLast, 0, holidayLast, 0, MAX_HOLIDAYS);
            holidayCount = other.holidayCount;
            System.arraycopy(other.rateFirst, 0, rateFirst, 0, MAX_RATES);
            System.arraycopy(other.rateLast, 0, rateLast, 0, MAX_RATES);
            System.arraycopy(other.ratePercent, 0, ratePercent, 0, MAX_RATES);
            rateCount = other.rateCount;
        }

        void putHoliday(int first, int last) {
            holidayFirst[holidayCount] = first;
            holidayLast[holidayCount] = last;
            holidayCount++;
        }

        void putRate(int first, int last, int percent) {
            rateFirst[rateCount] = first;
            rateLast[rateCount] = last;
            ratePercent[rateCount] = percent;
            rateCount++;
        }

        boolean isHoliday(int minute) {
            for (int i = 0; i < holidayCount; i++) {
                if (holidayFirst[i] <= minute && minute <= holidayLast[i]) {
                    return true;
                }
            }
            return false;
        }

        int percentAt(int minute) {
            for (int i = 0; i < rateCount; i++) {
                if (rateFirst[i] <= minute && minute <= rateLast[i]) {
                    return ratePercent[i];
                }
            }
            return 100;
        }
    }

    /** The whole state of a simulation. */
    private static final class Laundry {
        private static final int NO_LEASE = 1;
        private static final int VALVE_CLOSED = 2;
        private static final int NO_BUNDLE = 3;
        private static final int STALLED = 4;
        private static final int IN_SERVICE = 5;
        private static final int ON_HOLIDAY = 6;

        private static final int BEFORE_NOW = 1;
        private static final int ENDS_TOO_LATE = 2;
        private static final int TAKEN = 3;
        private static final int TOO_MANY = 4;

        int minute;
        int steam;
        int capacity;
        int refill;
        int revenue;
        int fee;
        int notice;
        int pause;
        final Roller[] rollers = new Roller[MAX_ROLLERS];
        int rollerCount;
        final Customer[] customers = new Customer[MAX_CUSTOMERS];
        int customerCount;
        final Lease[] leases = new Lease[MAX_LEASES];
        int leaseCount;
        final Bundle[] bundles = new Bundle[MAX_BUNDLES];
        int bundleCount;
        final int[] order = new int[MAX_ROLLERS];
        int orderCount;
        final Calendar calendar = new Calendar();

        Laundry() {
            for (int i = 0; i < MAX_ROLLERS; i++) {
                rollers[i] = new Roller();
            }
            for (int i = 0; i < MAX_CUSTOMERS; i++) {
                customers[i] = new Customer();
            }
            for (int i = 0; i < MAX_LEASES; i++) {
                leases[i] = new Lease();
            }
            for (int i = 0; i < MAX_BUNDLES; i++) {
                bundles[i] = new Bundle();
            }
        }

        void begin(int newCapacity, int newRefill) {
            minute = 0;
            steam = newCapacity;
            capacity = newCapacity;
            refill = newRefill;
            revenue = 0;
            fee = 0;
            notice = 0;
            pause = 0;
            rollerCount = 0;
            customerCount = 0;
            leaseCount = 0;
            bundleCount = 0;
            orderCount = 0;
            calendar.holidayCount = 0;
            calendar.rateCount = 0;
        }

        void copyFrom(Laundry other) {
            minute = other.minute;
            steam = other.steam;
            capacity = other.capacity;
            refill = other.refill;
            revenue = other.revenue;
            fee = other.fee;
            notice = other.notice;
            pause = other.pause;
            rollerCount = other.rollerCount;
            customerCount = other.customerCount;
            leaseCount = other.leaseCount;
            bundleCount = other.bundleCount;
            orderCount = other.orderCount;
            System.arraycopy(other.order, 0, order, 0, MAX_ROLLERS);
            calendar.copyFrom(other.calendar);
            for (int i = 0; i < rollerCount; i++) {
                rollers[i].copyFrom(other.rollers[i]);
            }
            for (int i = 0; i < customerCount; i++) {
                customers[i].copyFrom(other.customers[i]);
            }
            for (int i = 0; i < leaseCount; i++) {
                leases[i].copyFrom(other.leases[i]);
            }
            for (int i = 0; i < bundleCount; i++) {
                bundles[i].copyFrom(other.bundles[i]);
            }
        }

        // -- customers

        boolean hasCustomer(String name) {
            for (int i = 0; i < customerCount; i++) {
                if (customers[i].name.equals(name)) {
                    return true;
                }
            }
            return false;
        }

        void putCustomer(String name) {
            customers[customerCount].begin(name);
            customerCount++;
        }

        int sumOfBills() {
            int sum = 0;
            for (int i = 0; i < customerCount; i++) {
                sum += customers[i].owed;
            }
            return sum;
        }

        private void charge(int customer, int amount, int percent) {
            int rated = amount * percent / 100;
            int discounted = rated * (100 - customers[customer].discount) / 100;
            customers[customer].owed += discounted;
            revenue += discounted;
        }

        // -- leases

        int leaseCovering(int roller, int when) {
            for (int i = 0; i < leaseCount; i++) {
                if (leases[i].overlaps(roller, when, when + 1)) {
                    return i;
                }
            }
            return NONE;
        }

        boolean isTaken(int roller, int from, int to) {
            for (int i = 0; i < leaseCount; i++) {
                if (leases[i].overlaps(roller, from, to)) {
                    return true;
                }
            }
            return false;
        }

        int overlappingPairs() {
            int pairs = 0;
            for (int i = 0; i < leaseCount; i++) {
                for (int j = i + 1; j < leaseCount; j++) {
                    if (leases[i].overlaps(leases[j].roller, leases[j].start, leases[j].end)) {
                        pairs++;
                    }
                }
            }
            return pairs;
        }

        /** The obstacle of a lease of 1 to 200 minutes; 0 if there is none. */
        int obstacle(int roller, int start, int minutes) {
            if (start < minute) {
                return BEFORE_NOW;
            }
            // The minutes stand on this side since a great start plus the minutes would wrap around.
            if (start > LAST_END - minutes) {
                return ENDS_TOO_LATE;
            }
            if (isTaken(roller, start, start + minutes)) {
                return TAKEN;
            }
            return leaseCount >= MAX_LEASES ? TOO_MANY : 0;
        }

        int putLease(int customer, int roller, int start, int minutes, int yards) {
            Lease lease = leases[leaseCount];
            lease.customer = customer;
            lease.roller = roller;
            lease.start = start;
            lease.end = start + minutes;
            lease.yardsLeft = yards;
            leaseCount++;
            return leaseCount - 1;
        }

        void cancel(int index) {
            Lease cancelled = leases[index];
            if (cancelled.start - minute < notice) {
                charge(cancelled.customer, fee, calendar.percentAt(minute));
            }
            for (int i = index; i < leaseCount - 1; i++) {
                leases[i] = leases[i + 1];
            }
            // The row goes behind the last one, where the next lease will use it again.
            leases[leaseCount - 1] = cancelled;
            leaseCount--;
        }

        // -- bundles

        int bundleWithTag(int tag) {
            for (int i = 0; i < bundleCount; i++) {
                if (bundles[i].tag == tag) {
                    return i;
                }
            }
            return NONE;
        }

        int putBundle(int owner, int tag, int yards, int limit, int deadline) {
            Bundle bundle = bundles[bundleCount];
            bundle.owner = owner;
            bundle.tag = tag;
            bundle.yardsLeft = yards;
            bundle.limit = limit;
            bundle.deadline = deadline;
            bundle.finish = NONE;
            bundle.scorches = 0;
            bundle.assignedTo = NONE;
            bundle.processedMinute = NONE;
            bundleCount++;
            return bundleCount - 1;
        }

        void split(int index, int yards) {
            Bundle whole = bundles[index];
            whole.yardsLeft -= yards;
            putBundle(whole.owner, leastFreeTag(), yards, whole.limit, whole.deadline);
        }

        private int leastFreeTag() {
            int tag = 0;
            while (tag < MAX_TAG && bundleWithTag(tag) != NONE) {
                tag++;
            }
            return tag;
        }

        void merge(int index, int other) {
            Bundle removed = bundles[other];
            bundles[index].yardsLeft += removed.yardsLeft;
            bundles[index].scorches += removed.scorches;
            for (int i = other; i < bundleCount - 1; i++) {
                bundles[i] = bundles[i + 1];
            }
            // The row goes behind the last one, where the next bundle will use it again.
            bundles[bundleCount - 1] = removed;
            bundleCount--;
        }

        private int selectBundle(int customer, int roller) {
            int selected = NONE;
            for (int i = 0; i < bundleCount; i++) {
                if (bundles[i].canBeSelected(customer, roller, minute)
                        && (selected == NONE || bundles[i].tag < bundles[selected].tag)) {
                    selected = i;
                }
            }
            return selected;
        }

        // -- rollers and minutes

        void putRoller(int speed, int heat, int perMinute, int perYard) {
            rollers[rollerCount].begin(speed, heat, perMinute, perYard);
            rollerCount++;
        }

        void openAllValves() {
            for (int i = 0; i < rollerCount; i++) {
                rollers[i].open = true;
            }
        }

        void putInOrder(int roller) {
            order[orderCount] = roller;
            orderCount++;
        }

        boolean isOrdered(int roller) {
            for (int i = 0; i < orderCount; i++) {
                if (order[i] == roller) {
                    return true;
                }
            }
            return false;
        }

        void simulate(int minutes) {
            for (int i = 0; i < minutes; i++) {
                int percent = calendar.percentAt(minute);
                for (int place = 0; place < orderCount; place++) {
                    rollers[order[place]].idleReason = work(order[place], percent);
                }
                for (int roller = 0; roller < rollerCount; roller++) {
                    if (!isOrdered(roller)) {
                        rollers[roller].idleReason = work(roller, percent);
                    }
                }
                steam = Math.min(capacity, steam + refill);
                minute++;
            }
        }

        /** The work of a roller in the current minute; answers the idle reason, 0 if it processed a bundle. */
        private int work(int index, int percent) {
            Roller roller = rollers[index];
            roller.processed = NONE;
            boolean inService = roller.serviceLeft > 0;
            if (inService) {
                roller.serviceLeft--;
            }
            int active = leaseCovering(index, minute);
            if (active == NONE) {
                return NO_LEASE;
            }
            if (calendar.isHoliday(minute)) {
                return ON_HOLIDAY;
            }
            Lease lease = leases[active];
            if (lease.isByTime()) {
                charge(lease.customer, roller.perMinute, percent);
            }
            if (inService) {
                return IN_SERVICE;
            }
            if (!roller.open) {
                return VALVE_CLOSED;
            }
            int selected = selectBundle(lease.customer, index);
            if (selected == NONE) {
                return NO_BUNDLE;
            }
            if (steam < roller.heat) {
                roller.stalls++;
                return STALLED;
            }
            int yards = process(roller, lease, bundles[selected]);
            if (!lease.isByTime()) {
                charge(lease.customer, roller.perYard * yards, percent);
            }
            roller.processed = selected;
            return 0;
        }

        /** Answers the number of yards processed. */
        private int process(Roller roller, Lease lease, Bundle bundle) {
            steam -= roller.heat;
            int yards = Math.min(roller.speed, bundle.yardsLeft);
            if (!lease.isByTime()) {
                yards = Math.min(yards, lease.yardsLeft);
                lease.yardsLeft -= yards;
                if (lease.yardsLeft == 0) {
                    lease.end = minute + 1;
                }
            }
            bundle.yardsLeft -= yards;
            bundle.processedMinute = minute;
            if (bundle.yardsLeft == 0) {
                bundle.finish = minute + 1;
            }
            if (roller.heat > bundle.limit) {
                bundle.scorches++;
            }
            roller.busyMinutes++;
            roller.wearDown(pause);
            return yards;
        }
    }

    /** The words of the grammar. */
    private enum Word {
        BOILER("boiler"),
        ROLLER("roller"),
        CUSTOMER("customer"),
        BUNDLE("bundle"),
        TIME("time"),
        LENGTH("length"),
        CLOSE("close"),
        OPEN("open"),
        CANCEL("cancel"),
        DISCOUNT("discount"),
        SERVICE("service"),
        PAUSE("pause"),
        HOLIDAY("holiday"),
        ORDER("order"),
        FEE("fee"),
        SPLIT("split"),
        MERGE("merge"),
        ASSIGN("assign"),
        RATE("rate"),
        COPY("copy"),
        ADVANCE("advance"),
        REPEAT("repeat");

        final String text;

        Word(String text) {
            this.text = text;
        }
    }

    /**
     * Parses a setup, each item taking effect at once. After the first error every further
     * reading is void, so that an item asks once, behind its last token, whether all went well.
     */
    private static final class Parser {
        private static final Word[] WORDS = Word.values();

        private static final int AT_END = 0;
        private static final int AT_WORD = 1;
        private static final int AT_NUMBER = 2;
        private static final int AT_SEMICOLON = 3;
        private static final int AT_OPENING = 4;
        private static final int AT_CLOSING = 5;
        private static final int MALFORMED = 6;

        private static final int MAX_LETTERS = 8;
        private static final int MAX_DIGITS = 3;
        private static final int MAX_NAME = 6;
        private static final int MIN_CAPACITY = 10;
        private static final int MAX_CAPACITY = 500;
        private static final int MAX_SPEED = 9;
        private static final int MAX_HEAT = 9;
        private static final int MAX_PRICE = 50;
        private static final int MAX_PAUSE = 20;
        private static final int MAX_DISCOUNT = 50;
        private static final int MIN_RATE = 50;
        private static final int MAX_RATE = 200;
        private static final int MAX_SERVICE = 99;
        private static final int MAX_FEE = 99;
        private static final int MAX_NOTICE = 200;
        private static final int MAX_REPEAT = 5;
        private static final int MAX_DEPTH = 3;
        private static final int MAX_SIMULATED = 2000;

        int errorCode = 0;
        int errorPosition = NONE;
        int errorObstacle = 0;

        private final byte[] bytes;
        private final int length;
        private final Laundry laundry;
        private int simulated = 0;

        // The token that is looked at: its kind, its first byte and the byte behind it.
        private int kind;
        private int start;
        private int end;
        // The first byte of the number that was taken last.
        private int taken;

        Parser(byte[] bytes, int length, Laundry laundry) {
            this.bytes = bytes;
            this.length = length;
            this.laundry = laundry;
        }

        private boolean failed() {
            return errorCode != 0;
        }

        private void fail(int code, int position) {
            if (errorCode == 0) {
                errorCode = code;
                errorPosition = position;
            }
        }

        private void conflictIf(boolean conflict) {
            if (conflict) {
                fail(CONFLICT_ERROR, taken);
            }
        }

        // -- tokens

        private void scanFrom(int position) {
            start = position;
            while (start < length && bytes[start] == ' ') {
                start++;
            }
            end = start;
            if (start >= length) {
                kind = AT_END;
            } else if (isLetter(bytes[start])) {
                while (end < length && isLetter(bytes[end])) {
                    end++;
                }
                kind = end - start > MAX_LETTERS ? MALFORMED : AT_WORD;
            } else if (isDigit(bytes[start])) {
                while (end < length && isDigit(bytes[end])) {
                    end++;
                }
                kind = end - start > MAX_DIGITS ? MALFORMED : AT_NUMBER;
            } else {
                kind = kindOfSign(bytes[start]);
                end++;
            }
        }

        private static boolean isLetter(byte sign) {
            return sign >= 'a' && sign <= 'z';
        }

        private static boolean isDigit(byte sign) {
            return sign >= '0' && sign <= '9';
        }

        private static int kindOfSign(byte sign) {
            switch (sign) {
                case ';':
                    return AT_SEMICOLON;
                case '(':
                    return AT_OPENING;
                case ')':
                    return AT_CLOSING;
                default:
                    return MALFORMED;
            }
        }

        private void take() {
            scanFrom(end);
        }

        private void takeSign(int wanted) {
            if (kind == wanted) {
                take();
            } else {
                fail(SYNTAX_ERROR, start);
            }
        }

        /** Takes a number; answers NONE if there is an error, here or before. */
        private int number(int least, int most) {
            if (failed()) {
                return NONE;
            }
            if (kind != AT_NUMBER) {
                fail(SYNTAX_ERROR, start);
                return NONE;
            }
            int value = 0;
            for (int i = start; i < end; i++) {
                value = value * 10 + (bytes[i] - '0');
            }
            if (value < least || value > most) {
                fail(RANGE_ERROR, start);
                return NONE;
            }
            taken = start;
            scanFrom(end);
            return value;
        }

        private int rollerNumber() {
            return number(0, laundry.rollerCount - 1);
        }

        private int customerNumber() {
            return number(0, laundry.customerCount - 1);
        }

        private int leaseNumber() {
            return number(0, laundry.leaseCount - 1);
        }

        private int bundleNumber() {
            return number(0, laundry.bundleCount - 1);
        }

        private Word wordHere() {
            if (kind != AT_WORD) {
                return null;
            }
            for (Word word : WORDS) {
                if (isHere(word.text)) {
                    return word;
                }
            }
            return null;
        }

        private boolean isHere(String text) {
            if (text.length() != end - start) {
                return false;
            }
            for (int i = 0; i < text.length(); i++) {
                if (text.charAt(i) != bytes[start + i]) {
                    return false;
                }
            }
            return true;
        }

        private String textHere() {
            char[] letters = new char[end - start];
            for (int i = 0; i < letters.length; i++) {
                letters[i] = (char) bytes[start + i];
            }
            return new String(letters);
        }

        // -- the setup and its lists of items

        /** Parses the boiler and begins the laundry anew; tells whether items follow. */
        boolean beginSetup() {
            scanFrom(0);
            if (wordHere() != Word.BOILER) {
                fail(SYNTAX_ERROR, start);
                return false;
            }
            take();
            int capacity = number(MIN_CAPACITY, MAX_CAPACITY);
            int refill = number(0, MAX_REFILL);
            if (failed()) {
                return false;
            }
            laundry.begin(capacity, refill);
            if (kind != AT_SEMICOLON) {
                return false;
            }
            take();
            return true;
        }

        void endSetup() {
            if (failed()) {
                return;
            }
            if (kind != AT_END) {
                fail(SYNTAX_ERROR, start);
            } else if (laundry.rollerCount == 0 || laundry.customerCount == 0) {
                fail(LIMIT_ERROR, start);
            }
        }

        /** Parses an item and all that follow it behind semicolons; depth counts the brackets around them. */
        private void items(int depth) {
            // No list has more items than bytes.
            for (int count = 0; count < length && !failed(); count++) {
                item(depth);
                if (failed() || kind != AT_SEMICOLON) {
                    return;
                }
                take();
            }
        }

        private void item(int depth) {
            Word word = wordHere();
            if (word == null || word == Word.BOILER) {
                fail(SYNTAX_ERROR, start);
                return;
            }
            if (isOverLimit(word, depth)) {
                fail(LIMIT_ERROR, start);
                return;
            }
            take();
            switch (word) {
                case ROLLER: rollerItem(); break;
                case CUSTOMER: customerItem(); break;
                case BUNDLE: bundleItem(); break;
                case TIME: timeItem(); break;
                case LENGTH: lengthItem(); break;
                case CLOSE: valveItem(false); break;
                case OPEN: valveItem(true); break;
                case CANCEL: cancelItem(); break;
                case DISCOUNT: discountItem(); break;
                case SERVICE: serviceItem(); break;
                case PAUSE: pauseItem(); break;
                case HOLIDAY: holidayItem(); break;
                case ORDER: orderItem(); break;
                case FEE: feeItem(); break;
                case SPLIT: splitItem(); break;
                case MERGE: mergeItem(); break;
                case ASSIGN: assignItem(); break;
                case RATE: rateItem(); break;
                case COPY: copyItem(); break;
                case ADVANCE: advanceItem(); break;
                case REPEAT: repeatItem(depth); break;
                default: break;
            }
        }

        private boolean isOverLimit(Word word, int depth) {
            switch (word) {
                case ROLLER:
                    return laundry.rollerCount >= MAX_ROLLERS;
                case CUSTOMER:
                    return laundry.customerCount >= MAX_CUSTOMERS;
                case BUNDLE:
                case SPLIT:
                    return laundry.bundleCount >= MAX_BUNDLES;
                case HOLIDAY:
                    return laundry.calendar.holidayCount >= MAX_HOLIDAYS;
                case RATE:
                    return laundry.calendar.rateCount >= MAX_RATES;
                case REPEAT:
                    return depth >= MAX_DEPTH;
                default:
                    return false;
            }
        }

        private void repeatItem(int depth) {
            int passes = number(1, MAX_REPEAT);
            int bracket = start;
            for (int pass = 0; pass < passes && !failed(); pass++) {
                scanFrom(bracket);
                takeSign(AT_OPENING);
                items(depth + 1);
                takeSign(AT_CLOSING);
            }
        }

        // -- items

        private void rollerItem() {
            int speed = number(1, MAX_SPEED);
            int heat = number(1, MAX_HEAT);
            int perMinute = number(0, MAX_PRICE);
            int perYard = number(0, MAX_PRICE);
            if (!failed()) {
                laundry.putRoller(speed, heat, perMinute, perYard);
            }
        }

        private void customerItem() {
            if (kind != AT_WORD) {
                fail(SYNTAX_ERROR, start);
                return;
            }
            if (end - start > MAX_NAME) {
                fail(RANGE_ERROR, start);
                return;
            }
            String name = textHere();
            if (laundry.hasCustomer(name)) {
                fail(CONFLICT_ERROR, start);
                return;
            }
            laundry.putCustomer(name);
            take();
        }

        private void bundleItem() {
            int owner = customerNumber();
            int tag = number(0, MAX_TAG);
            conflictIf(tag != NONE && laundry.bundleWithTag(tag) != NONE);
            int yards = number(1, MAX_YARDS);
            int limit = number(1, MAX_LIMIT);
            int deadline = number(0, LAST_MINUTE);
            if (!failed()) {
                laundry.putBundle(owner, tag, yards, limit, deadline);
            }
        }

        private void timeItem() {
            int customer = customerNumber();
            int roller = rollerNumber();
            int first = number(0, LAST_MINUTE);
            int minutes = number(1, MAX_LEASE_MINUTES);
            if (!failed()) {
                leaseUnlessObstacle(customer, roller, first, minutes, NONE);
            }
        }

        private void lengthItem() {
            int customer = customerNumber();
            int roller = rollerNumber();
            int first = number(0, LAST_MINUTE);
            int yards = number(1, MAX_YARDS);
            if (!failed()) {
                int minutes = laundry.rollers[roller].minutesFor(yards);
                leaseUnlessObstacle(customer, roller, first, minutes, yards);
            }
        }

        private void leaseUnlessObstacle(int customer, int roller, int first, int minutes, int yards) {
            errorObstacle = laundry.obstacle(roller, first, minutes);
            conflictIf(errorObstacle != 0);
            if (!failed()) {
                laundry.putLease(customer, roller, first, minutes, yards);
            }
        }

        private void valveItem(boolean open) {
            int roller = rollerNumber();
            if (!failed()) {
                conflictIf(laundry.rollers[roller].open == open);
                laundry.rollers[roller].open = open;
            }
        }

        private void cancelItem() {
            int lease = leaseNumber();
            if (failed()) {
                return;
            }
            conflictIf(laundry.leases[lease].start < laundry.minute);
            if (!failed()) {
                laundry.cancel(lease);
            }
        }

        private void discountItem() {
            int customer = customerNumber();
            int percent = number(0, MAX_DISCOUNT);
            if (!failed()) {
                laundry.customers[customer].discount = percent;
            }
        }

        private void serviceItem() {
            int roller = rollerNumber();
            int limit = number(0, MAX_SERVICE);
            if (!failed()) {
                laundry.rollers[roller].serviceLimit = limit;
            }
        }

        private void pauseItem() {
            int minutes = number(0, MAX_PAUSE);
            if (!failed()) {
                laundry.pause = minutes;
            }
        }

        private void holidayItem() {
            int first = number(0, LAST_MINUTE);
            int last = number(first, LAST_MINUTE);
            if (!failed()) {
                laundry.calendar.putHoliday(first, last);
            }
        }

        private void orderItem() {
            laundry.orderCount = 0;
            // A list that is longer than the rollers are many names one of them twice, and so fails.
            for (int place = 0; place <= MAX_ROLLERS; place++) {
                int roller = rollerNumber();
                conflictIf(roller != NONE && laundry.isOrdered(roller));
                if (failed()) {
                    return;
                }
                laundry.putInOrder(roller);
                if (kind != AT_NUMBER) {
                    return;
                }
            }
        }

        private void feeItem() {
            int amount = number(0, MAX_FEE);
            int notice = number(0, MAX_NOTICE);
            if (!failed()) {
                laundry.fee = amount;
                laundry.notice = notice;
            }
        }

        private void splitItem() {
            int bundle = bundleNumber();
            int yards = number(1, MAX_YARDS);
            if (failed()) {
                return;
            }
            conflictIf(yards >= laundry.bundles[bundle].yardsLeft);
            if (!failed()) {
                laundry.split(bundle, yards);
            }
        }

        private void mergeItem() {
            int bundle = bundleNumber();
            int other = bundleNumber();
            if (failed()) {
                return;
            }
            Bundle kept = laundry.bundles[bundle];
            Bundle removed = laundry.bundles[other];
            conflictIf(bundle == other || kept.owner != removed.owner || kept.isFinished() || removed.isFinished());
            if (!failed()) {
                laundry.merge(bundle, other);
            }
        }

        private void assignItem() {
            int bundle = bundleNumber();
            if (failed()) {
                return;
            }
            conflictIf(laundry.bundles[bundle].isFinished());
            int roller = rollerNumber();
            if (!failed()) {
                laundry.bundles[bundle].assignedTo = roller;
            }
        }

        private void rateItem() {
            int first = number(0, LAST_MINUTE);
            int last = number(first, LAST_MINUTE);
            int percent = number(MIN_RATE, MAX_RATE);
            if (!failed()) {
                laundry.calendar.putRate(first, last, percent);
            }
        }

        private void copyItem() {
            int index = leaseNumber();
            if (failed()) {
                return;
            }
            Lease copied = laundry.leases[index];
            conflictIf(!copied.isByTime());
            int first = number(0, LAST_MINUTE);
            if (!failed()) {
                leaseUnlessObstacle(copied.customer, copied.roller, first, copied.end - copied.start, NONE);
            }
        }

        private void advanceItem() {
            int minutes = number(1, MAX_ADVANCE);
            if (failed()) {
                return;
            }
            if (simulated + minutes > MAX_SIMULATED) {
                fail(LIMIT_ERROR, taken);
                return;
            }
            simulated += minutes;
            laundry.simulate(minutes);
        }
    }
}
