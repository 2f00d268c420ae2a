import java.util.NoSuchElementException;

/** An administration system for weather insurance of kite days and picnics. */
public final class WeatherInsurance {
    public static final int NONE = -1;
    public static final int NO_ERROR = 0;
    public static final int SYNTAX = 1;
    public static final int OUT_OF_RANGE = 2;
    public static final int BAD_NAME = 3;
    public static final int TOO_MANY = 4;
    public static final int TOO_FEW = 5;
    public static final int MAY_CLAIM = 0;
    public static final int LAPSED = 1;
    public static final int NOT_OVER = 2;
    public static final int TOO_LATE = 3;
    public static final int ALREADY_CLAIMED = 4;
    public static final int DUPLICATE = 5;

    private static final int CLOCK_LIMIT = 1000;
    private static final int HOURS_A_DAY = 24;
    private static final int CLAIM_HOURS = 72;
    private static final int HOLDER_LIMIT = 8;
    private static final int ASSESSOR_LIMIT = 3;
    private static final int POLICY_LIMIT = 20;
    private static final int STATEMENT_LIMIT = 30;
    private static final int CHANGE_LIMIT = 8;
    private static final int INPUT_LIMIT = 600;
    private static final int OUTPUT_LIMIT = 16;
    private static final int NAME_LIMIT = 6;
    private static final int MAX_WIND = 150;
    private static final int MAX_RAIN = 50;
    private static final int MAX_HOURS = 24;
    private static final int MAX_COVER = 500;
    private static final int MAX_MONEY = 9999;
    private static final int MAX_DEPOSIT = 999;
    private static final int MAX_STRICTNESS = 9;
    private static final int MAX_COUNT = 48;
    private static final int USUAL_RESERVE = 1000;

    private static final int UNDECIDED = 0;
    private static final int DENIED = 1;
    private static final int GRANTED = 2;
    private static final int PAID = 3;

    private static final String FIRST_SETUP =
        "holder ann 200;holder bob 60;holder cid 500;assessor 0;assessor 4;reserve 300;";

    private final byte[] input = new byte[INPUT_LIMIT];
    private int inputLength;
    private final byte[] output = new byte[OUTPUT_LIMIT];
    private int outputLength;
    private final TextReader text = new TextReader();
    private final Setup draft = new Setup();
    private final Script script = new Script();
    private final Audit audit = new Audit();
    private final History history = new History();
    private final Office office = new Office();
    private final Setup setup = office.setup;
    private final Book book = office.book;
    private final Ledger ledger = office.ledger;
    private final Book savedBook = new Book();
    private final Ledger savedLedger = new Ledger();
    private boolean stateIsSaved;

    public WeatherInsurance() {
        for (int i = 0; i < FIRST_SETUP.length() && i < INPUT_LIMIT; i++) {
            input[i] = (byte) FIRST_SETUP.charAt(i);
            inputLength = i + 1;
        }
        loadSetup();
    }

    // ---- texts ----

    public int appendInput(int a, int b, int c, int d, int e) {
        if (inputLength + 20 > INPUT_LIMIT) {
            return NONE;
        }
        appendWord(a);
        appendWord(b);
        appendWord(c);
        appendWord(d);
        appendWord(e);
        return inputLength;
    }

    private void appendWord(int word) {
        for (int shift = 24; shift >= 0 && inputLength < INPUT_LIMIT; shift -= 8) {
            input[inputLength] = (byte) (word >>> shift);
            inputLength++;
        }
    }

    public boolean truncateInput(int length) {
        if (length < 0 || length > inputLength) {
            return false;
        }
        inputLength = length;
        return true;
    }

    public int loadSetup() {
        openInput();
        if (!draft.readFrom(text)) {
            return NONE;
        }
        office.openWith(draft);
        history.forgetAll();
        stateIsSaved = false;
        return setup.holderCount;
    }

    public int runScript() {
        openInput();
        if (!script.readFrom(text, setup)) {
            return NONE;
        }
        history.keep(ledger);
        for (int i = 0; i < script.count; i++) {
            if (!script.runStatement(i, office)) {
                return i;
            }
        }
        return script.count;
    }

    // The reader keeps the length of the text, so the buffer counts as empty from here on.
    private void openInput() {
        text.open(input, inputLength);
        inputLength = 0;
    }

    public int errorCode() {
        return text.errorCode;
    }

    public int errorOffset() {
        return text.errorOffset;
    }

    // ---- the insurer, the holders and the weather ----

    public int clock() {
        return ledger.clock;
    }

    public int reserve() {
        return ledger.reserve;
    }

    public int holderCount() {
        return setup.holderCount;
    }

    public int nameByte(int holder, int index) throws IndexOutOfBoundsException {
        requireHolder(holder);
        if (index < 0 || index >= setup.nameLengths[holder]) {
            return NONE;
        }
        return setup.letterOf(holder, index);
    }

    public int balance(int holder) throws IndexOutOfBoundsException {
        requireHolder(holder);
        return ledger.balances[holder];
    }

    public int dailyPremiums(int holder) throws IndexOutOfBoundsException {
        requireHolder(holder);
        int sum = 0;
        for (int policy = 0; policy < ledger.policyCount; policy++) {
            if (book.holders[policy] == holder && office.isRunning(ledger, policy)) {
                sum += book.premiumOf(policy);
            }
        }
        return sum;
    }

    public int wind(int hour) throws IndexOutOfBoundsException {
        requirePastHour(hour);
        return book.winds[hour];
    }

    public int rain(int hour) throws IndexOutOfBoundsException {
        requirePastHour(hour);
        return book.rains[hour];
    }

    // ---- policies ----

    public int policyCount() {
        return ledger.policyCount;
    }

    public boolean isKite(int policy) throws IndexOutOfBoundsException {
        requirePolicy(policy);
        return book.kites[policy];
    }

    public int holderOf(int policy) throws IndexOutOfBoundsException {
        requirePolicy(policy);
        return book.holders[policy];
    }

    public int firstHour(int policy) throws IndexOutOfBoundsException {
        requirePolicy(policy);
        return book.firsts[policy];
    }

    public int insuredHours(int policy) throws IndexOutOfBoundsException {
        requirePolicy(policy);
        return book.hours[policy];
    }

    public int cover(int policy) throws IndexOutOfBoundsException {
        requirePolicy(policy);
        return book.covers[policy];
    }

    public int premium(int policy) throws IndexOutOfBoundsException {
        requirePolicy(policy);
        return book.premiumOf(policy);
    }

    public boolean isActive(int policy) throws IndexOutOfBoundsException {
        requirePolicy(policy);
        return office.isRunning(ledger, policy);
    }

    public boolean hasLapsed(int policy) throws IndexOutOfBoundsException {
        requirePolicy(policy);
        return ledger.lapsed[policy];
    }

    public int damage(int policy) throws IndexOutOfBoundsException {
        requirePolicy(policy);
        return book.damageUntil(policy, ledger.clock);
    }

    public int claimObstacle(int policy) throws IndexOutOfBoundsException {
        requirePolicy(policy);
        return office.obstacleFor(policy);
    }

    // ---- claims ----

    public int claimCount() {
        return ledger.claimCount;
    }

    public int policyOf(int claim) throws IndexOutOfBoundsException {
        requireClaim(claim);
        return book.claimPolicies[claim];
    }

    public int assessorOf(int claim) throws IndexOutOfBoundsException {
        requireClaim(claim);
        return book.claimAssessors[claim];
    }

    public boolean isUndecided(int claim) throws IndexOutOfBoundsException {
        requireClaim(claim);
        return ledger.states[claim] == UNDECIDED;
    }

    public boolean isDenied(int claim) throws IndexOutOfBoundsException {
        requireClaim(claim);
        return ledger.states[claim] == DENIED;
    }

    public boolean isPaid(int claim) throws IndexOutOfBoundsException {
        requireClaim(claim);
        return ledger.states[claim] == PAID;
    }

    public int grantedAmount(int claim) throws IndexOutOfBoundsException {
        requireClaim(claim);
        return ledger.amounts[claim];
    }

    // ---- assessors and payments ----

    public int assessorCount() {
        return setup.assessorCount;
    }

    public int strictness(int assessor) throws IndexOutOfBoundsException {
        requireAssessor(assessor);
        return setup.strictnesses[assessor];
    }

    public int workload(int assessor) throws IndexOutOfBoundsException {
        requireAssessor(assessor);
        return office.undecidedOf(assessor);
    }

    public int nextAssessor() {
        return office.leastBusyAssessor();
    }

    public int nextPayment() {
        return ledger.paidCount < ledger.grantedCount ? ledger.grants[ledger.paidCount] : NONE;
    }

    public int openPayments() {
        int sum = 0;
        for (int i = ledger.paidCount; i < ledger.grantedCount; i++) {
            sum += ledger.amounts[ledger.grants[i]];
        }
        return sum;
    }

    // ---- sums ----

    public int totalPremiums() {
        return ledger.premiumSum;
    }

    public int totalPaid() {
        return ledger.paidSum;
    }

    public int totalDeposits() {
        return ledger.depositSum;
    }

    public int luckiestHolder() {
        int luckiest = 0;
        int most = 0;
        for (int holder = 0; holder < setup.holderCount; holder++) {
            int received = office.paidTo(holder);
            if (received > most) {
                luckiest = holder;
                most = received;
            }
        }
        return luckiest;
    }

    public int lapsedCount() {
        int count = 0;
        for (int policy = 0; policy < ledger.policyCount; policy++) {
            if (ledger.lapsed[policy]) {
                count++;
            }
        }
        return count;
    }

    public double lossRatio() {
        if (ledger.premiumSum == 0) {
            return 0.0;
        }
        return (double) ledger.paidSum / (double) ledger.premiumSum;
    }

    public float grantedPart() {
        int decided = 0;
        for (int claim = 0; claim < ledger.claimCount; claim++) {
            if (ledger.states[claim] != UNDECIDED) {
                decided++;
            }
        }
        if (decided == 0) {
            return 0.0f;
        }
        return (float) ledger.grantedCount / (float) decided;
    }

    // ---- calculations and forecasts ----

    public int kitePremium(int hours, int cover) throws IllegalArgumentException {
        requireRange(hours, 1, MAX_HOURS);
        requireRange(cover, 1, MAX_COVER);
        return premiumForKite(hours, cover);
    }

    public int picnicPremium(int hours, int cover, int rainLimit) throws IllegalArgumentException {
        requireRange(hours, 1, MAX_HOURS);
        requireRange(cover, 1, MAX_COVER);
        requireRange(rainLimit, 0, MAX_RAIN);
        return premiumForPicnic(hours, cover, rainLimit);
    }

    private static int premiumForKite(int hours, int cover) {
        return cover * hours / 40 + 1;
    }

    private static int premiumForPicnic(int hours, int cover, int rainLimit) {
        int divisor = 20 + 2 * rainLimit;
        return divisor > 0 ? cover * hours / divisor + 1 : 1;
    }

    public int hoursUntilDecision(int claim) throws IndexOutOfBoundsException {
        requireClaim(claim);
        return office.workUntilDecision(claim);
    }

    public int hoursUntilLapse(int policy) throws IndexOutOfBoundsException {
        requirePolicy(policy);
        return office.forecastLapse(policy);
    }

    public boolean isConsistent() {
        return audit.passes(office);
    }

    // ---- changes ----

    public int passHour(int wind, int rain) throws IllegalArgumentException, IllegalStateException {
        requireRange(wind, 0, MAX_WIND);
        requireRange(rain, 0, MAX_RAIN);
        if (!office.canPass(1)) {
            throw new IllegalStateException("the clock is at its limit");
        }
        history.keep(ledger);
        return office.letHourPass(wind, rain);
    }

    public int buyKite(int holder, int first, int hours, int cover, int minWind, int maxWind)
            throws IndexOutOfBoundsException, IllegalArgumentException, IllegalStateException {
        requireHolder(holder);
        requireInsurance(first, hours, cover);
        requireRange(minWind, 0, MAX_WIND);
        requireRange(maxWind, minWind, MAX_WIND);
        requireBuyer(holder, premiumForKite(hours, cover));
        history.keep(ledger);
        return office.sellKite(holder, first, hours, cover, minWind, maxWind);
    }

    public int buyPicnic(int holder, int first, int hours, int cover, int rainLimit)
            throws IndexOutOfBoundsException, IllegalArgumentException, IllegalStateException {
        requireHolder(holder);
        requireInsurance(first, hours, cover);
        requireRange(rainLimit, 0, MAX_RAIN);
        requireBuyer(holder, premiumForPicnic(hours, cover, rainLimit));
        history.keep(ledger);
        return office.sellPicnic(holder, first, hours, cover, rainLimit);
    }

    public int fileClaim(int policy) throws IndexOutOfBoundsException, IllegalStateException {
        requirePolicy(policy);
        if (office.obstacleFor(policy) != MAY_CLAIM) {
            throw new IllegalStateException("no claim can be filed for this policy now");
        }
        history.keep(ledger);
        return office.openClaim(policy);
    }

    public int deposit(int holder, int amount) throws IndexOutOfBoundsException, IllegalArgumentException {
        requireHolder(holder);
        requireRange(amount, 1, MAX_DEPOSIT);
        history.keep(ledger);
        return ledger.takeDeposit(holder, amount);
    }

    public int undo() throws NoSuchElementException {
        if (history.isEmpty()) {
            throw new NoSuchElementException("there is no change to undo");
        }
        return history.goBack(ledger);
    }

    // ---- output ----

    public int writeClaim(int claim) throws IndexOutOfBoundsException {
        requireClaim(claim);
        int policy = book.claimPolicies[claim];
        outputLength = 0;
        putName(book.holders[policy]);
        put('/');
        put(book.kites[policy] ? 'k' : 'p');
        switch (ledger.states[claim]) {
            case UNDECIDED:
                put('?');
                break;
            case DENIED:
                put('-');
                break;
            case GRANTED:
                put('+');
                putAmount(ledger.amounts[claim]);
                break;
            default:
                put('=');
                putAmount(ledger.amounts[claim]);
                break;
        }
        return outputLength;
    }

    private void putName(int holder) {
        for (int index = 0; index < setup.nameLengths[holder]; index++) {
            put(setup.letterOf(holder, index));
        }
    }

    // No amount is greater than the greatest cover, so three digits are enough.
    private void putAmount(int amount) {
        if (amount >= 100) {
            put('0' + amount / 100);
        }
        if (amount >= 10) {
            put('0' + amount / 10 % 10);
        }
        put('0' + amount % 10);
    }

    private void put(int sign) {
        if (outputLength < OUTPUT_LIMIT) {
            output[outputLength] = (byte) sign;
            outputLength++;
        }
    }

    public int outputByte(int index) {
        return index >= 0 && index < outputLength ? output[index] : NONE;
    }

    // ---- the saved state ----

    public int saveState() {
        savedBook.copyFrom(book);
        savedLedger.copyFrom(ledger);
        stateIsSaved = true;
        return ledger.clock;
    }

    public int restoreState() throws NoSuchElementException {
        if (!stateIsSaved) {
            throw new NoSuchElementException("no state is saved");
        }
        book.copyFrom(savedBook);
        ledger.copyFrom(savedLedger);
        history.forgetAll();
        return ledger.clock;
    }

    // ---- what calls must meet ----

    private void requireHolder(int holder) {
        requireIndex(holder, setup.holderCount);
    }

    private void requireAssessor(int assessor) {
        requireIndex(assessor, setup.assessorCount);
    }

    private void requirePolicy(int policy) {
        requireIndex(policy, ledger.policyCount);
    }

    private void requireClaim(int claim) {
        requireIndex(claim, ledger.claimCount);
    }

    private void requirePastHour(int hour) {
        requireIndex(hour, ledger.clock);
    }

    private static void requireIndex(int index, int count) {
        if (index < 0 || index >= count) {
            throw new IndexOutOfBoundsException("there is nothing with this number");
        }
    }

    private static void requireRange(int number, int least, int most) {
        if (number < least || number > most) {
            throw new IllegalArgumentException("a number is outside its range");
        }
    }

    private void requireInsurance(int first, int hours, int cover) {
        requireRange(first, ledger.clock, CLOCK_LIMIT);
        requireRange(hours, 1, MAX_HOURS);
        requireRange(cover, 1, MAX_COVER);
    }

    private void requireBuyer(int holder, int premium) {
        if (!office.canSell(holder, premium)) {
            throw new IllegalStateException("too many policies, or the balance is too small");
        }
    }

    /** What a setup says. */
    private static final class Setup {
        int holderCount;
        final int[] nameLengths = new int[HOLDER_LIMIT];
        final byte[] letters = new byte[HOLDER_LIMIT * NAME_LIMIT];
        final int[] balances = new int[HOLDER_LIMIT];
        int assessorCount;
        final int[] strictnesses = new int[ASSESSOR_LIMIT];
        int reserve;

        void copyFrom(Setup other) {
            holderCount = other.holderCount;
            System.arraycopy(other.nameLengths, 0, nameLengths, 0, HOLDER_LIMIT);
            System.arraycopy(other.letters, 0, letters, 0, HOLDER_LIMIT * NAME_LIMIT);
            System.arraycopy(other.balances, 0, balances, 0, HOLDER_LIMIT);
            assessorCount = other.assessorCount;
            System.arraycopy(other.strictnesses, 0, strictnesses, 0, ASSESSOR_LIMIT);
            reserve = other.reserve;
        }

        int letterOf(int holder, int index) {
            return letters[holder * NAME_LIMIT + index];
        }

        int money() {
            int sum = reserve;
            for (int holder = 0; holder < holderCount; holder++) {
                sum += balances[holder];
            }
            return sum;
        }

        /** Returns the holder whose name is the current token, or NONE. */
        int holderNamedIn(TextReader text) {
            for (int holder = 0; holder < holderCount; holder++) {
                if (isNamedIn(holder, text)) {
                    return holder;
                }
            }
            return NONE;
        }

        private boolean isNamedIn(int holder, TextReader text) {
            if (nameLengths[holder] != text.tokenLength()) {
                return false;
            }
            for (int index = 0; index < nameLengths[holder]; index++) {
                if (letterOf(holder, index) != text.tokenByte(index)) {
                    return false;
                }
            }
            return true;
        }

        boolean readFrom(TextReader text) {
            holderCount = 0;
            assessorCount = 0;
            reserve = USUAL_RESERVE;
            text.next();
            // Each statement takes bytes of the text, so there are fewer statements than bytes.
            for (int round = 0; round < INPUT_LIMIT && !text.isAtEnd(); round++) {
                if (!readStatement(text)) {
                    return false;
                }
                text.next();
            }
            return holderCount > 0 && assessorCount > 0 || text.fail(TOO_FEW);
        }

        private boolean readStatement(TextReader text) {
            if (text.isWord("holder")) {
                return readHolder(text);
            }
            if (text.isWord("assessor")) {
                return readAssessor(text);
            }
            if (text.isWord("reserve")) {
                return readReserve(text);
            }
            return text.fail(SYNTAX);
        }

        private boolean readHolder(TextReader text) {
            if (holderCount == HOLDER_LIMIT) {
                return text.fail(TOO_MANY);
            }
            if (!text.readName()) {
                return false;
            }
            if (holderNamedIn(text) != NONE) {
                return text.fail(BAD_NAME);
            }
            takeName(text);
            if (!text.readNumber(0, MAX_MONEY)) {
                return false;
            }
            balances[holderCount] = text.number;
            holderCount++;
            return text.readSemicolon();
        }

        private void takeName(TextReader text) {
            nameLengths[holderCount] = text.tokenLength();
            for (int index = 0; index < nameLengths[holderCount]; index++) {
                letters[holderCount * NAME_LIMIT + index] = text.tokenByte(index);
            }
        }

        private boolean readAssessor(TextReader text) {
            if (assessorCount == ASSESSOR_LIMIT) {
                return text.fail(TOO_MANY);
            }
            if (!text.readNumber(0, MAX_STRICTNESS)) {
                return false;
            }
            strictnesses[assessorCount] = text.number;
            assessorCount++;
            return text.readSemicolon();
        }

        private boolean readReserve(TextReader text) {
            if (!text.readNumber(0, MAX_MONEY)) {
                return false;
            }
            reserve = text.number;
            return text.readSemicolon();
        }
    }

    /**
     * What is written down once and stays: weather, policies, and who assesses which claim. The ledger says how much
     * of it counts. Undoing a change needs no older book, since what came later is only overwritten.
     */
    private static final class Book {
        final int[] winds = new int[CLOCK_LIMIT];
        final int[] rains = new int[CLOCK_LIMIT];
        final boolean[] kites = new boolean[POLICY_LIMIT];
        final int[] holders = new int[POLICY_LIMIT];
        final int[] firsts = new int[POLICY_LIMIT];
        final int[] hours = new int[POLICY_LIMIT];
        final int[] covers = new int[POLICY_LIMIT];
        final int[] leastWinds = new int[POLICY_LIMIT];
        final int[] greatestWinds = new int[POLICY_LIMIT];
        final int[] rainLimits = new int[POLICY_LIMIT];
        final int[] claimPolicies = new int[POLICY_LIMIT];
        final int[] claimAssessors = new int[POLICY_LIMIT];

        void copyFrom(Book other) {
            System.arraycopy(other.winds, 0, winds, 0, CLOCK_LIMIT);
            System.arraycopy(other.rains, 0, rains, 0, CLOCK_LIMIT);
            for (int policy = 0; policy < POLICY_LIMIT; policy++) {
                kites[policy] = other.kites[policy];
            }
            System.arraycopy(other.holders, 0, holders, 0, POLICY_LIMIT);
            System.arraycopy(other.firsts, 0, firsts, 0, POLICY_LIMIT);
            System.arraycopy(other.hours, 0, hours, 0, POLICY_LIMIT);
            System.arraycopy(other.covers, 0, covers, 0, POLICY_LIMIT);
            System.arraycopy(other.leastWinds, 0, leastWinds, 0, POLICY_LIMIT);
            System.arraycopy(other.greatestWinds, 0, greatestWinds, 0, POLICY_LIMIT);
            System.arraycopy(other.rainLimits, 0, rainLimits, 0, POLICY_LIMIT);
            System.arraycopy(other.claimPolicies, 0, claimPolicies, 0, POLICY_LIMIT);
            System.arraycopy(other.claimAssessors, 0, claimAssessors, 0, POLICY_LIMIT);
        }

        int expiryOf(int policy) {
            return firsts[policy] + hours[policy];
        }

        int premiumOf(int policy) {
            return kites[policy]
                ? premiumForKite(hours[policy], covers[policy])
                : premiumForPicnic(hours[policy], covers[policy], rainLimits[policy]);
        }

        int damageUntil(int policy, int clock) {
            int end = Math.min(clock, expiryOf(policy));
            int count = 0;
            int sum = 0;
            for (int hour = firsts[policy]; hour < end; hour++) {
                if (winds[hour] < leastWinds[policy] || winds[hour] > greatestWinds[policy]) {
                    count++;
                }
                sum += rains[hour];
            }
            return kites[policy] ? damageOfHours(policy, count) : damageOfRain(policy, sum);
        }

        int damageOfHours(int policy, int damagedHours) {
            int divisor = hours[policy];
            return divisor > 0 ? covers[policy] * damagedHours / divisor : 0;
        }

        int damageOfRain(int policy, int rainSum) {
            int excess = Math.max(0, rainSum - rainLimits[policy]);
            return Math.min(covers[policy], covers[policy] * excess / 10);
        }
    }

    /** What changes in the course of time, and what undoing a change must bring back. */
    private static final class Ledger {
        int clock;
        int reserve;
        final int[] balances = new int[HOLDER_LIMIT];
        int policyCount;
        final boolean[] lapsed = new boolean[POLICY_LIMIT];
        int claimCount;
        final int[] states = new int[POLICY_LIMIT];
        final int[] workDone = new int[POLICY_LIMIT];
        final int[] amounts = new int[POLICY_LIMIT];
        // Granted claims in the order of their decisions; the first paidCount of them are paid.
        final int[] grants = new int[POLICY_LIMIT];
        int grantedCount;
        int paidCount;
        int premiumSum;
        int paidSum;
        int depositSum;

        void copyFrom(Ledger other) {
            clock = other.clock;
            reserve = other.reserve;
            System.arraycopy(other.balances, 0, balances, 0, HOLDER_LIMIT);
            policyCount = other.policyCount;
            for (int policy = 0; policy < POLICY_LIMIT; policy++) {
                lapsed[policy] = other.lapsed[policy];
            }
            claimCount = other.claimCount;
            System.arraycopy(other.states, 0, states, 0, POLICY_LIMIT);
            System.arraycopy(other.workDone, 0, workDone, 0, POLICY_LIMIT);
            System.arraycopy(other.amounts, 0, amounts, 0, POLICY_LIMIT);
            System.arraycopy(other.grants, 0, grants, 0, POLICY_LIMIT);
            grantedCount = other.grantedCount;
            paidCount = other.paidCount;
            premiumSum = other.premiumSum;
            paidSum = other.paidSum;
            depositSum = other.depositSum;
        }

        void begin(Setup setup) {
            clock = 0;
            reserve = setup.reserve;
            System.arraycopy(setup.balances, 0, balances, 0, HOLDER_LIMIT);
            policyCount = 0;
            claimCount = 0;
            grantedCount = 0;
            paidCount = 0;
            premiumSum = 0;
            paidSum = 0;
            depositSum = 0;
        }

        int takeDeposit(int holder, int amount) {
            balances[holder] += amount;
            depositSum += amount;
            return balances[holder];
        }

        void takePremium(int holder, int premium) {
            balances[holder] -= premium;
            reserve += premium;
            premiumSum += premium;
        }

        void payAmount(int holder, int amount) {
            reserve -= amount;
            balances[holder] += amount;
            paidSum += amount;
        }

        int addPolicy() {
            lapsed[policyCount] = false;
            policyCount++;
            return policyCount - 1;
        }

        int addClaim() {
            states[claimCount] = UNDECIDED;
            workDone[claimCount] = 0;
            amounts[claimCount] = 0;
            claimCount++;
            return claimCount - 1;
        }

        void decide(int claim, int amount) {
            amounts[claim] = amount;
            if (amount == 0) {
                states[claim] = DENIED;
                return;
            }
            states[claim] = GRANTED;
            grants[grantedCount] = claim;
            grantedCount++;
        }
    }

    /** The ledgers from before the latest changes, in a ring. */
    private static final class History {
        private final Ledger[] kept = new Ledger[CHANGE_LIMIT];
        private int oldest;
        private int count;

        History() {
            for (int i = 0; i < CHANGE_LIMIT; i++) {
                kept[i] = new Ledger();
            }
        }

        void forgetAll() {
            count = 0;
        }

        boolean isEmpty() {
            return count == 0;
        }

        void keep(Ledger ledger) {
            kept[(oldest + count) % CHANGE_LIMIT].copyFrom(ledger);
            if (count < CHANGE_LIMIT) {
                count++;
            } else {
                oldest = (oldest + 1) % CHANGE_LIMIT;
            }
        }

        int goBack(Ledger ledger) {
            count--;
            ledger.copyFrom(kept[(oldest + count) % CHANGE_LIMIT]);
            return count;
        }
    }

    /** The rules of the insurance. Its callers have looked at the numbers that they hand over. */
    private static final class Office {
        final Setup setup = new Setup();
        final Book book = new Book();
        final Ledger ledger = new Ledger();
        private final Ledger trial = new Ledger();

        void openWith(Setup draft) {
            setup.copyFrom(draft);
            ledger.begin(setup);
        }

        boolean canPass(int hours) {
            return ledger.clock + hours <= CLOCK_LIMIT;
        }

        boolean canSell(int holder, int premium) {
            return ledger.policyCount < POLICY_LIMIT && ledger.balances[holder] >= premium;
        }

        int sellKite(int holder, int first, int hours, int cover, int minWind, int maxWind) {
            int policy = ledger.addPolicy();
            book.kites[policy] = true;
            book.leastWinds[policy] = minWind;
            book.greatestWinds[policy] = maxWind;
            return sell(policy, holder, first, hours, cover);
        }

        int sellPicnic(int holder, int first, int hours, int cover, int rainLimit) {
            int policy = ledger.addPolicy();
            book.kites[policy] = false;
            book.rainLimits[policy] = rainLimit;
            return sell(policy, holder, first, hours, cover);
        }

        private int sell(int policy, int holder, int first, int hours, int cover) {
            book.holders[policy] = holder;
            book.firsts[policy] = first;
            book.hours[policy] = hours;
            book.covers[policy] = cover;
            ledger.takePremium(holder, book.premiumOf(policy));
            return policy;
        }

        boolean isRunning(Ledger page, int policy) {
            return !page.lapsed[policy] && page.clock < book.expiryOf(policy);
        }

        int obstacleFor(int policy) {
            int expiry = book.expiryOf(policy);
            if (ledger.lapsed[policy]) {
                return LAPSED;
            }
            if (ledger.clock < expiry) {
                return NOT_OVER;
            }
            if (ledger.clock > expiry + CLAIM_HOURS) {
                return TOO_LATE;
            }
            return obstacleByClaims(policy);
        }

        private int obstacleByClaims(int policy) {
            int obstacle = MAY_CLAIM;
            for (int claim = 0; claim < ledger.claimCount; claim++) {
                int other = book.claimPolicies[claim];
                if (other == policy) {
                    return ALREADY_CLAIMED;
                }
                if (areAlike(other, policy)) {
                    obstacle = DUPLICATE;
                }
            }
            return obstacle;
        }

        boolean areAlike(int policy, int other) {
            return book.holders[policy] == book.holders[other]
                && book.kites[policy] == book.kites[other]
                && book.firsts[policy] == book.firsts[other];
        }

        int openClaim(int policy) {
            int assessor = leastBusyAssessor();
            int claim = ledger.addClaim();
            book.claimPolicies[claim] = policy;
            book.claimAssessors[claim] = assessor;
            return claim;
        }

        int leastBusyAssessor() {
            int least = 0;
            for (int assessor = 1; assessor < setup.assessorCount; assessor++) {
                if (undecidedOf(assessor) < undecidedOf(least)) {
                    least = assessor;
                }
            }
            return least;
        }

        int undecidedOf(int assessor) {
            int count = 0;
            for (int claim = 0; claim < ledger.claimCount; claim++) {
                if (isUndecidedAt(claim, assessor)) {
                    count++;
                }
            }
            return count;
        }

        private boolean isUndecidedAt(int claim, int assessor) {
            return ledger.states[claim] == UNDECIDED && book.claimAssessors[claim] == assessor;
        }

        int paidTo(int holder) {
            int sum = 0;
            for (int i = 0; i < ledger.paidCount; i++) {
                int claim = ledger.grants[i];
                if (holderOfClaim(claim) == holder) {
                    sum += ledger.amounts[claim];
                }
            }
            return sum;
        }

        private int holderOfClaim(int claim) {
            return book.holders[book.claimPolicies[claim]];
        }

        /** Lets an hour pass and returns the number of claims that were decided. */
        int letHourPass(int wind, int rain) {
            collectPremiums(ledger);
            book.winds[ledger.clock] = wind;
            book.rains[ledger.clock] = rain;
            ledger.clock++;
            int decided = 0;
            for (int assessor = 0; assessor < setup.assessorCount; assessor++) {
                int claim = firstUndecidedOf(assessor);
                if (claim != NONE && assess(claim, setup.strictnesses[assessor])) {
                    decided++;
                }
            }
            payGrants();
            return decided;
        }

        private void collectPremiums(Ledger page) {
            if (page.clock == 0 || page.clock % HOURS_A_DAY != 0) {
                return;
            }
            for (int policy = 0; policy < page.policyCount; policy++) {
                if (isRunning(page, policy)) {
                    collectPremium(page, policy);
                }
            }
        }

        private void collectPremium(Ledger page, int policy) {
            int holder = book.holders[policy];
            int premium = book.premiumOf(policy);
            if (page.balances[holder] >= premium) {
                page.takePremium(holder, premium);
            } else {
                page.lapsed[policy] = true;
            }
        }

        private int firstUndecidedOf(int assessor) {
            for (int claim = 0; claim < ledger.claimCount; claim++) {
                if (isUndecidedAt(claim, assessor)) {
                    return claim;
                }
            }
            return NONE;
        }

        /** Works for an hour on a claim; returns whether it was the last hour. */
        private boolean assess(int claim, int strictness) {
            ledger.workDone[claim]++;
            if (ledger.workDone[claim] < workFor(strictness)) {
                return false;
            }
            int damage = book.damageUntil(book.claimPolicies[claim], ledger.clock);
            ledger.decide(claim, damage - damage * 5 * strictness / 100);
            return true;
        }

        private static int workFor(int strictness) {
            return 2 + strictness;
        }

        private void payGrants() {
            for (int i = ledger.paidCount; i < ledger.grantedCount; i++) {
                int claim = ledger.grants[i];
                if (ledger.reserve < ledger.amounts[claim]) {
                    return;
                }
                ledger.payAmount(holderOfClaim(claim), ledger.amounts[claim]);
                ledger.states[claim] = PAID;
                ledger.paidCount++;
            }
        }

        int workUntilDecision(int claim) {
            if (ledger.states[claim] != UNDECIDED) {
                return 0;
            }
            int assessor = book.claimAssessors[claim];
            int work = workFor(setup.strictnesses[assessor]);
            int hours = 0;
            for (int earlier = 0; earlier <= claim; earlier++) {
                if (isUndecidedAt(earlier, assessor)) {
                    hours += work - ledger.workDone[earlier];
                }
            }
            return hours;
        }

        // Other holders' premiums are collected in the trial too: they do not touch this holder's balance.
        int forecastLapse(int policy) {
            if (ledger.lapsed[policy]) {
                return 0;
            }
            trial.copyFrom(ledger);
            int expiry = book.expiryOf(policy);
            for (int hour = ledger.clock; hour < expiry; hour++) {
                trial.clock = hour;
                collectPremiums(trial);
                if (trial.lapsed[policy]) {
                    return hour + 1 - ledger.clock;
                }
            }
            return NONE;
        }
    }

    /** Reads the tokens of a text one by one and keeps the error that stopped it. */
    private static final class TextReader {
        private static final int AT_END = 0;
        private static final int WORD = 1;
        private static final int NUMBER = 2;
        private static final int SEMICOLON = 3;
        private static final int BAD = 4;
        private static final int WORD_LIMIT = 8;
        private static final int DIGIT_LIMIT = 4;

        private byte[] bytes = new byte[0];
        private int length;
        private int kind;
        private int start;
        private int position;
        int number;
        int errorCode = NO_ERROR;
        int errorOffset = NONE;

        void open(byte[] newBytes, int newLength) {
            bytes = newBytes;
            length = Math.min(newLength, newBytes.length);
            position = 0;
            errorCode = NO_ERROR;
            errorOffset = NONE;
        }

        /** Goes on to the next token. */
        void next() {
            start = position;
            while (start < length && (bytes[start] == ' ' || bytes[start] == '\n')) {
                start++;
            }
            position = start;
            if (start >= length) {
                kind = AT_END;
            } else if (bytes[start] >= 'a' && bytes[start] <= 'z') {
                position = endOfRun('a', 'z');
                kind = tokenLength() <= WORD_LIMIT ? WORD : BAD;
            } else if (bytes[start] >= '0' && bytes[start] <= '9') {
                position = endOfRun('0', '9');
                kind = tokenLength() <= DIGIT_LIMIT ? NUMBER : BAD;
            } else {
                position = start + 1;
                kind = bytes[start] == ';' ? SEMICOLON : BAD;
            }
        }

        private int endOfRun(int least, int most) {
            int end = start;
            while (end < length && bytes[end] >= least && bytes[end] <= most) {
                end++;
            }
            return end;
        }

        /** Reports an error of the current token; returns false, as each reading that fails does. */
        boolean fail(int code) {
            errorCode = code;
            errorOffset = start;
            return false;
        }

        boolean isAtEnd() {
            return kind == AT_END;
        }

        int tokenLength() {
            return position - start;
        }

        byte tokenByte(int index) {
            return index >= 0 && index < position - start ? bytes[start + index] : 0;
        }

        boolean isWord(String word) {
            if (kind != WORD || tokenLength() != word.length()) {
                return false;
            }
            for (int index = 0; index < word.length(); index++) {
                if (bytes[start + index] != word.charAt(index)) {
                    return false;
                }
            }
            return true;
        }

        boolean readName() {
            next();
            return kind == WORD && tokenLength() <= NAME_LIMIT || fail(SYNTAX);
        }

        boolean readSemicolon() {
            next();
            return kind == SEMICOLON || fail(SYNTAX);
        }

        boolean readNumber(int least, int most) {
            next();
            if (kind != NUMBER) {
                return fail(SYNTAX);
            }
            number = 0;
            for (int i = start; i < position; i++) {
                number = 10 * number + bytes[i] - '0';
            }
            return number >= least && number <= most || fail(OUT_OF_RANGE);
        }
    }

    /** The statements of a script, each as a row: its kind and then its numbers in the order of the text. */
    private static final class Script {
        private static final int HOURS = 0;
        private static final int KITE = 1;
        private static final int PICNIC = 2;
        private static final int CLAIM = 3;
        private static final int DEPOSIT = 4;
        private static final int ROW_LENGTH = 7;

        private final int[][] rows = new int[STATEMENT_LIMIT][ROW_LENGTH];
        int count;

        boolean readFrom(TextReader text, Setup setup) {
            count = 0;
            text.next();
            // The round beyond the limit is there to report the statement that is too many.
            for (int round = 0; round <= STATEMENT_LIMIT && !text.isAtEnd(); round++) {
                if (!readStatement(text, setup)) {
                    return false;
                }
                text.next();
            }
            return true;
        }

        private boolean readStatement(TextReader text, Setup setup) {
            int kind = kindIn(text);
            if (kind == NONE) {
                return text.fail(SYNTAX);
            }
            if (count == STATEMENT_LIMIT) {
                return text.fail(TOO_MANY);
            }
            int[] row = rows[count];
            row[0] = kind;
            if (!readNumbers(text, setup, row)) {
                return false;
            }
            count++;
            return text.readSemicolon();
        }

        private static int kindIn(TextReader text) {
            if (text.isWord("hours")) {
                return HOURS;
            }
            if (text.isWord("kite")) {
                return KITE;
            }
            if (text.isWord("picnic")) {
                return PICNIC;
            }
            if (text.isWord("claim")) {
                return CLAIM;
            }
            return text.isWord("deposit") ? DEPOSIT : NONE;
        }

        private static boolean readNumbers(TextReader text, Setup setup, int[] row) {
            switch (row[0]) {
                case HOURS:
                    return readNumber(text, row, 1, 1, MAX_COUNT)
                        && readNumber(text, row, 2, 0, MAX_WIND)
                        && readNumber(text, row, 3, 0, MAX_RAIN);
                case KITE:
                    return readHolder(text, setup, row)
                        && readNumber(text, row, 2, 0, CLOCK_LIMIT)
                        && readNumber(text, row, 3, 1, MAX_HOURS)
                        && readNumber(text, row, 4, 1, MAX_COVER)
                        && readNumber(text, row, 5, 0, MAX_WIND)
                        && readNumber(text, row, 6, row[5], MAX_WIND);
                case PICNIC:
                    return readHolder(text, setup, row)
                        && readNumber(text, row, 2, 0, CLOCK_LIMIT)
                        && readNumber(text, row, 3, 1, MAX_HOURS)
                        && readNumber(text, row, 4, 1, MAX_COVER)
                        && readNumber(text, row, 5, 0, MAX_RAIN);
                case CLAIM:
                    return readNumber(text, row, 1, 0, POLICY_LIMIT - 1);
                default:
                    return readHolder(text, setup, row)
                        && readNumber(text, row, 2, 1, MAX_DEPOSIT);
            }
        }

        private static boolean readNumber(TextReader text, int[] row, int index, int least, int most) {
            if (!text.readNumber(least, most)) {
                return false;
            }
            row[index] = text.number;
            return true;
        }

        private static boolean readHolder(TextReader text, Setup setup, int[] row) {
            if (!text.readName()) {
                return false;
            }
            row[1] = setup.holderNamedIn(text);
            return row[1] != NONE || text.fail(BAD_NAME);
        }

        /** Executes a statement, or changes nothing and returns false where its method would throw. */
        boolean runStatement(int index, Office office) {
            int[] row = rows[index];
            switch (row[0]) {
                case HOURS:
                    return runHours(office, row);
                case KITE:
                    return runKite(office, row);
                case PICNIC:
                    return runPicnic(office, row);
                case CLAIM:
                    return runClaim(office, row[1]);
                default:
                    office.ledger.takeDeposit(row[1], row[2]);
                    return true;
            }
        }

        private static boolean runHours(Office office, int[] row) {
            if (!office.canPass(row[1])) {
                return false;
            }
            for (int i = 0; i < row[1]; i++) {
                office.letHourPass(row[2], row[3]);
            }
            return true;
        }

        private static boolean runKite(Office office, int[] row) {
            if (row[2] < office.ledger.clock || !office.canSell(row[1], premiumForKite(row[3], row[4]))) {
                return false;
            }
            office.sellKite(row[1], row[2], row[3], row[4], row[5], row[6]);
            return true;
        }

        private static boolean runPicnic(Office office, int[] row) {
            if (row[2] < office.ledger.clock || !office.canSell(row[1], premiumForPicnic(row[3], row[4], row[5]))) {
                return false;
            }
            office.sellPicnic(row[1], row[2], row[3], row[4], row[5]);
            return true;
        }

        private static boolean runClaim(Office office, int policy) {
            if (policy >= office.ledger.policyCount || office.obstacleFor(policy) != MAY_CLAIM) {
                return false;
            }
            office.openClaim(policy);
            return true;
        }
    }

    /** Checks what must always hold. */
    private static final class Audit {
        private final int[] sorted = new int[MAX_HOURS];
        private int sortedCount;

        boolean passes(Office office) {
            return moneyAddsUp(office.setup, office.ledger)
                && claimsAreSound(office.ledger)
                && claimsAreDistinct(office)
                && damagesAgree(office.book, office.ledger)
                && paymentsAddUp(office);
        }

        private static boolean moneyAddsUp(Setup setup, Ledger ledger) {
            int sum = ledger.reserve;
            for (int holder = 0; holder < setup.holderCount; holder++) {
                sum += ledger.balances[holder];
            }
            return sum == setup.money() + ledger.depositSum;
        }

        private static boolean claimsAreSound(Ledger ledger) {
            int granted = 0;
            int paid = 0;
            for (int claim = 0; claim < ledger.claimCount; claim++) {
                int state = ledger.states[claim];
                boolean isGranted = state == GRANTED || state == PAID;
                if (!isGranted && state != UNDECIDED && state != DENIED) {
                    return false;
                }
                if (isGranted != (ledger.amounts[claim] > 0)) {
                    return false;
                }
                granted += isGranted ? 1 : 0;
                paid += state == PAID ? 1 : 0;
            }
            return granted == ledger.grantedCount && paid == ledger.paidCount;
        }

        private static boolean claimsAreDistinct(Office office) {
            for (int claim = 1; claim < office.ledger.claimCount; claim++) {
                for (int earlier = 0; earlier < claim; earlier++) {
                    // A policy is like itself, so this finds two claims for one policy as well.
                    if (office.areAlike(office.book.claimPolicies[earlier], office.book.claimPolicies[claim])) {
                        return false;
                    }
                }
            }
            return true;
        }

        private static boolean paymentsAddUp(Office office) {
            int sum = 0;
            for (int holder = 0; holder < office.setup.holderCount; holder++) {
                sum += office.paidTo(holder);
            }
            return sum == office.ledger.paidSum;
        }

        private boolean damagesAgree(Book book, Ledger ledger) {
            for (int policy = 0; policy < ledger.policyCount; policy++) {
                if (damageBySorting(book, policy, ledger.clock) != book.damageUntil(policy, ledger.clock)) {
                    return false;
                }
            }
            return true;
        }

        private int damageBySorting(Book book, int policy, int clock) {
            sortedCount = 0;
            int end = Math.min(clock, book.expiryOf(policy));
            for (int hour = book.firsts[policy]; hour < end && sortedCount < MAX_HOURS; hour++) {
                insert(book.kites[policy] ? book.winds[hour] : book.rains[hour]);
            }
            if (!book.kites[policy]) {
                return book.damageOfRain(policy, sumOfSorted());
            }
            int tooLittle = countBelow(book.leastWinds[policy]);
            int tooMuch = sortedCount - countBelow(book.greatestWinds[policy] + 1);
            return book.damageOfHours(policy, tooLittle + tooMuch);
        }

        private void insert(int value) {
            int place = sortedCount;
            while (place > 0 && sorted[place - 1] > value) {
                sorted[place] = sorted[place - 1];
                place--;
            }
            sorted[place] = value;
            sortedCount++;
        }

        private int countBelow(int bound) {
            int count = 0;
            while (count < sortedCount && sorted[count] < bound) {
                count++;
            }
            return count;
        }

        private int sumOfSorted() {
            int sum = 0;
            for (int i = 0; i < sortedCount; i++) {
                sum += sorted[i];
            }
            return sum;
        }
    }
}
