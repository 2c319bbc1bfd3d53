import java.util.NoSuchElementException;

/** Families that grow like oaks; ../shared/DOC.md tells what each call promises. */
public final class FamilyOaks {
    private static final int PERSONS = 24;
    private static final int QUARRELS = 20;
    private static final int INPUT = 60;
    private static final int UNDOS = 8;
    private static final int MOST_COINS = 999;
    private static final int NEAREST_ALLOWED = 5;
    private static final int NONE = -1;

    // What an order answers that is not carried out. All lie below NONE, which is an answer too.
    private static final int NO_PERSON = -2;
    private static final int BAD_COINS = -3;
    private static final int REFUSED = -4;

    private static final int FULL = 1;
    private static final int DEAD = 2;
    private static final int NO_ROOT = 3;
    private static final int ONE_OAK = 4;
    private static final int ROOT_ALREADY = 5;
    private static final int MARRIED = 6;
    private static final int TOO_NEAR = 7;
    private static final int NOT_MARRIED = 8;
    private static final int ONE_HOUSE = 9;
    private static final int QUARREL_ALREADY = 10;

    // The kinds of orders are the places of their letters and signs.
    private static final int FOUND = 0;
    private static final int BORN = 1;
    private static final int GRAFT = 2;
    private static final int CUT = 3;
    private static final int MARRY = 4;
    private static final int PART = 5;
    private static final int QUARREL = 6;
    private static final int GIVE = 7;
    private static final int DIE = 8;
    private static final char NO_SIGN = ' ';
    private static final char[] LETTERS = {'f', 'b', 'g', 'c', 'm', 'p', 'q', 'e', 'd'};
    private static final char[] SIGNS = {' ', ' ', '<', ' ', '+', ' ', '-', '=', ' '};

    private final Families now = new Families();
    private final Families before = new Families();
    private final Families saved = new Families();
    private boolean isSaved = false;
    private final Families[] past = new Families[UNDOS];
    private int pasts = 0;
    private final Elders elders = new Elders();
    private final Houses homes = new Houses();
    private final Input input = new Input();
    private final StringBuilder written = new StringBuilder();
    private int errorAt = NONE;
    private int reason = 0;
    private int detail = 0;

    public FamilyOaks() {
        for (int i = 0; i < UNDOS; i++) {
            past[i] = new Families();
        }
    }

    // Persons and oaks.

    public int found() throws UnsupportedOperationException {
        begin();
        return end(attempt(FOUND, NONE, NONE));
    }

    public int born(int parent) throws IndexOutOfBoundsException, UnsupportedOperationException {
        begin();
        return end(attempt(BORN, parent, NONE));
    }

    public int graft(int root, int person) throws IndexOutOfBoundsException, UnsupportedOperationException {
        begin();
        return end(attempt(GRAFT, root, person));
    }

    public int cut(int person) throws IndexOutOfBoundsException, UnsupportedOperationException {
        begin();
        return end(attempt(CUT, person, NONE));
    }

    public int personOf(int person, int what) throws IndexOutOfBoundsException, IllegalArgumentException {
        needPerson(person);
        switch (what) {
            case 0: return now.parentOf(person);
            case 1: return now.depthOf(person);
            case 2: return now.childrenOf(person);
            case 3: return now.descendantsOf(person);
            case 4: return now.spouseOf(person);
            case 5: return now.coinsOf(person);
            case 6: return now.lives(person) ? 1 : 0;
            case 7: return now.rootOf(person);
            case 8: return homes.houseOf(person);
            case 9: return now.quarrelsOf(person);
            default: throw new IllegalArgumentException("what is not from 0 to 9");
        }
    }

    // Elders.

    public int elder(int person, int elder, boolean isAgain)
            throws IndexOutOfBoundsException, NoSuchElementException {
        needPerson(person);
        needElder(person, elder);
        return isAgain ? now.stepUp(person, elder) : elders.leapUp(person, elder);
    }

    public int common(int person, int other, boolean isAgain)
            throws IndexOutOfBoundsException, NoSuchElementException {
        needPerson(person);
        needPerson(other);
        needOneOak(person, other);
        return isAgain ? now.commonByNotes(person, other) : elders.commonByLeaps(person, other);
    }

    public int degree(int person, int other) throws IndexOutOfBoundsException, NoSuchElementException {
        needPerson(person);
        needPerson(other);
        needOneOak(person, other);
        return degreeBetween(person, other);
    }

    public int leaps(int person, int elder) throws IndexOutOfBoundsException, NoSuchElementException {
        needPerson(person);
        needElder(person, elder);
        return elders.leapsFor(elder);
    }

    public int farthest(int person) throws IndexOutOfBoundsException {
        needPerson(person);
        int best = person;
        int most = 0;
        for (int other = 0; other < now.persons; other++) {
            if (isOneOak(person, other) && degreeBetween(person, other) > most) {
                most = degreeBetween(person, other);
                best = other;
            }
        }
        return best;
    }

    public int descendant(int person, int place) throws IndexOutOfBoundsException, NoSuchElementException {
        needPerson(person);
        if (place < 0 || place >= now.descendantsOf(person)) {
            throw new NoSuchElementException("there is no such place");
        }
        int at = person;
        for (int i = 0; i <= place && i < PERSONS; i++) {
            at = now.nextBelow(person, at);
        }
        return at;
    }

    // Marriages and quarrels.

    public int marry(int person, int other) throws IndexOutOfBoundsException, UnsupportedOperationException {
        begin();
        return end(attempt(MARRY, person, other));
    }

    public int part(int person) throws IndexOutOfBoundsException, UnsupportedOperationException {
        begin();
        return end(attempt(PART, person, NONE));
    }

    public int quarrel(int person, int other) throws IndexOutOfBoundsException, UnsupportedOperationException {
        begin();
        return end(attempt(QUARREL, person, other));
    }

    public int quarrelAt(int place, boolean isOther) throws NoSuchElementException {
        if (place < 0 || place >= now.quarrels) {
            throw new NoSuchElementException("there is no such place");
        }
        return isOther ? now.rivalAt(place) : now.quarrelerAt(place);
    }

    public int wouldEnd(int person, int other) throws IndexOutOfBoundsException, IllegalStateException {
        needPerson(person);
        needPerson(other);
        if (whyNotMarry(person, other) != 0) {
            throw new IllegalStateException("they cannot be married");
        }
        return quarrelsBetween(homes.houseOf(person), homes.houseOf(other));
    }

    public int houses() {
        return homes.count(now);
    }

    public int housesAgain() {
        return homes.countAgain(now);
    }

    // Coins.

    public int give(int person, int coins)
            throws IndexOutOfBoundsException, IllegalArgumentException, UnsupportedOperationException {
        begin();
        return end(attempt(GIVE, person, coins));
    }

    public int die(int person) throws IndexOutOfBoundsException, UnsupportedOperationException {
        begin();
        return end(attempt(DIE, person, NONE));
    }

    public int heir(int person) throws IndexOutOfBoundsException, IllegalStateException {
        needPerson(person);
        if (!now.lives(person)) {
            throw new IllegalStateException("the person is dead");
        }
        return now.heirOf(person);
    }

    public int ranked(int place) throws NoSuchElementException {
        for (int person = 0; person < now.persons; person++) {
            if (now.richerThan(person) == place) {
                return person;
            }
        }
        throw new NoSuchElementException("there is no such place");
    }

    // Lines, texts, accounts, undo and snapshot.

    public int line(int person) throws IndexOutOfBoundsException {
        needPerson(person);
        written.setLength(0);
        writePart('#', person);
        if (now.parentOf(person) != NONE) {
            writePart('<', now.parentOf(person));
        }
        if (now.spouseOf(person) != NONE) {
            writePart('+', now.spouseOf(person));
        }
        if (now.coinsOf(person) != 0) {
            writePart('=', now.coinsOf(person));
        }
        if (!now.lives(person)) {
            written.append('x');
        }
        return written.length();
    }

    public char character(int index) throws IndexOutOfBoundsException {
        if (index < 0 || index >= written.length()) {
            throw new IndexOutOfBoundsException("there is no such index");
        }
        return written.charAt(index);
    }

    public int append(char c) throws IllegalStateException {
        if (input.length >= INPUT) {
            throw new IllegalStateException("the input is full");
        }
        input.add(c);
        return input.length;
    }

    public int run() throws IllegalArgumentException, UnsupportedOperationException {
        errorAt = input.takeOrders();
        if (errorAt != NONE) {
            throw new IllegalArgumentException("the text has an error");
        }
        begin();
        int answer = 0;
        for (int i = 0; i < input.orders && answer >= NONE; i++) {
            answer = attempt(input.kindAt(i), input.firstAt(i), input.secondAt(i));
        }
        if (answer < NONE) {
            goBackTo(before);
        }
        if (answer == REFUSED) {
            throw new UnsupportedOperationException("an order is refused");
        }
        if (answer < NONE) {
            throw new IllegalArgumentException("an order has a number out of range");
        }
        keepBefore();
        return input.orders;
    }

    public int errorPosition() {
        return errorAt;
    }

    public int refusal(boolean isDetail) throws NoSuchElementException {
        if (reason == 0) {
            throw new NoSuchElementException("nothing was refused");
        }
        return isDetail ? detail : reason;
    }

    public int account(int what) throws IllegalArgumentException {
        switch (what) {
            case 0: return now.persons;
            case 1: return now.livingPersons();
            case 2: return now.oaks();
            case 3: return now.marriages();
            case 4: return now.quarrels;
            case 5: return now.ended;
            case 6: return now.greatestDepth();
            case 7: return now.allCoins();
            case 8: return now.given;
            case 9: return now.lost;
            case 10: return input.length;
            case 11: return pasts;
            default: throw new IllegalArgumentException("what is not from 0 to 11");
        }
    }

    public boolean isWell() {
        return homes.count(now) == homes.countAgain(now)
            && areEldersSame()
            && areCommonsSame()
            && isPeaceAtHome()
            && now.given == now.allCoins() + now.lost;
    }

    public double meanDepth() throws ArithmeticException {
        if (now.persons == 0) {
            throw new ArithmeticException("there are no persons");
        }
        return (double) now.sumOfDepths() / (double) now.persons;
    }

    public float livingShare() throws ArithmeticException {
        if (now.persons == 0) {
            throw new ArithmeticException("there are no persons");
        }
        return (float) now.livingPersons() / (float) now.persons;
    }

    public int undo() throws IllegalStateException {
        Families latest = pastAt(pasts - 1);
        if (latest == null) {
            throw new IllegalStateException("no change can be undone");
        }
        goBackTo(latest);
        pasts--;
        return pasts;
    }

    public int save() {
        saved.copyFrom(now);
        isSaved = true;
        return saved.persons;
    }

    public int restore() throws IllegalStateException {
        if (!isSaved) {
            throw new IllegalStateException("there is no snapshot");
        }
        goBackTo(saved);
        pasts = 0;
        return now.persons;
    }

    // What calls ask for before they answer.

    private void needPerson(int person) {
        if (!now.has(person)) {
            throw new IndexOutOfBoundsException("there is no such person");
        }
    }

    private void needElder(int person, int elder) {
        if (elder < 0 || elder > now.depthOf(person)) {
            throw new NoSuchElementException("there is no such elder");
        }
    }

    private void needOneOak(int person, int other) {
        if (!isOneOak(person, other)) {
            throw new NoSuchElementException("they are of different oaks");
        }
    }

    // Changes and what undoes them.

    private void begin() {
        before.copyFrom(now);
    }

    private int end(int answer) {
        if (answer == NO_PERSON) {
            throw new IndexOutOfBoundsException("there is no such person");
        }
        if (answer == BAD_COINS) {
            throw new IllegalArgumentException("coins are from 1 to 999");
        }
        if (answer == REFUSED) {
            throw new UnsupportedOperationException("it is refused");
        }
        keepBefore();
        return answer;
    }

    private void keepBefore() {
        if (pasts >= UNDOS) {
            forgetOldest();
        }
        Families kept = pastAt(pasts);
        if (kept != null) {
            kept.copyFrom(before);
            pasts++;
        }
    }

    private Families pastAt(int place) {
        return place >= 0 && place < UNDOS ? past[place] : null;
    }

    /** The oldest row goes to the end to be written again, so that no new one is made. */
    private void forgetOldest() {
        Families oldest = past[0];
        for (int i = 1; i < UNDOS; i++) {
            past[i - 1] = past[i];
        }
        past[UNDOS - 1] = oldest;
        pasts = UNDOS - 1;
    }

    private void goBackTo(Families families) {
        now.copyFrom(families);
        renew();
    }

    /** Leaps and houses are told from notes, which are stale after each change of a bond. */
    private void renew() {
        elders.renew(now);
        homes.renew(now);
    }

    // Orders: each answers what its method returns, or why it is not carried out, and then changes nothing.

    private int attempt(int kind, int first, int second) {
        if (kind == FOUND) {
            return tryFound();
        }
        boolean isOfTwo = kind == GRAFT || kind == MARRY || kind == QUARREL;
        if (!now.has(first) || isOfTwo && !now.has(second)) {
            return NO_PERSON;
        }
        switch (kind) {
            case BORN: return tryBorn(first);
            case GRAFT: return tryGraft(first, second);
            case CUT: return tryCut(first);
            case MARRY: return tryMarry(first, second);
            case PART: return tryPart(first);
            case QUARREL: return tryQuarrel(first, second);
            case GIVE: return tryGive(first, second);
            default: return tryDie(first);
        }
    }

    private int refuse(int why, int what) {
        reason = why;
        detail = what;
        return REFUSED;
    }

    private int tryFound() {
        if (now.persons >= PERSONS) {
            return refuse(FULL, PERSONS);
        }
        now.add(NONE);
        renew();
        return now.persons - 1;
    }

    private int tryBorn(int parent) {
        if (!now.lives(parent)) {
            return refuse(DEAD, parent);
        }
        if (now.persons >= PERSONS) {
            return refuse(FULL, PERSONS);
        }
        now.add(parent);
        renew();
        return now.persons - 1;
    }

    private int tryGraft(int root, int person) {
        if (now.parentOf(root) != NONE) {
            return refuse(NO_ROOT, now.parentOf(root));
        }
        if (isOneOak(root, person)) {
            return refuse(ONE_OAK, root);
        }
        now.setParent(root, person);
        renew();
        endQuarrelsAtHome();
        return now.oaks();
    }

    private int tryCut(int person) {
        if (now.parentOf(person) == NONE) {
            return refuse(ROOT_ALREADY, person);
        }
        now.setParent(person, NONE);
        renew();
        return now.oaks();
    }

    private int tryMarry(int person, int other) {
        int why = whyNotMarry(person, other);
        if (why == DEAD) {
            return refuse(DEAD, firstDead(person, other));
        }
        if (why == MARRIED) {
            return refuse(MARRIED, firstSpouse(person, other));
        }
        if (why == TOO_NEAR) {
            return refuse(TOO_NEAR, degreeBetween(person, other));
        }
        now.setSpouse(person, other);
        now.setSpouse(other, person);
        renew();
        return endQuarrelsAtHome();
    }

    private int tryPart(int person) {
        int other = now.spouseOf(person);
        if (other == NONE) {
            return refuse(NOT_MARRIED, person);
        }
        now.endMarriage(person);
        renew();
        return other;
    }

    private int tryQuarrel(int person, int other) {
        if (!now.lives(person) || !now.lives(other)) {
            return refuse(DEAD, firstDead(person, other));
        }
        if (homes.isOneHouse(person, other)) {
            return refuse(ONE_HOUSE, homes.houseOf(person));
        }
        if (now.doQuarrel(person, other)) {
            return refuse(QUARREL_ALREADY, now.quarrels);
        }
        if (now.quarrels >= QUARRELS) {
            return refuse(FULL, QUARRELS);
        }
        now.addQuarrel(person, other);
        return now.quarrels;
    }

    private int tryGive(int person, int coins) {
        if (coins < 1 || coins > MOST_COINS) {
            return BAD_COINS;
        }
        if (!now.lives(person)) {
            return refuse(DEAD, person);
        }
        now.addCoins(person, coins);
        now.given += coins;
        return now.coinsOf(person);
    }

    private int tryDie(int person) {
        if (!now.lives(person)) {
            return refuse(DEAD, person);
        }
        int heir = now.heirOf(person);
        now.passCoins(person, heir);
        now.endMarriage(person);
        now.setDead(person);
        renew();
        return heir;
    }

    // Bonds between two persons.

    private boolean isOneOak(int person, int other) {
        return now.rootOf(person) == now.rootOf(other);
    }

    private int degreeBetween(int person, int other) {
        int common = elders.commonByLeaps(person, other);
        return now.depthOf(person) + now.depthOf(other) - 2 * now.depthOf(common);
    }

    /** Answers the reason, or 0: wouldEnd asks too, but its no is not kept as a refusal. */
    private int whyNotMarry(int person, int other) {
        if (!now.lives(person) || !now.lives(other)) {
            return DEAD;
        }
        if (now.spouseOf(person) != NONE || now.spouseOf(other) != NONE) {
            return MARRIED;
        }
        boolean isNear = isOneOak(person, other) && degreeBetween(person, other) < NEAREST_ALLOWED;
        return isNear ? TOO_NEAR : 0;
    }

    private int firstDead(int person, int other) {
        return now.lives(person) ? other : person;
    }

    private int firstSpouse(int person, int other) {
        return now.spouseOf(person) != NONE ? now.spouseOf(person) : now.spouseOf(other);
    }

    private int quarrelsBetween(int house, int otherHouse) {
        int count = 0;
        for (int i = 0; i < now.quarrels; i++) {
            int one = homes.houseOf(now.quarrelerAt(i));
            int other = homes.houseOf(now.rivalAt(i));
            if (one == house && other == otherHouse || one == otherHouse && other == house) {
                count++;
            }
        }
        return count;
    }

    private int endQuarrelsAtHome() {
        int ended = 0;
        for (int i = now.quarrels - 1; i >= 0; i--) {
            if (homes.isOneHouse(now.quarrelerAt(i), now.rivalAt(i))) {
                now.removeQuarrel(i);
                ended++;
            }
        }
        now.ended += ended;
        return ended;
    }

    private void writePart(char sign, int number) {
        written.append(sign);
        written.append(number);
    }

    // What isWell looks at.

    private boolean areEldersSame() {
        for (int person = 0; person < now.persons; person++) {
            int depth = now.depthOf(person);
            for (int elder = 0; elder <= depth; elder++) {
                if (elders.leapUp(person, elder) != now.stepUp(person, elder)) {
                    return false;
                }
            }
        }
        return true;
    }

    private boolean areCommonsSame() {
        for (int person = 0; person < now.persons; person++) {
            for (int other = 0; other < now.persons; other++) {
                if (isOneOak(person, other)
                    && elders.commonByLeaps(person, other) != now.commonByNotes(person, other)) {
                    return false;
                }
            }
        }
        return true;
    }

    private boolean isPeaceAtHome() {
        for (int i = 0; i < now.quarrels; i++) {
            if (homes.isOneHouse(now.quarrelerAt(i), now.rivalAt(i))) {
                return false;
            }
        }
        return true;
    }

    /** All that changes can change, and nothing else, so that a copy of it is a snapshot. */
    private static final class Families {
        private final int[] parents = new int[PERSONS];
        private final int[] spouses = new int[PERSONS];
        private final int[] coins = new int[PERSONS];
        private final boolean[] living = new boolean[PERSONS];
        private final int[] quarrelers = new int[QUARRELS];
        private final int[] rivals = new int[QUARRELS];
        int persons = 0;
        int quarrels = 0;
        int ended = 0;
        int given = 0;
        int lost = 0;

        /** Who is not there yet has no parent and no spouse either, so that walks end there. */
        Families() {
            for (int i = 0; i < PERSONS; i++) {
                parents[i] = NONE;
                spouses[i] = NONE;
            }
        }

        void copyFrom(Families from) {
            for (int i = 0; i < PERSONS; i++) {
                parents[i] = from.parents[i];
                spouses[i] = from.spouses[i];
                coins[i] = from.coins[i];
                living[i] = from.living[i];
            }
            for (int i = 0; i < QUARRELS; i++) {
                quarrelers[i] = from.quarrelers[i];
                rivals[i] = from.rivals[i];
            }
            persons = from.persons;
            quarrels = from.quarrels;
            ended = from.ended;
            given = from.given;
            lost = from.lost;
        }

        boolean has(int person) {
            return person >= 0 && person < persons && person < PERSONS;
        }

        int parentOf(int person) {
            return person >= 0 && person < PERSONS ? parents[person] : NONE;
        }

        int spouseOf(int person) {
            return person >= 0 && person < PERSONS ? spouses[person] : NONE;
        }

        int coinsOf(int person) {
            return person >= 0 && person < PERSONS ? coins[person] : 0;
        }

        boolean lives(int person) {
            return person >= 0 && person < PERSONS && living[person];
        }

        void add(int parent) {
            if (persons >= 0 && persons < PERSONS) {
                parents[persons] = parent;
                living[persons] = true;
                persons++;
            }
        }

        void setParent(int person, int parent) {
            if (has(person)) {
                parents[person] = parent;
            }
        }

        void setSpouse(int person, int spouse) {
            if (has(person)) {
                spouses[person] = spouse;
            }
        }

        void endMarriage(int person) {
            setSpouse(spouseOf(person), NONE);
            setSpouse(person, NONE);
        }

        void setDead(int person) {
            if (has(person)) {
                living[person] = false;
            }
        }

        void addCoins(int person, int more) {
            if (has(person)) {
                coins[person] += more;
            }
        }

        void passCoins(int person, int heir) {
            int passed = coinsOf(person);
            addCoins(person, -passed);
            addCoins(heir, passed);
            if (heir == NONE) {
                lost += passed;
            }
        }

        int depthOf(int person) {
            int depth = 0;
            for (int at = parentOf(person); at != NONE && depth < PERSONS; at = parentOf(at)) {
                depth++;
            }
            return depth;
        }

        int rootOf(int person) {
            int at = person;
            for (int step = 0; step < PERSONS && parentOf(at) != NONE; step++) {
                at = parentOf(at);
            }
            return at;
        }

        int stepUp(int person, int elder) {
            int at = person;
            for (int step = 0; step < elder && step < PERSONS; step++) {
                at = parentOf(at);
            }
            return at;
        }

        /** The notes are bits, so that none need to be wiped before the next pair. */
        int commonByNotes(int person, int other) {
            int notes = 0;
            int at = person;
            for (int step = 0; step < PERSONS && at != NONE; step++) {
                notes |= 1 << at;
                at = parentOf(at);
            }
            at = other;
            for (int step = 0; step < PERSONS && at != NONE && (notes >> at & 1) == 0; step++) {
                at = parentOf(at);
            }
            return at;
        }

        private int childAfter(int parent, int number) {
            for (int child = number + 1; child < persons; child++) {
                if (parentOf(child) == parent) {
                    return child;
                }
            }
            return NONE;
        }

        /** Answers who comes behind one of the descendants of the top, in their order, or NONE. */
        int nextBelow(int top, int person) {
            int next = childAfter(person, NONE);
            int at = person;
            for (int step = 0; step < PERSONS && next == NONE && at != top; step++) {
                next = childAfter(parentOf(at), at);
                at = parentOf(at);
            }
            return next;
        }

        int childrenOf(int person) {
            int count = 0;
            for (int child = 0; child < persons; child++) {
                if (parentOf(child) == person) {
                    count++;
                }
            }
            return count;
        }

        int descendantsOf(int person) {
            int count = 0;
            int at = nextBelow(person, person);
            while (at != NONE && count < PERSONS) {
                count++;
                at = nextBelow(person, at);
            }
            return count;
        }

        int heirOf(int person) {
            int below = nextBelow(person, person);
            for (int step = 0; step < PERSONS && below != NONE && !lives(below); step++) {
                below = nextBelow(person, below);
            }
            if (below != NONE) {
                return below;
            }
            return spouseOf(person) != NONE ? spouseOf(person) : nearestLivingElder(person);
        }

        private int nearestLivingElder(int person) {
            int at = parentOf(person);
            for (int step = 0; step < PERSONS && at != NONE && !lives(at); step++) {
                at = parentOf(at);
            }
            return at;
        }

        /** Answers how many stand before the person by coins, those with as many and lower numbers too. */
        int richerThan(int person) {
            int count = 0;
            for (int other = 0; other < persons; other++) {
                int more = coinsOf(other) - coinsOf(person);
                if (more > 0 || more == 0 && other < person) {
                    count++;
                }
            }
            return count;
        }

        boolean hasQuarrel(int place) {
            return place >= 0 && place < quarrels && place < QUARRELS;
        }

        int quarrelerAt(int place) {
            return hasQuarrel(place) ? quarrelers[place] : NONE;
        }

        int rivalAt(int place) {
            return hasQuarrel(place) ? rivals[place] : NONE;
        }

        int quarrelsOf(int person) {
            int count = 0;
            for (int i = 0; i < quarrels; i++) {
                if (quarrelerAt(i) == person || rivalAt(i) == person) {
                    count++;
                }
            }
            return count;
        }

        boolean doQuarrel(int person, int other) {
            for (int i = 0; i < quarrels; i++) {
                boolean isSoTold = quarrelerAt(i) == person && rivalAt(i) == other;
                if (isSoTold || quarrelerAt(i) == other && rivalAt(i) == person) {
                    return true;
                }
            }
            return false;
        }

        void addQuarrel(int person, int other) {
            if (quarrels >= 0 && quarrels < QUARRELS) {
                quarrelers[quarrels] = person;
                rivals[quarrels] = other;
                quarrels++;
            }
        }

        void removeQuarrel(int place) {
            if (!hasQuarrel(place)) {
                return;
            }
            for (int i = place + 1; i < quarrels && i < QUARRELS; i++) {
                quarrelers[i - 1] = quarrelers[i];
                rivals[i - 1] = rivals[i];
            }
            quarrels--;
        }

        int livingPersons() {
            int count = 0;
            for (int person = 0; person < persons; person++) {
                count += lives(person) ? 1 : 0;
            }
            return count;
        }

        int oaks() {
            int count = 0;
            for (int person = 0; person < persons; person++) {
                count += parentOf(person) == NONE ? 1 : 0;
            }
            return count;
        }

        int marriages() {
            int count = 0;
            for (int person = 0; person < persons; person++) {
                count += spouseOf(person) > person ? 1 : 0;
            }
            return count;
        }

        int greatestDepth() {
            int greatest = 0;
            for (int person = 0; person < persons; person++) {
                greatest = Math.max(greatest, depthOf(person));
            }
            return greatest;
        }

        int sumOfDepths() {
            int sum = 0;
            for (int person = 0; person < persons; person++) {
                sum += depthOf(person);
            }
            return sum;
        }

        int allCoins() {
            int sum = 0;
            for (int person = 0; person < persons; person++) {
                sum += coinsOf(person);
            }
            return sum;
        }
    }

    /** The noted elders of all persons, by which leaps are made. */
    private static final class Elders {
        private static final int LEAPS = 5;
        private final int[] noted = new int[LEAPS * PERSONS];
        private final int[] depths = new int[PERSONS];

        void renew(Families families) {
            for (int person = 0; person < PERSONS; person++) {
                noted[person] = families.parentOf(person);
                depths[person] = families.depthOf(person);
            }
            for (int leap = 1; leap < LEAPS; leap++) {
                for (int person = 0; person < PERSONS; person++) {
                    noted[leap * PERSONS + person] = notedOf(leap - 1, notedOf(leap - 1, person));
                }
            }
        }

        private int notedOf(int leap, int person) {
            boolean isKnown = leap >= 0 && leap < LEAPS && person >= 0 && person < PERSONS;
            return isKnown ? noted[leap * PERSONS + person] : NONE;
        }

        private int depthOf(int person) {
            return person >= 0 && person < PERSONS ? depths[person] : 0;
        }

        int leapUp(int person, int elder) {
            int at = person;
            int left = elder;
            for (int leap = LEAPS - 1; leap >= 0; leap--) {
                if (left >= 1 << leap && at >= 0 && at < PERSONS) {
                    at = noted[leap * PERSONS + at];
                    left -= 1 << leap;
                }
            }
            return left == 0 ? at : NONE;
        }

        int leapsFor(int elder) {
            int count = 0;
            int left = elder;
            for (int leap = LEAPS - 1; leap >= 0; leap--) {
                if (left >= 1 << leap) {
                    count++;
                    left -= 1 << leap;
                }
            }
            return count;
        }

        int commonByLeaps(int person, int other) {
            int deeper = depthOf(person) - depthOf(other);
            int one = deeper > 0 ? leapUp(person, deeper) : person;
            int two = deeper < 0 ? leapUp(other, -deeper) : other;
            for (int leap = LEAPS - 1; leap >= 0; leap--) {
                if (notedOf(leap, one) != notedOf(leap, two)) {
                    one = notedOf(leap, one);
                    two = notedOf(leap, two);
                }
            }
            return one == two ? one : notedOf(0, one);
        }
    }

    /** The houses, each under its lowest person. */
    private static final class Houses {
        private final int[] heads = new int[PERSONS];
        private final int[] least = new int[PERSONS];

        void renew(Families families) {
            for (int person = 0; person < PERSONS; person++) {
                heads[person] = person;
            }
            for (int person = 0; person < PERSONS; person++) {
                join(person, families.parentOf(person));
                join(person, families.spouseOf(person));
            }
        }

        /** A head never lies above those who are under it, so that the last one is the lowest. */
        private void join(int person, int other) {
            int head = houseOf(person);
            int otherHead = houseOf(other);
            if (head == NONE || otherHead == NONE) {
                return;
            }
            if (head < otherHead) {
                heads[otherHead] = head;
            } else {
                heads[head] = otherHead;
            }
        }

        int houseOf(int person) {
            if (person < 0 || person >= PERSONS) {
                return NONE;
            }
            int at = person;
            for (int step = 0; step < PERSONS && heads[at] >= 0 && heads[at] < at; step++) {
                at = heads[at];
            }
            return at;
        }

        boolean isOneHouse(int person, int other) {
            return houseOf(person) == houseOf(other);
        }

        int count(Families families) {
            int count = 0;
            for (int person = 0; person < families.persons; person++) {
                count += houseOf(person) == person ? 1 : 0;
            }
            return count;
        }

        int countAgain(Families families) {
            for (int person = 0; person < PERSONS; person++) {
                least[person] = person;
            }
            boolean isChanged = true;
            for (int round = 0; round <= PERSONS && isChanged; round++) {
                isChanged = lowerAll(families);
            }
            int count = 0;
            for (int person = 0; person < families.persons && person < PERSONS; person++) {
                count += least[person] == person ? 1 : 0;
            }
            return count;
        }

        private boolean lowerAll(Families families) {
            boolean isChanged = false;
            for (int person = 0; person < PERSONS; person++) {
                int parent = families.parentOf(person);
                boolean isLower = lower(person, parent);
                boolean isParentLower = lower(parent, person);
                boolean isSpouseLower = lower(families.spouseOf(person), person);
                isChanged = isChanged || isLower || isParentLower || isSpouseLower;
            }
            return isChanged;
        }

        private boolean lower(int person, int beside) {
            boolean isPair = person >= 0 && person < PERSONS && beside >= 0 && beside < PERSONS;
            if (!isPair || least[beside] >= least[person]) {
                return false;
            }
            least[person] = least[beside];
            return true;
        }
    }

    /** The input, and the orders of the text that was taken from it last. */
    private static final class Input {
        // 60 characters hold 30 orders at most, as each takes one and a semicolon.
        private static final int ORDERS = 30;
        private final char[] text = new char[INPUT];
        private final int[] kinds = new int[ORDERS];
        private final int[] firsts = new int[ORDERS];
        private final int[] seconds = new int[ORDERS];
        private int at = 0;
        int length = 0;
        int orders = 0;

        void add(char c) {
            if (length >= 0 && length < INPUT) {
                text[length] = c;
                length++;
            }
        }

        int kindAt(int place) {
            return place >= 0 && place < ORDERS ? kinds[place] : FOUND;
        }

        int firstAt(int place) {
            return place >= 0 && place < ORDERS ? firsts[place] : NONE;
        }

        int secondAt(int place) {
            return place >= 0 && place < ORDERS ? seconds[place] : NONE;
        }

        /** Empties the input; answers the error position, or NONE. */
        int takeOrders() {
            orders = 0;
            at = 0;
            boolean isGood = readOrder();
            for (int turn = 0; turn < INPUT && isGood && at < length; turn++) {
                isGood = readSign(';') && readOrder();
            }
            length = 0;
            return isGood ? NONE : at;
        }

        private boolean readOrder() {
            int kind = kindHere();
            if (kind == NONE) {
                return false;
            }
            at++;
            int first = kind == FOUND ? 0 : readNumber(2);
            if (first == NONE) {
                return false;
            }
            int second = 0;
            if (signOf(kind) != NO_SIGN) {
                second = readSign(signOf(kind)) ? readNumber(kind == GIVE ? 3 : 2) : NONE;
            }
            return second != NONE && keep(kind, first, second);
        }

        private boolean keep(int kind, int first, int second) {
            if (orders < 0 || orders >= ORDERS) {
                return false;
            }
            kinds[orders] = kind;
            firsts[orders] = first;
            seconds[orders] = second;
            orders++;
            return true;
        }

        /** Behind the end stands a sign that continues no text. */
        private char here() {
            return at >= 0 && at < length && at < INPUT ? text[at] : 0;
        }

        private int kindHere() {
            char letter = here();
            for (int kind = 0; kind < LETTERS.length; kind++) {
                if (LETTERS[kind] == letter) {
                    return kind;
                }
            }
            return NONE;
        }

        private char signOf(int kind) {
            return kind >= 0 && kind < SIGNS.length ? SIGNS[kind] : NO_SIGN;
        }

        private boolean readSign(char sign) {
            if (here() != sign) {
                return false;
            }
            at++;
            return true;
        }

        private int readNumber(int digits) {
            int number = NONE;
            for (int i = 0; i < digits && here() >= '0' && here() <= '9'; i++) {
                number = Math.max(number, 0) * 10 + (here() - '0');
                at++;
            }
            return number;
        }
    }
}
