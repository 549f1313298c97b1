import java.util.NoSuchElementException;

/** A knight who stays as long as she does not ask his name; ../shared/DOC.md says what each call promises. */
public final class UnaskedName {
    public static final int NONE = -1;

    private static final int NAME_ROOM = 10;
    private static final int WORD_ROOM = 6;
    private static final int DEED_ROOM = 4;
    private static final int COURT_ROOM = 6;
    private static final int DUTY_ROOM = 8;
    private static final int TEXT_ROOM = 12;
    private static final int TRAITS = 6;
    private static final int TRAIT_SETS = 64;
    private static final int ALL_SEALS = 63;
    private static final int TOP_DOUBT = 99;
    private static final int DOUBTS = 100;
    private static final int LAST_AHEAD = 400;
    private static final int NIGHTS_A_CALL = 60;
    private static final int SIEGE_NIGHTS = 12;
    private static final int WORDS_IN_A_ROW = 20;
    private static final int TRIAL_SEEDS = 6;
    private static final int WHOLE_BELIEF = 10000;
    /** Stands for "never", above every count that an answer can have. */
    private static final int NEVER = 1000;

    private final Tape tape = new Tape();
    private final World world = new World();
    private final World draft = new World();
    private final World kept = new World();
    private final Past past = new Past();
    private final Mind dream = new Mind();
    private final Siege enemies = new Siege();
    private final Rows rows = new Rows();
    private final LawReader lawReader = new LawReader();
    private int wrongByte = NONE;
    private boolean hasKept = false;

    public UnaskedName() {
    }

    // ---- texts ----

    public int feed(int a, int b, int c, int d, int e) {
        if (!tape.hasRoomForFeed()) {
            return NONE;
        }
        tape.put(a);
        tape.put(b);
        tape.put(c);
        tape.put(d);
        tape.put(e);
        return tape.length;
    }

    public boolean end(int n) {
        if (n < 0 || n > tape.length) {
            return false;
        }
        tape.length = n;
        return true;
    }

    public int story() throws IllegalArgumentException, UnsupportedOperationException {
        draft.copyFrom(world);
        boolean right = StoryReader.reads(tape, draft);
        useTapeUp(right);
        if (!right) {
            throw new IllegalArgumentException("the text of the story is wrong");
        }
        if (world.tale.texts >= TEXT_ROOM) {
            throw new UnsupportedOperationException("the story has all its texts");
        }
        draft.tale.texts++;
        world.copyFrom(draft);
        past.forget();
        return world.tale.texts;
    }

    public int law() throws IllegalArgumentException {
        boolean right = lawReader.reads(tape, draft.law);
        useTapeUp(right);
        if (!right) {
            throw new IllegalArgumentException("the text of the law is wrong");
        }
        world.law.copyFrom(draft.law);
        past.forget();
        return world.law.lines;
    }

    private void useTapeUp(boolean right) {
        wrongByte = right ? NONE : tape.from;
        tape.length = 0;
    }

    public int fault() {
        return wrongByte;
    }

    // ---- what there is ----

    public int name(int name, int what) throws IndexOutOfBoundsException, NoSuchElementException {
        needName(name);
        switch (what) {
            case 0:
                return at(world.tale.traits, name);
            case 1:
                return at(world.tale.credit, name);
            case 2:
                return has(world.mind.possible, name) ? 1 : 0;
            case 3:
                return beliefIn(1 << name);
            default:
                throw new NoSuchElementException("no such thing of a name");
        }
    }

    public int court(int who, int what) throws IndexOutOfBoundsException, NoSuchElementException {
        needWho(who);
        switch (what) {
            case 0:
                return at(world.tale.side, who);
            case 1:
                return at(world.mind.habits, who);
            case 2:
                return has(world.mind.near, who) ? 1 : 0;
            default:
                throw new NoSuchElementException("no such thing of one of the court");
        }
    }

    public int word(int word, boolean trait) throws IndexOutOfBoundsException {
        needWord(word);
        return trait ? at(world.tale.tells, word) : at(world.tale.sting, word);
    }

    public int deed(int deed, int what) throws IndexOutOfBoundsException, NoSuchElementException {
        needDeed(deed);
        switch (what) {
            case 0:
                return at(world.tale.soothes, deed);
            case 1:
                return at(world.tale.costs, deed);
            case 2:
                return world.easeOf(world.mind, deed);
            default:
                throw new NoSuchElementException("no such thing of a deed");
        }
    }

    public int stings(int who, int word) throws IndexOutOfBoundsException {
        needWho(who);
        needWord(word);
        return world.stingOf(world.mind, who, word);
    }

    // ---- acts ----

    public int say(int who, int word) throws IndexOutOfBoundsException, IllegalStateException {
        needWho(who);
        needWord(word);
        if (world.mind.asked || !has(world.mind.near, who)) {
            throw new IllegalStateException("he is gone, or that one is kept away");
        }
        past.remember(world.mind);
        world.speak(world.mind, who, word);
        return world.mind.doubt;
    }

    public int does(int deed) throws IndexOutOfBoundsException, IllegalStateException {
        needDeed(deed);
        if (world.mind.asked) {
            throw new IllegalStateException("he is gone");
        }
        past.remember(world.mind);
        world.soothe(world.mind, deed);
        return world.mind.doubt;
    }

    public boolean keep(int who, boolean near) throws IndexOutOfBoundsException {
        needWho(who);
        past.remember(world.mind);
        int before = world.mind.near;
        world.mind.near = near ? before | 1 << who : before & ~(1 << who);
        return world.mind.near != before;
    }

    public int habit(int who, int word) throws IndexOutOfBoundsException {
        needWho(who);
        needWord(word);
        past.remember(world.mind);
        int before = at(world.mind.habits, who);
        world.mind.setHabit(who, word);
        return before;
    }

    public int his(int name) throws IndexOutOfBoundsException {
        needName(name);
        past.remember(world.mind);
        int before = world.mind.bearer;
        world.mind.tellBearer(name, world.tale.names);
        return before;
    }

    public int crumb(int trait) throws IndexOutOfBoundsException, IllegalStateException {
        needTrait(trait);
        if (world.mind.asked || world.tale.names == 0) {
            throw new IllegalStateException("he is gone, or there is no name");
        }
        past.remember(world.mind);
        world.mind.possible = world.tale.narrowed(world.mind.possible, world.mind.bearer, trait);
        return Integer.bitCount(world.mind.possible);
    }

    public int nights(int n) throws IllegalArgumentException {
        need(n >= 1 && n <= NIGHTS_A_CALL);
        past.remember(world.mind);
        int came = 0;
        for (int i = 0; i < n && world.drawnNight(world.mind); i++) {
            came++;
        }
        return came;
    }

    // ---- words and nights that might come ----

    public int would(int who, int word, boolean left) throws IndexOutOfBoundsException {
        needWho(who);
        needWord(word);
        dream.copyThoughtFrom(world.mind);
        world.speak(dream, who, word);
        return left ? Integer.bitCount(dream.possible) : dream.doubt;
    }

    public int ahead(int deed, int n) throws IndexOutOfBoundsException, IllegalArgumentException {
        needDeedOrNone(deed);
        need(n >= 0 && n <= LAST_AHEAD);
        dream.copyThoughtFrom(world.mind);
        for (int i = 0; i < n; i++) {
            world.plainNight(dream, deed);
        }
        return dream.doubt;
    }

    public int first(int deed) throws IndexOutOfBoundsException {
        needDeedOrNone(deed);
        dream.copyThoughtFrom(world.mind);
        for (int n = 1; n <= LAST_AHEAD; n++) {
            world.plainNight(dream, deed);
            if (dream.asked) {
                return n;
            }
        }
        return NONE;
    }

    public int learnt(int deed) throws IndexOutOfBoundsException {
        needDeedOrNone(deed);
        dream.copyThoughtFrom(world.mind);
        for (int n = 0; n <= LAST_AHEAD; n++) {
            if (Integer.bitCount(dream.possible) == 1) {
                return n;
            }
            world.plainNight(dream, deed);
        }
        return NONE;
    }

    public int silence(int n) throws IllegalArgumentException {
        need(n >= 1 && n <= NIGHTS_A_CALL);
        int found = NONE;
        int fewest = NEVER;
        for (int away = 0; away < 1 << COURT_ROOM; away++) {
            boolean allNear = (away & ~world.mind.near) == 0;
            if (allNear && Integer.bitCount(away) < fewest && staysQuiet(away, n)) {
                found = away;
                fewest = Integer.bitCount(away);
            }
        }
        return found;
    }

    private boolean staysQuiet(int away, int n) {
        dream.copyThoughtFrom(world.mind);
        dream.near &= ~away;
        for (int i = 0; i < n; i++) {
            world.plainNight(dream, NONE);
        }
        return !dream.asked;
    }

    public int trial(int n, boolean asked) throws IllegalArgumentException {
        need(n >= 0 && n <= NIGHTS_A_CALL);
        tryNights(n, world.mind.draws);
        if (asked) {
            return dream.asked ? 1 : 0;
        }
        return dream.doubt;
    }

    public int span(int n) throws IllegalArgumentException {
        need(n >= 0 && n <= NIGHTS_A_CALL);
        int askedIn = 0;
        for (int start = 1; start <= TRIAL_SEEDS; start++) {
            tryNights(n, start);
            askedIn += dream.asked ? 1 : 0;
        }
        return askedIn;
    }

    private void tryNights(int n, int start) {
        dream.copyThoughtFrom(world.mind);
        dream.draws = start;
        for (int i = 0; i < n; i++) {
            world.drawnNight(dream);
        }
    }

    // ---- enemies, words in a row ----

    public int siege(int n) throws IllegalArgumentException {
        need(n >= 1 && n <= SIEGE_NIGHTS);
        if (world.mind.asked) {
            return NONE;
        }
        return orNone(enemies.fewestNights(world, n));
    }

    public int plan(int n) throws IllegalArgumentException {
        need(n >= 1 && n <= SIEGE_NIGHTS);
        return world.mind.asked ? NONE : enemies.opening(world, n);
    }

    public int keeps(int doubt, int n) throws IllegalArgumentException {
        need(doubt >= 0 && doubt <= TOP_DOUBT && n >= 0 && n < SIEGE_NIGHTS);
        // It is asked of a told doubt, not of the one that is: so also if he is gone.
        return enemies.bestDefence(world, doubt, n);
    }

    public int fewest(int who) throws IndexOutOfBoundsException {
        needWho(who);
        return world.mind.asked ? NONE : rows.shortest(world, who);
    }

    public int fits(int n) {
        int pairs = 0;
        for (int who = 0; who < world.tale.members; who++) {
            for (int word = 0; word < world.tale.words; word++) {
                int most = TOP_DOUBT - world.mind.doubt;
                pairs += Math.min(most, world.stingOf(world.mind, who, word)) == n ? 1 : 0;
            }
        }
        return pairs;
    }

    public int sharpest(int who) throws IndexOutOfBoundsException {
        needWho(who);
        int found = NONE;
        int most = NONE;
        for (int word = 0; word < world.tale.words; word++) {
            int sting = world.stingOf(world.mind, who, word);
            if (sting > most) {
                found = word;
                most = sting;
            }
        }
        return found;
    }

    public int cheapest(int n, boolean much) throws IllegalArgumentException {
        need(n >= 0 && n <= TOP_DOUBT);
        int found = NONE;
        int least = NEVER;
        for (int set = 0; set < 1 << world.tale.deeds; set++) {
            int costs = world.tale.costsOf(set);
            if (costs < least && doubtBehind(set) <= n) {
                found = set;
                least = costs;
            }
        }
        return much ? orNone(least) : found;
    }

    private int doubtBehind(int deeds) {
        dream.copyThoughtFrom(world.mind);
        for (int deed = 0; deed < world.tale.deeds; deed++) {
            if (has(deeds, deed)) {
                world.soothe(dream, deed);
            }
        }
        return dream.doubt;
    }

    // ---- names and traits ----

    public int best() {
        return world.tale.partingTrait(world.mind.possible);
    }

    public int learns() {
        return world.tale.tellingTraits(world.mind.possible, world.mind.bearer);
    }

    public int worst() {
        return orNone(world.tale.crumbsFor(world.mind.possible));
    }

    public int hides() {
        int traits = 0;
        for (int trait = 0; trait < TRAITS; trait++) {
            if (world.tale.narrowed(world.mind.possible, world.mind.bearer, trait) != world.mind.possible) {
                traits |= 1 << trait;
            }
        }
        return traits;
    }

    public int alike() {
        int pairs = 0;
        for (int one = 0; one < world.tale.names; one++) {
            for (int other = 0; other < one; other++) {
                pairs += world.tale.difference(one, other) == 0 ? 1 : 0;
            }
        }
        return pairs;
    }

    public int belief(int trait) throws IndexOutOfBoundsException {
        needTrait(trait);
        return beliefIn(at(world.tale.bearers, trait));
    }

    private int beliefIn(int names) {
        int whole = world.tale.creditOf(world.mind.possible);
        int part = world.tale.creditOf(world.mind.possible & names);
        return whole <= 0 ? 0 : part * WHOLE_BELIEF / whole;
    }

    public int likeliest() {
        int found = NONE;
        int most = 0;
        for (int name = 0; name < world.tale.names; name++) {
            if (has(world.mind.possible, name) && at(world.tale.credit, name) > most) {
                found = name;
                most = at(world.tale.credit, name);
            }
        }
        return found;
    }

    public int shared() {
        int traits = 0;
        for (int trait = 0; trait < TRAITS; trait++) {
            if ((world.mind.possible & ~at(world.tale.bearers, trait)) == 0) {
                traits |= 1 << trait;
            }
        }
        return world.mind.possible == 0 ? 0 : traits;
    }

    public int similar(int name, int k) throws IndexOutOfBoundsException, IllegalArgumentException {
        needName(name);
        need(k >= 0 && k <= TRAITS);
        int names = 0;
        for (int other = 0; other < world.tale.names; other++) {
            if (other != name && world.tale.difference(name, other) <= k) {
                names |= 1 << other;
            }
        }
        return names;
    }

    // ---- duties ----

    public int duty(int duty) throws IndexOutOfBoundsException {
        if (duty < 0 || duty >= world.tale.duties) {
            throw new IndexOutOfBoundsException("no such duty");
        }
        return at(world.tale.doers, duty);
    }

    public int cover() {
        int all = (1 << world.tale.duties) - 1;
        int found = ALL_SEALS;
        for (int set = 0; set < TRAIT_SETS; set++) {
            if (Integer.bitCount(set) < Integer.bitCount(found) && world.tale.dutiesDone(set) == all) {
                found = set;
            }
        }
        return found;
    }

    public int alone() {
        int all = (1 << world.tale.duties) - 1;
        int found = 0;
        for (int seal = 0; seal < TRAITS; seal++) {
            if (world.tale.dutiesDone(ALL_SEALS & ~(1 << seal)) != all) {
                found |= 1 << seal;
            }
        }
        return found;
    }

    public int seals(int seals) {
        return world.tale.dutiesDone(seals);
    }

    // ---- the log ----

    public int began() {
        return world.mind.spoken.streakAbove(world.tale.limit / 2);
    }

    public int loudest() {
        Log spoken = world.mind.spoken;
        int found = NONE;
        int most = 0;
        for (int who = 0; who < world.tale.members; who++) {
            int records = spoken.recordsOf(who);
            if (records > most) {
                found = who;
                most = records;
            }
        }
        return found;
    }

    public int led(int who, int word) throws IndexOutOfBoundsException {
        needWho(who);
        if (word != NONE) {
            needWord(word);
        }
        return world.mind.spoken.rowsOf(who, word);
    }

    public int log(int ago, int what) throws NoSuchElementException {
        if (what < 0 || what > Log.LEFT) {
            throw new NoSuchElementException("no such thing of a row of the log");
        }
        return world.mind.spoken.part(ago, what);
    }

    // ---- going back ----

    public int seed(int n) {
        int before = world.mind.draws;
        world.mind.draws = n;
        return before;
    }

    public boolean undo() {
        return past.recall(world.mind);
    }

    public void image() {
        kept.copyFrom(world);
        hasKept = true;
    }

    public boolean back() {
        if (!hasKept) {
            return false;
        }
        world.copyFrom(kept);
        past.forget();
        return true;
    }

    public int count(int what) {
        Tale tale = world.tale;
        Mind mind = world.mind;
        switch (what) {
            case 0: return tale.names;
            case 1: return tale.members;
            case 2: return tale.words;
            case 3: return tale.deeds;
            case 4: return tale.duties;
            case 5: return tale.texts;
            case 6: return world.law.lines;
            case 7: return mind.doubt;
            case 8: return tale.limit;
            case 9: return mind.night;
            case 10: return tale.year;
            case 11: return mind.bearer;
            case 12: return mind.possible;
            case 13: return mind.asked ? 1 : 0;
            case 14: return tale.talk;
            case 15: return mind.near;
            case 16: return Math.max(0, tale.year - mind.night);
            case 17: return mind.spoken.size;
            case 18: return past.size;
            default: return NONE;
        }
    }

    // ---- what a call may be asked ----

    private void needName(int name) {
        if (name < 0 || name >= world.tale.names) {
            throw new IndexOutOfBoundsException("no such name");
        }
    }

    private void needWho(int who) {
        if (who < 0 || who >= world.tale.members) {
            throw new IndexOutOfBoundsException("nobody of that number at court");
        }
    }

    private void needWord(int word) {
        if (word < 0 || word >= world.tale.words) {
            throw new IndexOutOfBoundsException("no such word");
        }
    }

    private void needDeed(int deed) {
        if (deed < 0 || deed >= world.tale.deeds) {
            throw new IndexOutOfBoundsException("no such deed");
        }
    }

    private void needDeedOrNone(int deed) {
        if (deed != NONE) {
            needDeed(deed);
        }
    }

    private void needTrait(int trait) {
        if (trait < 0 || trait >= TRAITS) {
            throw new IndexOutOfBoundsException("no such trait");
        }
    }

    private void need(boolean isOne) {
        if (!isOne) {
            throw new IllegalArgumentException("the number is none");
        }
    }

    // ---- small helps ----

    private static int at(int[] row, int index) {
        return index >= 0 && index < row.length ? row[index] : NONE;
    }

    private static boolean has(int set, int member) {
        return (set >> member & 1) == 1;
    }

    private static int orNone(int number) {
        return number >= NEVER ? NONE : number;
    }

    /** What THE STORY has told and no act changes. */
    private static final class Tale {
        int texts = 0;
        int names = 0;
        int words = 0;
        int deeds = 0;
        int members = 0;
        int duties = 0;
        int limit = 50;
        int year = 365;
        int talk = 50;
        final int[] traits = new int[NAME_ROOM];
        final int[] credit = new int[NAME_ROOM];
        /** Of each trait the names that have it, so that a set of names is parted at once. */
        final int[] bearers = new int[TRAITS];
        final int[] sting = new int[WORD_ROOM];
        final int[] tells = new int[WORD_ROOM];
        final int[] soothes = new int[DEED_ROOM];
        final int[] costs = new int[DEED_ROOM];
        final int[] side = new int[COURT_ROOM];
        final int[] doers = new int[DUTY_ROOM];

        void copyFrom(Tale other) {
            texts = other.texts;
            names = other.names;
            words = other.words;
            deeds = other.deeds;
            members = other.members;
            duties = other.duties;
            limit = other.limit;
            year = other.year;
            talk = other.talk;
            System.arraycopy(other.traits, 0, traits, 0, NAME_ROOM);
            System.arraycopy(other.credit, 0, credit, 0, NAME_ROOM);
            System.arraycopy(other.bearers, 0, bearers, 0, TRAITS);
            System.arraycopy(other.sting, 0, sting, 0, WORD_ROOM);
            System.arraycopy(other.tells, 0, tells, 0, WORD_ROOM);
            System.arraycopy(other.soothes, 0, soothes, 0, DEED_ROOM);
            System.arraycopy(other.costs, 0, costs, 0, DEED_ROOM);
            System.arraycopy(other.side, 0, side, 0, COURT_ROOM);
            System.arraycopy(other.doers, 0, doers, 0, DUTY_ROOM);
        }

        void addName(int itsTraits, int itsCredit) {
            if (names >= 0 && names < NAME_ROOM) {
                traits[names] = itsTraits;
                credit[names] = itsCredit;
                for (int trait = 0; trait < TRAITS; trait++) {
                    bearers[trait] |= (itsTraits >> trait & 1) << names;
                }
                names++;
            }
        }

        void addWord(int itsSting, int itsTrait) {
            if (words >= 0 && words < WORD_ROOM) {
                sting[words] = itsSting;
                tells[words] = itsTrait;
                words++;
            }
        }

        void addDeed(int itsEase, int itsCosts) {
            if (deeds >= 0 && deeds < DEED_ROOM) {
                soothes[deeds] = itsEase;
                costs[deeds] = itsCosts;
                deeds++;
            }
        }

        void addMember(int itsSide) {
            if (members >= 0 && members < COURT_ROOM) {
                side[members] = itsSide;
                members++;
            }
        }

        void addDuty(int itsSeals) {
            if (duties >= 0 && duties < DUTY_ROOM) {
                doers[duties] = itsSeals;
                duties++;
            }
        }

        /** The names that stay possible, if she learns of a trait whether the bearer's name has it. */
        int narrowed(int possible, int bearer, int trait) {
            if (bearer < 0 || trait < 0) {
                return possible;
            }
            int having = at(bearers, trait);
            return has(having, bearer) ? possible & having : possible & ~having;
        }

        int partingTrait(int possible) {
            if (Integer.bitCount(possible) < 2) {
                return NONE;
            }
            int found = NONE;
            int least = NEVER;
            for (int trait = 0; trait < TRAITS; trait++) {
                int having = Integer.bitCount(possible & at(bearers, trait));
                int greater = Math.max(having, Integer.bitCount(possible) - having);
                if (greater < least) {
                    found = trait;
                    least = greater;
                }
            }
            return found;
        }

        int tellingTraits(int possible, int bearer) {
            if (bearer < 0) {
                return NONE;
            }
            int found = NONE;
            int fewest = NEVER;
            for (int set = 0; set < TRAIT_SETS; set++) {
                if (Integer.bitCount(set) < fewest && narrowedByAll(possible, bearer, set) == 1 << bearer) {
                    found = set;
                    fewest = Integer.bitCount(set);
                }
            }
            return found;
        }

        int narrowedByAll(int possible, int bearer, int traitSet) {
            int left = possible;
            for (int trait = 0; trait < TRAITS; trait++) {
                if (has(traitSet, trait)) {
                    left = narrowed(left, bearer, trait);
                }
            }
            return left;
        }

        int crumbsFor(int possible) {
            return crumbsFrom(possible, 0);
        }

        private int crumbsFrom(int possible, int asked) {
            if (Integer.bitCount(possible) < 2) {
                return 0;
            }
            if (asked >= TRAITS) {
                return NEVER;
            }
            int fewest = NEVER;
            for (int trait = 0; trait < TRAITS; trait++) {
                int having = possible & at(bearers, trait);
                if (having != 0 && having != possible) {
                    int more = Math.max(crumbsFrom(having, asked + 1), crumbsFrom(possible & ~having, asked + 1));
                    fewest = Math.min(fewest, 1 + more);
                }
            }
            return fewest;
        }

        int difference(int one, int other) {
            return Integer.bitCount(at(traits, one) ^ at(traits, other));
        }

        int creditOf(int nameSet) {
            int sum = 0;
            for (int name = 0; name < names; name++) {
                sum += has(nameSet, name) ? at(credit, name) : 0;
            }
            return sum;
        }

        int costsOf(int deedSet) {
            int sum = 0;
            for (int deed = 0; deed < deeds; deed++) {
                sum += has(deedSet, deed) ? at(costs, deed) : 0;
            }
            return sum;
        }

        int dutiesDone(int seals) {
            int done = 0;
            for (int duty = 0; duty < duties; duty++) {
                if ((at(doers, duty) & seals) != 0) {
                    done |= 1 << duty;
                }
            }
            return done;
        }
    }

    /** What acts and nights change. */
    private static final class Mind {
        int doubt = 0;
        int night = 0;
        int bearer = NONE;
        int possible = 0;
        int near = 0;
        int draws = 1;
        boolean asked = false;
        final int[] habits = new int[COURT_ROOM];
        final Log spoken = new Log();

        void copyFrom(Mind other) {
            copyThoughtFrom(other);
            spoken.copyFrom(other.spoken);
        }

        /** All but the log, which no question about what might come looks at. */
        void copyThoughtFrom(Mind other) {
            doubt = other.doubt;
            night = other.night;
            bearer = other.bearer;
            possible = other.possible;
            near = other.near;
            draws = other.draws;
            asked = other.asked;
            System.arraycopy(other.habits, 0, habits, 0, COURT_ROOM);
        }

        void setHabit(int who, int word) {
            if (who >= 0 && who < COURT_ROOM) {
                habits[who] = word;
            }
        }

        void tellBearer(int name, int names) {
            bearer = name;
            if (!has(possible, name)) {
                possible = (1 << names) - 1;
            }
        }

        int draw() {
            draws = 1103515245 * draws + 12345;
            return draws >>> 16 & 0x7fff;
        }
    }

    /** THE LOG: a ring of the latest words; a row is packed into one number, as it is copied with each act. */
    private static final class Log {
        static final int ROOM = 60;
        static final int NIGHT = 0;
        static final int WHO = 1;
        static final int WORD = 2;
        static final int DOUBT = 3;
        static final int LEFT = 4;

        int size = 0;
        int newest = 0;
        final int[] packed = new int[ROOM];

        void copyFrom(Log other) {
            size = other.size;
            newest = other.newest;
            System.arraycopy(other.packed, 0, packed, 0, ROOM);
        }

        void add(Mind mind, int who, int word) {
            newest = newest + 1 < ROOM ? newest + 1 : 0;
            size = size < ROOM ? size + 1 : ROOM;
            if (newest >= 0 && newest < ROOM) {
                packed[newest] = mind.night << 17 | who << 14 | word << 11
                    | mind.doubt << 4 | Integer.bitCount(mind.possible);
            }
        }

        int part(int ago, int what) {
            if (ago < 0 || ago >= size) {
                return NONE;
            }
            int row = at(packed, newest >= ago ? newest - ago : newest - ago + ROOM);
            switch (what) {
                case NIGHT:
                    return row >> 17;
                case WHO:
                    return row >> 14 & 7;
                case WORD:
                    return row >> 11 & 7;
                case DOUBT:
                    return row >> 4 & 127;
                default:
                    return row & 15;
            }
        }

        int streakAbove(int half) {
            int oldest = NONE;
            for (int ago = 0; ago < size && part(ago, DOUBT) > half; ago++) {
                oldest = ago;
            }
            return oldest;
        }

        int recordsOf(int who) {
            int records = 0;
            int highest = NONE;
            for (int ago = size - 1; ago >= 0; ago--) {
                if (part(ago, DOUBT) > highest) {
                    highest = part(ago, DOUBT);
                    records += part(ago, WHO) == who ? 1 : 0;
                }
            }
            return records;
        }

        int rowsOf(int who, int word) {
            int found = 0;
            for (int ago = 0; ago < size; ago++) {
                boolean same = part(ago, WHO) == who && (word == NONE || part(ago, WORD) == word);
                found += same ? 1 : 0;
            }
            return found;
        }
    }

    /** The acts that can be undone, as what was ahead of each. */
    private static final class Past {
        static final int ROOM = 12;

        int size = 0;
        private int newest = 0;
        private final Mind[] before = new Mind[ROOM];

        Past() {
            for (int i = 0; i < ROOM; i++) {
                before[i] = new Mind();
            }
        }

        void forget() {
            size = 0;
        }

        void remember(Mind mind) {
            newest = newest + 1 < ROOM ? newest + 1 : 0;
            size = size < ROOM ? size + 1 : ROOM;
            Mind row = newestRow();
            if (row != null) {
                row.copyFrom(mind);
            }
        }

        boolean recall(Mind mind) {
            Mind row = newestRow();
            if (size == 0 || row == null) {
                return false;
            }
            mind.copyFrom(row);
            newest = newest > 0 ? newest - 1 : ROOM - 1;
            size--;
            return true;
        }

        private Mind newestRow() {
            return newest >= 0 && newest < ROOM ? before[newest] : null;
        }
    }

    /** THE LAW, its conditions as steps of a machine that needs no room but two sums and a row of bits. */
    private static final class Law {
        static final int ROOM = 12;
        static final int OF_WORDS = 0;
        static final int OF_DEEDS = 1;
        /** Steps below this one are numbers that are added to the sum. */
        static final int ADD_WORD = 1000;
        static final int ADD_DEED = 1001;
        static final int ADD_DOUBT = 1002;
        static final int ADD_NIGHT = 1003;
        static final int ADD_LEFT = 1004;
        static final int ADD_WHO = 1005;
        static final int NEXT_SUM = 1006;
        static final int IS_LESS = 1007;
        static final int IS_MORE = 1008;
        static final int IS_TRUE = 1009;
        static final int IS_SURE = 1010;
        static final int NOT = 1011;
        static final int AND = 1012;
        static final int OR = 1013;
        /** Each byte of a text makes one step at most. */
        static final int STEP_ROOM = Tape.ROOM;

        int lines = NONE;
        private int size = 0;
        private final int[] kinds = new int[ROOM];
        /** What a line adds: below 0, if it blunts. */
        private final int[] amounts = new int[ROOM];
        /** Where the steps of each line end; they begin where those of the line before end. */
        private final int[] ends = new int[ROOM];
        private final int[] steps = new int[STEP_ROOM];
        /** What a condition looks at, in the order of the steps that add it. */
        private final int[] sight = new int[NEXT_SUM - ADD_WORD];
        private boolean tellsTrue = false;

        void copyFrom(Law other) {
            lines = other.lines;
            size = other.size;
            System.arraycopy(other.kinds, 0, kinds, 0, ROOM);
            System.arraycopy(other.amounts, 0, amounts, 0, ROOM);
            System.arraycopy(other.ends, 0, ends, 0, ROOM);
            System.arraycopy(other.steps, 0, steps, 0, STEP_ROOM);
        }

        void clear() {
            lines = 0;
            size = 0;
        }

        void addStep(int step) {
            if (size >= 0 && size < STEP_ROOM) {
                steps[size] = step;
                size++;
            }
        }

        void addLine(int kind, int amount) {
            if (lines >= 0 && lines < ROOM) {
                kinds[lines] = kind;
                amounts[lines] = amount;
                ends[lines] = size;
                lines++;
            }
        }

        void lookAt(Mind mind, int word, int deed, int who, boolean isTrue) {
            sight[ADD_WORD - ADD_WORD] = word;
            sight[ADD_DEED - ADD_WORD] = deed;
            sight[ADD_DOUBT - ADD_WORD] = mind.doubt;
            sight[ADD_NIGHT - ADD_WORD] = mind.night;
            sight[ADD_LEFT - ADD_WORD] = Integer.bitCount(mind.possible);
            sight[ADD_WHO - ADD_WORD] = who;
            tellsTrue = isTrue;
        }

        /** The sum of all lines, of words or else of deeds, that hold for what was looked at. */
        int sumOf(int kind) {
            int sum = 0;
            int from = 0;
            for (int line = 0; line < lines && line < ROOM; line++) {
                if (kinds[line] == kind && holds(from, ends[line])) {
                    sum += amounts[line];
                }
                from = ends[line];
            }
            return sum;
        }

        /** The bits are a row of what is known so far, the latest lowest; a line without steps holds. */
        private boolean holds(int from, int to) {
            int bits = 1;
            int before = 0;
            int sum = 0;
            for (int i = from; i >= 0 && i < to && i < STEP_ROOM; i++) {
                int step = steps[i];
                if (step < ADD_WORD) {
                    sum += step;
                } else if (step < NEXT_SUM) {
                    sum += sight[step - ADD_WORD];
                } else if (step == NEXT_SUM) {
                    before = sum;
                    sum = 0;
                } else if (step == IS_LESS || step == IS_MORE) {
                    boolean isSo = step == IS_LESS ? before < sum : before > sum;
                    bits = bits << 1 | (isSo ? 1 : 0);
                    sum = 0;
                } else if (step == IS_TRUE) {
                    bits = bits << 1 | (tellsTrue ? 1 : 0);
                } else if (step == IS_SURE) {
                    bits = bits << 1 | (sight[ADD_LEFT - ADD_WORD] == 1 ? 1 : 0);
                } else if (step == NOT) {
                    bits ^= 1;
                } else if (step == AND) {
                    bits = bits >> 1 & (bits | ~1);
                } else {
                    bits = bits >> 1 | bits & 1;
                }
            }
            return (bits & 1) == 1;
        }
    }

    /** The tale, the law and the mind together: what a word and a deed do, and a night, to her mind or a dream of it. */
    private static final class World {
        final Tale tale = new Tale();
        final Law law = new Law();
        final Mind mind = new Mind();

        void copyFrom(World other) {
            tale.copyFrom(other.tale);
            law.copyFrom(other.law);
            mind.copyFrom(other.mind);
        }

        int stingOf(Mind her, int who, int word) {
            int trait = at(tale.tells, word);
            boolean isTrue = trait >= 0 && her.bearer >= 0 && has(at(tale.bearers, trait), her.bearer);
            law.lookAt(her, word, 0, who, isTrue);
            return Math.max(0, at(tale.sting, word) + law.sumOf(Law.OF_WORDS));
        }

        int easeOf(Mind her, int deed) {
            law.lookAt(her, 0, deed, 0, false);
            return at(tale.soothes, deed) + law.sumOf(Law.OF_DEEDS);
        }

        void speak(Mind her, int who, int word) {
            her.doubt = Math.min(TOP_DOUBT, her.doubt + stingOf(her, who, word));
            her.possible = tale.narrowed(her.possible, her.bearer, at(tale.tells, word));
            her.spoken.add(her, who, word);
            her.asked = her.asked || her.doubt >= tale.limit;
        }

        void soothe(Mind her, int deed) {
            her.doubt = Math.max(0, her.doubt - easeOf(her, deed));
        }

        private boolean canNightCome(Mind her) {
            return !her.asked && her.night < tale.year;
        }

        /** A night ahead, if one comes: all who are near speak, and the deed is told. */
        void plainNight(Mind her, int deed) {
            if (!canNightCome(her)) {
                return;
            }
            for (int who = 0; who < tale.members && !her.asked; who++) {
                if (has(her.near, who)) {
                    speak(her, who, at(her.habits, who));
                }
            }
            if (!her.asked && deed != NONE) {
                soothe(her, deed);
            }
            her.night++;
        }

        /** A night by draws: whether it came. */
        boolean drawnNight(Mind her) {
            if (!canNightCome(her)) {
                return false;
            }
            for (int who = 0; who < tale.members && !her.asked; who++) {
                if (has(her.near, who) && her.draw() % 100 < tale.talk) {
                    speak(her, who, at(her.habits, who));
                }
            }
            if (!her.asked && tale.deeds > 0) {
                soothe(her, her.draw() % tale.deeds);
            }
            her.night++;
            return true;
        }
    }

    /** What enemies can be sure of; each doubt of each night is looked at once. */
    private static final class Siege {
        private static final int UNSEEN = -1;

        private final Mind dream = new Mind();
        private final int[] sureFrom = new int[SIEGE_NIGHTS * DOUBTS];
        private final int[] sureBehind = new int[SIEGE_NIGHTS * DOUBTS];
        private int today = 0;
        private int nightCount = 0;

        int fewestNights(World world, int n) {
            open(world, n);
            return fewestFrom(world, 0, world.mind.doubt);
        }

        int opening(World world, int n) {
            open(world, n);
            int doubt = world.mind.doubt;
            int sure = fewestFrom(world, 0, doubt);
            if (sure >= NEVER || oneMore(latestBehind(world, 0, doubt)) == sure) {
                return NONE;
            }
            for (int word = 0; word < world.tale.words; word++) {
                for (int who = 0; who < world.tale.members; who++) {
                    if (isEnemyNear(world, who) && fewestWith(world, 0, doubt, who, word) == sure) {
                        return 10 * word + who;
                    }
                }
            }
            return NONE;
        }

        int bestDefence(World world, int doubt, int n) {
            open(world, n + 1);
            int found = NONE;
            int latest = fewestFrom(world, 1, doubt);
            for (int deed = 0; deed < world.tale.deeds; deed++) {
                int sure = fewestFrom(world, 1, easedOn(world, 0, doubt, deed));
                if (sure > latest) {
                    found = deed;
                    latest = sure;
                }
            }
            return found;
        }

        private void open(World world, int n) {
            dream.copyThoughtFrom(world.mind);
            today = world.mind.night;
            nightCount = n;
            for (int i = 0; i < SIEGE_NIGHTS * DOUBTS; i++) {
                sureFrom[i] = UNSEEN;
                sureBehind[i] = UNSEEN;
            }
        }

        /** The fewest nights, from this one on, by which they can be sure that she asks. */
        private int fewestFrom(World world, int night, int doubt) {
            int cell = night * DOUBTS + doubt;
            if (night >= nightCount || cell < 0 || cell >= sureFrom.length) {
                return NEVER;
            }
            if (sureFrom[cell] != UNSEEN) {
                return sureFrom[cell];
            }
            int fewest = oneMore(latestBehind(world, night, doubt));
            for (int who = 0; who < world.tale.members; who++) {
                for (int word = 0; word < world.tale.words && isEnemyNear(world, who) && fewest > 1; word++) {
                    fewest = Math.min(fewest, fewestWith(world, night, doubt, who, word));
                }
            }
            sureFrom[cell] = fewest;
            return fewest;
        }

        private int fewestWith(World world, int night, int doubt, int who, int word) {
            dream.doubt = doubt;
            dream.night = today + night;
            int raised = Math.min(TOP_DOUBT, doubt + world.stingOf(dream, who, word));
            return raised >= world.tale.limit ? 1 : oneMore(latestBehind(world, night, raised));
        }

        /** Behind the words of a night: the nights more that they need against the best deed. */
        private int latestBehind(World world, int night, int doubt) {
            int cell = night * DOUBTS + doubt;
            if (night + 1 >= nightCount || cell < 0 || cell >= sureBehind.length) {
                return NEVER;
            }
            if (sureBehind[cell] != UNSEEN) {
                return sureBehind[cell];
            }
            int latest = fewestFrom(world, night + 1, doubt);
            for (int deed = 0; deed < world.tale.deeds && latest < NEVER; deed++) {
                latest = Math.max(latest, fewestFrom(world, night + 1, easedOn(world, night, doubt, deed)));
            }
            sureBehind[cell] = latest;
            return latest;
        }

        private int easedOn(World world, int night, int doubt, int deed) {
            dream.doubt = doubt;
            dream.night = today + night;
            return Math.max(0, doubt - world.easeOf(dream, deed));
        }

        private static boolean isEnemyNear(World world, int who) {
            return at(world.tale.side, who) == 1 && has(world.mind.near, who);
        }

        private static int oneMore(int nights) {
            return Math.min(NEVER, nights + 1);
        }
    }

    /** Rows of words of one of the court: each doubt has, as bits, the sets of traits told by then. */
    private static final class Rows {
        private final Mind dream = new Mind();
        private final long[] seen = new long[DOUBTS];
        private final long[] reached = new long[DOUBTS];
        private final long[] next = new long[DOUBTS];

        int shortest(World world, int who) {
            open(world.mind);
            for (int words = 1; words <= WORDS_IN_A_ROW; words++) {
                if (oneWordMore(world, who)) {
                    return words;
                }
                System.arraycopy(next, 0, reached, 0, DOUBTS);
            }
            return NONE;
        }

        private void open(Mind mind) {
            dream.copyThoughtFrom(mind);
            for (int doubt = 0; doubt < DOUBTS; doubt++) {
                reached[doubt] = doubt == mind.doubt ? 1L : 0L;
                seen[doubt] = reached[doubt];
            }
        }

        private boolean oneWordMore(World world, int who) {
            for (int doubt = 0; doubt < DOUBTS; doubt++) {
                next[doubt] = 0L;
            }
            for (int doubt = 0; doubt < DOUBTS; doubt++) {
                long sets = reached[doubt];
                for (int told = 0; told < TRAIT_SETS && sets >>> told != 0L; told++) {
                    if ((sets >>> told & 1L) == 1L && asksFrom(world, who, doubt, told)) {
                        return true;
                    }
                }
            }
            return false;
        }

        private boolean asksFrom(World world, int who, int doubt, int told) {
            dream.doubt = doubt;
            dream.possible = world.tale.narrowedByAll(world.mind.possible, dream.bearer, told);
            for (int word = 0; word < world.tale.words; word++) {
                int raised = Math.min(TOP_DOUBT, doubt + world.stingOf(dream, who, word));
                if (raised >= world.tale.limit) {
                    return true;
                }
                reach(raised, toldWith(world, told, word));
            }
            return false;
        }

        /** A trait that tells nothing new is left out, so that fewer sets are looked at. */
        private int toldWith(World world, int told, int word) {
            int trait = at(world.tale.tells, word);
            boolean isNew = world.tale.narrowed(dream.possible, dream.bearer, trait) != dream.possible;
            return isNew && trait >= 0 ? told | 1 << trait : told;
        }

        private void reach(int doubt, int told) {
            if (doubt >= 0 && doubt < DOUBTS && (seen[doubt] >>> told & 1L) == 0L) {
                seen[doubt] |= 1L << told;
                next[doubt] |= 1L << told;
            }
        }
    }

    /** The TAPE, and the thing on it that is read now: a word, a number, another sign, or its end. */
    private static final class Tape {
        static final int ROOM = 400;
        static final int FEED = 20;
        static final int LONGEST_NUMBER = 3;
        static final int END = 0;
        static final int WORD = 1;
        static final int NUMBER = 2;
        static final int SIGN = 3;

        int length = 0;
        int kind = END;
        /** Where the thing begins: the fault, if it cannot stand there; at the end the text's length. */
        int from = 0;
        private int next = 0;
        /** Of a number; NONE, if it is too long. */
        private int value = 0;
        private final byte[] bytes = new byte[ROOM];

        boolean hasRoomForFeed() {
            return length + FEED <= ROOM;
        }

        void put(int number) {
            for (int shift = 24; shift >= 0; shift -= 8) {
                if (length >= 0 && length < ROOM) {
                    bytes[length] = (byte) (number >>> shift);
                    length++;
                }
            }
        }

        void open() {
            next = 0;
            advance();
        }

        void advance() {
            for (; next < length && byteAt(next) == ' '; next++) {
                continue;
            }
            from = next;
            kind = kindOf(byteAt(next));
            value = 0;
            if (kind == SIGN) {
                next++;
                return;
            }
            for (; next < length && kindOf(byteAt(next)) == kind; next++) {
                boolean tooLong = next - from >= LONGEST_NUMBER;
                value = tooLong ? NONE : value * 10 + byteAt(next) - '0';
            }
        }

        private int byteAt(int index) {
            return index >= 0 && index < length && index < ROOM ? bytes[index] & 255 : NONE;
        }

        private static int kindOf(int sign) {
            if (sign == NONE) {
                return END;
            }
            if (sign >= 'a' && sign <= 'z') {
                return WORD;
            }
            return sign >= '0' && sign <= '9' ? NUMBER : SIGN;
        }

        boolean isWord(String word) {
            if (kind != WORD || word.length() != next - from) {
                return false;
            }
            for (int i = 0; i < word.length(); i++) {
                if (word.charAt(i) != byteAt(from + i)) {
                    return false;
                }
            }
            return true;
        }

        boolean isSign(char sign) {
            return kind == SIGN && byteAt(from) == sign;
        }

        boolean passWord(String word) {
            boolean there = isWord(word);
            if (there) {
                advance();
            }
            return there;
        }

        boolean passSign(char sign) {
            boolean there = isSign(sign);
            if (there) {
                advance();
            }
            return there;
        }

        /** The number that stands here, if it is in its bounds; else NONE. */
        int numberIn(int low, int high) {
            return kind == NUMBER && value >= low && value <= high ? value : NONE;
        }

        /** As numberIn, and the next thing is read, if there was one. */
        int passNumber(int low, int high) {
            int number = numberIn(low, high);
            if (number != NONE) {
                advance();
            }
            return number;
        }

        /** The letters a to f that stand here, as bits; else NONE, and they stay the thing that is read. */
        int passLetters() {
            if (kind != WORD) {
                return NONE;
            }
            int letters = 0;
            for (int i = from; i < next; i++) {
                int letter = byteAt(i) - 'a';
                if (letter >= TRAITS || has(letters, letter)) {
                    return NONE;
                }
                letters |= 1 << letter;
            }
            advance();
            return letters;
        }

        int passLetter() {
            int letter = byteAt(from) - 'a';
            if (kind != WORD || next - from != 1 || letter >= TRAITS) {
                return NONE;
            }
            advance();
            return letter;
        }
    }

    /** Reads a text of THE STORY into a draft; where it answers false, the tape stands at the wrong thing. */
    private static final class StoryReader {
        private static final int LINES = 14;

        static boolean reads(Tape tape, World draft) {
            tape.open();
            if (tape.kind == Tape.END) {
                return true;
            }
            for (int line = 0; line < LINES; line++) {
                if (!readsLine(tape, draft)) {
                    return false;
                }
                if (tape.kind == Tape.END) {
                    return true;
                }
                if (!tape.passSign(';')) {
                    return false;
                }
            }
            return false;
        }

        private static boolean readsLine(Tape tape, World draft) {
            if (tape.isWord("name")) {
                return readsName(tape, draft);
            }
            if (tape.isWord("word")) {
                return readsWord(tape, draft.tale);
            }
            if (tape.isWord("deed")) {
                return readsDeed(tape, draft.tale);
            }
            if (tape.isWord("friend")) {
                return readsMember(tape, draft, 0);
            }
            if (tape.isWord("enemy")) {
                return readsMember(tape, draft, 1);
            }
            if (tape.isWord("duty")) {
                return readsDuty(tape, draft.tale);
            }
            return readsSetting(tape, draft);
        }

        private static boolean readsName(Tape tape, World draft) {
            if (draft.tale.names >= NAME_ROOM) {
                return false;
            }
            tape.advance();
            int traits = tape.passLetters();
            if (traits == NONE || !tape.passWord("credit")) {
                return false;
            }
            int credit = tape.passNumber(1, 9);
            if (credit == NONE) {
                return false;
            }
            draft.mind.possible |= 1 << draft.tale.names;
            draft.mind.bearer = Math.max(0, draft.mind.bearer);
            draft.tale.addName(traits, credit);
            return true;
        }

        private static boolean readsWord(Tape tape, Tale tale) {
            if (tale.words >= WORD_ROOM) {
                return false;
            }
            tape.advance();
            int sting = tape.passNumber(0, 20);
            if (sting == NONE) {
                return false;
            }
            int trait = NONE;
            if (tape.passWord("of")) {
                trait = tape.passLetter();
                if (trait == NONE) {
                    return false;
                }
            }
            tale.addWord(sting, trait);
            return true;
        }

        private static boolean readsDeed(Tape tape, Tale tale) {
            if (tale.deeds >= DEED_ROOM) {
                return false;
            }
            tape.advance();
            int soothes = tape.passNumber(0, 20);
            if (soothes == NONE || !tape.passWord("costs")) {
                return false;
            }
            int costs = tape.passNumber(0, 9);
            if (costs == NONE) {
                return false;
            }
            tale.addDeed(soothes, costs);
            return true;
        }

        private static boolean readsMember(Tape tape, World draft, int side) {
            int who = draft.tale.members;
            if (who >= COURT_ROOM) {
                return false;
            }
            tape.advance();
            int word = tape.passNumber(0, draft.tale.words - 1);
            if (word == NONE) {
                return false;
            }
            draft.mind.near |= 1 << who;
            draft.mind.setHabit(who, word);
            draft.tale.addMember(side);
            return true;
        }

        private static boolean readsDuty(Tape tape, Tale tale) {
            if (tale.duties >= DUTY_ROOM) {
                return false;
            }
            tape.advance();
            int seals = tape.passLetters();
            if (seals == NONE) {
                return false;
            }
            tale.addDuty(seals);
            return true;
        }

        /** A line of a word and one number. */
        private static boolean readsSetting(Tape tape, World draft) {
            int number = NONE;
            if (tape.passWord("limit")) {
                number = tape.passNumber(1, 99);
                draft.tale.limit = number;
            } else if (tape.passWord("year")) {
                number = tape.passNumber(1, 400);
                draft.tale.year = number;
            } else if (tape.passWord("talk")) {
                number = tape.passNumber(0, 100);
                draft.tale.talk = number;
            } else if (tape.passWord("doubt")) {
                number = tape.passNumber(0, TOP_DOUBT);
                draft.mind.doubt = number;
            } else if (tape.passWord("his")) {
                number = tape.passNumber(0, draft.tale.names - 1);
                if (number != NONE) {
                    draft.mind.tellBearer(number, draft.tale.names);
                }
            }
            return number != NONE;
        }
    }

    /**
     * Reads a text of THE LAW into a draft, thing by thing, with the thing that must come next as its state; where
     * it answers false, the tape stands at the wrong thing.
     */
    private static final class LawReader {
        private static final int DEEPEST = 6;
        /** An or and an and may wait at each depth, and what opens the depth. */
        private static final int WAITING_ROOM = 3 * DEEPEST + 2;
        /** Waits, among the steps, for the sign that closes it. */
        private static final int OPEN = 2000;

        private static final int LINE = 0;
        private static final int AMOUNT = 1;
        private static final int BEHIND_AMOUNT = 2;
        private static final int ATOM = 3;
        private static final int LEFT_PART = 4;
        private static final int BEHIND_LEFT_PART = 5;
        private static final int RIGHT_PART = 6;
        private static final int BEHIND_RIGHT_PART = 7;
        private static final int BEHIND_ATOM = 8;

        private int state = LINE;
        private int kind = Law.OF_WORDS;
        private int signOfAmount = 1;
        private int amount = 0;
        private int comparison = Law.IS_LESS;
        private int depth = 0;
        private int waitingCount = 0;
        private final int[] waiting = new int[WAITING_ROOM];

        boolean reads(Tape tape, Law draft) {
            draft.clear();
            state = LINE;
            depth = 0;
            waitingCount = 0;
            tape.open();
            if (tape.kind == Tape.END) {
                return true;
            }
            for (int things = 0; things < Tape.ROOM && tape.kind != Tape.END; things++) {
                if (!takes(tape, draft)) {
                    return false;
                }
                tape.advance();
            }
            return endsLine(draft);
        }

        private boolean takes(Tape tape, Law draft) {
            switch (state) {
                case LINE:
                    return draft.lines < Law.ROOM && takesKind(tape);
                case AMOUNT:
                    amount = tape.numberIn(0, 20);
                    state = BEHIND_AMOUNT;
                    return amount != NONE;
                case BEHIND_AMOUNT:
                    if (tape.isWord("if")) {
                        state = ATOM;
                        return true;
                    }
                    return tape.isSign(';') && endsLine(draft);
                case ATOM:
                    return takesAtom(tape, draft) || takesPart(tape, draft);
                case LEFT_PART:
                case RIGHT_PART:
                    return takesPart(tape, draft);
                case BEHIND_LEFT_PART:
                    return takesComparison(tape, draft);
                case BEHIND_RIGHT_PART:
                    if (tape.isSign('+')) {
                        state = RIGHT_PART;
                        return true;
                    }
                    endAtom(draft);
                    return takesJoint(tape, draft);
                default:
                    return takesJoint(tape, draft);
            }
        }

        private boolean takesKind(Tape tape) {
            boolean blunts = tape.isWord("blunt");
            boolean soothes = tape.isWord("soothe");
            kind = soothes ? Law.OF_DEEDS : Law.OF_WORDS;
            signOfAmount = blunts ? -1 : 1;
            state = AMOUNT;
            return blunts || soothes || tape.isWord("sting");
        }

        /** All that an atom may begin with but a part of a sum. */
        private boolean takesAtom(Tape tape, Law draft) {
            boolean isNot = tape.isWord("not");
            if (isNot || tape.isSign('(')) {
                pushWaiting(isNot ? Law.NOT : OPEN);
                depth++;
                return depth <= DEEPEST;
            }
            boolean isTrue = tape.isWord("true");
            if (isTrue || tape.isWord("sure")) {
                draft.addStep(isTrue ? Law.IS_TRUE : Law.IS_SURE);
                endAtom(draft);
                return true;
            }
            return false;
        }

        private boolean takesPart(Tape tape, Law draft) {
            int number = tape.numberIn(0, Law.ADD_WORD - 1);
            int step = number == NONE ? partAt(tape) : number;
            if (step == NONE) {
                return false;
            }
            draft.addStep(step);
            state = state == RIGHT_PART ? BEHIND_RIGHT_PART : BEHIND_LEFT_PART;
            return true;
        }

        private static int partAt(Tape tape) {
            if (tape.isWord("word")) {
                return Law.ADD_WORD;
            }
            if (tape.isWord("deed")) {
                return Law.ADD_DEED;
            }
            if (tape.isWord("doubt")) {
                return Law.ADD_DOUBT;
            }
            if (tape.isWord("night")) {
                return Law.ADD_NIGHT;
            }
            if (tape.isWord("left")) {
                return Law.ADD_LEFT;
            }
            return tape.isWord("who") ? Law.ADD_WHO : NONE;
        }

        private boolean takesComparison(Tape tape, Law draft) {
            if (tape.isSign('+')) {
                state = LEFT_PART;
                return true;
            }
            boolean isLess = tape.isSign('<');
            comparison = isLess ? Law.IS_LESS : Law.IS_MORE;
            draft.addStep(Law.NEXT_SUM);
            state = RIGHT_PART;
            return isLess || tape.isSign('>');
        }

        /** What may stand behind an atom: a word that joins it to the next, or a sign that closes. */
        private boolean takesJoint(Tape tape, Law draft) {
            if (tape.isSign(';')) {
                return endsLine(draft);
            }
            boolean isAnd = tape.isWord("and");
            release(draft, Law.AND);
            if (!isAnd) {
                release(draft, Law.OR);
            }
            if (isAnd || tape.isWord("or")) {
                pushWaiting(isAnd ? Law.AND : Law.OR);
                state = ATOM;
                return true;
            }
            boolean closes = tape.isSign(')') && topWaiting() == OPEN;
            if (closes) {
                waitingCount--;
                depth--;
                endAtom(draft);
            }
            return closes;
        }

        /** An and binds more than an or, so at each depth at most one of each waits, the and on top. */
        private void release(Law draft, int step) {
            if (topWaiting() == step) {
                draft.addStep(step);
                waitingCount--;
            }
        }

        private void endAtom(Law draft) {
            if (state == BEHIND_RIGHT_PART) {
                draft.addStep(comparison);
            }
            for (int i = 0; i < DEEPEST && topWaiting() == Law.NOT; i++) {
                draft.addStep(Law.NOT);
                waitingCount--;
                depth--;
            }
            state = BEHIND_ATOM;
        }

        private boolean endsLine(Law draft) {
            if (state == BEHIND_RIGHT_PART) {
                endAtom(draft);
            }
            if (state != BEHIND_AMOUNT && state != BEHIND_ATOM || depth > 0) {
                return false;
            }
            release(draft, Law.AND);
            release(draft, Law.OR);
            draft.addLine(kind, signOfAmount * amount);
            state = LINE;
            return true;
        }

        private void pushWaiting(int step) {
            if (waitingCount >= 0 && waitingCount < WAITING_ROOM) {
                waiting[waitingCount] = step;
                waitingCount++;
            }
        }

        private int topWaiting() {
            boolean isOne = waitingCount > 0 && waitingCount <= WAITING_ROOM;
            return isOne ? waiting[waitingCount - 1] : NONE;
        }
    }
}
