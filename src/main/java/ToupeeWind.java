/** A parade, its walkers and the wind that they are on terms with. */
public final class ToupeeWind {
    public static final int NONE = -6, UNKNOWN = -1, OUTSIDE = -2, STATE = -3, FULL = -4, NO = -5;
    public static final long LOST = -1000000000000000000L;

    private static final int CELLS = 12;
    private static final int LAST_CELL = CELLS - 1;
    private static final int WALKERS = 6;
    private static final int HOURS = 8;
    private static final int LAST_DAY = 99;
    private static final int GREATEST_FORCE = 9;
    private static final int MOST_OWED = 9;
    private static final int DEBT_THAT_ENDS_PEACE = 4;
    private static final int KINDS_OF_GOODS = 3;
    private static final int MOST_GOODS = 9;
    private static final int GREATEST_LIKING = 3;
    private static final int SIGNS = 60;
    private static final int SIGHTS = 8;
    private static final int MOST_TRIED = 3;
    private static final int MOST_BOWLS = 99;
    private static final int MOST_TAKEN = 4;
    private static final int IMAGES = 2;

    // The wind's ways.
    private static final int UPWARD = 0;
    private static final int DOWNWARD = 1;

    // The kinds of acts.
    private static final int NO_KIND = -1;
    private static final int GO_UP = 0;
    private static final int GO_DOWN = 1;
    private static final int STATE_HOUR = 2;
    private static final int PAY = 3;
    private static final int PUT_ON = 4;
    private static final int HOLD = 5;
    private static final int LET_GO = 6;
    private static final int RISE = 7;
    private static final int PASS_HOUR = 8;

    // What a text may go on with: a new act, what a walker does, whom he holds.
    private static final int AT_ACT = 0;
    private static final int AT_DEED = 1;
    private static final int AT_OTHER = 2;
    private static final int NOWHERE = -1;

    private final Town town = new Town();
    private final Pad pad = new Pad();
    private final Sights sights = new Sights();
    /** What was not kept is null. */
    private final Image[] images = new Image[IMAGES];
    private final Trial trial = new Trial();
    private final Passage passage = new Passage();
    private final Shelter shelter = new Shelter();
    private final Payment payment = new Payment();
    private final Match match = new Match();
    private final Chance chance = new Chance();
    private final Wind forecast = new Wind();

    public ToupeeWind() {
    }

    // ---- 1 walkers, the wind, days

    public int walker(int walker, int cell, int hours, int owes) {
        if (!isWalker(walker) || !isCell(cell)) {
            return UNKNOWN;
        }
        if (!within(hours, 0, (1 << HOURS) - 1) || !within(owes, 0, MOST_OWED)) {
            return OUTSIDE;
        }
        int before = 1000 * town.cell[walker] + town.owes[walker];
        town.place(walker, cell, hours, owes);
        return before;
    }

    public int purse(int walker, int gates, int flags, int sheets) {
        if (!isWalker(walker)) {
            return UNKNOWN;
        }
        if (!allWithin(gates, flags, sheets, MOST_GOODS)) {
            return OUTSIDE;
        }
        int before = town.purseOf(walker);
        town.fillPurse(walker, gates, flags, sheets);
        return before;
    }

    public int likes(int gate, int flag, int sheet) {
        if (!allWithin(gate, flag, sheet, GREATEST_LIKING)) {
            return OUTSIDE;
        }
        int before = code(town.liking[0], town.liking[1], town.liking[2]);
        town.liking[0] = gate;
        town.liking[1] = flag;
        town.liking[2] = sheet;
        return before;
    }

    public int wind(int cell, int way, int force) {
        if (!isCell(cell)) {
            return UNKNOWN;
        }
        if (!within(way, UPWARD, DOWNWARD) || !within(force, 1, GREATEST_FORCE)) {
            return OUTSIDE;
        }
        int before = code(town.air.cell, town.air.way, town.air.force);
        town.air.put(cell, way, force);
        return before;
    }

    public int say(int sign) {
        if (!within(sign, 33, 126)) {
            return OUTSIDE;
        }
        if (pad.size >= SIGNS) {
            return FULL;
        }
        pad.write(sign);
        return pad.size;
    }

    public int wipe() {
        return pad.clear();
    }

    public int fault() {
        return pad.faultyPlace();
    }

    // ---- 2 days

    public int judge(int what) {
        if (!within(what, 0, 1)) {
            return OUTSIDE;
        }
        if (pad.faultyPlace() != NONE) {
            return NO;
        }
        trial.read(pad, town);
        return what == 0 ? trial.badAct : trial.reason;
    }

    public int done() {
        if (!textCanBe()) {
            return NO;
        }
        town.become(trial.town);
        pad.clear();
        return trial.acts;
    }

    public int behind(int walker, int what) {
        if (!isWalker(walker)) {
            return UNKNOWN;
        }
        if (!within(what, 0, 7)) {
            return OUTSIDE;
        }
        return textCanBe() ? trial.town.ofWalker(walker, what) : NO;
    }

    public int then(int what) {
        if (!within(what, 0, 8)) {
            return OUTSIDE;
        }
        if (!textCanBe()) {
            return NO;
        }
        switch (what) {
            case 6: return trial.losses;
            case 7: return trial.firstAct;
            case 8: return trial.firstLoser;
            default: return trial.town.ofAll(what);
        }
    }

    // ---- 3 winds, passes, arms, payments

    public int when(int cell) {
        if (!isCell(cell)) {
            return UNKNOWN;
        }
        forecast.become(town.air);
        int found = 0;
        for (int later = 1; later <= HOURS; later++) {
            if (has(forecast.blowAnHour(), cell)) {
                found |= 1 << ((town.hour + later) % HOURS);
            }
        }
        return found;
    }

    public int pass(int from, int to, int what) {
        if (!isCell(from) || !isCell(to)) {
            return UNKNOWN;
        }
        if (!within(what, 0, 1)) {
            return OUTSIDE;
        }
        forecast.become(town.air);
        passage.seek(forecast, from, to);
        return what == 0 ? passage.hours : passage.first;
    }

    public int arms(int d, int what) {
        if (!within(d, 0, LAST_CELL) || !within(what, 0, 1)) {
            return OUTSIDE;
        }
        int sheltered = shelter.most(town, d);
        return what == 0 ? Integer.bitCount(sheltered) : sheltered;
    }

    public int paid(int walker, int what) {
        if (!isWalker(walker)) {
            return UNKNOWN;
        }
        if (!within(what, 0, 1)) {
            return OUTSIDE;
        }
        payment.seek(town, walker);
        return what == 0 ? payment.goods : payment.which;
    }

    // ---- 4 likings, bowls, gales

    public int seen(int d, int i, int j, int k, boolean enough) {
        if (!within(d, 1, MOST_OWED) || !allWithin(i, j, k, MOST_TRIED)) {
            return OUTSIDE;
        }
        if (sights.count >= SIGHTS) {
            return FULL;
        }
        sights.add(d, i, j, k, enough);
        return sights.count;
    }

    public int forget() {
        int before = sights.count;
        sights.clear();
        return before;
    }

    public int likings(int i) {
        return i == -1 ? Long.bitCount(sights.fitting) : sights.fittingAt(i);
    }

    public int ask(int what) {
        if (!within(what, 0, 1)) {
            return OUTSIDE;
        }
        if (sights.fitting == 0L) {
            return NONE;
        }
        sights.seekTrial();
        return what == 0 ? sights.bestTrial : sights.mostLeft;
    }

    public int bowls(int n, int z, int what) {
        if (!within(n, 0, MOST_BOWLS) || !within(z, 0, MOST_TAKEN) || !within(what, 0, 1)) {
            return OUTSIDE;
        }
        int take = match.winningTake(n, z);
        if (what == 0) {
            return take == NONE ? 0 : 1;
        }
        return take;
    }

    public long gale(int cell, int what, int part) {
        if (!isCell(cell)) {
            return LOST + UNKNOWN;
        }
        if (!within(what, 0, 1) || !within(part, 0, 1)) {
            return LOST + OUTSIDE;
        }
        chance.count(cell);
        int upper = what == 0 ? chance.reaching : chance.reached;
        int shared = commonDivisor(upper, chance.cases);
        int number = part == 0 ? upper : chance.cases;
        return shared > 0 ? number / shared : number;
    }

    public int year(int seed, int m, int what) {
        if (!within(seed, 0, 9999) || !within(m, 1, 99) || !within(what, 0, 2)) {
            return OUTSIDE;
        }
        trial.draw(seed, m, town);
        switch (what) {
            case 0: return trial.town.bareHeads();
            case 1: return trial.town.owedByAll();
            default: return trial.losses;
        }
    }

    public int image(int n) {
        if (!within(n, 0, IMAGES - 1)) {
            return OUTSIDE;
        }
        if (images[n] == null) {
            images[n] = new Image();
        }
        images[n].town.become(town);
        images[n].sights.become(sights);
        return 1;
    }

    public int restore(int n) {
        if (!within(n, 0, IMAGES - 1)) {
            return OUTSIDE;
        }
        if (images[n] == null) {
            return STATE;
        }
        town.become(images[n].town);
        sights.become(images[n].sights);
        return 1;
    }

    public int told(int what) {
        if (what >= 10) {
            return toldOfWalker(what / 10, what % 10);
        }
        if (within(what, 1, 6)) {
            return town.ofAll(what - 1);
        }
        switch (what) {
            case 0: return pad.size;
            case 7: return town.bareHeads();
            case 8: return sights.count;
            default: return OUTSIDE;
        }
    }

    private int toldOfWalker(int row, int walker) {
        if (!isWalker(walker) || !within(row, 1, 6)) {
            return OUTSIDE;
        }
        return row == 6 ? town.purseOf(walker) : town.ofWalker(walker, row - 1);
    }

    /** Tries the text on the pad; where it can be, the trial's town is as all is behind it. */
    private boolean textCanBe() {
        if (pad.faultyPlace() != NONE) {
            return false;
        }
        trial.read(pad, town);
        return trial.badAct == NONE;
    }

    private static boolean within(int number, int least, int greatest) {
        return number >= least && number <= greatest;
    }

    private static boolean allWithin(int first, int second, int third, int greatest) {
        return within(first, 0, greatest) && within(second, 0, greatest) && within(third, 0, greatest);
    }

    private static boolean isWalker(int number) {
        return within(number, 0, WALKERS - 1);
    }

    private static boolean isCell(int number) {
        return within(number, 0, LAST_CELL);
    }

    private static boolean has(int set, int member) {
        return (set >> member & 1) != 0;
    }

    private static int code(int hundreds, int tens, int ones) {
        return 100 * hundreds + 10 * tens + ones;
    }

    private static int commonDivisor(int one, int other) {
        int larger = one;
        int smaller = other;
        // Each turn at least halves the product, so that 64 turns are more than any two ints need.
        for (int turn = 0; turn < 64 && smaller != 0; turn++) {
            int rest = larger % smaller;
            larger = smaller;
            smaller = rest;
        }
        return larger;
    }

    /** Where the wind is, which way it goes, and how many cells an hour. */
    private static final class Wind {
        int cell = 0;
        int way = UPWARD;
        int force = 1;

        void put(int newCell, int newWay, int newForce) {
            cell = newCell;
            way = newWay;
            force = newForce;
        }

        void become(Wind other) {
            put(other.cell, other.way, other.force);
        }

        boolean atEnd() {
            return cell == (way == UPWARD ? LAST_CELL : 0);
        }

        int nextCell() {
            return way == UPWARD ? cell + 1 : cell - 1;
        }

        void step() {
            if (atEnd()) {
                way = way == UPWARD ? DOWNWARD : UPWARD;
            }
            cell = nextCell();
        }

        /** Where that lies which it takes off on its cell. */
        int landing() {
            return atEnd() ? cell : nextCell();
        }

        /** Goes on for an hour: the cells that it comes to, as bits. */
        int blowAnHour() {
            int reached = 0;
            for (int turn = 0; turn < force; turn++) {
                step();
                reached |= 1 << cell;
            }
            return reached;
        }
    }

    /** All that days change: the walkers, the wind, its likings, the time. */
    private static final class Town {
        final Wind air = new Wind();
        final int[] cell = new int[WALKERS];
        final int[] hours = new int[WALKERS];
        final int[] owes = new int[WALKERS];
        final int[] holds = new int[WALKERS];
        final int[] lies = new int[WALKERS];
        final int[] goods = new int[WALKERS * KINDS_OF_GOODS];
        final int[] liking = new int[KINDS_OF_GOODS];
        int hour = 0;
        int day = 0;

        Town() {
            for (int walker = 0; walker < WALKERS; walker++) {
                cell[walker] = walker;
                holds[walker] = NONE;
                lies[walker] = NONE;
            }
            for (int kind = 0; kind < WALKERS * KINDS_OF_GOODS; kind++) {
                goods[kind] = 2;
            }
            for (int kind = 0; kind < KINDS_OF_GOODS; kind++) {
                liking[kind] = 1;
            }
        }

        void become(Town other) {
            air.become(other.air);
            System.arraycopy(other.cell, 0, cell, 0, WALKERS);
            System.arraycopy(other.hours, 0, hours, 0, WALKERS);
            System.arraycopy(other.owes, 0, owes, 0, WALKERS);
            System.arraycopy(other.holds, 0, holds, 0, WALKERS);
            System.arraycopy(other.lies, 0, lies, 0, WALKERS);
            System.arraycopy(other.goods, 0, goods, 0, WALKERS * KINDS_OF_GOODS);
            System.arraycopy(other.liking, 0, liking, 0, KINDS_OF_GOODS);
            hour = other.hour;
            day = other.day;
        }

        void place(int walker, int newCell, int newHours, int newOwes) {
            cell[walker] = newCell;
            hours[walker] = newHours;
            owes[walker] = newOwes;
            lies[walker] = NONE;
            holds[walker] = NONE;
            for (int other = 0; other < WALKERS; other++) {
                if (holds[other] == walker) {
                    holds[other] = NONE;
                }
            }
        }

        int goodsOf(int walker, int kind) {
            return goods[walker * KINDS_OF_GOODS + kind];
        }

        void fillPurse(int walker, int gates, int flags, int sheets) {
            goods[walker * KINDS_OF_GOODS] = gates;
            goods[walker * KINDS_OF_GOODS + 1] = flags;
            goods[walker * KINDS_OF_GOODS + 2] = sheets;
        }

        int purseOf(int walker) {
            return code(goodsOf(walker, 0), goodsOf(walker, 1), goodsOf(walker, 2));
        }

        int ofWalker(int walker, int what) {
            switch (what) {
                case 0: return cell[walker];
                case 1: return hours[walker];
                case 2: return owes[walker];
                case 3: return holds[walker];
                case 4: return lies[walker];
                case 5: return goodsOf(walker, 0);
                case 6: return goodsOf(walker, 1);
                default: return goodsOf(walker, 2);
            }
        }

        int ofAll(int what) {
            switch (what) {
                case 0: return air.cell;
                case 1: return air.way;
                case 2: return air.force;
                case 3: return hour;
                case 4: return day;
                default: return hushed();
            }
        }

        boolean atPeace(int walker) {
            return has(hours[walker], hour) && owes[walker] < DEBT_THAT_ENDS_PEACE;
        }

        int hushed() {
            int found = 0;
            for (int walker = 0; walker < WALKERS; walker++) {
                if (atPeace(walker)) {
                    found |= 1 << walker;
                    if (holds[walker] != NONE) {
                        found |= 1 << holds[walker];
                    }
                }
            }
            return found;
        }

        int bareHeads() {
            int found = 0;
            for (int walker = 0; walker < WALKERS; walker++) {
                if (lies[walker] != NONE) {
                    found |= 1 << walker;
                }
            }
            return found;
        }

        int owedByAll() {
            int sum = 0;
            for (int walker = 0; walker < WALKERS; walker++) {
                sum += owes[walker];
            }
            return sum;
        }

        boolean isHeld(int walker) {
            for (int other = 0; other < WALKERS; other++) {
                if (holds[other] == walker) {
                    return true;
                }
            }
            return false;
        }

        /** The least reason why an act can not be, 0 if it can; of holding, which is the other one. */
        int obstacle(int walker, int kind, int which) {
            switch (kind) {
                case GO_UP: return obstacleToGo(walker, LAST_CELL);
                case GO_DOWN: return obstacleToGo(walker, 0);
                case STATE_HOUR: return owes[walker] >= DEBT_THAT_ENDS_PEACE ? 3 : 0;
                case PAY: return obstacleToPay(walker, which);
                case PUT_ON: return obstacleToPutOn(walker);
                case HOLD: return obstacleToHold(walker, which);
                case LET_GO: return holds[walker] == NONE ? 8 : 0;
                case RISE: return air.force >= GREATEST_FORCE ? 9 : 0;
                default: return hour == HOURS - 1 && day >= LAST_DAY ? 9 : 0;
            }
        }

        int obstacleToGo(int walker, int end) {
            if (isHeld(walker)) {
                return 1;
            }
            return cell[walker] == end ? 2 : 0;
        }

        int obstacleToPay(int walker, int kind) {
            if (goodsOf(walker, kind) == 0) {
                return 4;
            }
            return owes[walker] == 0 ? 5 : 0;
        }

        int obstacleToPutOn(int walker) {
            if (isHeld(walker)) {
                return 1;
            }
            // One that is on lies on no cell, so that it is never on his.
            return lies[walker] != cell[walker] ? 6 : 0;
        }

        int obstacleToHold(int walker, int other) {
            if (isHeld(walker)) {
                return 1;
            }
            boolean near = walker != other && cell[walker] == cell[other];
            boolean free = holds[walker] == NONE && holds[other] == NONE && !isHeld(other);
            return near && free ? 0 : 7;
        }

        /** Does an act that can be; an hour is not among these, as others must hear who lost what. */
        void perform(int walker, int kind, int which) {
            switch (kind) {
                case GO_UP: move(walker, 1); break;
                case GO_DOWN: move(walker, -1); break;
                case STATE_HOUR: hours[walker] ^= 1 << which; break;
                case PAY: pay(walker, which); break;
                case PUT_ON: lies[walker] = NONE; break;
                case HOLD: holds[walker] = which; break;
                case LET_GO: holds[walker] = NONE; break;
                case RISE: air.force++; break;
                default: break;
            }
        }

        void move(int walker, int by) {
            cell[walker] += by;
            if (holds[walker] != NONE) {
                cell[holds[walker]] += by;
            }
        }

        void pay(int walker, int kind) {
            goods[walker * KINDS_OF_GOODS + kind]--;
            owes[walker] = Math.max(0, owes[walker] - liking[kind]);
        }

        void passTime() {
            hour++;
            if (hour == HOURS) {
                hour = 0;
                day++;
                chargeAll();
            }
        }

        void chargeAll() {
            for (int walker = 0; walker < WALKERS; walker++) {
                int due = owes[walker] + Integer.bitCount(hours[walker]) / 2;
                owes[walker] = Math.min(due, MOST_OWED);
            }
        }
    }

    /** The text: its signs, and what may follow what. */
    private static final class Pad {
        final int[] signs = new int[SIGNS];
        int size = 0;

        void write(int sign) {
            if (size < SIGNS) {
                signs[size] = sign;
                size++;
            }
        }

        int clear() {
            int before = size;
            size = 0;
            return before;
        }

        int faultyPlace() {
            int at = AT_ACT;
            for (int place = 0; place < size; place++) {
                at = after(at, signs[place]);
                if (at == NOWHERE) {
                    return place;
                }
            }
            return at == AT_ACT ? NONE : size;
        }

        /** What the text may go on with behind a sign; NOWHERE, if the sign can not stand there. */
        static int after(int at, int sign) {
            switch (at) {
                case AT_ACT:
                    if (sign == '!' || sign == '.') {
                        return AT_ACT;
                    }
                    return isLetter(sign) ? AT_DEED : NOWHERE;
                case AT_DEED:
                    if (sign == '&') {
                        return AT_OTHER;
                    }
                    return deed(sign) == NO_KIND ? NOWHERE : AT_ACT;
                default:
                    return isLetter(sign) ? AT_ACT : NOWHERE;
            }
        }

        static boolean isLetter(int sign) {
            return isWalker(sign - 'A');
        }

        static boolean isHour(int sign) {
            return within(sign - '0', 0, HOURS - 1);
        }

        /** What a sign alone, behind a walker's letter, tells that he does. */
        static int deed(int sign) {
            if (isHour(sign)) {
                return STATE_HOUR;
            }
            switch (sign) {
                case '>': return GO_UP;
                case '<': return GO_DOWN;
                case 'g': case 'f': case 's': return PAY;
                case '^': return PUT_ON;
                case '|': return LET_GO;
                default: return NO_KIND;
            }
        }

        /** The kind of the act that a sign ends. */
        static int kind(int at, int sign) {
            if (at == AT_ACT) {
                return sign == '!' ? RISE : PASS_HOUR;
            }
            return at == AT_OTHER ? HOLD : deed(sign);
        }

        /** Which hour, which goods, or which other walker the act that a sign ends is about. */
        static int object(int at, int sign) {
            if (at == AT_OTHER) {
                return sign - 'A';
            }
            if (isHour(sign)) {
                return sign - '0';
            }
            switch (sign) {
                case 'f': return 1;
                case 's': return 2;
                default: return 0;
            }
        }
    }

    /** Acts, tried on a town of their own, so that nothing is done in fact. */
    private static final class Trial {
        final Town town = new Town();
        int acts;
        int badAct;
        int reason;
        int losses;
        int firstAct;
        int firstLoser;

        void begin(Town from) {
            town.become(from);
            acts = 0;
            badAct = NONE;
            reason = NONE;
            losses = 0;
            firstAct = NONE;
            firstLoser = NONE;
        }

        /** Tries a text without a fault up to the first act that can not be. */
        void read(Pad pad, Town from) {
            begin(from);
            int at = AT_ACT;
            int walker = 0;
            for (int place = 0; place < pad.size && badAct == NONE; place++) {
                int sign = pad.signs[place];
                int next = Pad.after(at, sign);
                if (next == AT_DEED) {
                    walker = sign - 'A';
                } else if (next == AT_ACT) {
                    note(tryAct(walker, Pad.kind(at, sign), Pad.object(at, sign)));
                }
                at = next;
            }
        }

        void note(int obstacle) {
            if (obstacle == 0) {
                acts++;
            } else {
                badAct = acts;
                reason = obstacle;
            }
        }

        /** Does an act if it can be; else tells the reason, and does nothing. */
        int tryAct(int walker, int kind, int which) {
            int obstacle = town.obstacle(walker, kind, which);
            if (obstacle != 0) {
                return obstacle;
            }
            if (kind == PASS_HOUR) {
                passAnHour();
            } else {
                town.perform(walker, kind, which);
            }
            return 0;
        }

        void passAnHour() {
            town.passTime();
            // Nobody's hush and nobody's cell change within the hour: who can lose his is known ahead of it.
            int exposed = ((1 << WALKERS) - 1) & ~(town.hushed() | town.bareHeads());
            for (int turn = 0; turn < town.air.force; turn++) {
                town.air.step();
                if (exposed != 0) {
                    exposed = blowOn(exposed);
                }
            }
        }

        /** Those of the exposed who are on the wind's cell lose theirs: who is still exposed. */
        int blowOn(int exposed) {
            int left = exposed;
            for (int walker = 0; walker < WALKERS; walker++) {
                if (has(exposed, walker) && town.cell[walker] == town.air.cell) {
                    town.lies[walker] = town.air.landing();
                    left &= ~(1 << walker);
                    noteLoss(walker);
                }
            }
            return left;
        }

        void noteLoss(int walker) {
            losses++;
            if (firstLoser == NONE) {
                firstAct = acts;
                firstLoser = walker;
            }
        }

        /** Tries m acts that are drawn by a seed; those that can not be are left out. */
        void draw(int seed, int m, Town from) {
            begin(from);
            int x = seed;
            for (int turn = 0; turn < m; turn++) {
                x = (75 * x + 74) % 65537;
                tryDrawn(x % 6, x / 6 % 8, x / 48);
            }
        }

        void tryDrawn(int walker, int kind, int z) {
            switch (kind) {
                case 0: tryAct(walker, GO_UP, 0); break;
                case 1: tryAct(walker, GO_DOWN, 0); break;
                case 2: tryAct(walker, STATE_HOUR, z % HOURS); break;
                case 3: tryAct(walker, PAY, z % KINDS_OF_GOODS); break;
                case 4: tryAct(walker, PUT_ON, 0); break;
                case 5: tryAct(walker, z / 6 % 2 == 0 ? HOLD : LET_GO, z % WALKERS); break;
                case 6: tryAct(walker, z % 4 == 0 ? RISE : PASS_HOUR, 0); break;
                default: tryAct(walker, PASS_HOUR, 0); break;
            }
        }
    }

    /** The fewest hours from a cell to a cell for one whom the wind would blow on. */
    private static final class Passage {
        // The wind has 24 places and ways, he has 12 cells: no shortest way meets the same of both twice.
        static final int LONGEST = 24 * CELLS;
        static final int ALL_CELLS = (1 << CELLS) - 1;

        /** By what he did first (stayed, went up, went down): the cells where he can be by now. */
        final int[] where = new int[3];
        int hours;
        int first;

        void seek(Wind wind, int from, int to) {
            hours = from == to ? 0 : NONE;
            first = NONE;
            where[0] = 1 << from;
            where[1] = 1 << from + 1;
            where[2] = 1 << from >> 1;
            for (int hour = 1; hour <= LONGEST && hours == NONE; hour++) {
                int calm = ALL_CELLS & ~wind.blowAnHour();
                for (int start = 0; start < 3; start++) {
                    int reachable = hour == 1 ? where[start] : spread(where[start]);
                    where[start] = reachable & calm;
                }
                lookFor(to, hour);
            }
        }

        static int spread(int cells) {
            return cells | cells << 1 | cells >> 1;
        }

        void lookFor(int to, int hour) {
            for (int start = 0; start < 3 && hours == NONE; start++) {
                if (has(where[start], to)) {
                    hours = hour;
                    first = start;
                }
            }
        }
    }

    /** Whom those at peace can hold. */
    private static final class Shelter {
        static final int SETS = 1 << WALKERS;

        /** By sets of walkers: whether all of them can be held at once by those looked at so far. */
        final boolean[] possible = new boolean[SETS];

        int most(Town town, int distance) {
            for (int set = 0; set < SETS; set++) {
                possible[set] = set == 0;
            }
            for (int holder = 0; holder < WALKERS; holder++) {
                if (town.atPeace(holder)) {
                    addHolder(withinReach(town, holder, distance));
                }
            }
            int best = 0;
            for (int set = 0; set < SETS; set++) {
                if (possible[set] && Integer.bitCount(set) > Integer.bitCount(best)) {
                    best = set;
                }
            }
            return best;
        }

        static int withinReach(Town town, int holder, int distance) {
            int found = 0;
            for (int other = 0; other < WALKERS; other++) {
                if (!town.atPeace(other) && Math.abs(town.cell[other] - town.cell[holder]) <= distance) {
                    found |= 1 << other;
                }
            }
            return found;
        }

        /** From the greatest set down, so that a set made with this holder is not widened by him again. */
        void addHolder(int reach) {
            for (int set = SETS - 1; set >= 0; set--) {
                for (int other = 0; other < WALKERS && possible[set]; other++) {
                    if (has(reach, other)) {
                        possible[set | 1 << other] = true;
                    }
                }
            }
        }
    }

    /** The fewest goods by which a walker owes nothing. */
    private static final class Payment {
        int goods;
        int which;

        void seek(Town town, int walker) {
            goods = NONE;
            which = NONE;
            for (int gates = 0; gates <= town.goodsOf(walker, 0); gates++) {
                for (int flags = 0; flags <= town.goodsOf(walker, 1); flags++) {
                    int open = town.owes[walker] - gates * town.liking[0] - flags * town.liking[1];
                    int sheets = sheetsFor(open, town.liking[2]);
                    if (sheets <= town.goodsOf(walker, 2)) {
                        consider(gates, flags, sheets);
                    }
                }
            }
        }

        static int sheetsFor(int open, int worth) {
            if (open <= 0) {
                return 0;
            }
            return worth <= 0 ? MOST_GOODS + 1 : (open + worth - 1) / worth;
        }

        /** They come rising, so that of as few the first is the least. */
        void consider(int gates, int flags, int sheets) {
            int sum = gates + flags + sheets;
            if (goods == NONE || sum < goods) {
                goods = sum;
                which = code(gates, flags, sheets);
            }
        }
    }

    /** What was enough and what was not, kept as the likings that fit: a liking is 16 g, 4 f, and s. */
    private static final class Sights {
        static final int LIKINGS = 64;
        static final long ALL_LIKINGS = -1L;

        /** By worth (the most owed for all that is above): how many fitting likings give what is tried that worth. */
        final int[] tally = new int[MOST_OWED + 1];
        int count = 0;
        long fitting = ALL_LIKINGS;
        int bestTrial;
        int mostLeft;

        void clear() {
            count = 0;
            fitting = ALL_LIKINGS;
        }

        void become(Sights other) {
            count = other.count;
            fitting = other.fitting;
        }

        boolean fits(int liking) {
            return (fitting >> liking & 1L) != 0L;
        }

        static int worth(int liking, int i, int j, int k) {
            return (liking >> 4) * i + (liking >> 2 & 3) * j + (liking & 3) * k;
        }

        void add(int d, int i, int j, int k, boolean enough) {
            for (int liking = 0; liking < LIKINGS; liking++) {
                if (worth(liking, i, j, k) >= d != enough) {
                    fitting &= ~(1L << liking);
                }
            }
            count++;
        }

        int fittingAt(int index) {
            int seen = 0;
            for (int liking = 0; liking < LIKINGS; liking++) {
                if (fits(liking)) {
                    if (seen == index) {
                        return code(liking >> 4, liking >> 2 & 3, liking & 3);
                    }
                    seen++;
                }
            }
            return NONE;
        }

        void seekTrial() {
            bestTrial = NONE;
            mostLeft = LIKINGS + 1;
            for (int i = 0; i <= MOST_TRIED; i++) {
                for (int j = 0; j <= MOST_TRIED; j++) {
                    for (int k = 0; k <= MOST_TRIED; k++) {
                        tallyWorths(i, j, k);
                        considerDebts(code(i, j, k));
                    }
                }
            }
        }

        void tallyWorths(int i, int j, int k) {
            for (int worth = 0; worth <= MOST_OWED; worth++) {
                tally[worth] = 0;
            }
            for (int liking = 0; liking < LIKINGS; liking++) {
                if (fits(liking)) {
                    tally[Math.min(worth(liking, i, j, k), MOST_OWED)]++;
                }
            }
        }

        void considerDebts(int goods) {
            int all = Long.bitCount(fitting);
            int tooLittle = 0;
            for (int d = 1; d <= MOST_OWED; d++) {
                tooLittle += tally[d - 1];
                int left = Math.max(tooLittle, all - tooLittle);
                int asked = 1000 * d + goods;
                if (left < mostLeft || left == mostLeft && asked < bestTrial) {
                    mostLeft = left;
                    bestTrial = asked;
                }
            }
        }
    }

    /** Bowls by turns. */
    private static final class Match {
        /** By how many there are: after which last takes who is to take can win, as bits. */
        final int[] won = new int[MOST_BOWLS + 1];
        int known = 0;

        int winningTake(int n, int last) {
            for (int fewer = known; fewer < n; fewer++) {
                won[fewer] = wonAfter(fewer);
            }
            known = Math.max(known, n);
            return leastTake(n, last);
        }

        int wonAfter(int n) {
            int found = 0;
            for (int last = 0; last <= MOST_TAKEN; last++) {
                if (leastTake(n, last) != NONE) {
                    found |= 1 << last;
                }
            }
            return found;
        }

        int leastTake(int n, int last) {
            for (int take = 1; take <= MOST_TAKEN && take <= n; take++) {
                if (take != last && !has(won[n - take], take)) {
                    return take;
                }
            }
            return NONE;
        }
    }

    /** Counts, over all places, ways and forces of the wind, what it does in an hour. */
    private static final class Chance {
        final Wind wind = new Wind();
        int cases;
        int reaching;
        int reached;

        void count(int cell) {
            cases = 0;
            reaching = 0;
            reached = 0;
            for (int start = 0; start < CELLS; start++) {
                countFrom(start, UPWARD, cell);
                countFrom(start, DOWNWARD, cell);
            }
        }

        /** An hour of each force begins as that of the force below, and goes one cell more. */
        void countFrom(int start, int way, int cell) {
            wind.put(start, way, 1);
            int cells = 0;
            for (int force = 1; force <= GREATEST_FORCE; force++) {
                cells |= wind.blowAnHour();
                cases++;
                reached += Integer.bitCount(cells);
                if (has(cells, cell)) {
                    reaching++;
                }
            }
        }
    }

    /** All but the pad, as it was. */
    private static final class Image {
        final Town town = new Town();
        final Sights sights = new Sights();
    }
}
