/** Ghosts with a table: the dead eat first, of the heat; the living have what is left, cold. */
public final class GhostTable {
    private static final int LOW = -1000000000;
    private static final int BEYOND = LOW - 1;
    private static final int NONE = LOW - 2;
    private static final int STATE = LOW - 3;
    private static final int FULL = LOW - 4;
    private static final int KIND = LOW - 5;
    private static final int ERROR_KINDS = 5;

    private static final int DEAD = 0;
    private static final int ELDER = 1;
    private static final int EATER = 2;
    private static final int FORGOTTEN = 3;
    private static final int KING = 4;
    private static final int PICKY = 5;
    private static final int NAMELESS = 6;
    /** The KIND above each KIND; DEAD has none above it. */
    private static final int[] ABOVE = {-1, DEAD, DEAD, DEAD, ELDER, EATER, FORGOTTEN};

    /** What ofDead() tells: from this one on it is no field of a ghost, but worked out. */
    private static final int PICKED = 8;

    private static final int MOST_DEAD = 8;
    private static final int MOST_DISHES = 8;
    private static final int HOUSES = 4;
    private static final int SHRINES = 3;
    private static final int KITCHEN = -1;
    private static final int MOST_HEAT = 99;
    private static final int MOST_PARTS = 20;
    private static final int MOST_ANGER = 9999;
    private static final int MOST_ATE = 99999;
    private static final int MOST_HUNGER = 9999;
    private static final int LAST_BELL = 9999;
    private static final int MOST_BELLS = 120;
    private static final int MOST_TABLE_BELLS = 12;
    private static final int MOST_NEEDS_BELLS = 30;
    private static final int TABLE_DISHES = 5;
    private static final int TABLE_SETS = 1 << TABLE_DISHES;
    private static final int CALM = 2;
    private static final int HARE_MOST = 99;
    private static final int HARE_PIECE = 3;

    private static final int EATS = 0;
    private static final int FILLS = 1;
    private static final int TAPE_MOST = 50;
    private static final int WAITING_MOST = 20;
    private static final int TRACE_MOST = 40;
    private static final int SHEETS = 4;
    private static final int SHEET_MOST = 40;

    private final Realm now;
    private final Realm kept;
    private int timesKept;
    private final Board ahead;
    private final int[] shrineAngers;
    private final Reader reader;
    private final Speaker speaker;
    private final Sheet[] sheets;
    private final int[] errors;

    public GhostTable() {
        now = new Realm();
        kept = new Realm();
        timesKept = 0;
        ahead = new Board();
        shrineAngers = new int[SHRINES * TABLE_SETS];
        reader = new Reader();
        speaker = new Speaker();
        sheets = new Sheet[SHEETS];
        for (int i = 0; i < SHEETS; i++) {
            sheets[i] = new Sheet();
        }
        errors = new int[ERROR_KINDS + 1];
    }

    // ---- the dead, dishes

    public int dead(int km, int hr, int ls) {
        if (!isKindAndM(km) || !within(hr, 0, 10 * HOUSES - 1) || !within(ls, 0, 59) || ls % 10 >= SHRINES) {
            return error(BEYOND);
        }
        if (now.board.ghostCount >= MOST_DEAD) {
            return error(FULL);
        }
        return now.board.addGhost(km, hr, ls);
    }

    public int ofDead(int dead, int what) {
        if (!isDead(dead) || !within(what, 0, PICKED)) {
            return error(BEYOND);
        }
        return now.board.ghostFact(dead, what, now.eats);
    }

    public int change(int dead, int what, int v) {
        if (!isDead(dead) || !within(what, 3, 6) || !within(v, 0, mostOfDead(what))) {
            return error(BEYOND);
        }
        return now.board.changeGhost(dead, what, v);
    }

    public int become(int dead, int km) {
        if (!isDead(dead) || !isKindAndM(km)) {
            return error(BEYOND);
        }
        Ghost ghost = now.board.ghosts[dead];
        int was = ghost.kind;
        ghost.kind = km / 10;
        ghost.m = km % 10;
        return was;
    }

    public int as(int dead, int kind) {
        if (!isDead(dead) || !within(kind, DEAD, NAMELESS)) {
            return error(BEYOND);
        }
        Ghost ghost = now.board.ghosts[dead];
        return isOfKind(ghost.kind, kind) ? ghost.m : error(KIND);
    }

    public int takes(int dead, int dish) {
        if (!isDead(dead) || !isDish(dish)) {
            return error(BEYOND);
        }
        return now.board.ghosts[dead].heatTaken(now.board.dishes[dish], now.eats);
    }

    public int dish(int sh, int parts, int heat) {
        int refusal = dishRefusal(sh, parts, heat);
        return refusal != 0 ? error(refusal) : now.board.addDish(sh, parts, heat);
    }

    public int ofDish(int dish, int what) {
        if (!isDish(dish) || !within(what, 0, 4)) {
            return error(BEYOND);
        }
        return now.board.dishes[dish].fact(what);
    }

    public int cook(int dish, int what, int v) {
        if (!isDish(dish) || !within(what, 1, 2) || !within(v, 0, what == 1 ? MOST_PARTS : MOST_HEAT)) {
            return error(BEYOND);
        }
        Dish cooked = now.board.dishes[dish];
        int was = cooked.fact(what);
        if (what == 1) {
            cooked.parts = v;
        } else {
            cooked.heat = v;
        }
        return was;
    }

    public int serve(int dish, int shrine) {
        if (!isDish(dish) || !within(shrine, KITCHEN, SHRINES - 1)) {
            return error(BEYOND);
        }
        Dish served = now.board.dishes[dish];
        int was = served.shrine;
        served.shrine = shrine;
        return was;
    }

    public int eat(int dish) {
        if (!isDish(dish)) {
            return error(BEYOND);
        }
        Dish eaten = now.board.dishes[dish];
        if (eaten.parts == 0) {
            return error(STATE);
        }
        int before = now.board.hungers[eaten.house];
        int stilled = Math.min(before, now.fills.give(eaten.parts, eaten.heat, before, 0));
        now.board.hungers[eaten.house] = before - stilled;
        eaten.parts = 0;
        eaten.shrine = KITCHEN;
        return stilled;
    }

    public int hunger(int house) {
        return isHouse(house) ? now.board.hungers[house] : error(BEYOND);
    }

    public int marry(int one, int other) {
        if (!isHouse(one) || !isHouse(other) || one == other) {
            return error(BEYOND);
        }
        return now.board.joinHouses(one, other);
    }

    // ---- texts

    public int feed(long word, int n) {
        if (!within(n, 1, 8)) {
            return error(BEYOND);
        }
        if (now.tape.size > TAPE_MOST - n) {
            return error(FULL);
        }
        for (int i = 0; i < n; i++) {
            now.tape.add((int) (word >>> (8 * i)) & 255);
        }
        return now.tape.size;
    }

    public int text(int use) {
        if (!isUse(use)) {
            return error(BEYOND);
        }
        Text target = now.textOf(use);
        int fault = reader.read(now.tape, target.names);
        now.tape.clear();
        if (fault != Reader.SOUND) {
            return -10 - fault;
        }
        target.takeCode(reader.code);
        return 1;
    }

    public int law(int use, int a, int b, int c, int d) {
        return isUse(use) ? now.textOf(use).give(a, b, c, d) : error(BEYOND);
    }

    // ---- bells

    public int bells(int n) {
        int refusal = bellsRefusal(n);
        if (refusal != 0) {
            return error(refusal);
        }
        for (int i = 0; i < n; i++) {
            now.board.ring(now.eats);
        }
        return now.board.angerOfAll();
    }

    public int loose(int n) {
        int refusal = bellsRefusal(n);
        if (refusal != 0) {
            return error(refusal);
        }
        for (int i = 0; i < n; i++) {
            now.letDogsLoose();
            now.board.ring(now.eats);
        }
        return now.board.angerOfAll();
    }

    // ---- ahead

    public int then(int n, int dead, int what) {
        if (!isAhead(n) || !isDead(dead) || !within(what, 0, PICKED)) {
            return error(BEYOND);
        }
        lookAhead(n);
        return ahead.ghostFact(dead, what, now.eats);
    }

    public int thenHeat(int n, int dish) {
        if (!isAhead(n) || !isDish(dish)) {
            return error(BEYOND);
        }
        lookAhead(n);
        return ahead.dishes[dish].heat;
    }

    public int angers(int n) {
        if (!isAhead(n)) {
            return error(BEYOND);
        }
        lookAhead(n);
        return ahead.angerOfAll();
    }

    public int table(int n, int what) {
        if (!within(n, 1, MOST_TABLE_BELLS) || !within(what, -1, TABLE_DISHES - 1)) {
            return error(BEYOND);
        }
        int placed = Math.min(TABLE_DISHES, now.board.dishCount);
        if (what >= placed) {
            return error(NONE);
        }
        findShrineAngers(n, placed);
        int best = bestTable(placed);
        return what < 0 ? tableAngers(best, placed) : placeInTable(best, placed, what);
    }

    public int forget(int n, int what) {
        if (!isAhead(n) || !within(what, 0, 1)) {
            return error(BEYOND);
        }
        if (now.board.ghostCount == 0) {
            return error(NONE);
        }
        int whom = 0;
        int least = angersWithout(0, n);
        for (int i = 1; i < now.board.ghostCount; i++) {
            int others = angersWithout(i, n);
            if (others < least) {
                least = others;
                whom = i;
            }
        }
        return what == 0 ? whom : least;
    }

    public int needs(int dead, int dish, int n) {
        if (!isDead(dead) || !isDish(dish) || !within(n, 1, MOST_NEEDS_BELLS)) {
            return error(BEYOND);
        }
        // More heat may feed others and starve this one, so no halving: each heat is tried.
        for (int heat = 0; heat <= MOST_HEAT; heat++) {
            if (eatsAlways(dead, dish, heat, n)) {
                return heat;
            }
        }
        return error(NONE);
    }

    public int first(int n) {
        if (!isAhead(n)) {
            return error(BEYOND);
        }
        ahead.copyFrom(now.board);
        int angry = ahead.firstAbove(CALM);
        for (int i = 0; i < n && angry < 0; i++) {
            ahead.ring(now.eats);
            angry = ahead.firstAbove(CALM);
        }
        return angry < 0 ? error(NONE) : angry;
    }

    public int share(int dead, int parts, int law) {
        if (!isDead(dead) || !within(parts, 1, HARE_MOST) || !within(law, 0, 2)) {
            return error(BEYOND);
        }
        if (law == 0) {
            return now.board.evenShare(dead, parts);
        }
        return law == 1 ? now.board.rankShare(dead, parts) : now.board.orderShare(dead, parts);
    }

    // ---- draws, voices, sheets, images, what is told

    public int seed(int v) {
        int was = now.z;
        now.z = v;
        return was;
    }

    public int voice(int dead, int act, int x) {
        if (!isDead(dead) || !within(act, 0, 3)) {
            return error(BEYOND);
        }
        Ghost ghost = now.board.ghosts[dead];
        return speaker.speak(ghost.kind, ghost.m, dead, act, x);
    }

    public int trace(int i) {
        return within(i, 0, speaker.bodies.size - 1) ? speaker.bodies.at(i) : error(NONE);
    }

    public int sheet(int sheet, int bits, int n) {
        if (!isSheet(sheet) || !(bits == 0 || bits == 8 || bits == 16 || bits == 32)) {
            return error(BEYOND);
        }
        if (bits != 0 && n < 0) {
            return error(STATE);
        }
        if (bits != 0 && n > SHEET_MOST) {
            return error(BEYOND);
        }
        sheets[sheet].renew(bits, bits == 0 ? 0 : n);
        return 1;
    }

    public int put(int sheet, int i, int v) {
        if (!isSheet(sheet)) {
            return error(BEYOND);
        }
        Sheet target = sheets[sheet];
        if (target.isMissing()) {
            return error(NONE);
        }
        if (!within(i, 0, target.size - 1)) {
            return error(BEYOND);
        }
        target.write(i, v);
        return 1;
    }

    public int move(int sheet, int i, int other, int j, int n) {
        if (!isSheet(sheet) || !isSheet(other)) {
            return error(BEYOND);
        }
        Sheet from = sheets[sheet];
        Sheet to = sheets[other];
        if (from.isMissing() || to.isMissing()) {
            return error(NONE);
        }
        if (from.bits != to.bits) {
            return error(KIND);
        }
        if (!from.hasStretch(i, n) || !to.hasStretch(j, n)) {
            return error(BEYOND);
        }
        System.arraycopy(from.numbers, i, to.numbers, j, n);
        return n;
    }

    public int dishes(int sheet) {
        if (!isSheet(sheet)) {
            return error(BEYOND);
        }
        Sheet source = sheets[sheet];
        if (source.isMissing()) {
            return error(NONE);
        }
        int came = 0;
        for (int i = 0; i + 2 < source.size; i += 3) {
            int sh = source.numbers[i];
            int parts = source.numbers[i + 1];
            int heat = source.numbers[i + 2];
            if (dishRefusal(sh, parts, heat) != 0) {
                break;
            }
            now.board.addDish(sh, parts, heat);
            came++;
        }
        return came;
    }

    public int image() {
        kept.copyFrom(now);
        timesKept++;
        return timesKept;
    }

    public int restore() {
        if (timesKept == 0) {
            return error(NONE);
        }
        now.copyFrom(kept);
        return now.board.bell;
    }

    public int tell(int v) {
        if (now.waiting.size >= WAITING_MOST) {
            return error(FULL);
        }
        now.waiting.add(v);
        return now.waiting.size;
    }

    public int check(int dead) {
        int wrong = isDead(dead) ? firstWrongAnger(dead) : error(BEYOND);
        now.waiting.clear();
        return wrong;
    }

    public int count(int what) {
        switch (what) {
            case 0: return now.board.bell;
            case 1: return now.board.ghostCount;
            case 2: return now.board.dishCount;
            case 3: return now.board.angerOfAll();
            case 4: return now.board.ateOfAll();
            case 5: return now.board.heatOfAll();
            case 6: return now.tape.size;
            case 7: return now.waiting.size;
            case 8: return speaker.bodies.size;
            case 9: return now.z;
            default: return error(BEYOND);
        }
    }

    public int told(int k) {
        return within(k, 1, ERROR_KINDS) ? errors[k] : error(BEYOND);
    }

    // ---- what calls may name

    /** Every ERROR goes through here: answers that are any number may look like one and must not count. */
    private int error(int answer) {
        int k = LOW - answer;
        if (within(k, 1, ERROR_KINDS)) {
            errors[k]++;
        }
        return answer;
    }

    private static boolean within(int v, int least, int most) {
        return v >= least && v <= most;
    }

    private static boolean isKindAndM(int km) {
        return within(km, 0, 10 * NAMELESS + 9);
    }

    private static boolean isHouse(int house) {
        return within(house, 0, HOUSES - 1);
    }

    private static boolean isUse(int use) {
        return use == EATS || use == FILLS;
    }

    private static boolean isSheet(int sheet) {
        return within(sheet, 0, SHEETS - 1);
    }

    private static boolean isAhead(int n) {
        return within(n, 0, MOST_BELLS);
    }

    private boolean isDead(int dead) {
        return within(dead, 0, now.board.ghostCount - 1);
    }

    private boolean isDish(int dish) {
        return within(dish, 0, now.board.dishCount - 1);
    }

    private static boolean isOfKind(int own, int asked) {
        int kind = own;
        for (int i = 0; i < ABOVE.length && kind != asked && within(kind, ELDER, NAMELESS); i++) {
            kind = ABOVE[kind];
        }
        return kind == asked;
    }

    private static int mostOfDead(int what) {
        switch (what) {
            case 3: return 9;
            case 4: return 5;
            case 5: return SHRINES - 1;
            default: return MOST_ANGER;
        }
    }

    /** 0, or the ERROR of dish(); dishes() asks too, and must not count it. */
    private int dishRefusal(int sh, int parts, int heat) {
        if (!within(sh, 0, 59) || sh % 10 >= HOUSES || !within(parts, 0, MOST_PARTS) || !within(heat, 0, MOST_HEAT)) {
            return BEYOND;
        }
        return now.board.dishCount >= MOST_DISHES ? FULL : 0;
    }

    private int bellsRefusal(int n) {
        if (!within(n, 1, MOST_BELLS)) {
            return BEYOND;
        }
        return now.board.bell > LAST_BELL - n ? STATE : 0;
    }

    // ---- searches ahead

    private void lookAhead(int n) {
        ahead.copyFrom(now.board);
        for (int i = 0; i < n; i++) {
            ahead.ring(now.eats);
        }
    }

    private int angersWithout(int dead, int n) {
        ahead.copyFrom(now.board);
        ahead.absent = dead;
        for (int i = 0; i < n; i++) {
            ahead.ring(now.eats);
        }
        return ahead.angerOfAll();
    }

    private boolean eatsAlways(int dead, int dish, int heat, int n) {
        ahead.copyFrom(now.board);
        ahead.dishes[dish].heat = heat;
        for (int i = 0; i < n; i++) {
            ahead.ring(now.eats);
            // A bell leaves no anger with those who ate, and some with all others.
            if (ahead.ghosts[dead].anger != 0) {
                return false;
            }
        }
        return true;
    }

    /**
     * No one eats at two shrines, so ANGERS are a sum over shrines, each by the set of dishes there:
     * 96 looks ahead do for all 1024 tables.
     */
    private void findShrineAngers(int n, int placed) {
        for (int shrine = 0; shrine < SHRINES; shrine++) {
            for (int set = 0; set < (1 << placed); set++) {
                ahead.copyFrom(now.board);
                ahead.placeSet(set, placed, shrine);
                for (int i = 0; i < n; i++) {
                    ahead.ring(now.eats);
                }
                shrineAngers[shrine * TABLE_SETS + set] = ahead.angerAt(shrine);
            }
        }
    }

    /** A table is a number of base 4, DISH 0 its highest digit: so the first as a row is the least number. */
    private int bestTable(int placed) {
        int best = 0;
        int least = tableAngers(0, placed);
        for (int row = 1; row < (1 << (2 * placed)); row++) {
            int anger = tableAngers(row, placed);
            if (anger < least) {
                least = anger;
                best = row;
            }
        }
        return best;
    }

    private int tableAngers(int row, int placed) {
        int sum = 0;
        for (int shrine = 0; shrine < SHRINES; shrine++) {
            int set = 0;
            for (int i = 0; i < placed; i++) {
                if (placeInTable(row, placed, i) == shrine) {
                    set |= 1 << i;
                }
            }
            sum += shrineAngers[shrine * TABLE_SETS + set];
        }
        return sum;
    }

    private static int placeInTable(int row, int placed, int dish) {
        return (row >> (2 * (placed - 1 - dish))) & 3;
    }

    private int firstWrongAnger(int dead) {
        ahead.copyFrom(now.board);
        for (int i = 0; i < now.waiting.size; i++) {
            ahead.ring(now.eats);
            if (ahead.ghosts[dead].anger != now.waiting.at(i)) {
                return 1 + i;
            }
        }
        return 0;
    }

    /** A row of numbers that grows up to a bound; what would go beyond it is left out. */
    private static final class Row {
        final int[] items;
        int size;

        Row(int most) {
            items = new int[Math.max(0, most)];
            size = 0;
        }

        void add(int v) {
            if (size < items.length) {
                items[size] = v;
                size++;
            }
        }

        /** The i-th, or 0 if there is none. */
        int at(int i) {
            return i >= 0 && i < size ? items[i] : 0;
        }

        /** The latest, or 0 if there is none. */
        int last() {
            return size > 0 ? items[size - 1] : 0;
        }

        void dropLast() {
            if (size > 0) {
                size--;
            }
        }

        void clear() {
            size = 0;
        }

        void copyFrom(Row other) {
            clear();
            for (int i = 0; i < other.size; i++) {
                add(other.items[i]);
            }
        }
    }

    /** A DISH. */
    private static final class Dish {
        int sort;
        int parts;
        int heat;
        int house;
        int shrine;

        int fact(int what) {
            switch (what) {
                case 0: return sort;
                case 1: return parts;
                case 2: return heat;
                case 3: return house;
                default: return shrine;
            }
        }

        void cool() {
            heat = Math.max(0, heat - (shrine == KITCHEN ? 1 : 2));
        }

        void copyFrom(Dish other) {
            sort = other.sort;
            parts = other.parts;
            heat = other.heat;
            house = other.house;
            shrine = other.shrine;
        }
    }

    /** One of THE DEAD. */
    private static final class Ghost {
        int kind;
        int m;
        int house;
        int rank;
        int likes;
        int shrine;
        int anger;
        int ate;

        int fact(int what) {
            switch (what) {
                case 0: return kind;
                case 1: return m;
                case 2: return house;
                case 3: return rank;
                case 4: return likes;
                case 5: return shrine;
                case 6: return anger;
                default: return ate;
            }
        }

        void setFact(int what, int v) {
            switch (what) {
                case 3:
                    rank = v;
                    break;
                case 4:
                    likes = v;
                    break;
                case 5:
                    shrine = v;
                    break;
                default:
                    anger = v;
                    break;
            }
        }

        int heatTaken(Dish dish, Text eats) {
            int wanted = appetite(dish) + eats.give(dish.heat, dish.sort, rank, kind);
            return Math.max(0, Math.min(dish.heat, wanted));
        }

        private int appetite(Dish dish) {
            boolean liked = dish.sort == likes;
            switch (kind) {
                case ELDER: return 4 + rank;
                case KING: return 2 * (4 + rank);
                case EATER: return liked ? 2 * (4 + m) : 4 + m;
                case PICKY: return liked ? 2 * (4 + m) : 0;
                case FORGOTTEN: return 2;
                case NAMELESS: return dish.heat < 50 ? 2 + m : 2;
                default: return 4;
            }
        }

        /** Whether this one would rather eat of a dish than of another that has a smaller number. */
        boolean prefers(Dish dish, Dish other) {
            boolean liked = dish.sort == likes;
            boolean otherLiked = other.sort == likes;
            return liked == otherLiked ? dish.heat > other.heat : liked;
        }

        void eatOf(Dish dish, int taken) {
            dish.heat -= taken;
            ate = Math.min(MOST_ATE, ate + taken);
            anger = 0;
        }

        void goHungry() {
            anger = Math.min(MOST_ANGER, anger + 1);
        }

        void copyFrom(Ghost other) {
            kind = other.kind;
            m = other.m;
            house = other.house;
            rank = other.rank;
            likes = other.likes;
            shrine = other.shrine;
            anger = other.anger;
            ate = other.ate;
        }
    }

    /** All that bells change: a second one is what lies ahead. */
    private static final class Board {
        final Ghost[] ghosts;
        int ghostCount;
        final Dish[] dishes;
        int dishCount;
        final int[] hungers;
        int bell;
        /** Who comes when, by RANK; kept, since ranks change far more seldom than bells go by. */
        final int[] order;
        /** Who is forgotten while one looks ahead; -1 for nobody. */
        int absent;

        Board() {
            ghosts = new Ghost[MOST_DEAD];
            for (int i = 0; i < MOST_DEAD; i++) {
                ghosts[i] = new Ghost();
            }
            dishes = new Dish[MOST_DISHES];
            for (int i = 0; i < MOST_DISHES; i++) {
                dishes[i] = new Dish();
            }
            hungers = new int[HOUSES];
            order = new int[MOST_DEAD];
            absent = -1;
        }

        int addGhost(int km, int hr, int ls) {
            if (ghostCount >= ghosts.length) {
                return FULL;
            }
            Ghost ghost = ghosts[ghostCount];
            ghost.kind = km / 10;
            ghost.m = km % 10;
            ghost.house = hr / 10;
            ghost.rank = hr % 10;
            ghost.likes = ls / 10;
            ghost.shrine = ls % 10;
            ghost.anger = 0;
            ghost.ate = 0;
            ghostCount++;
            sortByRank();
            return ghostCount - 1;
        }

        int addDish(int sh, int parts, int heat) {
            if (dishCount >= dishes.length) {
                return FULL;
            }
            Dish dish = dishes[dishCount];
            dish.sort = sh / 10;
            dish.house = sh % 10;
            dish.parts = parts;
            dish.heat = heat;
            dish.shrine = KITCHEN;
            dishCount++;
            return dishCount - 1;
        }

        private void sortByRank() {
            for (int i = 0; i < ghostCount; i++) {
                int place = i;
                while (place > 0 && ghosts[order[place - 1]].rank < ghosts[i].rank) {
                    order[place] = order[place - 1];
                    place--;
                }
                order[place] = i;
            }
        }

        int ghostFact(int dead, int what, Text eats) {
            Ghost ghost = ghosts[dead];
            return what == PICKED ? pick(ghost, eats) : ghost.fact(what);
        }

        int changeGhost(int dead, int what, int v) {
            int was = ghosts[dead].fact(what);
            ghosts[dead].setFact(what, v);
            sortByRank();
            return was;
        }

        int joinHouses(int one, int other) {
            int changed = 0;
            for (int i = 0; i < ghostCount; i++) {
                if (ghosts[i].house == other) {
                    ghosts[i].house = one;
                    changed++;
                }
            }
            for (int i = 0; i < dishCount; i++) {
                if (dishes[i].house == other) {
                    dishes[i].house = one;
                }
            }
            hungers[one] = Math.min(MOST_HUNGER, hungers[one] + hungers[other]);
            hungers[other] = 0;
            return changed;
        }

        /** The DISH that one PICKS, or -1. */
        int pick(Ghost ghost, Text eats) {
            int picked = -1;
            for (int i = 0; i < dishCount; i++) {
                Dish dish = dishes[i];
                // Dearest last: what is taken may ask for a whole TEXT.
                if (dish.shrine == ghost.shrine
                        && (picked < 0 || ghost.prefers(dish, dishes[picked]))
                        && ghost.heatTaken(dish, eats) > 0) {
                    picked = i;
                }
            }
            return picked;
        }

        void ring(Text eats) {
            for (int i = 0; i < ghostCount; i++) {
                if (order[i] == absent) {
                    continue;
                }
                Ghost ghost = ghosts[order[i]];
                int picked = pick(ghost, eats);
                if (picked < 0) {
                    ghost.goHungry();
                } else {
                    ghost.eatOf(dishes[picked], ghost.heatTaken(dishes[picked], eats));
                }
            }
            for (int i = 0; i < dishCount; i++) {
                dishes[i].cool();
            }
            for (int i = 0; i < HOUSES; i++) {
                hungers[i] = Math.min(MOST_HUNGER, hungers[i] + 1);
            }
            bell++;
        }

        /** The first dishes stand on a shrine if they are of the set, else in the kitchen. */
        void placeSet(int set, int placed, int shrine) {
            for (int i = 0; i < placed && i < dishCount; i++) {
                dishes[i].shrine = (set >> i & 1) != 0 ? shrine : KITCHEN;
            }
        }

        int angerOfAll() {
            int sum = 0;
            for (int i = 0; i < ghostCount; i++) {
                sum += i == absent ? 0 : ghosts[i].anger;
            }
            return sum;
        }

        int angerAt(int shrine) {
            int sum = 0;
            for (int i = 0; i < ghostCount; i++) {
                sum += ghosts[i].shrine == shrine ? ghosts[i].anger : 0;
            }
            return sum;
        }

        int ateOfAll() {
            int sum = 0;
            for (int i = 0; i < ghostCount; i++) {
                sum += ghosts[i].ate;
            }
            return sum;
        }

        int heatOfAll() {
            int sum = 0;
            for (int i = 0; i < dishCount; i++) {
                sum += dishes[i].heat;
            }
            return sum;
        }

        /** The least number of one whose ANGER is above a limit, or -1. */
        int firstAbove(int limit) {
            for (int i = 0; i < ghostCount; i++) {
                if (ghosts[i].anger > limit) {
                    return i;
                }
            }
            return -1;
        }

        int evenShare(int dead, int parts) {
            int eaters = 0;
            for (int i = 0; i < ghostCount; i++) {
                eaters += ghosts[i].shrine == ghosts[dead].shrine ? 1 : 0;
            }
            return eaters == 0 ? 0 : parts / eaters;
        }

        int rankShare(int dead, int parts) {
            int weights = 0;
            for (int i = 0; i < ghostCount; i++) {
                weights += ghosts[i].shrine == ghosts[dead].shrine ? ghosts[i].rank + 1 : 0;
            }
            return weights == 0 ? 0 : parts * (ghosts[dead].rank + 1) / weights;
        }

        int orderShare(int dead, int parts) {
            int left = parts;
            for (int i = 0; i < ghostCount && order[i] != dead; i++) {
                left -= ghosts[order[i]].shrine == ghosts[dead].shrine ? HARE_PIECE : 0;
            }
            return Math.max(0, Math.min(HARE_PIECE, left));
        }

        void copyFrom(Board other) {
            ghostCount = other.ghostCount;
            for (int i = 0; i < ghostCount; i++) {
                ghosts[i].copyFrom(other.ghosts[i]);
                order[i] = other.order[i];
            }
            dishCount = other.dishCount;
            for (int i = 0; i < dishCount; i++) {
                dishes[i].copyFrom(other.dishes[i]);
            }
            for (int i = 0; i < HOUSES; i++) {
                hungers[i] = other.hungers[i];
            }
            bell = other.bell;
            absent = other.absent;
        }
    }

    /** All that an IMAGE keeps. */
    private static final class Realm {
        final Board board;
        final Text eats;
        final Text fills;
        final Row tape;
        final Row waiting;
        int z;

        Realm() {
            board = new Board();
            eats = new Text(EATS, "hsrk", -20, 20);
            fills = new Text(FILLS, "phu", 0, 999);
            tape = new Row(TAPE_MOST);
            waiting = new Row(WAITING_MOST);
            z = 1;
        }

        Text textOf(int use) {
            return use == EATS ? eats : fills;
        }

        void letDogsLoose() {
            for (int i = 0; i < board.dishCount; i++) {
                Dish dish = board.dishes[i];
                if (dish.shrine != KITCHEN && draw() % 10 == 0) {
                    dish.parts = Math.max(0, dish.parts - (draw() % 3 + 1));
                }
            }
        }

        private int draw() {
            z = z * 1103515245 + 12345;
            return z >>> 8;
        }

        void copyFrom(Realm other) {
            board.copyFrom(other.board);
            eats.takeCode(other.eats.code);
            fills.takeCode(other.fills.code);
            tape.copyFrom(other.tape);
            waiting.copyFrom(other.waiting);
            z = other.z;
        }
    }

    /** The TEXT of a USE, in the order in which it is worked out; no code, no TEXT. */
    private static final class Text {
        /** Codes below this are numbers; from it on, places of names; from OPERATOR on, signs. */
        static final int NAME = 10000;
        static final int OPERATOR = 20000;
        private static final int NOT = OPERATOR + '!';

        final int use;
        final String names;
        final int least;
        final int most;
        final Row code;
        private final Row values;

        Text(int use, String names, int least, int most) {
            this.use = use;
            this.names = names;
            this.least = least;
            this.most = most;
            code = new Row(TAPE_MOST);
            values = new Row(TAPE_MOST);
        }

        void takeCode(Row other) {
            code.copyFrom(other);
        }

        int give(int a, int b, int c, int d) {
            int value = code.size == 0 ? without(a, b) : workOut(a, b, c, d);
            return Math.max(least, Math.min(most, value));
        }

        private int without(int parts, int heat) {
            return use == EATS ? 0 : parts - (heat > 50 ? 1 : 0) * parts / 2;
        }

        private int workOut(int a, int b, int c, int d) {
            values.clear();
            for (int i = 0; i < code.size; i++) {
                int step = code.items[i];
                if (step < NAME) {
                    values.add(step);
                } else if (step < OPERATOR) {
                    values.add(named(step - NAME, a, b, c, d));
                } else {
                    int y = values.last();
                    values.dropLast();
                    int x = 0;
                    if (step != NOT) {
                        x = values.last();
                        values.dropLast();
                    }
                    values.add(joined(step - OPERATOR, x, y));
                }
            }
            return values.last();
        }

        private static int named(int name, int a, int b, int c, int d) {
            switch (name) {
                case 0: return a;
                case 1: return b;
                case 2: return c;
                default: return d;
            }
        }

        private static int joined(int sign, int x, int y) {
            switch (sign) {
                case '!': return y == 0 ? 1 : 0;
                case '|': return x != 0 || y != 0 ? 1 : 0;
                case '&': return x != 0 && y != 0 ? 1 : 0;
                case '<': return x < y ? 1 : 0;
                case '=': return x == y ? 1 : 0;
                case '>': return x > y ? 1 : 0;
                case '+': return x + y;
                case '-': return x - y;
                case '*': return x * y;
                case '/': return y == 0 ? 0 : x / y;
                case '%': return y == 0 ? 0 : x % y;
                default: return 0;
            }
        }
    }

    /** Reads a TEXT without recursion: signs wait in a row until what stands right of them is read. */
    private static final class Reader {
        static final int SOUND = -1;
        private static final int MOST_OPEN = 5;
        private static final int COMPARES = 3;

        final Row code;
        private final Row pending;
        private int open;
        private int brackets;
        private boolean wantsOperand;

        Reader() {
            code = new Row(TAPE_MOST);
            pending = new Row(TAPE_MOST);
        }

        /** SOUND, and the code is that of the TEXT; or the FAULT. */
        int read(Row tape, String names) {
            code.clear();
            pending.clear();
            open = 0;
            brackets = 0;
            wantsOperand = true;
            int taken = 0;
            for (int place = 0; place < tape.size; place += taken) {
                taken = wantsOperand ? readOperand(tape, place, names) : readSign(tape.at(place));
                if (taken <= 0) {
                    return place;
                }
            }
            if (wantsOperand || brackets > 0) {
                return tape.size;
            }
            settle(1);
            return SOUND;
        }

        /** How many bytes were read; 0 if no operand goes on with this one. */
        private int readOperand(Row tape, int place, String names) {
            int sign = tape.at(place);
            if (sign == '!' || sign == '(') {
                return openSign(sign);
            }
            int digits = countDigits(tape, place);
            int name = names.indexOf((char) sign);
            if (digits == 0 && name < 0) {
                return 0;
            }
            code.add(digits > 0 ? numberAt(tape, place, digits) : Text.NAME + name);
            endOperand();
            return Math.max(1, digits);
        }

        private int openSign(int sign) {
            if (open >= MOST_OPEN) {
                return 0;
            }
            open++;
            brackets += sign == '(' ? 1 : 0;
            pending.add(sign);
            return 1;
        }

        private static int countDigits(Row tape, int place) {
            int digits = 0;
            while (digits < 4 && tape.at(place + digits) >= '0' && tape.at(place + digits) <= '9') {
                digits++;
            }
            return digits;
        }

        private static int numberAt(Row tape, int place, int digits) {
            int number = 0;
            for (int i = 0; i < digits; i++) {
                number = number * 10 + tape.at(place + i) - '0';
            }
            return number;
        }

        private void endOperand() {
            for (int i = pending.size; i > 0 && pending.last() == '!'; i--) {
                takePending();
                open--;
            }
            wantsOperand = false;
        }

        /** 1 if the sign may stand behind an operand, else 0. */
        private int readSign(int sign) {
            if (sign == ')') {
                return closeBracket();
            }
            int level = levelOf(sign);
            if (level == 0) {
                return 0;
            }
            if (level == COMPARES) {
                settle(COMPARES + 1);
                if (levelOf(pending.last()) == COMPARES) {
                    return 0;
                }
            }
            settle(level);
            pending.add(sign);
            wantsOperand = true;
            return 1;
        }

        private int closeBracket() {
            if (brackets == 0) {
                return 0;
            }
            settle(1);
            pending.dropLast();
            brackets--;
            open--;
            endOperand();
            return 1;
        }

        /** Signs that bind as tightly as the level, or tighter, have all they need: up to an open bracket. */
        private void settle(int level) {
            for (int i = pending.size; i > 0 && levelOf(pending.last()) >= level; i--) {
                takePending();
            }
        }

        private void takePending() {
            code.add(Text.OPERATOR + pending.last());
            pending.dropLast();
        }

        /** How tightly a sign binds what stands at both its sides; 0 if it doesn't. */
        private static int levelOf(int sign) {
            switch (sign) {
                case '|': return 1;
                case '&': return 2;
                case '<':
                case '=':
                case '>': return COMPARES;
                case '+':
                case '-': return 4;
                case '*':
                case '/':
                case '%': return 5;
                default: return 0;
            }
        }
    }

    /** Speaks with the VOICES of THE DEAD, and keeps THE TRACE. */
    private static final class Speaker {
        private static final int COMES = 0;
        private static final int SNIFFS = 1;
        private static final int EATS_ACT = 2;
        private static final int TELLS = 3;
        private static final int ACTS = 4;
        private static final int DEEPEST = 12;
        /** The BODY of each KIND (a line) for each act; 0 if it has none of its own. */
        private static final int[] BODIES = {
            10, 11, 12, 13,
            0, 20, 0, 0,
            30, 0, 0, 0,
            0, 0, 40, 0,
            0, 50, 0, 0,
            0, 0, 0, 60,
            0, 0, 70, 71,
        };

        final Row bodies;
        private int kind;
        private int m;
        private int number;

        Speaker() {
            bodies = new Row(TRACE_MOST);
        }

        int speak(int ghostKind, int ghostM, int ghostNumber, int act, int x) {
            bodies.clear();
            kind = ghostKind;
            m = ghostM;
            number = ghostNumber;
            return say(act, kind, x, 0);
        }

        /** An act, from a KIND on upwards. */
        private int say(int act, int from, int x, int depth) {
            if (depth > DEEPEST) {
                return 0;
            }
            int body = bodyOf(act, from);
            int above = aboveBody(body);
            int deeper = depth + 1;
            bodies.add(body);
            switch (body) {
                case 10: return x + number;
                case 11: return say(COMES, kind, x, deeper) * 2;
                case 12: return x - m;
                case 13: return say(SNIFFS, kind, x, deeper) ^ say(EATS_ACT, kind, x, deeper);
                case 20: return say(SNIFFS, above, x, deeper) - say(EATS_ACT, kind, 1, deeper);
                case 30: return say(COMES, above, x, deeper) * 3;
                case 40: return -say(EATS_ACT, above, x, deeper);
                case 50: return say(SNIFFS, above, x + 1, deeper);
                case 60: return say(TELLS, above, x, deeper) - say(COMES, kind, 2, deeper);
                case 70: return say(EATS_ACT, above, x, deeper) ^ number;
                case 71: return say(SNIFFS, kind, x, deeper) - say(TELLS, above, x, deeper);
                default: return 0;
            }
        }

        private static int bodyOf(int act, int from) {
            int body = 0;
            int at = from;
            for (int i = 0; i < ABOVE.length && body == 0 && within(at, DEAD, NAMELESS); i++) {
                body = BODIES[at * ACTS + act];
                at = ABOVE[at];
            }
            return body;
        }

        /** The KIND above that of a BODY, whose number begins with its KIND and 1. */
        private static int aboveBody(int body) {
            int own = body / 10 - 1;
            return within(own, DEAD, NAMELESS) ? ABOVE[own] : DEAD;
        }
    }

    /** A SHEET; of 0 bits, it is missing. */
    private static final class Sheet {
        final int[] numbers;
        int bits;
        int size;

        Sheet() {
            numbers = new int[SHEET_MOST];
        }

        boolean isMissing() {
            return bits == 0;
        }

        void renew(int newBits, int newSize) {
            bits = newBits;
            size = newSize;
            for (int i = 0; i < numbers.length; i++) {
                numbers[i] = 0;
            }
        }

        void write(int i, int v) {
            int unused = 32 - bits;
            if (i >= 0 && i < size) {
                numbers[i] = v << unused >> unused;
            }
        }

        /** Whether n numbers stand from a place on; no sum of the two, which might wrap. */
        boolean hasStretch(int place, int n) {
            return n >= 0 && place >= 0 && place <= size - n;
        }
    }
}
