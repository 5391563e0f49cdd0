/** A hanging chain of links and weights; ../shared/DOC.md tells what each method promises. */
public final class HangingChain {
    public static final int NONE = -1;

    private static final int MOST_LINKS = 20;
    private static final int STEEPEST = 2;
    private static final int MOST_AT_JOINT = 99;
    private static final int MOST_CODES = 60;
    private static final int FIRST_CODE = 33;
    private static final int LAST_CODE = 126;
    private static final int MOST_SAVED = 6;

    /** Heights and settings may be negative; they are told with so much more. */
    private static final int TOLD_MORE = 100;

    private static final int HALF_LINK = 0;
    private static final int PROPS_REACH = 1;
    private static final int FORCE_BY_STEP = 2;
    private static final int GREATEST_FORCE = 3;
    private static final int SETTINGS = 4;

    private static final int LINK_NUMBERS = 3;
    private static final int JOINT_NUMBERS = 8;
    private static final int COUNTS = 11;

    private static final long FIRST_HASH = 3119L;
    private static final int DIGEST_WEIGHT = 20;
    private static final int DIGEST_HANGER = 15;

    private final Chain chain = new Chain();
    private final Chain trial = new Chain();
    private final Balance balance = new Balance();
    private final Past past = new Past();
    private final Row codes = new Row(MOST_CODES);
    private final ShapeReader reader = new ShapeReader();
    private int length = 0;

    public HangingChain() {
    }

    // ---- links

    public int link(int step) throws IllegalArgumentException, IllegalStateException {
        requireStep(step);
        if (chain.links >= MOST_LINKS) {
            throw new IllegalStateException("the chain has 20 links");
        }
        past.save(chain);
        chain.addLink(step);
        return chain.links;
    }

    public int cut(int link) throws IndexOutOfBoundsException, IllegalStateException {
        requireLink(link);
        if (chain.links <= 1) {
            throw new IllegalStateException("the chain has only one link");
        }
        past.save(chain);
        chain.takeLink(link);
        return chain.links;
    }

    public int bend(int link, int step) throws IndexOutOfBoundsException, IllegalArgumentException {
        requireLink(link);
        requireStep(step);
        past.save(chain);
        int previous = chain.steps.at(link);
        chain.steps.put(link, step);
        return previous + STEEPEST;
    }

    public int turn() {
        past.save(chain);
        chain.turnRound();
        balance.weigh(chain);
        return balance.heights.at(chain.links) + TOLD_MORE;
    }

    // ---- joints

    public int weight(int joint, int weight) throws IndexOutOfBoundsException, IllegalArgumentException {
        requireJoint(joint);
        requireAmount(weight);
        return replace(chain.weights, joint, weight);
    }

    public int hanger(int joint, int holds) throws IndexOutOfBoundsException, IllegalArgumentException {
        requireJoint(joint);
        requireAmount(holds);
        return replace(chain.hangers, joint, holds);
    }

    public int prop(int joint, int holds) throws IndexOutOfBoundsException, IllegalArgumentException {
        requireJoint(joint);
        requireAmount(holds);
        return replace(chain.props, joint, holds);
    }

    public int move(int joint, int to) throws IndexOutOfBoundsException, IllegalArgumentException {
        requireJoint(joint);
        requireJoint(to);
        if (joint == to) {
            throw new IllegalArgumentException("both joints are the same");
        }
        past.save(chain);
        return chain.moveWeight(joint, to);
    }

    public int set(int setting, int value) throws IndexOutOfBoundsException, IllegalArgumentException {
        requireSetting(setting);
        if (value < leastOf(setting) || value > mostOf(setting)) {
            throw new IllegalArgumentException("the value is out of range");
        }
        return replace(chain.settings, setting, value) + TOLD_MORE;
    }

    // ---- texts

    public int append(int code) throws IllegalArgumentException, IllegalStateException {
        if (code < FIRST_CODE || code > LAST_CODE) {
            throw new IllegalArgumentException("the code is not 33 to 126");
        }
        if (length >= MOST_CODES) {
            throw new IllegalStateException("the buffer has 60 characters");
        }
        codes.put(length, code);
        length++;
        return length;
    }

    public int clearBuffer() {
        int previous = length;
        length = 0;
        return previous;
    }

    public int firstError() {
        return reader.read(codes, length);
    }

    public int shape() throws IllegalArgumentException {
        int firstWrong = reader.read(codes, length);
        if (firstWrong < length || !reader.isComplete()) {
            throw new IllegalArgumentException("the buffer is not a complete shape");
        }
        past.save(chain);
        int previous = chain.links;
        chain.takeShape(reader.links, reader.steps, reader.weights);
        length = 0;
        return previous;
    }

    public int undo() throws IllegalStateException {
        if (past.kept <= 0) {
            throw new IllegalStateException("no state is saved");
        }
        past.restore(chain);
        return past.kept;
    }

    // ---- looks; nothing is changed

    public int linkOf(int link, int what) throws IndexOutOfBoundsException, IllegalArgumentException {
        requireLink(link);
        requireWhat(what, LINK_NUMBERS);
        balance.weigh(chain);
        switch (what) {
            case 0:
                return chain.steps.at(link) + STEEPEST;
            case 1:
                return balance.forces.at(link);
            default:
                return balance.breaks(chain, link) ? 1 : 0;
        }
    }

    public int joint(int joint, int what) throws IndexOutOfBoundsException, IllegalArgumentException {
        requireJoint(joint);
        requireWhat(what, JOINT_NUMBERS);
        balance.weigh(chain);
        switch (what) {
            case 0:
                return balance.heights.at(joint) + TOLD_MORE;
            case 1:
                return chain.weights.at(joint);
            case 2:
                return chain.hangers.at(joint);
            case 3:
                return chain.props.at(joint);
            case 4:
                return balance.burdens.at(joint);
            case 5:
                return balance.byHangers.at(joint);
            case 6:
                return balance.byProps.at(joint);
            default:
                return balance.loads.at(joint);
        }
    }

    public int count(int what) throws IllegalArgumentException {
        requireWhat(what, COUNTS);
        balance.weigh(chain);
        switch (what) {
            case 0:
                return chain.links;
            case 1:
                return chain.weights.sum(chain.links + 1);
            case 2:
                return balance.ahead + balance.behind;
            case 3:
                return balance.ahead;
            case 4:
                return balance.behind;
            case 5:
                return balance.greatest;
            case 6:
                return balance.broken(chain);
            case 7:
                return balance.holds(chain) ? 1 : 0;
            case 8:
                return balance.lowest(chain);
            case 9:
                return balance.heights.at(balance.lowest(chain)) + TOLD_MORE;
            default:
                return past.kept;
        }
    }

    public int setting(int setting) throws IndexOutOfBoundsException {
        requireSetting(setting);
        return chain.settings.at(setting) + TOLD_MORE;
    }

    // ---- what would be; nothing is changed

    public int ifWeight(int joint, int weight) throws IndexOutOfBoundsException, IllegalArgumentException {
        requireJoint(joint);
        requireAmount(weight);
        trial.copyFrom(chain);
        trial.weights.put(joint, weight);
        return balance.weigh(trial);
    }

    public int mostWeight(int joint) throws IndexOutOfBoundsException {
        requireJoint(joint);
        trial.copyFrom(chain);
        // More weight at a joint can also relieve a link, so each weight is tried.
        for (int weight = MOST_AT_JOINT; weight >= 0; weight--) {
            trial.weights.put(joint, weight);
            balance.weigh(trial);
            if (balance.holds(trial)) {
                return weight;
            }
        }
        return NONE;
    }

    public int bestMove(int joint) throws IndexOutOfBoundsException {
        requireJoint(joint);
        if (chain.weights.at(joint) == 0) {
            return NONE;
        }
        int best = NONE;
        int least = 0;
        for (int to = 0; to <= chain.links; to++) {
            if (to != joint) {
                trial.copyFrom(chain);
                trial.moveWeight(joint, to);
                int force = balance.weigh(trial);
                if (best == NONE || force < least) {
                    best = to;
                    least = force;
                }
            }
        }
        return best;
    }

    public int bestHanger(int holds) throws IllegalArgumentException {
        requireAmount(holds);
        int best = NONE;
        int least = 0;
        for (int joint = 1; joint < chain.links; joint++) {
            trial.copyFrom(chain);
            trial.hangers.put(joint, Math.min(MOST_AT_JOINT, chain.hangers.at(joint) + holds));
            int force = balance.weigh(trial);
            if (best == NONE || force < least) {
                best = joint;
                least = force;
            }
        }
        return best;
    }

    public int bestStep(int link) throws IndexOutOfBoundsException {
        requireLink(link);
        trial.copyFrom(chain);
        int best = -STEEPEST;
        int least = 0;
        for (int step = -STEEPEST; step <= STEEPEST; step++) {
            trial.steps.put(link, step);
            int force = balance.weigh(trial);
            if (step == -STEEPEST || force < least) {
                best = step;
                least = force;
            }
        }
        return best + STEEPEST;
    }

    public double evenness() {
        balance.weigh(chain);
        int lesser = Math.min(balance.ahead, balance.behind);
        int greater = Math.max(balance.ahead, balance.behind);
        if (greater == 0) {
            return 1.0;
        }
        return (double) lesser / (double) greater;
    }

    public long digest() {
        long hash = FIRST_HASH;
        for (int what = 0; what < COUNTS; what++) {
            hash = mix(hash, count(what));
        }
        for (int setting = 0; setting < SETTINGS; setting++) {
            hash = mix(hash, setting(setting));
        }
        for (int link = 0; link < chain.links; link++) {
            hash = mixLink(hash, link);
        }
        for (int joint = 0; joint <= chain.links; joint++) {
            hash = mixJoint(hash, joint);
        }
        hash = mix(hash, bestHanger(DIGEST_HANGER));
        hash = mix(hash, bitsOf(evenness()));
        hash = mix(hash, length);
        for (int place = 0; place < length; place++) {
            hash = mix(hash, codes.at(place));
        }
        return hash;
    }

    private long mixLink(long start, int link) {
        long hash = start;
        for (int what = 0; what < LINK_NUMBERS; what++) {
            hash = mix(hash, linkOf(link, what));
        }
        return mix(hash, bestStep(link));
    }

    private long mixJoint(long start, int joint) {
        long hash = start;
        for (int what = 0; what < JOINT_NUMBERS; what++) {
            hash = mix(hash, joint(joint, what));
        }
        hash = mix(hash, ifWeight(joint, DIGEST_WEIGHT));
        hash = mix(hash, mostWeight(joint));
        return mix(hash, bestMove(joint));
    }

    private static long mix(long hash, long value) {
        return 31L * hash + value;
    }

    /**
     * The bits of a share, 0 to 1, put together by hand, as the language leaves the
     * library's way out. Doubling is exact, so nothing is rounded here.
     */
    private static long bitsOf(double share) {
        if (share <= 0.0) {
            return 0L;
        }
        double scaled = share;
        long exponent = 1023L;
        while (scaled < 1.0 && exponent > 1L) {
            scaled = scaled * 2.0;
            exponent--;
        }
        long fraction = (long) ((scaled - 1.0) * 4503599627370496.0);
        return (exponent << 52) + fraction;
    }

    /** Changes one number of the chain, undoable, and returns what it was. */
    private int replace(Row row, int index, int value) {
        past.save(chain);
        int previous = row.at(index);
        row.put(index, value);
        return previous;
    }

    private void requireLink(int link) {
        if (link < 0 || link >= chain.links) {
            throw new IndexOutOfBoundsException("there is no such link");
        }
    }

    private void requireJoint(int joint) {
        if (joint < 0 || joint > chain.links) {
            throw new IndexOutOfBoundsException("there is no such joint");
        }
    }

    private static void requireSetting(int setting) {
        if (setting < 0 || setting >= SETTINGS) {
            throw new IndexOutOfBoundsException("there is no such setting");
        }
    }

    private static void requireStep(int step) {
        if (step < -STEEPEST || step > STEEPEST) {
            throw new IllegalArgumentException("the step is not -2 to 2");
        }
    }

    private static void requireAmount(int amount) {
        if (amount < 0 || amount > MOST_AT_JOINT) {
            throw new IllegalArgumentException("the amount is not 0 to 99");
        }
    }

    private static void requireWhat(int what, int bound) {
        if (what < 0 || what >= bound) {
            throw new IllegalArgumentException("there is no such number");
        }
    }

    private static int leastOf(int setting) {
        switch (setting) {
            case PROPS_REACH:
                return -40;
            case GREATEST_FORCE:
                return 1;
            default:
                return 0;
        }
    }

    private static int mostOf(int setting) {
        switch (setting) {
            case PROPS_REACH:
                return 40;
            case GREATEST_FORCE:
                return 999;
            default:
                return 20;
        }
    }

    /** A row of numbers that tests each index itself; outside it, all is 0. */
    private static final class Row {
        private final int[] cells;

        Row(int size) {
            cells = new int[size < 0 ? 0 : size];
        }

        int at(int index) {
            return index >= 0 && index < cells.length ? cells[index] : 0;
        }

        void put(int index, int value) {
            if (index >= 0 && index < cells.length) {
                cells[index] = value;
            }
        }

        int sum(int used) {
            int total = 0;
            for (int k = 0; k < used && k < cells.length; k++) {
                total += cells[k];
            }
            return total;
        }

        void clear() {
            for (int k = 0; k < cells.length; k++) {
                cells[k] = 0;
            }
        }

        void copyFrom(Row other) {
            for (int k = 0; k < cells.length; k++) {
                cells[k] = other.at(k);
            }
        }

        void takeOut(int index) {
            for (int k = index; k < cells.length; k++) {
                put(k, at(k + 1));
            }
        }

        void turnRound(int used) {
            int behind = used - 1;
            for (int ahead = 0; ahead < behind; ahead++) {
                int kept = at(ahead);
                put(ahead, at(behind));
                put(behind, kept);
                behind--;
            }
        }
    }

    /** All that undo restores: the links, what the joints have, and the settings. */
    private static final class Chain {
        final Row steps = new Row(MOST_LINKS);
        final Row weights = new Row(MOST_LINKS + 1);
        final Row hangers = new Row(MOST_LINKS + 1);
        final Row props = new Row(MOST_LINKS + 1);
        final Row settings = new Row(SETTINGS);
        int links = 1;

        Chain() {
            settings.put(HALF_LINK, 1);
            settings.put(PROPS_REACH, -2);
            settings.put(FORCE_BY_STEP, 1);
            settings.put(GREATEST_FORCE, 60);
        }

        void copyFrom(Chain other) {
            links = other.links;
            steps.copyFrom(other.steps);
            weights.copyFrom(other.weights);
            hangers.copyFrom(other.hangers);
            props.copyFrom(other.props);
            settings.copyFrom(other.settings);
        }

        void addLink(int step) {
            steps.put(links, step);
            links++;
            weights.put(links, 0);
            hangers.put(links, 0);
            props.put(links, 0);
        }

        void takeLink(int link) {
            steps.takeOut(link);
            weights.takeOut(link + 1);
            hangers.takeOut(link + 1);
            props.takeOut(link + 1);
            links--;
        }

        void turnRound() {
            steps.turnRound(links);
            for (int k = 0; k < links; k++) {
                steps.put(k, -steps.at(k));
            }
            weights.turnRound(links + 1);
            hangers.turnRound(links + 1);
            props.turnRound(links + 1);
        }

        int moveWeight(int joint, int to) {
            int moved = Math.min(weights.at(joint), MOST_AT_JOINT - weights.at(to));
            weights.put(joint, weights.at(joint) - moved);
            weights.put(to, weights.at(to) + moved);
            return moved;
        }

        void takeShape(int newLinks, Row newSteps, Row newWeights) {
            links = newLinks;
            steps.copyFrom(newSteps);
            weights.copyFrom(newWeights);
            hangers.clear();
            props.clear();
        }
    }

    /** What a chain bears; right for the chain that was weighed last. */
    private static final class Balance {
        final Row heights = new Row(MOST_LINKS + 1);
        final Row burdens = new Row(MOST_LINKS + 1);
        final Row byHangers = new Row(MOST_LINKS + 1);
        final Row byProps = new Row(MOST_LINKS + 1);
        final Row loads = new Row(MOST_LINKS + 1);
        final Row forces = new Row(MOST_LINKS);
        int ahead = 0;
        int behind = 0;
        int greatest = 0;

        /** Returns the greatest force of a link. */
        int weigh(Chain chain) {
            placeJoints(chain);
            for (int joint = 0; joint <= chain.links; joint++) {
                hold(chain, joint);
            }
            loadWalls(chain);
            pullLinks(chain);
            return greatest;
        }

        private void placeJoints(Chain chain) {
            int height = 0;
            heights.put(0, 0);
            for (int link = 0; link < chain.links; link++) {
                height += chain.steps.at(link);
                heights.put(link + 1, height);
            }
        }

        private void hold(Chain chain, int joint) {
            boolean atWall = joint == 0 || joint == chain.links;
            int burden = atWall ? 0 : chain.weights.at(joint) + 2 * chain.settings.at(HALF_LINK);
            int byHanger = Math.min(burden, chain.hangers.at(joint));
            int rest = burden - byHanger;
            boolean reached = heights.at(joint) <= chain.settings.at(PROPS_REACH);
            int byProp = reached ? Math.min(rest, chain.props.at(joint)) : 0;
            burdens.put(joint, burden);
            byHangers.put(joint, byHanger);
            byProps.put(joint, byProp);
            loads.put(joint, rest - byProp);
        }

        private void loadWalls(Chain chain) {
            ahead = 0;
            behind = 0;
            int links = chain.links;
            if (links <= 0) {
                return;
            }
            for (int joint = 1; joint < links; joint++) {
                int load = loads.at(joint);
                int toBehind = load * joint / links;
                behind += toBehind;
                ahead += load - toBehind;
            }
        }

        private void pullLinks(Chain chain) {
            int left = ahead;
            greatest = 0;
            for (int link = 0; link < chain.links; link++) {
                left -= loads.at(link);
                int slant = Math.abs(chain.steps.at(link));
                int force = Math.abs(left) + slant * chain.settings.at(FORCE_BY_STEP);
                forces.put(link, force);
                greatest = Math.max(greatest, force);
            }
        }

        boolean breaks(Chain chain, int link) {
            return forces.at(link) > chain.settings.at(GREATEST_FORCE);
        }

        boolean holds(Chain chain) {
            return greatest <= chain.settings.at(GREATEST_FORCE);
        }

        int broken(Chain chain) {
            int found = 0;
            for (int link = 0; link < chain.links; link++) {
                if (breaks(chain, link)) {
                    found++;
                }
            }
            return found;
        }

        int lowest(Chain chain) {
            int found = 0;
            for (int joint = 1; joint <= chain.links; joint++) {
                if (heights.at(joint) < heights.at(found)) {
                    found = joint;
                }
            }
            return found;
        }
    }

    /** The saved states in a ring, so that no state is made after the constructor. */
    private static final class Past {
        private final Chain[] slots = new Chain[MOST_SAVED];
        private int oldest = 0;
        int kept = 0;

        Past() {
            for (int k = 0; k < slots.length; k++) {
                slots[k] = new Chain();
            }
        }

        void save(Chain chain) {
            if (kept < MOST_SAVED) {
                kept++;
            } else {
                oldest = (oldest + 1) % MOST_SAVED;
            }
            Chain latest = latest();
            if (latest != null) {
                latest.copyFrom(chain);
            }
        }

        void restore(Chain chain) {
            Chain latest = latest();
            if (latest != null) {
                chain.copyFrom(latest);
                kept--;
            }
        }

        private Chain latest() {
            if (kept <= 0) {
                return null;
            }
            int place = (oldest + kept - 1) % MOST_SAVED;
            return place >= 0 && place < slots.length ? slots[place] : null;
        }
    }

    /** Reads a shape as a text; its rows are right for the text that was read last. */
    private static final class ShapeReader {
        private static final int AT_START = 0;
        private static final int BEHIND_SLANT = 1;
        private static final int BEHIND_STEP = 2;
        private static final int BEHIND_BRACKET = 3;
        private static final int BEHIND_DIGIT = 4;
        private static final int BEHIND_DIGITS = 5;
        private static final int BEHIND_WEIGHT = 6;

        final Row steps = new Row(MOST_LINKS);
        final Row weights = new Row(MOST_LINKS + 1);
        int links = 0;
        private int state = AT_START;

        /** Returns the index of the first syntax error, the length if there is none. */
        int read(Row codes, int length) {
            steps.clear();
            weights.clear();
            links = 0;
            state = AT_START;
            for (int place = 0; place < length; place++) {
                if (!takes(codes.at(place))) {
                    return place;
                }
            }
            return length;
        }

        boolean isComplete() {
            return state == BEHIND_SLANT || state == BEHIND_STEP || state == BEHIND_WEIGHT;
        }

        private boolean takes(int code) {
            switch (state) {
                case BEHIND_SLANT:
                    return takesTwo(code) || takesBracket(code) || takesLink(code);
                case BEHIND_STEP:
                    return takesBracket(code) || takesLink(code);
                case BEHIND_BRACKET:
                    return code != '0' && takesDigit(code, BEHIND_DIGIT);
                case BEHIND_DIGIT:
                    return takesDigit(code, BEHIND_DIGITS) || takesEnd(code);
                case BEHIND_DIGITS:
                    return takesEnd(code);
                default:
                    return takesLink(code);
            }
        }

        private boolean takesLink(int code) {
            if (links >= MOST_LINKS) {
                return false;
            }
            if (code != '=' && code != '^' && code != 'v') {
                return false;
            }
            int step = code == '^' ? 1 : code == 'v' ? -1 : 0;
            steps.put(links, step);
            links++;
            state = step == 0 ? BEHIND_STEP : BEHIND_SLANT;
            return true;
        }

        private boolean takesTwo(int code) {
            if (code != '2') {
                return false;
            }
            steps.put(links - 1, 2 * steps.at(links - 1));
            state = BEHIND_STEP;
            return true;
        }

        private boolean takesBracket(int code) {
            if (code != '[') {
                return false;
            }
            state = BEHIND_BRACKET;
            return true;
        }

        private boolean takesDigit(int code, int next) {
            if (code < '0' || code > '9') {
                return false;
            }
            weights.put(links, 10 * weights.at(links) + code - '0');
            state = next;
            return true;
        }

        private boolean takesEnd(int code) {
            if (code != ']') {
                return false;
            }
            state = BEHIND_WEIGHT;
            return true;
        }
    }
}
