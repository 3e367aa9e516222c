public final class ChannelWeb {
    public static final int NONE = -1, REFUSED = -2, FULL = -3;

    private static final int PARTIES = 6;
    private static final int SECRETS = 16;
    private static final int FIRST_COINS = 1000;
    private static final int MOST_BASE = 9;
    private static final int MOST_RATE = 20;
    private static final int VALUE_BITS = 8;
    private static final int MOST_VALUE = (1 << VALUE_BITS) - 1;
    private static final int MOST_HOPS = 4;
    private static final int MOST_BLOCKS = 20;
    private static final int MOST_RENEWED = 6000;
    private static final int BLOCKS_PER_HOP = 3;
    private static final int BLOCKS_HELD = 3;

    private static final int CHANNELS = 8;
    private static final int SIDES = 2;
    private static final int MOST_LOCKS = 3;
    private static final int LAST_STATE = 11;
    // The outputs are a row of locks as a state has one, so they stand in a row behind the states.
    private static final int OUTPUT_ROW = LAST_STATE + 1;
    private static final int ROWS = OUTPUT_ROW + 1;

    private static final int ALL_SIDES = CHANNELS * SIDES;
    private static final int ALL_ROWS = CHANNELS * ROWS;
    private static final int ALL_BALANCES = ALL_ROWS * SIDES;
    private static final int ALL_PLACES = ALL_ROWS * MOST_LOCKS;
    // A lock never changes, and each secret is used once with at most one lock for each channel
    // of the route: so a lock's number is secret * MOST_HOPS + place in the route, and rows hold numbers.
    private static final int ALL_LOCKS = SECRETS * MOST_HOPS;

    private static final int OPEN = 0, CLOSED = 1, GONE = 2;
    private static final int LEAVE = 0, SETTLE = 1, FAIL = 2, PUBLISH = 3;

    private final int[] coins = new int[PARTIES];
    private final boolean[] isOnline = new boolean[PARTIES];
    private final int[] baseOf = new int[PARTIES];
    private final int[] rateOf = new int[PARTIES];
    private final int[] guardOf = new int[PARTIES];
    private final int[] secretsOf = new int[PARTIES];

    private int heightNow = 0;
    private int usedSecrets = 0;
    private int channelCount = 0;

    private final int[] partyAt = new int[ALL_SIDES];
    private final int[] status = new int[CHANNELS];
    private final int[] latest = new int[CHANNELS];
    private final int[] published = new int[CHANNELS];
    private final int[] publisherSide = new int[CHANNELS];
    private final int[] publishedAt = new int[CHANNELS];
    private final int[] held = new int[CHANNELS];

    private final int[] balance = new int[ALL_BALANCES];
    private final int[] lockCount = new int[ALL_ROWS];
    private final int[] lockIn = new int[ALL_PLACES];
    private final int[] lockFrom = new int[ALL_LOCKS];
    private final int[] lockAmount = new int[ALL_LOCKS];
    private final int[] lockExpiry = new int[ALL_LOCKS];

    private final int[] triedChannel = new int[MOST_HOPS];
    private final int[] triedSide = new int[MOST_HOPS];
    private final int[] triedAmount = new int[MOST_HOPS];
    private final int[] bestChannel = new int[MOST_HOPS];
    private final int[] bestSide = new int[MOST_HOPS];
    private final int[] bestAmount = new int[MOST_HOPS];
    private int bestLength = 0;

    public ChannelWeb() {
        for (int p = 0; p < PARTIES; p++) {
            coins[p] = FIRST_COINS;
            isOnline[p] = true;
            baseOf[p] = 1;
            guardOf[p] = NONE;
        }
    }

    public boolean online(int p, boolean is) {
        if (!isParty(p) || isOnline[p] == is) {
            return false;
        }
        isOnline[p] = is;
        return true;
    }

    public boolean terms(int p, int base, int rate, int guard) {
        if (!isParty(p) || base < 0 || base > MOST_BASE || rate < 0 || rate > MOST_RATE) {
            return false;
        }
        if (guard != NONE && (!isParty(guard) || guard == p)) {
            return false;
        }
        baseOf[p] = base;
        rateOf[p] = rate;
        guardOf[p] = guard;
        return true;
    }

    public int open(int a, int b, int x, int y) {
        if (!isParty(a) || !isParty(b) || a == b || !isOnline[a] || !isOnline[b]) {
            return REFUSED;
        }
        if (x < 0 || y < 0 || x > coins[a] || y > coins[b] || (x == 0 && y == 0)) {
            return REFUSED;
        }
        if (channelCount >= CHANNELS) {
            return FULL;
        }
        int c = channelCount;
        channelCount++;
        partyAt[c * SIDES] = a;
        partyAt[c * SIDES + 1] = b;
        coins[a] -= x;
        coins[b] -= y;
        startStates(c, x, y);
        return c;
    }

    public int pay(int p, int q, int v, int secret) {
        if (!isPayment(p, q, v) || !isUnusedSecret(secret)) {
            return REFUSED;
        }
        findBestRoute(p, q, v);
        if (bestLength == 0) {
            return NONE;
        }
        for (int i = 0; i < bestLength && i < MOST_HOPS; i++) {
            addLock(i, secret);
        }
        usedSecrets |= 1 << secret;
        secretsOf[q] |= 1 << secret;
        return bestAmount[0];
    }

    public int route(int p, int q, int v, int what) {
        if (!isPayment(p, q, v)) {
            return NONE;
        }
        findBestRoute(p, q, v);
        if (bestLength == 0) {
            return NONE;
        }
        if (what == 2 * MOST_HOPS) {
            return bestLength;
        }
        if (what >= 0 && what < bestLength) {
            return bestChannel[what];
        }
        if (what >= MOST_HOPS && what < MOST_HOPS + bestLength) {
            return bestAmount[what - MOST_HOPS];
        }
        return NONE;
    }

    public int most(int p, int q) {
        if (!isParty(p) || !isParty(q) || p == q) {
            return 0;
        }
        // A route that carries v carries every smaller value, so the greatest one can be
        // found bit by bit, and all bits together are just MOST_VALUE.
        int carried = 0;
        for (int bit = VALUE_BITS - 1; bit >= 0; bit--) {
            int tried = carried + (1 << bit);
            findBestRoute(p, q, tried);
            if (bestLength > 0) {
                carried = tried;
            }
        }
        return carried;
    }

    public boolean close(int c) {
        if (!isQuiet(c)) {
            return false;
        }
        int row = c * ROWS + latest[c];
        for (int s = 0; s < SIDES; s++) {
            coins[partyAt[c * SIDES + s]] += balance[row * SIDES + s];
        }
        status[c] = GONE;
        return true;
    }

    public boolean renew(int c, int x, int y) {
        if (!isQuiet(c) || x < -MOST_RENEWED || x > MOST_RENEWED || y < -MOST_RENEWED || y > MOST_RENEWED) {
            return false;
        }
        int a = partyAt[c * SIDES];
        int b = partyAt[c * SIDES + 1];
        int row = c * ROWS + latest[c];
        int newX = balance[row * SIDES] + x;
        int newY = balance[row * SIDES + 1] + y;
        if (x > coins[a] || y > coins[b] || newX < 0 || newY < 0) {
            return false;
        }
        coins[a] -= x;
        coins[b] -= y;
        startStates(c, newX, newY);
        return true;
    }

    public boolean publish(int p, int c, int k) {
        int s = sideOf(c, p);
        if (s == NONE || status[c] != OPEN || k < 0 || k > latest[c]) {
            return false;
        }
        putOnChain(c, s, k);
        return true;
    }

    public int block(int n) {
        if (n < 1 || n > MOST_BLOCKS) {
            return REFUSED;
        }
        for (int i = 0; i < n; i++) {
            heightNow++;
            for (int p = 0; p < PARTIES; p++) {
                if (isOnline[p]) {
                    takeTurn(p);
                }
            }
        }
        return heightNow;
    }

    public int party(int p, int what) {
        if (!isParty(p)) {
            return NONE;
        }
        switch (what) {
            case 0: return coins[p];
            case 1: return isOnline[p] ? 1 : 0;
            case 2: return baseOf[p];
            case 3: return rateOf[p];
            case 4: return guardOf[p];
            case 5: return secretsOf[p];
            case 6: return ownedInChannels(p);
            default: return NONE;
        }
    }

    public int channel(int c, int what) {
        if (!isChannel(c) || (what > 3 && status[c] != CLOSED)) {
            return NONE;
        }
        switch (what) {
            case 0: return status[c];
            case 1: return partyAt[c * SIDES];
            case 2: return partyAt[c * SIDES + 1];
            case 3: return latest[c];
            case 4: return published[c];
            case 5: return partyAt[c * SIDES + publisherSide[c]];
            case 6: return publishedAt[c];
            case 7: return held[c];
            case 8: return lockCount[c * ROWS + OUTPUT_ROW];
            default: return NONE;
        }
    }

    public int state(int c, int k, int what) {
        if (!isChannel(c) || k < 0 || k > latest[c]) {
            return NONE;
        }
        int row = c * ROWS + k;
        switch (what) {
            case 0: return balance[row * SIDES];
            case 1: return balance[row * SIDES + 1];
            case 2: return lockCount[row];
            default: return NONE;
        }
    }

    public int lock(int c, int k, int j, int what) {
        if (!isChannel(c) || k < -1 || k > latest[c]) {
            return NONE;
        }
        int row = c * ROWS + (k == -1 ? OUTPUT_ROW : k);
        if (j < 0 || j >= lockCount[row]) {
            return NONE;
        }
        int lock = lockIn[row * MOST_LOCKS + j];
        switch (what) {
            case 0: return lockFrom[lock];
            case 1: return lockAmount[lock];
            case 2: return lock / MOST_HOPS;
            case 3: return lockExpiry[lock];
            default: return NONE;
        }
    }

    public int height() {
        return heightNow;
    }

    private boolean isParty(int p) {
        return p >= 0 && p < PARTIES;
    }

    private boolean isChannel(int c) {
        return c >= 0 && c < channelCount;
    }

    private boolean isPayment(int p, int q, int v) {
        return isParty(p) && isParty(q) && p != q && v >= 1 && v <= MOST_VALUE;
    }

    private boolean isUnusedSecret(int secret) {
        return secret >= 0 && secret < SECRETS && (usedSecrets >> secret & 1) == 0;
    }

    private boolean knowsSecretOf(int lock, int p) {
        return (secretsOf[p] >> (lock / MOST_HOPS) & 1) != 0;
    }

    private int sideOf(int c, int p) {
        if (!isChannel(c)) {
            return NONE;
        }
        if (partyAt[c * SIDES] == p) {
            return 0;
        }
        return partyAt[c * SIDES + 1] == p ? 1 : NONE;
    }

    private boolean isReady(int c) {
        return status[c] == OPEN && isOnline[partyAt[c * SIDES]] && isOnline[partyAt[c * SIDES + 1]];
    }

    private boolean isQuiet(int c) {
        return isChannel(c) && isReady(c) && lockCount[c * ROWS + latest[c]] == 0;
    }

    private int ownedInChannels(int p) {
        int sum = 0;
        for (int c = 0; c < CHANNELS; c++) {
            int s = sideOf(c, p);
            if (s != NONE && status[c] == OPEN) {
                int row = c * ROWS + latest[c];
                sum += balance[row * SIDES + s];
            } else if (s != NONE && status[c] == CLOSED && publisherSide[c] == s) {
                sum += held[c];
            }
        }
        return sum;
    }

    private void startStates(int c, int x, int y) {
        int row = c * ROWS;
        latest[c] = 0;
        balance[row * SIDES] = x;
        balance[row * SIDES + 1] = y;
        lockCount[row] = 0;
    }

    // Shorter rows come first, and rows of one length in the order of their numbers, so the
    // first row with the least amount is the best one and a later equal one never replaces it.
    private void findBestRoute(int p, int q, int v) {
        bestLength = 0;
        int rowsOfLength = 1;
        for (int length = 1; length <= MOST_HOPS; length++) {
            rowsOfLength *= CHANNELS;
            for (int code = 0; code < rowsOfLength; code++) {
                readRow(length, code);
                if (leadsTo(length, p, q) && carries(length, v)) {
                    keepIfBetter(length);
                }
            }
        }
    }

    private void readRow(int length, int code) {
        int rest = code;
        for (int i = length - 1; i >= 0; i--) {
            triedChannel[i] = rest % CHANNELS;
            rest /= CHANNELS;
        }
    }

    private boolean leadsTo(int length, int p, int q) {
        int at = p;
        int met = 1 << p;
        for (int i = 0; i < length; i++) {
            int c = triedChannel[i];
            int s = sideOf(c, at);
            if (s == NONE || !isReady(c)) {
                return false;
            }
            at = partyAt[c * SIDES + 1 - s];
            if ((met >> at & 1) != 0) {
                return false;
            }
            met |= 1 << at;
            triedSide[i] = s;
        }
        return at == q;
    }

    // Amounts grow from the end of the row, because each party between takes its fee on
    // what it sends on.
    private boolean carries(int length, int v) {
        int amount = v;
        for (int i = length - 1; i >= 0; i--) {
            int c = triedChannel[i];
            int row = c * ROWS + latest[c];
            if (latest[c] >= LAST_STATE || lockCount[row] >= MOST_LOCKS) {
                return false;
            }
            if (balance[row * SIDES + triedSide[i]] < amount) {
                return false;
            }
            triedAmount[i] = amount;
            int sender = partyAt[c * SIDES + triedSide[i]];
            amount += baseOf[sender] + amount * rateOf[sender] / 100;
        }
        return true;
    }

    private void keepIfBetter(int length) {
        if (bestLength > 0 && bestAmount[0] <= triedAmount[0]) {
            return;
        }
        bestLength = length;
        for (int i = 0; i < length; i++) {
            bestChannel[i] = triedChannel[i];
            bestSide[i] = triedSide[i];
            bestAmount[i] = triedAmount[i];
        }
    }

    private void addLock(int hop, int secret) {
        int s = bestSide[hop];
        int lock = secret * MOST_HOPS + hop;
        lockFrom[lock] = s;
        lockAmount[lock] = bestAmount[hop];
        lockExpiry[lock] = heightNow + BLOCKS_PER_HOP * (bestLength - hop);
        int row = makeNextState(bestChannel[hop]);
        balance[row * SIDES + s] -= bestAmount[hop];
        lockIn[row * MOST_LOCKS + lockCount[row]] = lock;
        lockCount[row]++;
    }

    private int makeNextState(int c) {
        int old = c * ROWS + latest[c];
        int row = old + 1;
        for (int s = 0; s < SIDES; s++) {
            balance[row * SIDES + s] = balance[old * SIDES + s];
        }
        for (int j = 0; j < MOST_LOCKS; j++) {
            lockIn[row * MOST_LOCKS + j] = lockIn[old * MOST_LOCKS + j];
        }
        lockCount[row] = lockCount[old];
        latest[c]++;
        return row;
    }

    private void removeLock(int row, int j) {
        for (int i = j; i < MOST_LOCKS - 1; i++) {
            lockIn[row * MOST_LOCKS + i] = lockIn[row * MOST_LOCKS + i + 1];
        }
        lockCount[row]--;
    }

    private void putOnChain(int c, int s, int k) {
        int row = c * ROWS + k;
        int outputs = c * ROWS + OUTPUT_ROW;
        int other = partyAt[c * SIDES + 1 - s];
        status[c] = CLOSED;
        published[c] = k;
        publisherSide[c] = s;
        publishedAt[c] = heightNow;
        held[c] = balance[row * SIDES + s];
        coins[other] += balance[row * SIDES + 1 - s];
        for (int j = 0; j < MOST_LOCKS; j++) {
            lockIn[outputs * MOST_LOCKS + j] = lockIn[row * MOST_LOCKS + j];
        }
        lockCount[outputs] = lockCount[row];
    }

    private void takeTurn(int p) {
        for (int c = 0; c < CHANNELS; c++) {
            int s = sideOf(c, p);
            if (s != NONE) {
                tendOpen(c, s);
                tendClosed(c, s);
            }
        }
        for (int other = 0; other < PARTIES; other++) {
            if (!isOnline[other] && guardOf[other] == p) {
                guardParty(other, p);
            }
        }
    }

    // Every act takes a lock from the row or closes the channel, so one try for each lock
    // that a row can have is enough.
    private void tendOpen(int c, int s) {
        for (int act = 0; act < MOST_LOCKS && status[c] == OPEN; act++) {
            actOnFirstDue(c, s);
        }
    }

    private void actOnFirstDue(int c, int s) {
        int row = c * ROWS + latest[c];
        for (int j = 0; j < MOST_LOCKS && j < lockCount[row]; j++) {
            int due = dueAct(c, s, lockIn[row * MOST_LOCKS + j]);
            if (due == PUBLISH) {
                putOnChain(c, s, latest[c]);
            } else if (due != LEAVE) {
                endLock(c, j, due);
            }
            if (due != LEAVE) {
                return;
            }
        }
    }

    private int dueAct(int c, int s, int lock) {
        boolean changes = isReady(c) && latest[c] < LAST_STATE;
        if (lockFrom[lock] == s) {
            if (lockExpiry[lock] > heightNow) {
                return LEAVE;
            }
            return changes ? FAIL : PUBLISH;
        }
        if (!knowsSecretOf(lock, partyAt[c * SIDES + s])) {
            return LEAVE;
        }
        if (changes) {
            return SETTLE;
        }
        return lockExpiry[lock] <= heightNow + 1 ? PUBLISH : LEAVE;
    }

    private void endLock(int c, int j, int how) {
        int row = makeNextState(c);
        int lock = lockIn[row * MOST_LOCKS + j];
        int from = lockFrom[lock];
        if (how == SETTLE) {
            balance[row * SIDES + 1 - from] += lockAmount[lock];
            secretsOf[partyAt[c * SIDES + from]] |= 1 << (lock / MOST_HOPS);
        } else {
            balance[row * SIDES + from] += lockAmount[lock];
        }
        removeLock(row, j);
    }

    private void tendClosed(int c, int s) {
        if (status[c] != CLOSED) {
            return;
        }
        if (isCheated(c, s)) {
            punish(c);
            return;
        }
        collectOutputs(c, s);
        if (publisherSide[c] == s && heightNow - publishedAt[c] >= BLOCKS_HELD) {
            coins[partyAt[c * SIDES + s]] += held[c];
            held[c] = 0;
        }
    }

    private boolean isCheated(int c, int s) {
        return status[c] == CLOSED && publisherSide[c] != s && published[c] != latest[c];
    }

    private int punish(int c) {
        int row = c * ROWS + OUTPUT_ROW;
        int sum = held[c];
        for (int j = 0; j < MOST_LOCKS && j < lockCount[row]; j++) {
            sum += lockAmount[lockIn[row * MOST_LOCKS + j]];
        }
        coins[partyAt[c * SIDES + 1 - publisherSide[c]]] += sum;
        held[c] = 0;
        lockCount[row] = 0;
        return sum;
    }

    private void collectOutputs(int c, int s) {
        int row = c * ROWS + OUTPUT_ROW;
        int j = 0;
        for (int looked = 0; looked < MOST_LOCKS; looked++) {
            if (j < lockCount[row] && collects(c, s, lockIn[row * MOST_LOCKS + j])) {
                removeLock(row, j);
            } else {
                j++;
            }
        }
    }

    private boolean collects(int c, int s, int output) {
        int p = partyAt[c * SIDES + s];
        if (lockFrom[output] == s) {
            if (lockExpiry[output] > heightNow) {
                return false;
            }
        } else {
            if (!knowsSecretOf(output, p)) {
                return false;
            }
            secretsOf[partyAt[c * SIDES + 1 - s]] |= 1 << (output / MOST_HOPS);
        }
        if (publisherSide[c] == s) {
            held[c] += lockAmount[output];
        } else {
            coins[p] += lockAmount[output];
        }
        return true;
    }

    private void guardParty(int guarded, int guard) {
        for (int c = 0; c < CHANNELS; c++) {
            int s = sideOf(c, guarded);
            if (s != NONE && isCheated(c, s)) {
                int gain = punish(c);
                coins[guarded] -= gain / 10;
                coins[guard] += gain / 10;
            }
        }
    }
}
