import java.util.ArrayList;
import java.util.List;

/** The document told a second time, with objects and recursion, to hold the class against. */
final class Model {
    record Lock(int from, int amount, int secret, int expiry) { }

    record Hop(Channel channel, int amount) { }

    record State(int[] balance, List<Lock> locks) {
        State copy() {
            return new State(balance.clone(), new ArrayList<>(locks));
        }
    }

    static final class Party {
        int number;
        int coins = 1000;
        boolean online = true;
        int base = 1;
        int rate = 0;
        int guard = -1;
        int secrets = 0;

        boolean knows(int secret) {
            return (secrets & 1 << secret) != 0;
        }

        void learn(int secret) {
            secrets |= 1 << secret;
        }
    }

    static final class Channel {
        int number;
        Party[] sides;
        int status = 0;
        List<State> states = new ArrayList<>();
        int published;
        Party publisher;
        int publishedAt;
        int held;
        List<Lock> outputs = new ArrayList<>();

        State latest() {
            return states.get(states.size() - 1);
        }

        boolean ready() {
            return status == 0 && sides[0].online && sides[1].online;
        }

        boolean canChange() {
            return states.size() < 12;
        }

        State change() {
            State next = latest().copy();
            states.add(next);
            return next;
        }

        int side(Party p) {
            return sides[0] == p ? 0 : sides[1] == p ? 1 : -1;
        }

        Party other(Party p) {
            return sides[1 - side(p)];
        }

        boolean cheats(Party victim) {
            return status == 1 && side(victim) >= 0 && publisher != victim && published != states.size() - 1;
        }
    }

    final Party[] parties = new Party[6];
    final List<Channel> channels = new ArrayList<>();
    int height = 0;
    int used = 0;
    int lastRouteLength = 0;
    boolean lastRenewed = false;
    private List<Hop> best;

    Model() {
        for (int p = 0; p < 6; p++) {
            parties[p] = new Party();
            parties[p].number = p;
        }
    }

    int answer(Call call) {
        int[] a = call.args();
        return switch (call.name()) {
            case "online" -> Call.bit(online(a[0], a[1] == 1));
            case "terms" -> Call.bit(terms(a[0], a[1], a[2], a[3]));
            case "open" -> open(a[0], a[1], a[2], a[3]);
            case "pay" -> pay(a[0], a[1], a[2], a[3]);
            case "route" -> route(a[0], a[1], a[2], a[3]);
            case "most" -> most(a[0], a[1]);
            case "close" -> Call.bit(close(a[0]));
            case "renew" -> Call.bit(renew(a[0], a[1], a[2]));
            case "publish" -> Call.bit(publish(a[0], a[1], a[2]));
            case "block" -> block(a[0]);
            case "party" -> party(a[0], a[1]);
            case "channel" -> channel(a[0], a[1]);
            case "state" -> state(a[0], a[1], a[2]);
            case "lock" -> lock(a[0], a[1], a[2], a[3]);
            case "height" -> height;
            default -> throw new IllegalArgumentException("there is no call " + call);
        };
    }

    private static boolean in(int x, int low, int high) {
        return low <= x && x <= high;
    }

    boolean online(int p, boolean is) {
        if (!in(p, 0, 5) || parties[p].online == is) {
            return false;
        }
        parties[p].online = is;
        return true;
    }

    boolean terms(int p, int base, int rate, int guard) {
        if (!in(p, 0, 5) || !in(base, 0, 9) || !in(rate, 0, 20) || !in(guard, -1, 5) || guard == p) {
            return false;
        }
        parties[p].base = base;
        parties[p].rate = rate;
        parties[p].guard = guard;
        return true;
    }

    int open(int a, int b, int x, int y) {
        if (!in(a, 0, 5) || !in(b, 0, 5) || a == b || !parties[a].online || !parties[b].online) {
            return -2;
        }
        if (!in(x, 0, parties[a].coins) || !in(y, 0, parties[b].coins) || x == 0 && y == 0) {
            return -2;
        }
        if (channels.size() == 8) {
            return -3;
        }
        Channel c = new Channel();
        c.number = channels.size();
        c.sides = new Party[] {parties[a], parties[b]};
        c.states.add(new State(new int[] {x, y}, new ArrayList<>()));
        parties[a].coins -= x;
        parties[b].coins -= y;
        channels.add(c);
        return c.number;
    }

    /** Goes back from the receiver, so that each amount is known when its channel is reached. */
    private void search(Party p, Party at, int amount, List<Party> met, List<Hop> behind) {
        for (Channel c : channels) {
            if (!c.ready() || c.side(at) < 0 || !c.canChange() || c.latest().locks().size() > 2) {
                continue;
            }
            Party sender = c.other(at);
            if (met.contains(sender) || c.latest().balance()[c.side(sender)] < amount) {
                continue;
            }
            List<Hop> row = new ArrayList<>(behind);
            row.add(0, new Hop(c, amount));
            if (sender == p) {
                if (best == null || better(row, best)) {
                    best = row;
                }
            } else if (row.size() < 4) {
                List<Party> more = new ArrayList<>(met);
                more.add(sender);
                search(p, sender, amount + sender.base + amount * sender.rate / 100, more, row);
            }
        }
    }

    private static boolean better(List<Hop> one, List<Hop> two) {
        if (one.get(0).amount() != two.get(0).amount()) {
            return one.get(0).amount() < two.get(0).amount();
        }
        if (one.size() != two.size()) {
            return one.size() < two.size();
        }
        for (int i = 0; i < one.size(); i++) {
            if (one.get(i).channel() != two.get(i).channel()) {
                return one.get(i).channel().number < two.get(i).channel().number;
            }
        }
        return false;
    }

    private List<Hop> bestRoute(int p, int q, int v) {
        best = null;
        search(parties[p], parties[q], v, List.of(parties[q]), List.of());
        return best;
    }

    private static boolean payable(int p, int q, int v) {
        return in(p, 0, 5) && in(q, 0, 5) && p != q && in(v, 1, 255);
    }

    int pay(int p, int q, int v, int secret) {
        lastRouteLength = 0;
        if (!payable(p, q, v) || !in(secret, 0, 15) || (used & 1 << secret) != 0) {
            return -2;
        }
        List<Hop> row = bestRoute(p, q, v);
        if (row == null) {
            return -1;
        }
        Party at = parties[p];
        for (int i = 0; i < row.size(); i++) {
            Channel c = row.get(i).channel();
            int amount = row.get(i).amount();
            State next = c.change();
            next.balance()[c.side(at)] -= amount;
            next.locks().add(new Lock(c.side(at), amount, secret, height + 3 * (row.size() - i)));
            at = c.other(at);
        }
        used |= 1 << secret;
        parties[q].learn(secret);
        lastRouteLength = row.size();
        return row.get(0).amount();
    }

    int route(int p, int q, int v, int what) {
        List<Hop> row = payable(p, q, v) ? bestRoute(p, q, v) : null;
        if (row == null) {
            return -1;
        }
        if (what == 8) {
            return row.size();
        }
        if (in(what, 0, 3) && what < row.size()) {
            return row.get(what).channel().number;
        }
        return in(what, 4, 7) && what - 4 < row.size() ? row.get(what - 4).amount() : -1;
    }

    int most(int p, int q) {
        for (int v = 255; v > 0; v--) {
            if (payable(p, q, v) && bestRoute(p, q, v) != null) {
                return v;
            }
        }
        return 0;
    }

    private boolean quiet(int c) {
        return in(c, 0, channels.size() - 1) && channels.get(c).ready() && channels.get(c).latest().locks().isEmpty();
    }

    boolean close(int c) {
        if (!quiet(c)) {
            return false;
        }
        Channel it = channels.get(c);
        it.sides[0].coins += it.latest().balance()[0];
        it.sides[1].coins += it.latest().balance()[1];
        it.status = 2;
        return true;
    }

    boolean renew(int c, int x, int y) {
        lastRenewed = false;
        if (!quiet(c) || !in(x, -6000, 6000) || !in(y, -6000, 6000)) {
            return false;
        }
        Channel it = channels.get(c);
        int newX = it.latest().balance()[0] + x;
        int newY = it.latest().balance()[1] + y;
        if (newX < 0 || newY < 0 || x > it.sides[0].coins || y > it.sides[1].coins) {
            return false;
        }
        it.sides[0].coins -= x;
        it.sides[1].coins -= y;
        it.states.clear();
        it.states.add(new State(new int[] {newX, newY}, new ArrayList<>()));
        lastRenewed = true;
        return true;
    }

    boolean publish(int p, int c, int k) {
        if (!in(p, 0, 5) || !in(c, 0, channels.size() - 1)) {
            return false;
        }
        Channel it = channels.get(c);
        if (it.side(parties[p]) < 0 || it.status != 0 || !in(k, 0, it.states.size() - 1)) {
            return false;
        }
        putOut(it, parties[p], k);
        return true;
    }

    private void putOut(Channel c, Party by, int k) {
        State state = c.states.get(k);
        c.status = 1;
        c.publisher = by;
        c.published = k;
        c.publishedAt = height;
        c.held = state.balance()[c.side(by)];
        c.other(by).coins += state.balance()[1 - c.side(by)];
        c.outputs = new ArrayList<>(state.locks());
    }

    int block(int n) {
        if (!in(n, 1, 20)) {
            return -2;
        }
        for (int i = 0; i < n; i++) {
            height++;
            for (Party p : parties) {
                if (p.online) {
                    turn(p);
                }
            }
        }
        return height;
    }

    private void turn(Party p) {
        for (Channel c : channels) {
            if (c.side(p) >= 0) {
                while (c.status == 0 && act(c, p)) {
                    continue;
                }
                if (c.status == 1) {
                    onChain(c, p);
                }
            }
        }
        for (Party o : parties) {
            if (!o.online && o.guard == p.number) {
                for (Channel c : channels) {
                    if (c.cheats(o)) {
                        int fee = punish(c) / 10;
                        o.coins -= fee;
                        p.coins += fee;
                    }
                }
            }
        }
    }

    private boolean act(Channel c, Party p) {
        for (Lock lock : List.copyOf(c.latest().locks())) {
            boolean own = lock.from() == c.side(p);
            if (own ? lock.expiry() > height : !p.knows(lock.secret())) {
                continue;
            }
            if (c.ready() && c.canChange()) {
                State next = c.change();
                next.locks().remove(lock);
                next.balance()[c.side(p)] += lock.amount();
                if (!own) {
                    c.other(p).learn(lock.secret());
                }
                return true;
            }
            if (own || lock.expiry() <= height + 1) {
                putOut(c, p, c.states.size() - 1);
                return true;
            }
        }
        return false;
    }

    private void onChain(Channel c, Party p) {
        if (c.cheats(p)) {
            punish(c);
            return;
        }
        for (Lock output : List.copyOf(c.outputs)) {
            boolean own = output.from() == c.side(p);
            if (own ? output.expiry() <= height : p.knows(output.secret())) {
                c.outputs.remove(output);
                if (!own) {
                    c.other(p).learn(output.secret());
                }
                if (c.publisher == p) {
                    c.held += output.amount();
                } else {
                    p.coins += output.amount();
                }
            }
        }
        if (c.publisher == p && height >= c.publishedAt + 3) {
            p.coins += c.held;
            c.held = 0;
        }
    }

    private int punish(Channel c) {
        int gain = c.held;
        for (Lock output : c.outputs) {
            gain += output.amount();
        }
        c.held = 0;
        c.outputs.clear();
        c.other(c.publisher).coins += gain;
        return gain;
    }

    int party(int p, int what) {
        if (!in(p, 0, 5) || !in(what, 0, 6)) {
            return -1;
        }
        Party it = parties[p];
        int owned = 0;
        for (Channel c : channels) {
            if (c.side(it) >= 0 && c.status == 0) {
                owned += c.latest().balance()[c.side(it)];
            }
            if (c.status == 1 && c.publisher == it) {
                owned += c.held;
            }
        }
        return new int[] {it.coins, it.online ? 1 : 0, it.base, it.rate, it.guard, it.secrets, owned}[what];
    }

    int channel(int c, int what) {
        if (!in(c, 0, channels.size() - 1) || !in(what, 0, 8)) {
            return -1;
        }
        Channel it = channels.get(c);
        if (what < 4) {
            return new int[] {it.status, it.sides[0].number, it.sides[1].number, it.states.size() - 1}[what];
        }
        if (it.status != 1) {
            return -1;
        }
        return new int[] {it.published, it.publisher.number, it.publishedAt, it.held, it.outputs.size()}[what - 4];
    }

    int state(int c, int k, int what) {
        if (!in(c, 0, channels.size() - 1) || !in(k, 0, channels.get(c).states.size() - 1) || !in(what, 0, 2)) {
            return -1;
        }
        State it = channels.get(c).states.get(k);
        return what == 2 ? it.locks().size() : it.balance()[what];
    }

    int lock(int c, int k, int j, int what) {
        if (!in(c, 0, channels.size() - 1) || !in(k, -1, channels.get(c).states.size() - 1)) {
            return -1;
        }
        List<Lock> row = k == -1 ? channels.get(c).outputs : channels.get(c).states.get(k).locks();
        if (!in(j, 0, row.size() - 1) || !in(what, 0, 3)) {
            return -1;
        }
        Lock it = row.get(j);
        return new int[] {it.from(), it.amount(), it.secret(), it.expiry()}[what];
    }

    /** All coins there are, wherever they lie. */
    int wealth() {
        int sum = 0;
        for (Party p : parties) {
            sum += p.coins;
        }
        for (Channel c : channels) {
            sum += c.held;
            for (Lock output : c.outputs) {
                sum += output.amount();
            }
            if (c.status == 0) {
                sum += c.latest().balance()[0] + c.latest().balance()[1];
                for (Lock lock : c.latest().locks()) {
                    sum += lock.amount();
                }
            }
        }
        return sum;
    }
}
