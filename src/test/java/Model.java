import java.math.BigInteger;
import java.util.ArrayDeque;
import java.util.ArrayList;
import java.util.Arrays;
import java.util.Deque;
import java.util.List;
import java.util.regex.Matcher;
import java.util.regex.Pattern;

/**
 * The document written a second time, slowly and by other means: kinds as classes, the past as whole
 * copies, roads by a pattern, sheets as real rows whose faults the machine itself finds.
 */
final class Model {
    private static final int BAD = -1, NOT = -2, FULL = -3, NONE = -4, NULL = -11, CAST = -12, INDEX = -13, SIZE = -14;

    private static class Plain {
        int takes(int miles, boolean best) {
            return best ? 6 * miles : 10 * miles;
        }
    }

    private static class Snowed extends Plain {
        @Override
        int takes(int miles, boolean best) {
            return super.takes(miles, best) + 5;
        }
    }

    private static class Old extends Plain {
        @Override
        int takes(int miles, boolean best) {
            return super.takes(miles, best) * 3 / 2;
        }
    }

    private static final class Bride extends Old {
        @Override
        int takes(int miles, boolean best) {
            return best ? new Plain().takes(miles, true) : super.takes(miles, false);
        }
    }

    private static final class Brother extends Snowed {
        @Override
        int takes(int miles, boolean best) {
            return super.takes(miles - 1, best);
        }
    }

    private static final Plain[] KINDS = {new Plain(), new Snowed(), new Old(), new Bride(), new Brother()};

    private static final class Stage {
        int miles;
        int toll;
        int horses;
    }

    private static final class Rider {
        int kind;
        int stage;
        int minute;
        int coins;
        int buys;
        int wheels; // only for what is foretold
        final List<Integer> came = new ArrayList<>();
    }

    private static final class State {
        final List<Stage> stages = new ArrayList<>();
        final List<Rider> riders = new ArrayList<>();
        int price = 3;
        long draw = 1;
        final Deque<State> past = new ArrayDeque<>();

        State twin() {
            State twin = new State();
            for (Stage stage : stages) {
                twin.addStage(stage.miles, stage.toll, stage.horses);
            }
            for (Rider rider : riders) {
                Rider r = twin.addRider(rider.kind, rider.minute, rider.coins);
                r.stage = rider.stage;
                r.buys = rider.buys;
            }
            twin.price = price;
            twin.draw = draw;
            return twin;
        }

        State twinWithPast() {
            State twin = twin();
            for (State old : past) {
                twin.past.addLast(old);
            }
            return twin;
        }

        void addStage(int miles, int toll, int horses) {
            Stage stage = new Stage();
            stage.miles = miles;
            stage.toll = toll;
            stage.horses = horses;
            stages.add(stage);
        }

        Rider addRider(int kind, int start, int coins) {
            Rider rider = new Rider();
            rider.kind = kind;
            rider.minute = start;
            rider.coins = coins;
            riders.add(rider);
            return rider;
        }

        void remember() {
            past.addLast(twin());
            if (past.size() > 8) {
                past.removeFirst();
            }
        }

        boolean there(Rider rider) {
            return rider.stage == stages.size();
        }

        Rider next() {
            Rider next = null;
            for (Rider rider : riders) {
                if (!there(rider) && (next == null || rider.minute < next.minute)) {
                    next = rider;
                }
            }
            return next;
        }

        void rideBy(Rider rider) {
            Stage stage = stages.get(rider.stage);
            boolean best = false;
            if ((rider.buys & 1 << rider.stage) != 0 && stage.horses > 0 && rider.coins >= price) {
                rider.coins -= price;
                stage.horses--;
                best = true;
            }
            if (rider.coins < stage.toll) {
                rider.minute += 10;
            } else {
                rider.coins -= stage.toll;
            }
            rider.minute += KINDS[rider.kind].takes(stage.miles, best);
            if ((rider.wheels & 1 << rider.stage) != 0) {
                rider.minute += 30;
            }
            rider.stage++;
            rider.came.add(rider.minute);
        }

        State toTheEnd() {
            for (Rider rider = next(); rider != null; rider = next()) {
                rideBy(rider);
            }
            return this;
        }

        int firstOfAll() {
            int first = NONE;
            for (int r = riders.size() - 1; r >= 0; r--) {
                if (first < 0 || riders.get(r).minute <= riders.get(first).minute) {
                    first = r;
                }
            }
            return first;
        }
    }

    private State now = new State();
    private State image = null;
    private final StringBuilder tape = new StringBuilder();
    private final Object[] sheets = new Object[4];

    private static boolean out(long v, long least, long most) {
        return v < least || v > most;
    }

    private boolean noRider(int rider) {
        return out(rider, 0, now.riders.size() - 1);
    }

    private boolean notTwo(int rider, int other) {
        return noRider(rider) || noRider(other) || rider == other;
    }

    int stage(int miles, int toll, int horses) {
        if (out(miles, 1, 9) || out(toll, 0, 9) || out(horses, 0, 4)) {
            return BAD;
        }
        if (now.stages.size() == 8) {
            return FULL;
        }
        now.addStage(miles, toll, horses);
        now.past.clear();
        return now.stages.size() - 1;
    }

    int rider(int kind, int start, int coins) {
        if (out(kind, 0, 4) || out(start, 0, 999) || out(coins, 0, 99)) {
            return BAD;
        }
        if (now.riders.size() == 4) {
            return FULL;
        }
        now.addRider(kind, start, coins);
        now.past.clear();
        return now.riders.size() - 1;
    }

    int of(int stage, int what) {
        if (out(stage, 0, now.stages.size() - 1) || out(what, 0, 2)) {
            return BAD;
        }
        Stage s = now.stages.get(stage);
        return new int[] {s.miles, s.toll, s.horses}[what];
    }

    int at(int rider, int what) {
        if (noRider(rider) || out(what, 0, 6)) {
            return BAD;
        }
        Rider r = now.riders.get(rider);
        if (what < 5) {
            return new int[] {r.kind, r.stage, r.minute, r.coins, r.buys}[what];
        }
        return now.there(r) ? NONE : KINDS[r.kind].takes(now.stages.get(r.stage).miles, what == 5);
    }

    int buys(int rider, int set) {
        if (noRider(rider) || set < 0 || set >>> now.stages.size() != 0) {
            return BAD;
        }
        int old = now.riders.get(rider).buys;
        now.riders.get(rider).buys = set;
        return old;
    }

    int price(int v) {
        if (out(v, 1, 9)) {
            return BAD;
        }
        int old = now.price;
        now.price = v;
        return old;
    }

    int type(int letter) {
        if (out(letter, 32, 126)) {
            return BAD;
        }
        if (tape.length() == 90) {
            return FULL;
        }
        return tape.append((char) letter).length();
    }

    int road() {
        String text = tape.toString();
        tape.setLength(0);
        Pattern whole = Pattern.compile(pattern(text));
        int fault = firstThatCantStand(whole, text);
        // a number of coins above 99 is told by its first digit
        Matcher coins = Pattern.compile("/ *([0-9]{1,3})").matcher(text.substring(0, fault));
        while (coins.find()) {
            if (Integer.parseInt(coins.group(1)) > 99) {
                return -20 - coins.start(1);
            }
        }
        if (fault < text.length() || !whole.matcher(text).matches()) {
            return -20 - fault;
        }
        take(text.replace(" ", ""));
        return now.riders.size();
    }

    private static String pattern(String text) {
        int end = text.indexOf(';');
        String ofStages = end < 0 ? text : text.substring(0, end);
        int stages = ofStages.split(",", -1).length;
        StringBuilder digits = new StringBuilder("(?:");
        // one digit at least, rising: by which is the first
        for (int first = 0; first < Math.min(8, stages); first++) {
            digits.append(first == 0 ? "" : "|").append(" *").append(first);
            for (int s = first + 1; s < Math.min(8, stages); s++) {
                digits.append("(?: *").append(s).append(")?");
            }
        }
        digits.append(")");
        String stage = " *[1-9] *[0-9] *[0-4]";
        String rider = " *[psobr] *[0-9]{1,3} */ *[0-9]{1,3}(?: *:" + digits + ")?";
        return stage + "(?: *," + stage + "){0,7} *;" + rider + "(?: *," + rider + "){0,3} *";
    }

    private static int firstThatCantStand(Pattern whole, String text) {
        for (int n = 1; n <= text.length(); n++) {
            Matcher m = whole.matcher(text.substring(0, n));
            if (!m.matches() && !m.hitEnd()) {
                return n - 1;
            }
        }
        return text.length();
    }

    private void take(String text) {
        State road = new State();
        road.price = now.price;
        road.draw = now.draw;
        String[] halves = text.split(";");
        for (String s : halves[0].split(",")) {
            road.addStage(s.charAt(0) - '0', s.charAt(1) - '0', s.charAt(2) - '0');
        }
        for (String r : halves[1].split(",")) {
            String[] parts = r.substring(1).split("[/:]");
            Rider rider = road.addRider("psobr".indexOf(r.charAt(0)), Integer.parseInt(parts[0]), Integer.parseInt(parts[1]));
            if (parts.length > 2) {
                for (char digit : parts[2].toCharArray()) {
                    rider.buys += 1 << digit - '0';
                }
            }
        }
        now = road;
    }

    int count(int what) {
        int there = 0;
        int coins = 0;
        for (int r = 0; r < now.riders.size(); r++) {
            there += now.there(now.riders.get(r)) ? 1 << r : 0;
            coins += now.riders.get(r).coins;
        }
        int horses = now.stages.stream().mapToInt(s -> s.horses).sum();
        Rider next = now.next();
        int rides = next == null ? NONE : now.riders.indexOf(next);
        int[] all = {now.stages.size(), now.riders.size(), now.price, there, rides, coins, horses, now.past.size()};
        return out(what, 0, 7) ? BAD : all[what];
    }

    int ride(int n) {
        if (out(n, 1, 32)) {
            return BAD;
        }
        int ridden = 0;
        while (ridden < n && now.next() != null) {
            now.remember();
            now.rideBy(now.next());
            ridden++;
        }
        return ridden == 0 ? NOT : ridden;
    }

    int wheel(int rider) {
        if (noRider(rider)) {
            return BAD;
        }
        Rider r = now.riders.get(rider);
        if (now.there(r)) {
            return NOT;
        }
        now.remember();
        return r.minute += 30;
    }

    int give(int rider, int other, int n) {
        if (notTwo(rider, other) || out(n, 1, 99)) {
            return BAD;
        }
        Rider from = now.riders.get(rider);
        Rider to = now.riders.get(other);
        if (from.coins < n) {
            return NOT;
        }
        now.remember();
        from.coins -= n;
        to.coins += n;
        if (to.coins > 99) {
            to.coins = 99;
        }
        return to.coins;
    }

    int drift(int n) {
        if (out(n, 1, 32)) {
            return BAD;
        }
        if (now.next() == null) {
            return NOT;
        }
        int wheels = 0;
        for (int k = 0; k < n && now.next() != null; k++) {
            now.remember();
            Rider rider = now.next();
            now.draw = BigInteger.valueOf(now.draw).multiply(BigInteger.valueOf(1103515245))
                    .add(BigInteger.valueOf(12345)).mod(BigInteger.ONE.shiftLeft(31)).longValue();
            now.rideBy(rider);
            if (now.draw / 65536 % 6 == 0) {
                wheels++;
                rider.minute += 30;
            }
        }
        return wheels;
    }

    int undo() {
        if (now.past.isEmpty()) {
            return NONE;
        }
        State old = now.past.removeLast().twin();
        old.past.addAll(now.past);
        old.price = now.price;
        for (int r = 0; r < old.riders.size(); r++) {
            old.riders.get(r).buys = now.riders.get(r).buys;
        }
        now = old;
        return now.past.size();
    }

    int seed(int v) {
        if (v < 0) {
            return BAD;
        }
        int old = (int) now.draw;
        now.draw = v;
        return old;
    }

    int ahead(int rider, int what) {
        if (noRider(rider) || out(what, 0, 1)) {
            return BAD;
        }
        Rider r = now.twin().toTheEnd().riders.get(rider);
        return what == 0 ? r.minute : r.coins;
    }

    private static int comesTo(State now, State end, int rider, int stage) {
        Rider r = now.riders.get(rider);
        return stage == r.stage ? r.minute : end.riders.get(rider).came.get(stage - r.stage - 1);
    }

    int comes(int rider, int stage) {
        if (noRider(rider) || out(stage, 0, now.stages.size())) {
            return BAD;
        }
        if (stage < now.riders.get(rider).stage) {
            return NONE;
        }
        return comesTo(now, now.twin().toTheEnd(), rider, stage);
    }

    int first() {
        return now.twin().toTheEnd().firstOfAll();
    }

    int caught(int rider, int other) {
        if (notTwo(rider, other)) {
            return BAD;
        }
        State end = now.twin().toTheEnd();
        for (int s = 1; s <= now.stages.size(); s++) {
            if (s < now.riders.get(rider).stage || s < now.riders.get(other).stage) {
                continue;
            }
            if (comesTo(now, end, other, s) <= comesTo(now, end, rider, s)) {
                return s;
            }
        }
        return NONE;
    }

    int best(int rider, int what) {
        if (noRider(rider) || out(what, 0, 1)) {
            return BAD;
        }
        long least = Long.MAX_VALUE;
        for (int set = 0; set < 1 << now.stages.size(); set++) {
            State trial = now.twin();
            trial.riders.get(rider).buys = set;
            long minute = trial.toTheEnd().riders.get(rider).minute;
            least = Math.min(least, minute << 16 | Integer.bitCount(set) << 8 | set);
        }
        return (int) (what == 0 ? least & 255 : least >> 16);
    }

    int earlier(int rider, int other) {
        if (notTwo(rider, other)) {
            return BAD;
        }
        for (int less = 0; less <= 300 && less <= now.riders.get(rider).minute; less++) {
            State trial = now.twin();
            trial.riders.get(rider).minute -= less;
            trial.toTheEnd();
            if (trial.riders.get(rider).minute < trial.riders.get(other).minute) {
                return less;
            }
        }
        return NONE;
    }

    int purse(int rider, int minute) {
        if (noRider(rider) || out(minute, 0, 9999)) {
            return BAD;
        }
        for (int coins = 0; coins < 100; coins++) {
            State trial = now.twin();
            trial.riders.get(rider).coins = coins;
            if (trial.toTheEnd().riders.get(rider).minute <= minute) {
                return coins;
            }
        }
        return NONE;
    }

    private State withWheels(int rider, int wheels) {
        State trial = now.twin();
        trial.riders.get(rider).wheels = wheels;
        return trial.toTheEnd();
    }

    int loosened(int rider, int what) {
        if (noRider(rider) || out(what, 0, 1)) {
            return BAD;
        }
        int[] worst = {NONE, NONE};
        for (int s = now.stages.size() - 1; s >= now.riders.get(rider).stage; s--) {
            int minute = withWheels(rider, 1 << s).riders.get(rider).minute;
            if (minute >= worst[1]) {
                worst = new int[] {s, minute};
            }
        }
        return worst[what];
    }

    private int[] dueled(int rider, int other, int i, int j) {
        State trial = now.twin();
        trial.riders.get(rider).buys = i < 0 ? 0 : 1 << i;
        trial.riders.get(other).buys = j < 0 ? 0 : 1 << j;
        trial.toTheEnd();
        return new int[] {trial.riders.get(rider).minute, trial.riders.get(other).minute};
    }

    int duel(int rider, int other, int what) {
        if (notTwo(rider, other) || out(what, 0, 1)) {
            return BAD;
        }
        int n = now.stages.size();
        List<Integer> rest = new ArrayList<>();
        for (int i = -1; i < n; i++) {
            for (int j = -1; j < n; j++) {
                int[] here = dueled(rider, other, i, j);
                boolean rests = true;
                for (int k = -1; k < n && rests; k++) {
                    rests = dueled(rider, other, k, j)[0] >= here[0] && dueled(rider, other, i, k)[1] >= here[1];
                }
                if (rests) {
                    rest.add(100 * (i + 1) + j + 1);
                }
            }
        }
        return what == 0 ? rest.size() : rest.isEmpty() ? NONE : rest.get(0);
    }

    int luck(int rider, int c, int what) {
        if (noRider(rider) || out(c, 0, 10) || out(what, 0, 1)) {
            return BAD;
        }
        BigInteger above = lucky(rider, c, now.riders.get(rider).stage, 0);
        BigInteger below = BigInteger.TEN.pow(now.stages.size() - now.riders.get(rider).stage);
        return (what == 0 ? above : below).divide(above.gcd(below)).intValueExact();
    }

    private BigInteger lucky(int rider, int c, int stage, int wheels) {
        if (stage == now.stages.size()) {
            return withWheels(rider, wheels).firstOfAll() == rider ? BigInteger.ONE : BigInteger.ZERO;
        }
        BigInteger on = lucky(rider, c, stage + 1, wheels).multiply(BigInteger.valueOf(10 - c));
        return lucky(rider, c, stage + 1, wheels | 1 << stage).multiply(BigInteger.valueOf(c)).add(on);
    }

    int image() {
        image = now.twinWithPast();
        return 1;
    }

    int restore() {
        if (image == null) {
            return NONE;
        }
        now = image.twinWithPast();
        return 1;
    }

    /** The machine's own faults, by what it throws. */
    private static int faultOf(RuntimeException e) {
        if (e instanceof NullPointerException) {
            return NULL;
        }
        return e instanceof ClassCastException || e instanceof ArrayStoreException ? CAST : INDEX;
    }

    private static long[] read(Object row, int lane, int i, int n) {
        long[] items = new long[n];
        for (int k = n - 1; k >= 0; k--) {
            items[k] = readOne(row, lane, i + k);
        }
        return items;
    }

    private static long readOne(Object row, int lane, int i) {
        switch (lane) {
            case 0:
                return ((byte[]) row)[i];
            case 1:
                return ((short[]) row)[i];
            case 2:
                return ((int[]) row)[i];
            default:
                return ((long[]) row)[i];
        }
    }

    private static void write(Object row, int lane, int i, long v) {
        switch (lane) {
            case 0:
                ((byte[]) row)[i] = (byte) v;
                break;
            case 1:
                ((short[]) row)[i] = (short) v;
                break;
            case 2:
                ((int[]) row)[i] = (int) v;
                break;
            default:
                ((long[]) row)[i] = v;
                break;
        }
    }

    private long[] film(State from, int rider, int n) {
        List<Integer> came = from.toTheEnd().riders.get(rider).came;
        long[] row = new long[n];
        for (int k = 0; k < n; k++) {
            row[k] = came.get(k);
        }
        return row;
    }

    private boolean notAsTold(int rider, int sheet, int lane, int n) {
        return noRider(rider) || out(sheet, 0, 3) || out(lane, 0, 3) || out(n, 1, 8);
    }

    private boolean tooMany(int rider, int n) {
        return now.riders.get(rider).stage + n > now.stages.size();
    }

    int passed(int rider, int sheet, int lane, int i, int n) {
        if (notAsTold(rider, sheet, lane, n)) {
            return BAD;
        }
        try {
            long[] row = read(sheets[sheet], lane, i, n);
            readOne(sheets[sheet], lane, i);
            if (tooMany(rider, n)) {
                return NOT;
            }
            int kinds = 0;
            for (int kind = 0; kind < 5; kind++) {
                State trial = now.twin();
                trial.riders.get(rider).kind = kind;
                kinds |= Arrays.equals(row, film(trial, rider, n)) ? 1 << kind : 0;
            }
            return kinds;
        } catch (RuntimeException e) {
            return faultOf(e);
        }
    }

    int film(int rider, int n, int sheet, int lane, int i) {
        if (notAsTold(rider, sheet, lane, n)) {
            return BAD;
        }
        try {
            read(sheets[sheet], lane, i, n);
            if (tooMany(rider, n)) {
                return NOT;
            }
            long[] row = film(now.twin(), rider, n);
            for (int k = 0; k < n; k++) {
                write(sheets[sheet], lane, i + k, row[k]);
            }
            return n;
        } catch (RuntimeException e) {
            return faultOf(e);
        }
    }

    int sheet(int sheet, int lane, int n) {
        if (out(sheet, 0, 3) || out(lane, 0, 3) || n > 24) {
            return BAD;
        }
        if (n < 0) {
            return SIZE;
        }
        Object[] rows = {new byte[n], new short[n], new int[n], new long[n]};
        sheets[sheet] = rows[lane];
        return n;
    }

    int drop(int sheet) {
        if (out(sheet, 0, 3)) {
            return BAD;
        }
        if (sheets[sheet] == null) {
            return NULL;
        }
        int had = java.lang.reflect.Array.getLength(sheets[sheet]);
        sheets[sheet] = null;
        return had;
    }

    int item(int sheet, int lane, int i, long v) {
        if (out(sheet, 0, 3) || out(lane, 0, 3)) {
            return BAD;
        }
        try {
            write(sheets[sheet], lane, i, v);
            return 1;
        } catch (RuntimeException e) {
            return faultOf(e);
        }
    }

    @SuppressWarnings("SuspiciousSystemArraycopy")
    int copy(int from, int i, int to, int j, int n) {
        if (out(from, 0, 3) || out(to, 0, 3)) {
            return BAD;
        }
        try {
            System.arraycopy(sheets[from], i, sheets[to], j, n);
            return n;
        } catch (RuntimeException e) {
            return faultOf(e);
        }
    }
}
