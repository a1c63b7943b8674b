import java.util.ArrayDeque;
import java.util.ArrayList;
import java.util.Arrays;
import java.util.Deque;
import java.util.HashMap;
import java.util.List;
import java.util.Map;
import java.util.NoSuchElementException;
import java.util.regex.Matcher;
import java.util.regex.Pattern;

/**
 * A second BellTowerPlanner for ModelTest, written from the document alone and in the most
 * laborious way, so that it shares no trick, and so no mistake, with the class under test.
 */
final class TowerModel {
    private static final class TextError extends Exception {
        private static final long serialVersionUID = 1L;
        final int code;
        final int at;

        TextError(int code, int at) {
            this.code = code;
            this.at = at;
        }
    }

    private record Token(String text, int at) {
    }

    private record Place(int beam, int position) {
    }

    private record Swing(int start, int amplitude) {
    }

    private record Chime(int first, int interval) {
    }

    private record Facts(List<int[]> beams, List<int[]> bells, List<int[]> quiets,
            List<int[]> ropes) {
    }

    private static final class State {
        Place[] hung = new Place[8];
        Place[] plan = new Place[8];
        Swing[] swing = new Swing[8];
        Chime[] chime = new Chime[8];

        State copy() {
            State copy = new State();
            copy.hung = hung.clone();
            copy.plan = plan.clone();
            copy.swing = swing.clone();
            copy.chime = chime.clone();
            return copy;
        }
    }

    private final StringBuilder buffer = new StringBuilder();
    private int errorAt = -1;
    private Facts facts = null;
    private State now = new State();
    private final Deque<State> past = new ArrayDeque<>();

    // ---- text

    int append(int... words) {
        if (buffer.length() + 20 > 400) {
            throw new IllegalStateException();
        }
        for (int word : words) {
            for (int i = 0; i < 4; i++) {
                buffer.append((char) (word >>> 24 - 8 * i & 255));
            }
        }
        return buffer.length();
    }

    int truncate(int length) {
        argument(length >= 0 && length <= buffer.length());
        buffer.setLength(length);
        return length;
    }

    int load() {
        String text = buffer.toString();
        buffer.setLength(0);
        try {
            facts = parse(text);
            errorAt = -1;
            now = new State();
            past.clear();
            return facts.bells.size();
        } catch (TextError e) {
            errorAt = e.at;
            return -10 - e.code;
        }
    }

    int errorPosition() {
        return errorAt;
    }

    private static List<Token> tokens(String text) {
        List<Token> tokens = new ArrayList<>();
        Matcher m = Pattern.compile("[a-z]+|[0-9]+|[^ \n]", Pattern.DOTALL).matcher(text);
        while (m.find()) {
            tokens.add(new Token(m.group(), m.start()));
        }
        tokens.add(new Token("", text.length()));
        return tokens;
    }

    private static Facts parse(String text) throws TextError {
        List<Token> tokens = tokens(text);
        Facts facts = new Facts(new ArrayList<>(), new ArrayList<>(), new ArrayList<>(),
                new ArrayList<>());
        int at = 0;
        at = section(tokens, at, "beam", 1, 4, facts.beams, 300, 5000, 0, 50000);
        at = section(tokens, at, "bell", 1, 8, facts.bells, 10, 3000, 2, 10, 4, 40);
        at = section(tokens, at, "quiet", 0, 6, facts.quiets, 0, 1439, 1, 1440);
        at = section(tokens, at, "rope", 0, 8, facts.ropes, 100, 9999);
        if (at != tokens.size() - 1) {
            throw new TextError(1, tokens.get(at).at);
        }
        return facts;
    }

    private static int section(List<Token> tokens, int first, String keyword, int least, int most,
            List<int[]> into, int... ranges) throws TextError {
        int at = first;
        while (tokens.get(at).text.equals(keyword)) {
            if (into.size() == most) {
                throw new TextError(4, tokens.get(at).at);
            }
            at++;
            int[] numbers = new int[ranges.length / 2];
            for (int i = 0; i < numbers.length; i++, at++) {
                Token token = tokens.get(at);
                if (!token.text.matches("[0-9]{1,5}")) {
                    throw new TextError(1, token.at);
                }
                numbers[i] = Integer.parseInt(token.text);
                if (numbers[i] < ranges[2 * i] || numbers[i] > ranges[2 * i + 1]) {
                    throw new TextError(2, token.at);
                }
                if (keyword.equals("quiet") && i == 1 && numbers[1] <= numbers[0]) {
                    throw new TextError(3, token.at);
                }
            }
            if (!tokens.get(at).text.equals(";")) {
                throw new TextError(1, tokens.get(at).at);
            }
            at++;
            into.add(numbers);
        }
        if (into.size() < least) {
            throw new TextError(1, tokens.get(at).at);
        }
        return at;
    }

    // ---- checks

    private void tower() {
        if (facts == null) {
            throw new IllegalStateException();
        }
    }

    private static void argument(boolean inRange) {
        if (!inRange) {
            throw new IllegalArgumentException();
        }
    }

    private void bell(int bell) {
        tower();
        argument(bell >= 0 && bell < facts.bells.size());
    }

    private void beam(int beam) {
        tower();
        argument(beam >= 0 && beam < facts.beams.size());
    }

    private static void range(int value, int least, int most) {
        argument(value >= least && value <= most);
    }

    private void act() {
        past.addLast(now.copy());
        if (past.size() > 12) {
            past.removeFirst();
        }
    }

    private int weight(int bell) {
        return facts.bells.get(bell)[0];
    }

    private int radii(int bell, int other) {
        return facts.bells.get(bell)[1] + facts.bells.get(other)[1];
    }

    private int period(int bell) {
        return facts.bells.get(bell)[2];
    }

    private int bellCount() {
        return facts.bells.size();
    }

    // ---- hanging

    private boolean allClear(Place[] places) {
        return conflicts(places) == 0;
    }

    private int conflicts(Place[] places) {
        int count = 0;
        for (int i = 0; i < bellCount(); i++) {
            for (int j = i + 1; j < bellCount(); j++) {
                if (places[i] != null && places[j] != null && places[i].beam == places[j].beam
                        && Math.abs(places[i].position - places[j].position) < radii(i, j)) {
                    count++;
                }
            }
        }
        return count;
    }

    private int torqueIn(Place[] places, int beam) {
        int sum = 0;
        for (int i = 0; i < bellCount(); i++) {
            if (places[i] != null && places[i].beam == beam) {
                sum += weight(i) * places[i].position;
            }
        }
        return sum;
    }

    private boolean balancedIn(Place[] places, int beam) {
        return Math.abs(torqueIn(places, beam)) <= facts.beams.get(beam)[1];
    }

    private Place[] with(int bell, Place place) {
        Place[] places = now.hung.clone();
        places[bell] = place;
        return places;
    }

    private int countOn(int beam) {
        int count = 0;
        for (Place place : now.hung) {
            if (place != null && place.beam == beam) {
                count++;
            }
        }
        return count;
    }

    private int tryHang(int bell, int beam, int position) {
        if (now.hung[bell] != null) {
            return -2;
        }
        Place[] places = with(bell, new Place(beam, position));
        return !allClear(places) ? -3 : !balancedIn(places, beam) ? -4 : 0;
    }

    int hang(int bell, int beam, int position) {
        bell(bell);
        beam(beam);
        range(position, -15, 15);
        int error = tryHang(bell, beam, position);
        if (error != 0) {
            return error;
        }
        act();
        now.hung[bell] = new Place(beam, position);
        return countOn(beam);
    }

    int takeDown(int bell) {
        bell(bell);
        if (now.hung[bell] == null) {
            return -2;
        }
        int beam = now.hung[bell].beam;
        if (!balancedIn(with(bell, null), beam)) {
            return -4;
        }
        act();
        now.hung[bell] = null;
        now.swing[bell] = null;
        return countOn(beam);
    }

    int shift(int bell, int position) {
        bell(bell);
        range(position, -15, 15);
        if (now.hung[bell] == null) {
            return -2;
        }
        int beam = now.hung[bell].beam;
        Place[] places = with(bell, new Place(beam, position));
        if (!allClear(places)) {
            return -3;
        }
        if (!balancedIn(places, beam)) {
            return -4;
        }
        act();
        int previous = now.hung[bell].position;
        now.hung = places;
        return 100 + previous;
    }

    int beamOf(int bell) {
        bell(bell);
        return now.hung[bell] == null ? -2 : now.hung[bell].beam;
    }

    int positionOf(int bell) {
        bell(bell);
        if (now.hung[bell] == null) {
            throw new NoSuchElementException();
        }
        return now.hung[bell].position;
    }

    int torque(int beam) {
        beam(beam);
        return torqueIn(now.hung, beam);
    }

    int bellAt(int beam, int place) {
        beam(beam);
        argument(place >= 0);
        List<Integer> order = new ArrayList<>();
        for (int i = 0; i < 8; i++) {
            if (now.hung[i] != null && now.hung[i].beam == beam) {
                order.add(i);
            }
        }
        order.sort((x, y) -> now.hung[x].position - now.hung[y].position);
        return place < order.size() ? order.get(place) : -2;
    }

    int freePositions(int bell, int beam) {
        bell(bell);
        beam(beam);
        if (now.hung[bell] != null) {
            return -2;
        }
        int count = 0;
        for (int p = -15; p <= 15; p++) {
            count += tryHang(bell, beam, p) == 0 ? 1 : 0;
        }
        return count;
    }

    int bestPosition(int bell, int beam) {
        bell(bell);
        beam(beam);
        if (now.hung[bell] != null) {
            return -2;
        }
        int best = -3;
        for (int p = 15; p >= -15; p--) {
            if (tryHang(bell, beam, p) == 0 && (best == -3
                    || turnWith(bell, beam, p) <= turnWith(bell, beam, best - 100))) {
                best = 100 + p;
            }
        }
        return best;
    }

    private int turnWith(int bell, int beam, int position) {
        return Math.abs(torqueIn(with(bell, new Place(beam, position)), beam));
    }

    private Place[] mirrored(int set) {
        Place[] places = now.hung.clone();
        for (int i = 0; i < 8; i++) {
            if ((set & 1 << i) != 0) {
                places[i] = new Place(places[i].beam, -places[i].position);
            }
        }
        return places;
    }

    private List<Integer> mirrorSets(int beam) {
        List<Integer> sets = new ArrayList<>();
        for (int set = 0; set < 256; set++) {
            boolean onBeam = true;
            for (int i = 0; i < 8; i++) {
                onBeam &= (set & 1 << i) == 0 || now.hung[i] != null && now.hung[i].beam == beam;
            }
            if (onBeam && allClear(mirrored(set))) {
                sets.add(set);
            }
        }
        return sets;
    }

    int mirroredTorque(int beam) {
        beam(beam);
        int least = 99999999;
        for (int set : mirrorSets(beam)) {
            least = Math.min(least, Math.abs(torqueIn(mirrored(set), beam)));
        }
        return least;
    }

    int mirroredBells(int beam) {
        int least = mirroredTorque(beam);
        for (int size = 0; size <= 8; size++) {
            for (int set : mirrorSets(beam)) {
                if (Integer.bitCount(set) == size
                        && Math.abs(torqueIn(mirrored(set), beam)) == least) {
                    return set;
                }
            }
        }
        throw new AssertionError();
    }

    // ---- plans

    private static int countThere(Object[] things) {
        int count = 0;
        for (Object thing : things) {
            count += thing != null ? 1 : 0;
        }
        return count;
    }

    int setPlan(int bell, int beam, int position) {
        bell(bell);
        beam(beam);
        range(position, -15, 15);
        act();
        now.plan[bell] = new Place(beam, position);
        return countThere(now.plan);
    }

    int clearPlan(int bell) {
        bell(bell);
        if (now.plan[bell] == null) {
            return -2;
        }
        act();
        now.plan[bell] = null;
        return countThere(now.plan);
    }

    private Place[] goal() {
        Place[] places = new Place[8];
        for (int i = 0; i < 8; i++) {
            places[i] = now.plan[i] != null ? now.plan[i] : now.hung[i];
        }
        return places;
    }

    int planConflicts() {
        tower();
        return conflicts(goal());
    }

    int planUnbalanced() {
        tower();
        int set = 0;
        for (int b = 0; b < facts.beams.size(); b++) {
            set |= balancedIn(goal(), b) ? 0 : 1 << b;
        }
        return set;
    }

    private boolean sound(Place[] places) {
        for (int b = 0; b < facts.beams.size(); b++) {
            if (!balancedIn(places, b)) {
                return false;
            }
        }
        return allClear(places);
    }

    private static boolean before(List<Integer> way, List<Integer> other) {
        for (int i = 0; i < way.size(); i++) {
            if (!way.get(i).equals(other.get(i))) {
                return way.get(i) < other.get(i);
            }
        }
        return false;
    }

    private void offer(Map<List<Place>, List<Integer>> next, List<Place> from, int bell,
            Place place, List<Integer> way, int code) {
        List<Place> places = new ArrayList<>(from);
        places.set(bell, place);
        if (!sound(places.toArray(new Place[0]))) {
            return;
        }
        List<Integer> longer = new ArrayList<>(way);
        longer.add(code);
        if (!next.containsKey(places) || before(longer, next.get(places))) {
            next.put(places, longer);
        }
    }

    /** The best way, or null. */
    private List<Integer> way() {
        List<Place> goal = Arrays.asList(goal());
        Map<List<Place>, List<Integer>> known = new HashMap<>();
        Map<List<Place>, List<Integer>> layer = new HashMap<>();
        layer.put(Arrays.asList(now.hung.clone()), new ArrayList<>());
        while (!layer.isEmpty()) {
            if (layer.containsKey(goal)) {
                return layer.get(goal);
            }
            known.putAll(layer);
            Map<List<Place>, List<Integer>> next = new HashMap<>();
            layer.forEach((places, way) -> {
                for (int i = 0; i < bellCount(); i++) {
                    if (places.get(i) != null) {
                        offer(next, places, i, null, way, 3 * i);
                    } else {
                        if (now.hung[i] != null) {
                            offer(next, places, i, now.hung[i], way, 3 * i + 1);
                        }
                        if (now.plan[i] != null) {
                            offer(next, places, i, now.plan[i], way, 3 * i + 2);
                        }
                    }
                }
            });
            next.keySet().removeAll(known.keySet());
            layer = next;
        }
        return null;
    }

    int stepsToPlan() {
        tower();
        List<Integer> way = way();
        return way == null ? -2 : way.size();
    }

    int planStep(int index) {
        tower();
        argument(index >= 0);
        List<Integer> way = way();
        return way == null ? -2 : index >= way.size() ? -3 : way.get(index);
    }

    // ---- swings

    int startSwing(int bell, int tick, int amplitude) {
        bell(bell);
        range(tick, 0, 999);
        range(amplitude, 1, 15);
        if (now.hung[bell] == null) {
            return -2;
        }
        act();
        now.swing[bell] = new Swing(tick, amplitude);
        return countThere(now.swing);
    }

    int stopSwing(int bell) {
        bell(bell);
        if (now.swing[bell] == null) {
            return -2;
        }
        act();
        now.swing[bell] = null;
        return countThere(now.swing);
    }

    private int offsetWith(Swing swing, int bell, int t) {
        if (swing == null || t < swing.start) {
            return 0;
        }
        int p = period(bell);
        int a = swing.amplitude;
        int n = 4 * ((t - swing.start) % p);
        if (n <= p) {
            return a * n / p;
        }
        if (n <= 3 * p) {
            return a * (2 * p - n) / p;
        }
        return a * (n - 4 * p) / p;
    }

    int offset(int bell, int tick) {
        bell(bell);
        range(tick, 0, 9999);
        if (now.hung[bell] == null) {
            throw new NoSuchElementException();
        }
        return offsetWith(now.swing[bell], bell, tick);
    }

    private boolean together(int bell, int other) {
        return now.hung[bell] != null && now.hung[other] != null
                && now.hung[bell].beam == now.hung[other].beam;
    }

    private int gapWith(int bell, Swing swing, int other, int tick) {
        int here = now.hung[bell].position + offsetWith(swing, bell, tick);
        int there = now.hung[other].position + offsetWith(now.swing[other], other, tick);
        return now.hung[bell].position > now.hung[other].position
                ? here - there - radii(bell, other) : there - here - radii(bell, other);
    }

    int gap(int bell, int other, int tick) {
        bell(bell);
        bell(other);
        argument(bell != other);
        range(tick, 0, 9999);
        if (!together(bell, other)) {
            throw new NoSuchElementException();
        }
        return gapWith(bell, now.swing[bell], other, tick);
    }

    private int[] collision() {
        for (int t = 0; t <= 999; t++) {
            for (int i = 0; i < 8; i++) {
                for (int j = i + 1; j < 8; j++) {
                    if (together(i, j) && gapWith(i, now.swing[i], j, t) < 0) {
                        return new int[] {t, 8 * i + j};
                    }
                }
            }
        }
        return new int[] {-2, -2};
    }

    int firstCollision() {
        tower();
        return collision()[0];
    }

    int collidingBells() {
        tower();
        return collision()[1];
    }

    private boolean safe(int bell, Swing swing) {
        for (int other = 0; other < 8; other++) {
            for (int t = 0; other != bell && together(bell, other) && t <= 999; t++) {
                if (gapWith(bell, swing, other, t) < 0) {
                    return false;
                }
            }
        }
        return true;
    }

    int safeStart(int bell, int amplitude) {
        bell(bell);
        range(amplitude, 1, 15);
        if (now.hung[bell] == null) {
            return -2;
        }
        for (int start = 0; start <= 199; start++) {
            if (safe(bell, new Swing(start, amplitude))) {
                return start;
            }
        }
        return -3;
    }

    int safeAmplitude(int bell) {
        bell(bell);
        if (now.swing[bell] == null) {
            return -2;
        }
        int best = -3;
        for (int a = 0; a <= 15; a++) {
            if (safe(bell, new Swing(now.swing[bell].start, a))) {
                best = a;
            }
        }
        return best;
    }

    private boolean strikesAt(int bell, int t) {
        int s = now.swing[bell].start;
        int p = period(bell);
        return t >= s && ((t - s) % p == p / 4 || (t - s) % p == 3 * p / 4);
    }

    int strikes(int bell, int from, int to) {
        bell(bell);
        range(from, 0, 9999);
        range(to, from, 9999);
        if (now.swing[bell] == null) {
            return -2;
        }
        int count = 0;
        for (int t = from; t <= to; t++) {
            count += strikesAt(bell, t) ? 1 : 0;
        }
        return count;
    }

    int strikeTogether(int bell, int other) {
        bell(bell);
        bell(other);
        if (now.swing[bell] == null || now.swing[other] == null) {
            return -2;
        }
        for (int t = 0; t <= 9999; t++) {
            if (strikesAt(bell, t) && strikesAt(other, t)) {
                return t;
            }
        }
        return -3;
    }

    // ---- chimes

    private static List<Integer> chimeMinutes(int first, int interval) {
        List<Integer> minutes = new ArrayList<>();
        for (int m = first; m <= 1439; m += interval) {
            minutes.add(m);
        }
        return minutes;
    }

    int setChime(int bell, int first, int interval) {
        bell(bell);
        range(first, 0, 1439);
        range(interval, 1, 1440);
        act();
        now.chime[bell] = new Chime(first, interval);
        return chimeMinutes(first, interval).size();
    }

    int clearChime(int bell) {
        bell(bell);
        if (now.chime[bell] == null) {
            return -2;
        }
        act();
        now.chime[bell] = null;
        return countThere(now.chime);
    }

    private boolean quiet(int minute) {
        for (int[] q : facts.quiets) {
            if (minute >= q[0] && minute < q[1]) {
                return true;
            }
        }
        return false;
    }

    int isQuiet(int minute) {
        tower();
        range(minute, 0, 1439);
        return quiet(minute) ? 1 : 0;
    }

    int quietMinutes() {
        tower();
        int count = 0;
        for (int m = 0; m < 1440; m++) {
            count += quiet(m) ? 1 : 0;
        }
        return count;
    }

    int longestLoud() {
        tower();
        int longest = 0;
        for (int from = 0; from < 1440; from++) {
            int to = from;
            while (to < 1440 && !quiet(to)) {
                to++;
            }
            longest = Math.max(longest, to - from);
        }
        return longest;
    }

    private boolean[] soundMinutes(int bell) {
        boolean[] minutes = new boolean[1440];
        Chime chime = now.chime[bell];
        if (chime != null && now.hung[bell] != null) {
            for (int m : chimeMinutes(chime.first, chime.interval)) {
                minutes[m] = !quiet(m);
            }
        }
        return minutes;
    }

    private int[] soundSets() {
        int[] sets = new int[1440];
        for (int i = 0; i < 8; i++) {
            boolean[] minutes = soundMinutes(i);
            for (int m = 0; m < 1440; m++) {
                sets[m] |= minutes[m] ? 1 << i : 0;
            }
        }
        return sets;
    }

    int soundsAt(int minute) {
        tower();
        range(minute, 0, 1439);
        return soundSets()[minute];
    }

    int soundsPerDay(int bell) {
        bell(bell);
        return soundTogether(bell, bell);
    }

    int nextSound(int minute) {
        tower();
        range(minute, 0, 1439);
        int[] sets = soundSets();
        for (int m = minute; m < 1440; m++) {
            if (sets[m] != 0) {
                return m;
            }
        }
        return -2;
    }

    int busiestMinute() {
        tower();
        int[] sets = soundSets();
        for (int count = 8; count > 0; count--) {
            for (int m = 0; m < 1440; m++) {
                if (Integer.bitCount(sets[m]) == count) {
                    return m;
                }
            }
        }
        return -2;
    }

    int soundTogether(int bell, int other) {
        bell(bell);
        bell(other);
        if (now.chime[bell] == null || now.chime[other] == null) {
            return -2;
        }
        int count = 0;
        for (int m = 0; m < 1440; m++) {
            count += soundMinutesAt(bell, m) && soundMinutesAt(other, m) ? 1 : 0;
        }
        return count;
    }

    private boolean soundMinutesAt(int bell, int minute) {
        Chime chime = now.chime[bell];
        return now.hung[bell] != null && !quiet(minute) && minute >= chime.first
                && (minute - chime.first) % chime.interval == 0;
    }

    int leastDelay(int bell) {
        bell(bell);
        Chime chime = now.chime[bell];
        if (chime == null) {
            return -2;
        }
        for (int delay = 0; chime.first + delay <= 1439; delay++) {
            boolean loud = true;
            for (int m = chime.first + delay; m <= 1439 && loud; m += chime.interval) {
                loud = !quiet(m);
            }
            if (loud) {
                return delay;
            }
        }
        return -3;
    }

    // ---- ropes

    private int length(int bell) {
        Place place = now.hung[bell];
        return facts.beams.get(place.beam)[0] + 10 * Math.abs(place.position) + 50;
    }

    int ropeLength(int bell) {
        bell(bell);
        return now.hung[bell] == null ? -2 : length(bell);
    }

    private List<Integer> hangingBells() {
        List<Integer> bells = new ArrayList<>();
        for (int i = 0; i < 8; i++) {
            if (now.hung[i] != null) {
                bells.add(i);
            }
        }
        return bells;
    }

    private int[] bestCutting;
    private int bestPieces;
    private int bestExtra;

    /** Tries every assignment in lexicographic order; only a better one takes the place. */
    private void cut(List<Integer> bells, int index, int[] pieces, int[] left) {
        if (index == bells.size()) {
            int used = (int) Arrays.stream(pieces, 0, index).distinct().count();
            if (used < bestPieces) {
                bestPieces = used;
                bestCutting = Arrays.copyOf(pieces, index);
            }
            return;
        }
        int length = length(bells.get(index));
        for (int piece = 0; piece < left.length; piece++) {
            if (left[piece] >= length) {
                left[piece] -= length;
                pieces[index] = piece;
                cut(bells, index + 1, pieces, left);
                left[piece] += length;
            }
        }
    }

    private int[] cutting() {
        bestCutting = null;
        bestPieces = 99;
        int[] left = facts.ropes.stream().mapToInt(r -> r[0]).toArray();
        cut(hangingBells(), 0, new int[8], left);
        return bestCutting;
    }

    int fewestPieces() {
        tower();
        return cutting() == null ? -2 : bestPieces;
    }

    int pieceOf(int bell) {
        bell(bell);
        if (now.hung[bell] == null) {
            return -2;
        }
        int[] cutting = cutting();
        return cutting == null ? -3 : cutting[hangingBells().indexOf(bell)];
    }

    int waste() {
        tower();
        int[] cutting = cutting();
        if (cutting == null) {
            return -2;
        }
        int sum = Arrays.stream(cutting).distinct().map(p -> facts.ropes.get(p)[0]).sum();
        for (int bell : hangingBells()) {
            sum -= length(bell);
        }
        return sum;
    }

    private void cutWithExtra(List<Integer> bells, int index, int extra, int[] left) {
        if (index == bells.size()) {
            bestExtra = Math.min(bestExtra, extra);
            return;
        }
        int length = length(bells.get(index));
        for (int piece = 0; piece < left.length; piece++) {
            if (left[piece] >= length) {
                left[piece] -= length;
                cutWithExtra(bells, index + 1, extra, left);
                left[piece] += length;
            }
        }
        cutWithExtra(bells, index + 1, extra + length, left);
    }

    int extraPiece() {
        tower();
        bestExtra = 99999999;
        int[] left = facts.ropes.stream().mapToInt(r -> r[0]).toArray();
        cutWithExtra(hangingBells(), 0, 0, left);
        return bestExtra;
    }

    int undo() {
        tower();
        if (past.isEmpty()) {
            return -2;
        }
        now = past.removeLast();
        return past.size();
    }
}
