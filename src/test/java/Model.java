import java.util.ArrayList;
import java.util.HashMap;
import java.util.List;
import java.util.Map;

/** The document told a second time, as plainly as can be and with the whole library: the class is held against it. */
final class Model {
    private static final int BAD = -2, STATE = -3, FULL = -4;
    private static final long NO = -4611686018427387904L;

    /** A kind of player; "as a MASTER" is super. */
    static class Player {
        int plays(int v, Man me, Club club, int meNo, int otherNo) {
            return v;
        }

        boolean gives(boolean yes, Man me, Club club, int meNo, int otherNo) {
            return yes;
        }

        int tires(int v, boolean won) {
            return v;
        }
    }

    static class Master extends Player {
        @Override
        int plays(int v, Man me, Club club, int meNo, int otherNo) {
            return 2 * super.plays(v, me, club, meNo, otherNo);
        }

        @Override
        boolean gives(boolean yes, Man me, Club club, int meNo, int otherNo) {
            return yes && club.size(meNo) <= 3;
        }

        @Override
        int tires(int v, boolean won) {
            return won ? 0 : super.tires(v, won);
        }
    }

    static class Boy extends Player {
        @Override
        int plays(int v, Man me, Club club, int meNo, int otherNo) {
            return super.plays(v, me, club, meNo, otherNo) / 2;
        }

        @Override
        boolean gives(boolean yes, Man me, Club club, int meNo, int otherNo) {
            return false;
        }

        @Override
        int tires(int v, boolean won) {
            return 0 - super.tires(v, won);
        }
    }

    static class Champion extends Master {
        @Override
        int plays(int v, Man me, Club club, int meNo, int otherNo) {
            int asMaster = super.plays(v, me, club, meNo, otherNo);
            return club.size(meNo) == 0 ? asMaster + me.number : asMaster;
        }

        @Override
        boolean gives(boolean yes, Man me, Club club, int meNo, int otherNo) {
            return super.gives(yes, me, club, meNo, otherNo) || club.size(otherNo) > 0;
        }

        @Override
        int tires(int v, boolean won) {
            return super.tires(v, won) + 1;
        }
    }

    static class Groom extends Boy {
        @Override
        int plays(int v, Man me, Club club, int meNo, int otherNo) {
            int asBoy = super.plays(v, me, club, meNo, otherNo);
            return club.round % 10 == me.number ? asBoy + 50 : asBoy;
        }

        @Override
        int tires(int v, boolean won) {
            return super.tires(v, won) - 3;
        }
    }

    static class Widow extends Player {
        @Override
        int plays(int v, Man me, Club club, int meNo, int otherNo) {
            return 0;
        }

        @Override
        int tires(int v, boolean won) {
            return 0;
        }
    }

    private static final Player[] KINDS = {
        new Player(), new Master(), new Boy(), new Champion(), new Groom(), new Widow()
    };
    private static final Class<?>[] CLASSES = {
        Player.class, Master.class, Boy.class, Champion.class, Groom.class, Widow.class
    };

    static final class Man {
        int kind;
        int number;
        int strong = 50;
        int won;

        Man copy() {
            Man man = new Man();
            man.kind = kind;
            man.number = number;
            man.strong = strong;
            man.won = won;
            return man;
        }
    }

    final class Club {
        final List<Man> men = new ArrayList<>();
        final int[] at = {-1, -1, -1, -1, -1, -1, -1, -1};
        int round;
        int rule;

        Club copy() {
            Club club = new Club();
            for (Man man : men) {
                club.men.add(man.copy());
            }
            System.arraycopy(at, 0, club.at, 0, 8);
            club.round = round;
            club.rule = rule;
            return club;
        }

        int bits(int place) {
            int bits = 0;
            for (int thing = 0; thing < 8; thing++) {
                bits += at[thing] == place ? 1 << thing : 0;
            }
            return bits;
        }

        int size(int place) {
            return Integer.bitCount(bits(place));
        }

        boolean there(int one) {
            return one >= 0 && one < men.size();
        }

        boolean two(int one, int other) {
            return there(one) && there(other) && one != other;
        }

        int says(int part, int one, int other) {
            Map<String, Integer> names = new HashMap<>();
            names.put("strong", men.get(one).strong);
            names.put("has", size(one));
            names.put("number", men.get(one).number);
            names.put("theirs", men.get(other).strong);
            names.put("round", round);
            names.put("stake", size(other) + size(-1));
            return texts.get(rule)[part].of(names);
        }

        int power(int one, int other) {
            if (one == other) {
                return 0;
            }
            Man me = men.get(one);
            if (KINDS[me.kind].gives(says(1, one, other) != 0, me, this, one, other)) {
                return -1;
            }
            int v = Math.min(99, Math.max(0, says(0, one, other)));
            return Math.min(999, Math.max(0, KINDS[me.kind].plays(v, me, this, one, other)));
        }

        int tires(int one, int other, boolean won) {
            int v = Math.min(9, Math.max(-9, says(2, one, other)));
            return Math.min(99, Math.max(-99, KINDS[men.get(one).kind].tires(v, won)));
        }

        int winner(int one, int other) {
            int mine = power(one, other);
            int theirs = power(other, one);
            return mine > theirs ? one : theirs > mine ? other : -1;
        }

        int meet(int one, int other) {
            int winner = winner(one, other);
            int a = tires(one, other, winner == one);
            int b = tires(other, one, winner == other);
            for (int thing = 0; thing < 8; thing++) {
                boolean theirs = at[thing] == one || at[thing] == other;
                if (winner == -1) {
                    at[thing] = theirs ? -1 : at[thing];
                } else if (theirs || at[thing] == -1) {
                    at[thing] = winner == one ? other : one;
                }
            }
            if (winner >= 0) {
                men.get(winner).won = Math.min(999, men.get(winner).won + 1);
            }
            men.get(one).strong = Math.min(99, Math.max(0, men.get(one).strong - a));
            men.get(other).strong = Math.min(99, Math.max(0, men.get(other).strong - b));
            round += 1;
            return winner;
        }

        int play(List<int[]> games) {
            int draws = 0;
            for (int[] game : games) {
                draws += meet(game[0], game[1]) == -1 ? 1 : 0;
            }
            return draws;
        }

        /** All pairs, the first one the lesser. */
        List<int[]> pairs() {
            List<int[]> pairs = new ArrayList<>();
            for (int one = 0; one < men.size(); one++) {
                for (int other = one + 1; other < men.size(); other++) {
                    pairs.add(new int[] {one, other});
                }
            }
            return pairs;
        }
    }

    private final List<Expression[]> texts = new ArrayList<>();
    private StringBuilder tape = new StringBuilder();
    private Club club = new Club();
    private Club kept;
    private final int[] sorts = {-1, -1, -1, -1};
    private final int[][] rows = new int[4][];

    Model() {
        texts.add(new Parser("plays strong ; throws has < 1 ; tires 1 ;").text());
    }

    // ---- things, players

    int set(int what, int of, int v) {
        if (what == 0 && v >= 0 && v <= 999) {
            int was = club.round;
            club.round = v;
            return was;
        }
        if (what == 1 && of >= 0 && of <= 7 && (v == -1 || club.there(v))) {
            int was = club.at[of];
            club.at[of] = v;
            return was;
        }
        if (what == 2 && club.there(of) && v >= 0 && v <= 9) {
            int was = club.men.get(of).number;
            club.men.get(of).number = v;
            return was;
        }
        if (what == 3 && club.there(of) && v >= 0 && v <= 99) {
            int was = club.men.get(of).strong;
            club.men.get(of).strong = v;
            return was;
        }
        return -1000;
    }

    int player(int kind, int number) {
        if (kind < 0 || kind > 5 || number < 0 || number > 9) {
            return BAD;
        }
        if (club.men.size() == 6) {
            return FULL;
        }
        Man man = new Man();
        man.kind = kind;
        man.number = number;
        club.men.add(man);
        return club.men.size() - 1;
    }

    int told(int of, int what) {
        if (what == 0) {
            return club.round;
        }
        if (what == 1) {
            return of >= 0 && of <= 7 ? club.at[of] : -1000;
        }
        if (!club.there(of) || what < 2 || what > 7) {
            return -1000;
        }
        Man man = club.men.get(of);
        return new int[] {man.number, man.strong, man.kind, man.won, club.bits(of), club.size(of)}[what - 2];
    }

    int asks(int one, int other, int what) {
        if (!club.two(one, other) || what < 0 || what > 5) {
            return -1000;
        }
        Club then = club.copy();
        then.meet(one, other);
        return new int[] {
            club.power(one, other), club.power(other, one), club.tires(one, other, true),
            club.tires(one, other, false), club.winner(one, other), then.size(one)
        }[what];
    }

    // ---- texts

    int feed(int letter) {
        if (letter < 0 || letter > 255) {
            return BAD;
        }
        if (tape.length() == 160) {
            return FULL;
        }
        tape.append((char) letter);
        return tape.length();
    }

    int text() {
        if (texts.size() == 6) {
            return FULL;
        }
        String read = tape.toString();
        tape = new StringBuilder();
        try {
            texts.add(new Parser(read).text());
            return texts.size() - 1;
        } catch (Fault fault) {
            return -100 - fault.place;
        }
    }

    int force(int text) {
        if (text < 0 || text >= texts.size()) {
            return BAD;
        }
        int was = club.rule;
        club.rule = text;
        return was;
    }

    // ---- games, evenings

    int game(int one, int other) {
        if (!club.two(one, other)) {
            return BAD;
        }
        return club.round == 999 ? STATE : club.meet(one, other);
    }

    /** What a SHEET tells, or null where one of its items is no game. */
    private List<int[]> games(int sheet) {
        List<int[]> games = new ArrayList<>();
        for (int item : rows[sheet]) {
            if (item < 0 || !club.two(item / 10, item % 10)) {
                return null;
            }
            games.add(new int[] {item / 10, item % 10});
        }
        return games;
    }

    int evening(int sheet, int what) {
        if (sheet < 0 || sheet > 3 || what < 0 || what > 8 || what <= 5 && !club.there(what)) {
            return BAD;
        }
        if (sorts[sheet] == -1) {
            return -11;
        }
        List<int[]> games = games(sheet);
        if (games == null) {
            return BAD;
        }
        Club then = club.copy();
        int draws = then.play(games);
        if (what == 6) {
            return then.size(-1);
        }
        if (what == 7) {
            return draws;
        }
        if (what < 6) {
            return then.size(what);
        }
        int who = -1;
        for (int one = 0; one < then.men.size(); one++) {
            if (then.size(one) > 0 && (who == -1 || then.size(one) > then.size(who))) {
                who = one;
            }
        }
        return who;
    }

    int play(int sheet) {
        if (sheet < 0 || sheet > 3) {
            return BAD;
        }
        if (sorts[sheet] == -1) {
            return -11;
        }
        List<int[]> games = games(sheet);
        if (games == null) {
            return BAD;
        }
        return club.round + games.size() > 999 ? STATE : club.play(games);
    }

    int robin(int what) {
        if (what < 0 || what > 8 || what <= 5 && !club.there(what)) {
            return BAD;
        }
        List<int[]> pairs = club.pairs();
        Club then = club.copy();
        then.play(pairs);
        if (what <= 5) {
            return then.bits(what);
        }
        if (what == 6) {
            return then.bits(-1);
        }
        if (what == 7) {
            return apart(pairs, then.size(-1));
        }
        int rings = 0;
        for (int a = 0; a < club.men.size(); a++) {
            for (int b = a + 1; b < club.men.size(); b++) {
                for (int c = a + 1; c < club.men.size(); c++) {
                    rings += b != c && club.winner(a, b) == a && club.winner(b, c) == b && club.winner(c, a) == c ? 1 : 0;
                }
            }
        }
        return rings;
    }

    private int apart(List<int[]> pairs, int withAll) {
        int best = -1;
        int least = withAll;
        for (int[] pair : pairs) {
            List<int[]> others = new ArrayList<>(pairs);
            others.remove(pair);
            Club then = club.copy();
            then.play(others);
            if (then.size(-1) < least) {
                least = then.size(-1);
                best = 10 * pair[0] + pair[1];
            }
        }
        return best;
    }

    // ---- what would be best

    int best(int one, int what) {
        if (!club.there(one) || what < 0 || what > 1) {
            return BAD;
        }
        int[] found = {-1, -1};
        for (int other = 0; other < club.men.size(); other++) {
            if (other != one) {
                int size = asks(one, other, 5);
                if (found[0] == -1 || size > found[1]) {
                    found = new int[] {other, size};
                }
            }
        }
        return found[what];
    }

    int order(int one, int what) {
        if (!club.there(one) || what < 0 || what > 1) {
            return BAD;
        }
        List<Integer> others = new ArrayList<>();
        for (int other = 0; other < club.men.size(); other++) {
            if (other != one) {
                others.add(other);
            }
        }
        List<List<Integer>> orders = new ArrayList<>();
        orders(others, new ArrayList<>(), orders);
        int[] found = {0, -1};
        for (List<Integer> order : orders) {
            Club then = club.copy();
            int digits = 0;
            for (int other : order) {
                then.meet(one, other);
                digits = 10 * digits + other + 1;
            }
            if (then.size(one) > found[1] || then.size(one) == found[1] && digits < found[0]) {
                found = new int[] {digits, then.size(one)};
            }
        }
        return found[what];
    }

    private static void orders(List<Integer> left, List<Integer> order, List<List<Integer>> orders) {
        if (left.isEmpty()) {
            orders.add(order);
        }
        for (Integer next : left) {
            List<Integer> rest = new ArrayList<>(left);
            rest.remove(next);
            List<Integer> longer = new ArrayList<>(order);
            longer.add(next);
            orders(rest, longer, orders);
        }
    }

    int all(int n) {
        if (n < 0 || n > 3) {
            return BAD;
        }
        if (n == 3 && club.men.size() > 4) {
            return STATE;
        }
        List<Club> reached = new ArrayList<>();
        reached.add(club);
        int bits = owners(reached);
        for (int games = 1; games <= n; games++) {
            List<Club> further = new ArrayList<>();
            for (Club from : reached) {
                for (int[] pair : from.pairs()) {
                    Club then = from.copy();
                    then.meet(pair[1], pair[0]);
                    further.add(then);
                }
            }
            bits |= owners(further);
            reached = further;
        }
        return bits;
    }

    private static int owners(List<Club> clubs) {
        int bits = 0;
        for (Club club : clubs) {
            for (int one = 0; one < club.men.size(); one++) {
                bits |= club.bits(one) == 255 ? 1 << one : 0;
            }
        }
        return bits;
    }

    int soon(int one, int other) {
        if (!club.two(one, other)) {
            return BAD;
        }
        Club then = club.copy();
        int games = 0;
        while (then.size(one) > 0) {
            if (games == 20) {
                return -1;
            }
            then.meet(one, other);
            games++;
        }
        return games;
    }

    // ---- games that were told

    private static boolean isSo(Club then, int one, int[] row) {
        return otherwise(then, one, row) == -1;
    }

    private static int otherwise(Club then, int one, int[] row) {
        for (int other = 0; other < row.length; other++) {
            if (row[other] != then.power(one, other)) {
                return other;
            }
        }
        return -1;
    }

    int tells(int sheet, int one, int what) {
        if (sheet < 0 || sheet > 3 || !club.there(one) || what < 0 || what > 8) {
            return BAD;
        }
        if (sorts[sheet] == -1) {
            return -11;
        }
        int[] row = rows[sheet];
        if (row.length != club.men.size()) {
            return BAD;
        }
        if (what == 0) {
            return otherwise(club, one, row);
        }
        List<Integer> so = new ArrayList<>();
        int tried = new int[] {0, 6, 10, 100, 100, 100, 100, texts.size(), club.men.size()}[what];
        for (int i = 0; i < tried; i++) {
            Club then = club.copy();
            Man man = then.men.get(one);
            man.kind = what == 1 ? i : man.kind;
            man.number = what == 2 ? i : man.number;
            man.strong = what == 3 || what == 4 ? i : man.strong;
            then.round = what == 5 || what == 6 ? i : then.round;
            then.rule = what == 7 ? i : then.rule;
            if (isSo(then, what == 8 ? i : one, row)) {
                so.add(i);
            }
        }
        if (what == 3 || what == 5) {
            return so.size();
        }
        if (what == 4 || what == 6) {
            return so.isEmpty() ? -1 : so.get(0);
        }
        int bits = 0;
        for (int i : so) {
            bits |= 1 << i;
        }
        return bits;
    }

    int film(int sheet, int one) {
        if (sheet < 0 || sheet > 3 || !club.there(one)) {
            return BAD;
        }
        sorts[sheet] = 1;
        rows[sheet] = new int[club.men.size()];
        for (int other = 0; other < club.men.size(); other++) {
            rows[sheet][other] = club.power(one, other);
        }
        return club.men.size();
    }

    int drawn(int seed, int one, int n) {
        if (!club.there(one) || n < 0 || n > 60) {
            return BAD;
        }
        Club then = club.copy();
        int many = then.men.size();
        int z = seed;
        for (int i = 0; i < n && many >= 2; i++) {
            z = z * 1103515245 + 12345;
            int a = (z >>> 9) % many;
            int b = a;
            for (int steps = 1 + (z >>> 17) % (many - 1); steps > 0; steps--) {
                b = b == many - 1 ? 0 : b + 1;
            }
            then.meet(a, b);
        }
        return then.bits(one);
    }

    long chance(int seed, int m, int one, int k, int part) {
        if (m < 1 || m > 20 || !club.there(one) || k < 0 || k > 8 || part < 0 || part > 1) {
            return NO;
        }
        long above = 0;
        for (int i = 0; i < m; i++) {
            above += Integer.bitCount(drawn(seed + i, one, 6)) >= k ? 1 : 0;
        }
        long a = above;
        long b = m;
        while (b != 0) {
            long rest = a % b;
            a = b;
            b = rest;
        }
        return part == 0 ? above / a : m / a;
    }

    int image() {
        kept = club.copy();
        return club.men.size();
    }

    int back() {
        if (kept == null) {
            return STATE;
        }
        club = kept.copy();
        return club.men.size();
    }

    int count(int what) {
        if (what < 0 || what > 5) {
            return BAD;
        }
        return new int[] {club.men.size(), club.size(-1), club.round, texts.size(), tape.length(), club.rule}[what];
    }

    // ---- the host

    int sheet(int sheet, int sort, int n) {
        if (sheet < 0 || sheet > 3 || sort < -1 || sort > 2 || sort != -1 && n > 40) {
            return BAD;
        }
        if (sort != -1 && n < 0) {
            return -14;
        }
        sorts[sheet] = sort;
        rows[sheet] = sort == -1 ? null : new int[n];
        return 1;
    }

    int cell(int sheet, int i, int v) {
        if (sheet < 0 || sheet > 3) {
            return BAD;
        }
        if (sorts[sheet] == -1) {
            return -11;
        }
        if (i < 0 || i >= rows[sheet].length) {
            return -12;
        }
        int cut = sorts[sheet] == 0 ? 24 : sorts[sheet] == 1 ? 16 : 0;
        rows[sheet][i] = v << cut >> cut;
        return 1;
    }

    int copy(int sheet, int i, int other, int j, int n) {
        if (sheet < 0 || sheet > 3 || other < 0 || other > 3) {
            return BAD;
        }
        if (sorts[sheet] == -1 || sorts[other] == -1) {
            return -11;
        }
        if (sorts[sheet] != sorts[other]) {
            return -13;
        }
        if (i < 0 || j < 0 || n < 0 || (long) i + n > rows[sheet].length || (long) j + n > rows[other].length) {
            return -12;
        }
        int[] as = rows[sheet].clone();
        for (int k = 0; k < n; k++) {
            rows[other][j + k] = as[i + k];
        }
        return n;
    }

    int players(int sheet, int sort, int from, int n) {
        if (sheet < 0 || sheet > 3 || sort < 0 || sort > 2 || n < 0 || n > 6) {
            return BAD;
        }
        if (sorts[sheet] == -1) {
            return -11;
        }
        if (sorts[sheet] != sort) {
            return -13;
        }
        int came = 0;
        for (long i = from; i < from + 2L * n; i += 2) {
            if (i < 0 || i + 1 >= rows[sheet].length) {
                return -12;
            }
            came += player(rows[sheet][(int) i], rows[sheet][(int) i + 1]) >= 0 ? 1 : 0;
        }
        return came;
    }

    int taken(int player, int k) {
        if (k < 0 || k > 5) {
            return BAD;
        }
        if (!club.there(player)) {
            return -11;
        }
        Man man = club.men.get(player);
        return CLASSES[k].isInstance(KINDS[man.kind]) ? man.number : -13;
    }

    // ---- reading

    interface Expression {
        int of(Map<String, Integer> names);
    }

    static final class Fault extends RuntimeException {
        private static final long serialVersionUID = 1L;
        final int place;

        Fault(int place) {
            this.place = place;
        }
    }

    /** All TOKENS first, each with its place; then down from E to ONE, counting what is open. */
    static final class Parser {
        private final List<String> tokens = new ArrayList<>();
        private final List<Integer> places = new ArrayList<>();
        private int next;
        private int open;

        Parser(String text) {
            java.util.regex.Matcher matcher = java.util.regex.Pattern
                .compile("[ \n]+|[a-z]+|[0-9]+|.", java.util.regex.Pattern.DOTALL).matcher(text);
            while (matcher.find()) {
                if (!matcher.group().matches("[ \n]+")) {
                    tokens.add(matcher.group());
                    places.add(matcher.start());
                }
            }
            tokens.add("");
            places.add(text.length());
        }

        Expression[] text() {
            Expression[] parts = new Expression[3];
            String[] keys = {"plays", "throws", "tires"};
            for (int i = 0; i < 3; i++) {
                must(keys[i]);
                parts[i] = either();
                must(";");
            }
            must("");
            return parts;
        }

        private boolean is(String token) {
            return tokens.get(next).equals(token);
        }

        private Fault fault() {
            return new Fault(places.get(next));
        }

        private void must(String token) {
            if (!is(token)) {
                throw fault();
            }
            next = Math.min(next + 1, tokens.size() - 1);
        }

        private void opening(String token) {
            if (is(token) && open == 5) {
                throw fault();
            }
            must(token);
            open++;
        }

        private Expression either() {
            Expression all = both();
            while (is("or")) {
                must("or");
                Expression left = all;
                Expression right = both();
                all = names -> left.of(names) != 0 | right.of(names) != 0 ? 1 : 0;
            }
            return all;
        }

        private Expression both() {
            Expression all = inverted();
            while (is("and")) {
                must("and");
                Expression left = all;
                Expression right = inverted();
                all = names -> left.of(names) != 0 & right.of(names) != 0 ? 1 : 0;
            }
            return all;
        }

        private Expression inverted() {
            if (is("not")) {
                opening("not");
                Expression inner = inverted();
                open--;
                return names -> inner.of(names) == 0 ? 1 : 0;
            }
            Expression left = sum();
            if (is("<")) {
                must("<");
                Expression right = sum();
                return names -> left.of(names) < right.of(names) ? 1 : 0;
            }
            if (is("=")) {
                must("=");
                Expression right = sum();
                return names -> left.of(names) == right.of(names) ? 1 : 0;
            }
            return left;
        }

        private Expression sum() {
            Expression all = term();
            while (is("+") || is("-")) {
                boolean more = is("+");
                must(more ? "+" : "-");
                Expression left = all;
                Expression right = term();
                all = names -> more ? left.of(names) + right.of(names) : left.of(names) - right.of(names);
            }
            return all;
        }

        private Expression term() {
            Expression all = one();
            while (is("*")) {
                must("*");
                Expression left = all;
                Expression right = one();
                all = names -> left.of(names) * right.of(names);
            }
            return all;
        }

        private Expression one() {
            String token = tokens.get(next);
            if (token.matches("[0-9]{1,4}")) {
                must(token);
                return names -> Integer.parseInt(token);
            }
            if (List.of("strong", "has", "number", "theirs", "round", "stake").contains(token)) {
                must(token);
                return names -> names.get(token);
            }
            if (token.equals("-")) {
                opening("-");
                Expression inner = one();
                open--;
                return names -> -inner.of(names);
            }
            opening("(");
            Expression inner = either();
            must(")");
            open--;
            return inner;
        }
    }
}
