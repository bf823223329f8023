import java.util.ArrayList;
import java.util.List;
import java.util.Map;
import java.util.TreeMap;

/**
 * The document's regiment told another way: each height has the way down from the top ("" for the one at the top, then
 * L or R a rank), and every answer is worked out anew from these ways.
 */
final class Paths {
    private final TreeMap<Integer, String> ways = new TreeMap<>();
    private int most = 0;
    private int drawings = 0;
    private int drawn = 0;

    int muster(int height) {
        heights(height);
        if (ways.containsKey(height) || ways.size() == 150) {
            throw new IllegalStateException();
        }
        int moved = moves(height);
        ways.put(height, freeWay(height));
        most = Math.max(most, ways.size());
        if (moved >= 0) {
            drawCompany(ways.get(moved));
        }
        return ways.get(height).length();
    }

    boolean discharge(int height) {
        heights(height);
        String way = wayOf(height);
        ways.remove(height);
        boolean left = !company(way + "L").isEmpty();
        boolean right = !company(way + "R").isEmpty();
        if (left && right) {
            int heir = company(way + "R").get(0);
            String old = ways.remove(heir);
            shift(old + "R", old);
            ways.put(heir, way);
        } else if (left || right) {
            shift(way + (left ? "L" : "R"), way);
        }
        if (ways.isEmpty()) {
            most = 0;
        } else if (3 * ways.size() < 2 * most) {
            drawCompany("");
            return true;
        }
        return false;
    }

    int draw(int height) {
        heights(height);
        String way = wayOf(height);
        drawCompany(way);
        return holder(way);
    }

    boolean isThere(int height) {
        heights(height);
        return ways.containsKey(height);
    }

    int told(int height, int what) {
        heights(height);
        questions(what);
        return tell(wayOf(height), height, what);
    }

    int at(int place) {
        if (place < 0 || place >= ways.size()) {
            throw new IndexOutOfBoundsException();
        }
        return new ArrayList<>(ways.keySet()).get(place);
    }

    int between(int from, int to) {
        heights(from);
        heights(to);
        return from > to ? 0 : ways.subMap(from, true, to, true).size();
    }

    int captain(int a, int b) {
        heights(a);
        heights(b);
        String one = wayOf(a);
        String other = wayOf(b);
        int same = 0;
        while (same < one.length() && same < other.length() && one.charAt(same) == other.charAt(same)) {
            same++;
        }
        return holder(one.substring(0, same));
    }

    int taller(int height) {
        heights(height);
        Integer next = ways.higherKey(height);
        return next == null ? -1 : next;
    }

    int count(int what) {
        questions(what);
        int many = ways.size();
        switch (what) {
            case 0: return many;
            case 1: return holder("");
            case 2: return ways.values().stream().mapToInt(String::length).max().orElse(-1);
            case 3: return allowed(many);
            case 4: return (int) ways.values().stream().filter(way -> isCrooked(way, -1)).count();
            case 5: return drawings;
            case 6: return drawn;
            default: return most;
        }
    }

    int would(int height) {
        heights(height);
        return ways.containsKey(height) ? -1 : freeWay(height).length();
    }

    int moves(int height) {
        heights(height);
        if (ways.containsKey(height)) {
            return -1;
        }
        String free = freeWay(height);
        if (free.length() <= allowed(ways.size() + 1)) {
            return -1;
        }
        for (int length = free.length() - 1; length >= 0; length--) {
            if (isCrooked(free.substring(0, length), free.charAt(length))) {
                return holder(free.substring(0, length));
            }
        }
        return -1;
    }

    double mean() {
        return ways.isEmpty() ? 0.0 : (double) ways.values().stream().mapToInt(String::length).sum() / ways.size();
    }

    long digest() {
        List<Long> numbers = new ArrayList<>();
        for (int what = 0; what < 8; what++) {
            numbers.add((long) count(what));
        }
        for (Map.Entry<Integer, String> soldier : ways.entrySet()) {
            numbers.add((long) soldier.getKey());
            for (int what = 0; what < 8; what++) {
                numbers.add((long) tell(soldier.getValue(), soldier.getKey(), what));
            }
        }
        long sum = 1289;
        for (long number : numbers) {
            sum = sum * 31 + number;
        }
        return sum;
    }

    private int tell(String way, int height, int what) {
        switch (what) {
            case 0: return way.length();
            case 1: return way.isEmpty() ? -1 : holder(way.substring(0, way.length() - 1));
            case 2: return holder(way + "L");
            case 3: return holder(way + "R");
            case 4: return company(way).size();
            case 5: return company(way).stream().mapToInt(h -> ways.get(h).length()).max().orElse(0) - way.length();
            case 6: return isCrooked(way, -1) ? 1 : 0;
            default: return ways.headMap(height).size();
        }
    }

    private static void heights(int height) {
        if (height < 0 || height > 999) {
            throw new IllegalArgumentException();
        }
    }

    private static void questions(int what) {
        if (what < 0 || what > 7) {
            throw new IndexOutOfBoundsException();
        }
    }

    private String wayOf(int height) {
        String way = ways.get(height);
        if (way == null) {
            throw new IllegalStateException();
        }
        return way;
    }

    private int holder(String way) {
        for (Map.Entry<Integer, String> soldier : ways.entrySet()) {
            if (soldier.getValue().equals(way)) {
                return soldier.getKey();
            }
        }
        return -1;
    }

    private List<Integer> company(String way) {
        List<Integer> members = new ArrayList<>();
        for (Map.Entry<Integer, String> soldier : ways.entrySet()) {
            if (soldier.getValue().startsWith(way)) {
                members.add(soldier.getKey());
            }
        }
        return members;
    }

    private String freeWay(int height) {
        String way = "";
        for (int holder = holder(way); holder >= 0; holder = holder(way)) {
            way += height < holder ? "L" : "R";
        }
        return way;
    }

    /** Whether the company there is crooked, with one more on a side if that is L or R. */
    private boolean isCrooked(String way, int more) {
        int left = company(way + "L").size() + (more == 'L' ? 1 : 0);
        int right = company(way + "R").size() + (more == 'R' ? 1 : 0);
        return 3 * Math.max(left, right) > 2 * (left + right + 1);
    }

    private static int allowed(int many) {
        int depth = -1;
        while (Math.pow(3, depth + 1) <= many * Math.pow(2, depth + 1)) {
            depth++;
        }
        return depth;
    }

    private void shift(String from, String to) {
        for (int height : company(from)) {
            ways.put(height, to + ways.get(height).substring(from.length()));
        }
    }

    private void drawCompany(String way) {
        List<Integer> members = company(way);
        halve(members, way);
        drawings++;
        drawn += members.size();
        if (way.isEmpty()) {
            most = ways.size();
        }
    }

    private void halve(List<Integer> members, String way) {
        if (!members.isEmpty()) {
            int middle = (members.size() - 1) / 2;
            ways.put(members.get(middle), way);
            halve(members.subList(0, middle), way + "L");
            halve(members.subList(middle + 1, members.size()), way + "R");
        }
    }
}
