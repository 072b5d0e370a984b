import java.util.ArrayDeque;
import java.util.ArrayList;
import java.util.Deque;
import java.util.HashMap;
import java.util.HashSet;
import java.util.List;
import java.util.Map;
import java.util.Set;
import java.util.TreeSet;

/**
 * The groups of a model, as a tree that is derived by one place after the other: what is left of it when that place
 * was read.
 */
final class PlainGroups {
    /** A part; the text names it, so that what is left can be known again. */
    private record Part(char kind, int place, List<Part> parts, String text) {
        boolean canBeNothing() {
            return switch (kind) {
                case '1', '*' -> true;
                case ',' -> parts.stream().allMatch(Part::canBeNothing);
                case '|' -> parts.stream().anyMatch(Part::canBeNothing);
                default -> false;
            };
        }
    }

    private static final Part NO_WORD = new Part('0', 0, List.of(), "0");
    private static final Part NOTHING = new Part('1', 0, List.of(), "1");

    private final String row;
    private int at;
    private final List<Character> names = new ArrayList<>();
    private final Part whole;

    /** The row has a group and perhaps its sign from there on. */
    PlainGroups(String row, int from) {
        this.row = row;
        at = from;
        need('(');
        whole = signed(group(1));
    }

    int end() {
        return at;
    }

    boolean describes(String word) {
        Part rest = whole;
        for (char name : word.toCharArray()) {
            List<Part> rests = new ArrayList<>();
            for (int p = 0; p < names.size(); p++) {
                if (names.get(p) == name) {
                    rests.add(left(rest, p));
                }
            }
            rest = oneOf(rests);
        }
        return rest.canBeNothing();
    }

    private char here() {
        return at < row.length() ? row.charAt(at) : 0;
    }

    private void need(char c) {
        if (here() != c) {
            throw new IllegalArgumentException();
        }
        at++;
    }

    private void blanks() {
        while (" \t\n".indexOf(here()) >= 0) {
            at++;
        }
    }

    private Part group(int depth) {
        if (depth == 9) {
            throw new IllegalStateException();
        }
        List<Part> parts = new ArrayList<>();
        char between = 0;
        do {
            if (!parts.isEmpty()) {
                at++;
            }
            blanks();
            parts.add(part(depth));
            blanks();
            between = parts.size() == 1 ? here() : between;
        } while (here() == between && (between == '|' || between == ','));
        need(')');
        Part all = between == '|' ? oneOf(parts) : parts.get(parts.size() - 1);
        for (int k = parts.size() - 2; k >= 0 && between != '|'; k--) {
            all = behind(parts.get(k), all);
        }
        return all;
    }

    private Part part(int depth) {
        if (here() == '(') {
            at++;
            return signed(group(depth + 1));
        }
        char name = here();
        if (name < 'a' || name > 'z') {
            throw new IllegalArgumentException();
        }
        at++;
        names.add(name);
        if (names.size() == 31) {
            throw new IllegalStateException();
        }
        return signed(new Part('n', names.size() - 1, List.of(), "n" + (names.size() - 1)));
    }

    private Part signed(Part part) {
        char sign = here();
        if ("?*+".indexOf(sign) < 0 || sign == 0) {
            return part;
        }
        at++;
        return switch (sign) {
            case '?' -> oneOf(List.of(NOTHING, part));
            case '*' -> anyNumber(part);
            default -> behind(part, anyNumber(part));
        };
    }

    private static Part anyNumber(Part part) {
        return new Part('*', 0, List.of(part), "(" + part.text + ")*");
    }

    private static Part behind(Part first, Part second) {
        if (first == NO_WORD || second == NO_WORD) {
            return NO_WORD;
        }
        if (first == NOTHING) {
            return second;
        }
        return second == NOTHING ? first : new Part(',', 0, List.of(first, second), "(" + first.text + "," + second.text + ")");
    }

    /** Those that are the same are one, in whatever order they come. */
    private static Part oneOf(List<Part> parts) {
        Map<String, Part> different = new HashMap<>();
        for (Part part : parts) {
            for (Part one : part.kind == '|' ? part.parts : List.of(part)) {
                if (one != NO_WORD) {
                    different.put(one.text, one);
                }
            }
        }
        if (different.isEmpty()) {
            return NO_WORD;
        }
        List<Part> sorted = new ArrayList<>();
        new TreeSet<>(different.keySet()).forEach(text -> sorted.add(different.get(text)));
        String text = "(" + String.join("|", new TreeSet<>(different.keySet())) + ")";
        return sorted.size() == 1 ? sorted.get(0) : new Part('|', 0, sorted, text);
    }

    /** What may come behind the place, when it is the first that is read. */
    private static Part left(Part part, int place) {
        switch (part.kind) {
            case 'n':
                return part.place == place ? NOTHING : NO_WORD;
            case '*':
                return behind(left(part.parts.get(0), place), part);
            case '|':
                return oneOf(part.parts.stream().map(one -> left(one, place)).toList());
            case ',':
                Part second = part.parts.get(1);
                Part inFirst = behind(left(part.parts.get(0), place), second);
                return part.parts.get(0).canBeNothing() ? oneOf(List.of(inFirst, left(second, place))) : inFirst;
            default:
                return NO_WORD;
        }
    }

    boolean isPlain() {
        Map<Integer, Set<Integer>> next = new HashMap<>();
        Set<String> seen = new HashSet<>();
        Deque<Part> open = new ArrayDeque<>(List.of(whole));
        Deque<Integer> behind = new ArrayDeque<>(List.of(-1));
        while (!open.isEmpty()) {
            Part part = open.remove();
            int place = behind.remove();
            for (int p = 0; p < names.size(); p++) {
                Part rest = left(part, p);
                if (rest != NO_WORD) {
                    next.computeIfAbsent(place, key -> new TreeSet<>()).add(p);
                    if (seen.add(p + " " + rest.text)) {
                        open.add(rest);
                        behind.add(p);
                    }
                }
            }
        }
        return next.values().stream().allMatch(this::haveDifferentNames);
    }

    private boolean haveDifferentNames(Set<Integer> places) {
        Set<Character> different = new HashSet<>();
        return places.stream().allMatch(place -> different.add(names.get(place)));
    }
}
