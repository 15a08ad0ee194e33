import java.util.ArrayList;
import java.util.List;

/** A second telling of THE TEXT: cut into NAMES, NUMBERS and other bytes first, then taken by what must come. */
final class PlainText {
    /** Without a FAULT -1. */
    int fault = -1;
    final List<int[]> lots = new ArrayList<>();
    final List<int[]> bidders = new ArrayList<>();
    final int[] draughts = new int[12];
    int step = 5;

    private final List<String> parts = new ArrayList<>();
    private final List<Integer> places = new ArrayList<>();
    private final int size;

    PlainText(String text) {
        size = text.length();
        java.util.regex.Matcher part = java.util.regex.Pattern.compile("[a-z]+|[0-9]+|[^ ]", java.util.regex.Pattern.DOTALL).matcher(text);
        while (part.find()) {
            parts.add(part.group());
            places.add(part.start());
        }
        int at = 0;
        while (fault < 0 && at < parts.size()) {
            at = entry(at);
        }
    }

    private int entry(int at) {
        String name = parts.get(at);
        List<String> kinds = List.of("bidder", "late", "leaper", "sniper", "broker", "blind");
        if (name.equals("lot") && lots.size() < 5) {
            int[] told = take(at + 1, "1-60 worth 1-99 ;");
            if (told != null) {
                lots.add(told);
            }
            return at + 5;
        }
        if (kinds.contains(name) && bidders.size() < 6) {
            int[] told = take(at + 1, "0-9 value 0-999 purse 0-9999 ;");
            if (told != null) {
                bidders.add(new int[] {kinds.indexOf(name), told[0], told[1], told[2]});
            }
            return at + 7;
        }
        if (name.equals("draught")) {
            int[] told = take(at + 1, "0-11 0-3 ;");
            if (told != null) {
                draughts[told[0]] = told[1];
            }
            return at + 4;
        }
        if (name.equals("step")) {
            int[] told = take(at + 1, "1-20 ;");
            if (told != null) {
                step = told[0];
            }
            return at + 3;
        }
        fault = places.get(at);
        return at;
    }

    /** The NUMBERS of the parts that must come; null with a FAULT. */
    private int[] take(int from, String must) {
        String[] musts = must.split(" ");
        int[] numbers = new int[3];
        int count = 0;
        for (int i = 0; i < musts.length; i++) {
            if (from + i >= parts.size()) {
                fault = size;
                return null;
            }
            String part = parts.get(from + i);
            boolean right = part.equals(musts[i]);
            if (musts[i].contains("-")) {
                String[] range = musts[i].split("-");
                right = part.matches("[0-9]{1,4}") && Integer.parseInt(part) >= Integer.parseInt(range[0])
                    && Integer.parseInt(part) <= Integer.parseInt(range[1]);
                numbers[count] = right ? Integer.parseInt(part) : 0;
                count++;
            }
            if (!right) {
                fault = places.get(from + i);
                return null;
            }
        }
        return numbers;
    }
}
