import java.util.ArrayList;
import java.util.HashSet;
import java.util.List;
import java.util.Set;
import java.util.regex.Matcher;
import java.util.regex.Pattern;

/** The setup text once more: cut into tokens by a pattern first, then read from a list of tokens. */
final class ModelSetup {
    private static final Pattern TOKEN = Pattern.compile("[ \n]+|[a-z]+|[0-9]+|[-+;]|[^ \na-z0-9+;-]", Pattern.DOTALL);
    private static final String KEYWORDS = " train first seat ticket family window ahead row sweets stop ";

    int rows;
    int first;
    /** Seat, name, ticket, family, window, ahead, row, pulls, sweets, stop. */
    final List<String[]> travellers = new ArrayList<>();
    int error = -2;

    private final List<String> tokens = new ArrayList<>();
    private final List<Integer> places = new ArrayList<>();
    private int next = 0;

    private static final class Stop extends RuntimeException {
        private static final long serialVersionUID = 1L;
    }

    ModelSetup(String text) {
        Matcher m = TOKEN.matcher(text);
        while (m.find()) {
            if (m.group().trim().length() > 0 || !m.group().matches("[ \n]+")) {
                tokens.add(m.group());
                places.add(m.start());
            }
        }
        tokens.add("");
        places.add(text.length());
        try {
            read();
        } catch (Stop stop) {
            error = places.get(next);
        }
    }

    private void demand(boolean holds) {
        if (!holds) {
            throw new Stop();
        }
    }

    private String token() {
        return tokens.get(next);
    }

    private boolean skip(String word) {
        if (token().equals(word)) {
            next++;
            return true;
        }
        return false;
    }

    private int number(int low, int high) {
        demand(token().matches("[0-9]{1,2}"));
        int n = Integer.parseInt(token());
        demand(n >= low && n <= high);
        next++;
        return n;
    }

    private int like() {
        boolean minus = token().equals("-");
        demand(minus || token().equals("+"));
        next++;
        int n = number(0, 9);
        return minus ? -n : n;
    }

    private void read() {
        demand(skip("train"));
        rows = number(2, 10);
        demand(skip("first"));
        first = number(0, rows);
        demand(skip(";"));
        Set<Integer> taken = new HashSet<>();
        while (!token().isEmpty()) {
            demand(token().equals("seat") && travellers.size() < 20);
            next++;
            int before = next;
            int seat = number(0, 4 * rows - 1);
            if (!taken.add(seat)) {
                next = before;
                throw new Stop();
            }
            String name = token();
            demand(name.matches("[a-z]{1,5}") && !KEYWORDS.contains(" " + name + " "));
            next++;
            int ticket = skip("ticket") ? 1 : 0;
            int family = skip("family") ? number(1, 9) : 0;
            int window = skip("window") ? like() : 0;
            int ahead = skip("ahead") ? like() : 0;
            int row = 0;
            int pulls = 0;
            if (skip("row")) {
                row = number(0, rows - 1);
                pulls = number(0, 3);
            }
            int sweets = skip("sweets") ? number(0, 99) : 0;
            int stop = skip("stop") ? number(1, 99) : 99;
            demand(token().equals(";") && (ticket == 1 || seat / 4 >= first));
            next++;
            travellers.add((seat + "," + name + "," + ticket + "," + family + "," + window + "," + ahead + "," + row
                + "," + pulls + "," + sweets + "," + stop).split(","));
        }
    }
}
