import java.util.Map;
import java.util.regex.Matcher;
import java.util.regex.Pattern;

/** The text of a house, read by a table of what may follow what. */
final class ModelText {
    private static final Pattern TOKEN = Pattern.compile("[\\n ]*([a-z]+|[0-9]+|;|\\z|[\\x00-\\xff])");
    /** By what came before: which words and signs may follow (# is a number). */
    private static final Map<String, String> FOLLOWS = Map.of(
            "line", " barrel gap low lie hands left cold END ",
            "barrel", " # ",
            "barrel #", " ripe idle bad stones ; ",
            "ripe", " # ",
            "ripe #", " idle bad stones ; ",
            "idle", " # ",
            "idle #", " bad stones ; ",
            "setting", " # ",
            "full", " ; ");
    private static final Map<String, int[]> BOUNDS = Map.of(
            "barrel", new int[] {1, 9}, "ripe", new int[] {0, 100}, "idle", new int[] {0, 9},
            "low", new int[] {1, 40}, "lie", new int[] {0, 20}, "hands", new int[] {1, 12},
            "left", new int[] {1, 6}, "cold", new int[] {0, 9});

    int fault;
    int place = -1;
    final Model.State state = new Model.State();

    ModelText(String text) {
        Matcher m = TOKEN.matcher(text);
        String before = "line";
        String asked = "";
        for (int from = 0; m.find(from); from = m.end()) {
            String token = m.group(1).isEmpty() ? "END" : m.group(1);
            boolean digits = Character.isDigit(token.charAt(0));
            boolean known = token.matches("[a-z]+|[0-9]{1,3}|;|END");
            if (!known) {
                fault = 1;
            } else if (!FOLLOWS.get(before).contains(" " + (digits ? "#" : token) + " ")) {
                fault = 2;
            } else if (digits && (Integer.parseInt(token) < BOUNDS.get(asked)[0]
                    || Integer.parseInt(token) > BOUNDS.get(asked)[1])) {
                fault = 3;
            } else if ((token.equals("barrel") || token.equals("gap")) && state.shelf.size() == 12) {
                fault = 4;
            }
            if (fault != 0) {
                place = m.start(1);
                return;
            }
            if (token.equals("END")) {
                return;
            }
            if (digits) {
                take(asked, Integer.parseInt(token));
                before = BOUNDS.get(asked) != null && FOLLOWS.containsKey(asked + " #") ? asked + " #" : "full";
            } else if (token.equals(";")) {
                state.lines++;
                before = "line";
            } else {
                asked = token;
                before = word(token);
            }
        }
    }

    private String word(String token) {
        switch (token) {
            case "barrel":
                state.shelf.add(new Model.Cask(0, 0, 0, 0));
                return "barrel";
            case "gap":
                state.shelf.add(new Model.Cask(3, 0, 0, 0));
                return "full";
            case "bad":
                state.shelf.get(state.shelf.size() - 1).kind = 1;
                return "full";
            case "stones":
                state.shelf.get(state.shelf.size() - 1).kind = 2;
                return "full";
            case "ripe":
            case "idle":
                return token;
            default:
                return "setting";
        }
    }

    private void take(String word, int number) {
        switch (word) {
            case "barrel":
                state.shelf.get(state.shelf.size() - 1).salt = number;
                break;
            case "ripe":
                state.shelf.get(state.shelf.size() - 1).ripe = number;
                break;
            case "idle":
                state.shelf.get(state.shelf.size() - 1).idle = number;
                break;
            default:
                state.set.put(word, number);
                break;
        }
    }
}
