import java.util.Random;

/** Promises 28 and 29 where hands hardly suffice, by fixed seeds against Model (days by their own rules). */
public final class KeeperTest {
    public static void main(String[] args) {
        Due due = new Due();
        int first = args.length > 0 ? Integer.parseInt(args[0]) : 0;
        int runs = args.length > 1 ? Integer.parseInt(args[1]) : 150;
        for (int seed = first; seed < first + runs; seed++) {
            run(seed, due);
        }
        due.end();
    }

    private static void run(int seed, Due due) {
        Random random = new Random(seed);
        StringBuilder text = new StringBuilder();
        int sound = 2 + random.nextInt(seed % 10 == 0 ? 4 : 3);
        boolean bad = random.nextInt(3) == 0;
        for (int i = 0; i < sound; i++) {
            text.append("barrel 3 idle ").append(random.nextInt(3)).append(';');
            text.append(bad && random.nextInt(3) == 0 ? "barrel 1 bad;" : "");
        }
        int hands = 1 + random.nextInt(Math.max(1, sound / 2));
        int left = Math.max(1, Math.min(6, sound / hands + random.nextInt(3) - 1));
        text.append("hands ").append(hands).append(";left ").append(left).append(';');
        HeardBarrels x = due.at(text.toString());
        Model m = new Model();
        feed(m, text.toString());
        due.is("longest of " + text, x.longest(), m.longest());
        int days = 2 + random.nextInt(sound == 5 ? 4 : 7);
        due.is("kept(" + days + ", 0) of " + text, x.kept(days, 0), m.kept(days, 0));
        for (int k = 10; k < 10 + days; k++) {
            due.is("kept(" + days + ", " + k + ") of " + text, x.kept(days, k), m.kept(days, k));
        }
    }

    private static void feed(Model m, String text) {
        for (int i = 0; i < text.length(); i += 20) {
            m.feed(Due.four(text, i), Due.four(text, i + 4), Due.four(text, i + 8), Due.four(text, i + 12),
                    Due.four(text, i + 16));
        }
        m.house(text.length());
    }
}
