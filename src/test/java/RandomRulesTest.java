import java.util.List;
import java.util.Map;
import java.util.Random;
import java.util.TreeMap;

/**
 * Promises 16, 18, 20 and 44 beside a second reader of the language, for random texts.
 */
public final class RandomRulesTest {
    private static final List<String> SCRAPS = List.of("month", "kind", "firm", "made", "cars", "fires", "deaths",
        "dead", "speed", "sort", "knew", "part", "crash", "give", "most", "recall", "if", "or", "and", "not", "(",
        ")", "[", "]", "+", "-", "*", "<", "<=", "=", ">=", ">", ";", "0", "1", "2", "3", "17", "99999", "100000",
        "foo", " ", "?", "crash 1", "if [", "((", "not not", "1=1", "\u00e9");

    private RandomRulesTest() {
    }

    public static void main(String[] args) {
        Random random = new Random(1978);
        int right = 0;
        for (int n = 0; n < 6000; n++) {
            String text = new RuleWriter(random).rule();
            for (int i = random.nextInt(4) - 1; i > 0; i--) {
                text = spoil(text, random);
            }
            if (text.length() <= 400) {
                right += compare(text) ? 1 : 0;
            }
        }
        Expect.due("enough right ones among them", right > 1000, true);
        Expect.finish("RandomRulesTest");
    }

    private static String spoil(String text, Random random) {
        int at = random.nextInt(text.length() + 1);
        int to = Math.min(text.length(), at + random.nextInt(3));
        return text.substring(0, at) + SCRAPS.get(random.nextInt(SCRAPS.size())) + text.substring(to);
    }

    /** True if the text is a rule. */
    private static boolean compare(String text) {
        TankBehind x = new TankBehind();
        x.person(2);
        x.kind(0, 0, 0, 0);
        x.kind(2, 100, 100, 100);
        x.part(77, 0, 0, 9999);
        x.clock(3);
        x.car(1, 2, 0);
        x.car(0, 2, 0);
        x.car(1, 3, 0);
        x.crash(0, 2, 2, 90, 4, true, false);
        List<SecondReader.Piece> pieces = SecondReader.cut(text);
        int fault = SecondReader.fault(text);
        Expect.due("rule \"" + text + "\"", Expect.tell(x, text, 3), fault == -1 ? 0 : -2 - fault);
        if (fault != -1) {
            return false;
        }
        for (int month = 3; month < 6; month++) {
            Map<String, Long> words = words(month, month);
            for (int sort = 0; sort < 3; sort++) {
                Long speed = SecondReader.told(pieces, "crash", sort, words);
                long want = speed == null ? -1 : Math.max(0, Math.min(200, speed));
                Expect.due("must(1, " + sort + ", " + month + ") by \"" + text + "\"", x.must(1, sort, month), want);
            }
            boolean owed = SecondReader.told(pieces, "recall", 0, words(month, 0)) != null;
            Expect.due("owed(1, " + month + ") by \"" + text + "\"", x.owed(1, month), owed ? 1 : 0);
        }
        Map<String, Long> words = words(3, 2);
        words.put("dead", 4L);
        words.put("speed", 90L);
        words.put("sort", 2L);
        words.put("part", 77L);
        Long give = SecondReader.told(pieces, "give", 0, words);
        Long most = SecondReader.told(pieces, "most", 0, words);
        long want = give == null ? 0 : Math.max(0, give);
        Expect.due("jury(0) by \"" + text + "\"", x.jury(0), most == null ? want : Math.min(want, Math.max(0, most)));
        return true;
    }

    private static Map<String, Long> words(int month, int made) {
        Map<String, Long> words = new TreeMap<>();
        SecondReader.VALUES.forEach(word -> words.put(word, 0L));
        words.put("month", (long) month);
        words.put("made", (long) made);
        words.put("kind", 1L);
        words.put("firm", 2L);
        words.put("cars", 2L);
        words.put("fires", 1L);
        words.put("deaths", 4L);
        return words;
    }
}
