import java.lang.reflect.Method;
import java.util.List;
import java.util.Map;
import java.util.TreeMap;
import java.util.regex.Matcher;
import java.util.regex.Pattern;

/** Each promise of the document has tests that bear its number, and each test bears a promise's number. */
public final class PromisesTest {
    private static final int PROMISES = 44;
    private static final List<Class<?>> TESTS = List.of(TermsTest.class, RowsTextsTest.class, TablesTest.class,
        DeedsTest.class, LacksTest.class, AllTest.class, WhoTest.class, ChancesTest.class, ToldTest.class);

    public static void main(String[] args) {
        Map<Integer, Integer> tests = new TreeMap<>();
        for (int n = 1; n <= PROMISES; n++) {
            tests.put(n, 0);
        }
        int wrong = 0;
        for (Class<?> c : TESTS) {
            for (Method m : Tests.of(c)) {
                Matcher name = Pattern.compile("promise(\\d\\d)_.+").matcher(m.getName());
                if (name.matches() && tests.containsKey(Integer.parseInt(name.group(1)))) {
                    tests.merge(Integer.parseInt(name.group(1)), 1, Integer::sum);
                } else if (c != TermsTest.class || !m.getName().startsWith("terms_")) {
                    wrong++;
                    System.out.println(m.getName() + " is of no promise");
                }
            }
        }
        for (Map.Entry<Integer, Integer> e : tests.entrySet()) {
            if (e.getValue() == 0) {
                wrong++;
                System.out.println("promise " + e.getKey() + " has no test");
            }
        }
        System.out.println("PromisesTest: " + tests.size() + " promises, " + wrong + " wrong");
        if (wrong != 0) {
            System.exit(1);
        }
    }
}
