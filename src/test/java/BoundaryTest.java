import java.lang.reflect.InvocationTargetException;
import java.lang.reflect.Method;
import java.util.ArrayList;
import java.util.Arrays;
import java.util.Comparator;
import java.util.List;
import java.util.Map;

/** One case for each sentence of the document that names a boundary, and none of these is left without one. */
public final class BoundaryTest {
    private static final Class<?>[] CASES = {ToldCases.class, RiverCases.class, LawCases.class, WriterCases.class};
    private static final Due due = new Due("BoundaryTest");

    public static void main(String[] args) throws Exception {
        Document document = Document.read();
        List<Says> said = new ArrayList<>();
        for (Class<?> cases : CASES) {
            for (Method method : sorted(cases)) {
                Says says = method.getAnnotation(Says.class);
                if (says != null) {
                    said.add(says);
                    due.under(says.at() + " '" + says.words() + "' " + method.getName());
                    due.is("the document says so", document.says(says.at(), says.words()), true);
                    run(method);
                }
            }
        }
        due.under("cases");
        for (Map.Entry<String, List<String>> section : document.boundaries().entrySet()) {
            lookForCases(section.getKey(), section.getValue(), said);
        }
        System.out.println("BoundaryTest: " + said.size() + " cases");
        due.close();
    }

    private static Method[] sorted(Class<?> cases) {
        Method[] methods = cases.getDeclaredMethods();
        Arrays.sort(methods, Comparator.comparing(Method::getName));
        return methods;
    }

    private static void run(Method method) throws IllegalAccessException {
        int before = due.asked();
        try {
            method.invoke(null, due);
        } catch (InvocationTargetException e) {
            due.tell("threw " + e.getCause());
        }
        due.is("it asks something", due.asked() > before, true);
    }

    private static void lookForCases(String section, List<String> boundaries, List<Says> said) {
        boolean isSectionThere = said.stream().anyMatch(says -> says.at().equals(section));
        due.is("one for " + section, isSectionThere, true);
        for (String boundary : boundaries) {
            boolean isThere = said.stream()
                .anyMatch(says -> says.at().equals(section) && says.words().contains(boundary));
            due.is("one for '" + boundary + "' of " + section, isThere, true);
        }
    }
}
