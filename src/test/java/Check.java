import java.util.Set;
import java.util.concurrent.Callable;
import java.util.function.Function;
import java.util.function.Supplier;

/** What the tests share: they call same(), answers(), asks() and refuses(), and end with end(). */
final class Check {
    private static final Set<String> WRITTEN = Set.of("IllegalArgumentException", "IllegalStateException",
            "IndexOutOfBoundsException", "UnsupportedOperationException", "NoSuchElementException",
            "ArithmeticException");
    private static int asked = 0;
    private static int wrong = 0;

    private Check() {
    }

    /** The answer has to be the due one, of the same type too. */
    static void same(String what, Object got, Object due) {
        asked++;
        if (!due.equals(got)) {
            wrong(what + " answered " + got + ", due is " + due);
        }
    }

    /** The call, which may change the office, has to give the due answer. */
    static void answers(Supplier<Nominator> recipe, String what, Object due, Function<Nominator, Object> call) {
        Nominator office = recipe.get();
        same(what, outcomeOf(() -> call.apply(office)), due);
    }

    /** The call has to throw exactly the due exception, and the office has to stay as one that was not called. */
    static void refuses(Supplier<Nominator> recipe, String what, Class<? extends RuntimeException> due,
            Function<Nominator, Object> call) {
        leavesAlone(recipe, what, due.getSimpleName(), call);
    }

    /** The question has to give the due answer, and the office has to stay as one that was not asked. */
    static void asks(Supplier<Nominator> recipe, String what, Object due, Function<Nominator, Object> call) {
        leavesAlone(recipe, what, due, call);
    }

    private static void leavesAlone(Supplier<Nominator> recipe, String what, Object due,
            Function<Nominator, Object> call) {
        answers(recipe, what, due, call);
        Supplier<Nominator> called = () -> {
            Nominator office = recipe.get();
            outcomeOf(() -> call.apply(office));
            return office;
        };
        if (!Questions.answersOf(called).equals(Questions.answersOf(recipe))) {
            wrong(what + " changed something");
        } else if (!Sequels.ofThisDay(called.get()).equals(Sequels.ofThisDay(recipe.get()))) {
            wrong(what + " changed something that is seen in a later event");
        } else if (!Sequels.ofManyDays(called.get()).equals(Sequels.ofManyDays(recipe.get()))) {
            wrong(what + " changed something that is seen on a later day");
        }
    }

    /** The answer of a call, or the name of the exception that it throws; one that the machine throws is wrong. */
    static Object outcomeOf(Callable<?> call) {
        try {
            return call.call();
        } catch (Exception e) {
            String name = e.getClass().getSimpleName();
            if (e.getMessage() == null || e.getMessage().contains("by zero") || !WRITTEN.contains(name)) {
                wrong("the machine throws " + e);
            }
            return name;
        }
    }

    static void wrong(String text) {
        wrong++;
        System.out.println(text);
    }

    static void end() {
        System.out.println(asked + " checks, " + wrong + " wrong");
        if (wrong != 0) {
            System.exit(1);
        }
    }
}
