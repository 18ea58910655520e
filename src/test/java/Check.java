import java.util.concurrent.Callable;
import java.util.function.Function;
import java.util.function.Supplier;

/** What the tests share: they call same(), asks() and refuses(), and end with end(). */
final class Check {
    private static int asked = 0;
    private static int wrong = 0;

    private Check() {
    }

    /** The answer has to be the due one, of the same type too. */
    static void same(String what, Object got, Object due) {
        asked++;
        if (!due.equals(got)) {
            wrong(what + " answered " + got + ", due is " + due);
        }
    }

    /** The call has to throw exactly the due exception, and the office has to stay as one that was not called. */
    static void refuses(Supplier<Nominator> recipe, String what, Class<? extends RuntimeException> due,
            Function<Nominator, Object> call) {
        leavesAlone(recipe, what, due.getSimpleName(), call);
    }

    /** The question has to give the due answer, and the office has to stay as one that was not asked. */
    static void asks(Supplier<Nominator> recipe, String what, Object due, Function<Nominator, Object> call) {
        leavesAlone(recipe, what, due, call);
    }

    private static void leavesAlone(Supplier<Nominator> recipe, String what, Object due,
            Function<Nominator, Object> call) {
        Nominator called = recipe.get();
        same(what, outcomeOf(() -> call.apply(called)), due);
        if (!Questions.answersOf(called).equals(Questions.answersOf(recipe.get()))) {
            wrong(what + " changed something");
        }
    }

    /** The answer of a call, or the name of the exception that it throws; one that the machine throws is told apart. */
    static Object outcomeOf(Callable<?> call) {
        try {
            return call.call();
        } catch (Exception e) {
            boolean written = e.getMessage() != null && !e.getMessage().contains("by zero");
            return written ? e.getClass().getSimpleName() : "the machine's " + e;
        }
    }

    static void wrong(String text) {
        wrong++;
        System.out.println(text);
    }

    static void end() {
        System.out.println(asked + " checks, " + wrong + " wrong");
        if (wrong != 0) {
            System.exit(1);
        }
    }
}
