import java.util.List;
import java.util.function.Consumer;
import java.util.function.Predicate;
import java.util.function.ToIntFunction;

/** That a call is refused, and that an object which refused it shows later what one shows that was never asked. */
final class Refused {
    private Refused() {
    }

    static void none(String name, Consumer<MailArbiter> given, ToIntFunction<MailArbiter> call) {
        refused(name, given, call, -1);
    }

    static void full(String name, Consumer<MailArbiter> given, ToIntFunction<MailArbiter> call) {
        refused(name, given, call, -2);
    }

    static void not(String name, Consumer<MailArbiter> given, Predicate<MailArbiter> call) {
        refused(name, given, x -> call.test(x) ? 1 : 0, 0);
    }

    /** NONE whether there is nothing yet, something, or no room for more. */
    static void noneEver(String name, ToIntFunction<MailArbiter> call) {
        none(name + ", new", Given::nothing, call);
        none(name + ", with some of all", Given::someOfAll, call);
        none(name + ", full", Given::fullOfAll, call);
    }

    /** False whether there is nothing yet, something, or no room for more. */
    static void notEver(String name, Predicate<MailArbiter> call) {
        not(name + ", new", Given::nothing, call);
        not(name + ", with some of all", Given::someOfAll, call);
        not(name + ", full", Given::fullOfAll, call);
    }

    private static void refused(String name, Consumer<MailArbiter> given, ToIntFunction<MailArbiter> call, int due) {
        for (Shown.Run run : Shown.RUNS) {
            MailArbiter asked = new MailArbiter();
            given.accept(asked);
            Due.is(name, call.applyAsInt(asked), due);
            MailArbiter notAsked = new MailArbiter();
            given.accept(notAsked);
            compare(name, Shown.by(run, asked), Shown.by(run, notAsked));
        }
    }

    private static void compare(String name, List<Integer> got, List<Integer> want) {
        Due.is(name + ": answers shown later", got.size(), want.size());
        for (int i = 0; i < want.size() && i < got.size(); i++) {
            Due.is(name + ": answer " + i + " shown later", got.get(i), want.get(i));
        }
    }
}
