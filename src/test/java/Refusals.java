import java.util.ArrayList;
import java.util.List;

/** One call with arguments as they should be, and for each argument values with the refusal that is due. */
final class Refusals {
  record Wrong(long value, int refusal) { }

  /** A call that is refused, and by what. */
  record Refused(int due, long[] args) { }

  final String call;
  private final long[] good;
  private final List<List<Wrong>> wrong = new ArrayList<>();
  // What the good arguments are answered by: a refusal, if the object's state asks for one; 0 else.
  private int anyway = 0;

  Refusals(String call, long... good) {
    this.call = call;
    this.good = good;
    for (int k = 0; k < good.length; k++) wrong.add(new ArrayList<>());
  }

  Refusals none(int argument, long... values) {
    return add(argument, Run.NONE, values);
  }

  Refusals bad(int argument, long... values) {
    return add(argument, Run.BAD, values);
  }

  Refusals state(int argument, long... values) {
    return add(argument, Run.STATE, values);
  }

  /** With all arguments as they should be it is refused by this, too. */
  Refusals anyway(int refusal) {
    anyway = refusal;
    return this;
  }

  private Refusals add(int argument, int refusal, long... values) {
    for (long value : values) wrong.get(argument).add(new Wrong(value, refusal));
    return this;
  }

  /** All mixtures of good and wrong arguments that are refused; the first refusal told has the greatest number. */
  List<Refused> all() {
    List<Refused> all = new ArrayList<>();
    mix(0, good.clone(), anyway, all);
    return all;
  }

  private void mix(int argument, long[] args, int due, List<Refused> all) {
    if (argument == good.length) {
      if (due != 0) all.add(new Refused(due, args.clone()));
      return;
    }
    args[argument] = good[argument];
    mix(argument + 1, args, due, all);
    for (Wrong w : wrong.get(argument)) {
      args[argument] = w.value();
      mix(argument + 1, args, due == 0 ? w.refusal() : Math.max(due, w.refusal()), all);
    }
    args[argument] = good[argument];
  }
}
