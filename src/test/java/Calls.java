/** A call of the class by its name, for tests that choose their calls as they go. */
final class Calls {
    private Calls() {
    }

    static long call(CommonBond x, String name, int[] a) {
        switch (name) {
            case "member": return x.member(a[0], a[1]);
            case "died": return x.died(a[0], a[1]);
            case "save": return x.save(a[0], a[1]);
            case "draw": return x.draw(a[0], a[1]);
            case "found": return x.found(a[0], a[1], a[2]);
            case "saved": return x.saved(a[0], a[1], a[2]);
            case "look": return x.look(a[0], a[1]);
            case "ask": return x.ask(a[0], a[1], a[2]);
            case "back": return x.back(a[0], a[1], a[2]);
            case "askOf": return x.askOf(a[0], a[1]);
            case "answer": return x.answer(a[0]);
            case "pay": return x.pay(a[0], a[1]);
            case "loanOf": return x.loanOf(a[0], a[1]);
            case "dues": return x.dues(a[0], a[1]);
            case "taken": return x.taken(a[0], a[1]);
            case "alike": return x.alike(a[0], a[1]);
            case "feed": return x.feed(a[0], a[1]);
            case "wipe": return x.wipe();
            case "rule": return x.rule(a[0], a[1]);
            case "says": return x.says(a[0], a[1]);
            case "why": return x.why(a[0], a[1]);
            case "run": return x.run(a[0]);
            case "cost": return x.cost(a[0]);
            case "year": return x.year(a[0], a[1]);
            case "got": return x.got(a[0], a[1], a[2]);
            case "voided": return x.voided();
            default: return more(x, name, a);
        }
    }

    private static long more(CommonBond x, String name, int[] a) {
        switch (name) {
            case "runs": return x.runs(a[0], a[1], a[2]);
            case "calm": return x.calm(a[0]);
            case "best": return x.best(a[0]);
            case "judge": return x.judge();
            case "fall": return x.fall(a[0], a[1]);
            case "duty": return x.duty(a[0]);
            case "counted": return x.counted(a[0]);
            case "suspects": return x.suspects();
            case "book": return x.book(a[0], a[1], a[2]);
            case "wrong": return x.wrong();
            case "count": return x.count(a[0]);
            case "image": return x.image();
            case "undo": return x.undo();
            case "lay": return x.lay(a[0]);
            case "set": return x.set(a[0], a[1]);
            case "tear": return x.tear();
            case "row": return x.row(a[0]);
            case "copy": return x.copy(a[0], a[1], a[2]);
            case "status": return x.status(a[0]);
            default: throw new IllegalArgumentException(name);
        }
    }
}
