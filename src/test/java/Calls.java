/** The calls of the face by their names, so that runs can be drawn and held against Oracle. */
final class Calls {
    /** A name and how each argument is drawn (see RandomRunsTest). */
    static final String[] FACE = {
        "frame:kr", "both:ff", "rod:fin", "push:fiwb", "beads:fiw", "digit:fi", "shows:f", "set:fv",
        "proper:f", "size:f5", "meant:f5", "asks:f4", "trace:", "copy:fifim", "copied:", "digest:f",
        "ofFloat:fF", "ofDouble:fD", "restFloat:FF", "restDouble:DD", "add:fv", "less:fv", "times:fv",
        "divide:ffv", "root:ff", "cube:ff", "turn:ff", "part:ij", "tally:i5", "steps:", "step:s7",
        "stuck:3", "undo:", "pupil:fi33", "begin:", "slip:", "lapse:", "fix:", "exercise:3S",
        "place:ep", "fillings:e", "answer:ep", "told:7", "fault:",
    };

    private Calls() {
    }

    static long of(BeadSchool x, String name, long[] a) {
        switch (name) {
            case "frame": return x.frame((int) a[0], (int) a[1]);
            case "both": return x.both((int) a[0], (int) a[1]);
            case "rod": return x.rod((int) a[0], (int) a[1], (int) a[2]);
            case "push": return x.push((int) a[0], (int) a[1], (int) a[2], (int) a[3]);
            case "beads": return x.beads((int) a[0], (int) a[1], (int) a[2]);
            case "digit": return x.digit((int) a[0], (int) a[1]);
            case "shows": return x.shows((int) a[0]);
            case "set": return x.set((int) a[0], a[1]);
            case "proper": return x.proper((int) a[0]);
            case "size": return x.size((int) a[0], (int) a[1]);
            case "meant": return x.meant((int) a[0], (int) a[1]);
            case "asks": return x.asks((int) a[0], (int) a[1]);
            case "trace": return x.trace();
            case "copy": return x.copy((int) a[0], (int) a[1], (int) a[2], (int) a[3], (int) a[4]);
            case "copied": return x.copied();
            case "digest": return x.digest((int) a[0]);
            case "ofFloat": return x.ofFloat((int) a[0], (int) a[1]);
            case "ofDouble": return x.ofDouble((int) a[0], a[1]);
            case "restFloat": return x.restFloat((int) a[0], (int) a[1]);
            case "restDouble": return x.restDouble(a[0], a[1]);
            case "add": return x.add((int) a[0], a[1]);
            case "less": return x.less((int) a[0], a[1]);
            case "times": return x.times((int) a[0], a[1]);
            case "divide": return x.divide((int) a[0], (int) a[1], a[2]);
            case "root": return x.root((int) a[0], (int) a[1]);
            case "cube": return x.cube((int) a[0], (int) a[1]);
            case "turn": return x.turn((int) a[0], (int) a[1]);
            case "part": return x.part((int) a[0], (int) a[1]);
            case "tally": return x.tally((int) a[0], (int) a[1]);
            case "steps": return x.steps();
            case "step": return x.step((int) a[0], (int) a[1]);
            case "stuck": return x.stuck((int) a[0]);
            case "undo": return x.undo();
            case "pupil": return x.pupil((int) a[0], (int) a[1], (int) a[2], (int) a[3]);
            case "begin": return x.begin();
            case "slip": return x.slip();
            case "lapse": return x.lapse();
            case "fix": return x.fix();
            case "exercise": return x.exercise((int) a[0], (int) a[1]);
            case "place": return x.place((int) a[0], (int) a[1]);
            case "fillings": return x.fillings((int) a[0]);
            case "answer": return x.answer((int) a[0], (int) a[1]);
            case "told": return x.told((int) a[0]);
            case "fault": return x.fault();
            default: throw new IllegalArgumentException(name);
        }
    }
}
