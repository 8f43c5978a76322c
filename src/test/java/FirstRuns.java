/** Placeholder of the first landing: a new object has no code. */
public final class FirstRuns {
    public static void main(String[] args) {
        CodeLifter lifter = new CodeLifter();
        if (lifter.count(0) != CodeLifter.HIDDEN || lifter.code() != CodeLifter.NONE) {
            System.out.println("a new object has code");
            System.exit(1);
        }
    }
}
