/** The public face of the class, line for line as the document has it. */
final class Face {
    static final String CLASS = "public final class BoardCore {";
    static final String[] MEMBERS = {
        "public BoardCore();",
        "public void reset();",
        "public int register(int k) throws IndexOutOfBoundsException;",
        "public void put(int k, int v) throws IndexOutOfBoundsException;",
        "public void write(int address, int v, int n) throws IllegalArgumentException;",
        "public int read(int address, int n) throws IllegalArgumentException;",
        "public void want(int level) throws IllegalArgumentException;",
        "public int step(int n) throws IllegalArgumentException;",
        "public int state();",
        "public int exceptions(int n) throws IllegalArgumentException;",
        "public int sum();",
    };

    private Face() {
    }

    /** The members without the names of their parameters, which the compiled class does not keep. */
    static String[] membersByTypes() {
        String[] members = new String[MEMBERS.length];
        for (int i = 0; i < members.length; i++) {
            members[i] = MEMBERS[i].replaceAll("(\\w+) \\w+(?=[,)])", "$1");
        }
        return members;
    }
}
