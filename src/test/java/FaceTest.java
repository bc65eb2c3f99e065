/** The calls of the face: what they answer, what they throw, and what stays as it is then. */
public final class FaceTest {
    public static void main(String[] args) {
        Session.runs("echo hi", "hi\n?0");
        Session.end();
    }
}
