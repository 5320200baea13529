/** The whole document, each sentence of its Terms and promises with a test of its own. */
public final class DocTest {
    public static void main(String[] args) throws java.io.IOException {
        Doc.read();
        TermsOne.run();
        TermsTwo.run();
        TermsThree.run();
        TermsFour.run();
        Promises.run();
        Doc.untold();
        Check.end("DocTest");
    }
}
