import java.io.IOException;
import java.nio.file.Path;

/** Every sentence of the document's terms and promises, with the boundary cases that it names. */
public final class SentencesTest {
    private SentencesTest() {
    }

    public static void main(String[] args) throws IOException {
        DeviceSentences.all();
        NumberSentences.all();
        AttachSentences.all();
        SpaceSentences.all();
        TextSentences.all();
        HistorySentences.all();
        Sentences.finish(Path.of("../shared/DOC.md"));
    }
}
