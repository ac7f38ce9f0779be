import java.io.IOException;
import java.nio.charset.StandardCharsets;
import java.nio.file.Files;
import java.nio.file.Path;

/** Each sentence of the document that names an edge: at the edge and one step to each side of it. */
public final class EdgeTest {
  private EdgeTest() { }

  public static void main(String[] args) throws IOException {
    Check check = new Check("EdgeTest");
    Sentences doc = new Sentences(check, Files.readString(Path.of(args[1]), StandardCharsets.UTF_8));
    VerseEdges.test(doc);
    SceneEdges.test(doc);
    SingerEdges.test(doc);
    RecordingEdges.test(doc);
    doc.allTermsAreTold();
    doc.allPromisesAreTold();
    System.out.println("EdgeTest: " + doc.many() + " sentences");
    check.end();
  }
}
