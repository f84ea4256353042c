import java.io.IOException;

/** All promises: a test of its own for each sentence of the document that names a boundary. */
public final class EdgesTest {

  public static void main(String[] args) throws IOException {
    EdgesOfDoors.hold();
    EdgesOfTurning.hold();
    EdgesOfDamp.hold();
    EdgesOfOvens.hold();
    EdgesOfRecord.hold();
    EdgesOfOutput.hold();
    EdgesOfScripts.hold();
    EdgesOfChanges.hold();
    Sentences.compare();
    Check.finish();
  }
}
