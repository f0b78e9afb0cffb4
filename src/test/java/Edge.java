import java.lang.annotation.ElementType;
import java.lang.annotation.Retention;
import java.lang.annotation.RetentionPolicy;
import java.lang.annotation.Target;

/** A test of its own for one thing that the document says. */
@Retention(RetentionPolicy.RUNTIME)
@Target(ElementType.METHOD)
@interface Edge {
    /** The promise (1 .. 34) that is broken if this test fails. */
    int promise();

    /** The document's words, to the letter: of that promise, or of the Terms that it names. */
    String[] says();
}
