import java.lang.annotation.ElementType;
import java.lang.annotation.Retention;
import java.lang.annotation.RetentionPolicy;
import java.lang.annotation.Target;

/** The sentence of the document that a test holds: one of its promise, or of the Terms that all promises share. */
@Retention(RetentionPolicy.RUNTIME)
@Target(ElementType.METHOD)
@interface Says {
    String FIRST = "If several exceptions apply, the exception listed first is thrown.";

    /** The number of the promise, 0 for a test that is of no single one. */
    int promise() default 0;

    /** The words of the document, to the letter; DocumentTest looks them up there. */
    String text();
}
