import java.lang.annotation.ElementType;
import java.lang.annotation.Retention;
import java.lang.annotation.RetentionPolicy;
import java.lang.annotation.Target;

/** Marks one named test for one boundary case: which promise it is of, and the document's words for it. */
@Retention(RetentionPolicy.RUNTIME)
@Target(ElementType.METHOD)
@interface Says {
    int promise();

    /** As they stand in the Terms of ../shared/DOC.md or in that promise. */
    String words();
}
