import java.lang.annotation.ElementType;
import java.lang.annotation.Retention;
import java.lang.annotation.RetentionPolicy;
import java.lang.annotation.Target;

/** The words of the document that name a boundary; the method below them shows that they hold. */
@Retention(RetentionPolicy.RUNTIME)
@Target(ElementType.METHOD)
@interface Says {
    /** The section: What it is, Terms, ==== 2. to ==== 9., Promise 1 to Promise 42. */
    String at();

    String words();
}
