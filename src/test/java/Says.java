import java.lang.annotation.ElementType;
import java.lang.annotation.Retention;
import java.lang.annotation.RetentionPolicy;
import java.lang.annotation.Target;

/** The words of the document that a test holds the class to. DocTests looks whether they stand there, and whether any are left. */
@Retention(RetentionPolicy.RUNTIME)
@Target(ElementType.METHOD)
@interface Says {
    /** The number of the promise in which the words stand; 0: in the Terms. */
    int promise() default 0;

    String[] value();
}
