import java.lang.annotation.ElementType;
import java.lang.annotation.Retention;
import java.lang.annotation.RetentionPolicy;
import java.lang.annotation.Target;

/** Which promise a test holds the class to, and the words of the document that it asks for. */
@Retention(RetentionPolicy.RUNTIME)
@Target(ElementType.METHOD)
@interface Says {
    int promise();

    /** From the promise's own section. */
    String[] words() default {};

    /** From the document's 'Terms'. */
    String[] terms() default {};
}
