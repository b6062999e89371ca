import java.lang.annotation.ElementType;
import java.lang.annotation.Repeatable;
import java.lang.annotation.Retention;
import java.lang.annotation.RetentionPolicy;
import java.lang.annotation.Target;

/** The sentence of the document that a test tries, and the promises through whose calls it shows. */
@Retention(RetentionPolicy.RUNTIME)
@Target(ElementType.METHOD)
@Repeatable(Says.Several.class)
@interface Says {
    int[] promise();

    /** Where it stands, if not under the heading of each of these promises: a name of Doc's parts. */
    String part() default "";

    /** As the document has it, word for word; the whole sentence or what of it is tried. */
    String text();

    /** What Java wants where a test bears more than one. */
    @Retention(RetentionPolicy.RUNTIME)
    @Target(ElementType.METHOD)
    @interface Several {
        Says[] value();
    }
}
