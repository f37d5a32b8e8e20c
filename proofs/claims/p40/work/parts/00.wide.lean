-- PART 00: a name of the whole library, first of all: so a light round on a new machine reads the whole library from its first part on, and not only from part 09 on (that would compile all parts twice)
theorem wide_0 (v : Int32) : Jvm.FP.Core.fIsNaN (Jvm.FP.Core.i2f v) = false := (Jvm.FP.Core.i2f_fin v).notNaN
