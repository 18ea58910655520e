/-! a quotient of two ints is a number, the divisor not nought -/
theorem fp_d (x y : Int32) (h : ¬ y = 0) : vf_n64 (FP.ddiv (FP.i2d x) (FP.i2d y)) := Jvm.Free.Fl.ddiv_out (Jvm.Free.Fl.Fin64.noNaN (Jvm.Free.Fl.i2d_fin x)) (Jvm.Free.Fl.i2d_fin y) (Jvm.Free.Fl.i2d_nz h)
theorem fp_f (x y : Int32) (h : ¬ y = 0) : vf_n32 (FP.fdiv (FP.i2f x) (FP.i2f y)) := Jvm.Free.Fl.fdiv_out (Jvm.Free.Fl.Fin32.noNaN (Jvm.Free.Fl.i2f_fin x)) (Jvm.Free.Fl.i2f_fin y) (Jvm.Free.Fl.i2f_nz h)
