/-! A row that names the whole library first, so that no round over a new machine reads the names twice. -/
theorem zz_wide (v : Int32) : FP.Core.DFin (FP.i2d v) := FP.Core.i2d_fin v
