/-! the constructors, run by the kernel -/
def rb_hR0 : rb_H := (1, 55, va_up (fun _ => rb_blank) 0 (.inr (7, rb_df 7)))
def rb_hC0 : rb_H := (1, 4, va_up (fun _ => rb_blank) 0 (.inr (0, rb_df 0)))
set_option maxRecDepth 1000000 in
theorem rb_conR : (rb_fn true 1000 2 43 [.ref 0] rb_hR0).map (fun y => (y.1, y.2.1, y.2.2.1)) = some (none, 55, 1603) := by decide +kernel
set_option maxRecDepth 1000000 in
theorem rb_conC : (rb_fn true 3000 5 0 [.ref 0] rb_hC0).map (fun y => (y.1, y.2.1, y.2.2.1)) = some (none, 166, 1286) := by decide +kernel
