/-! each row of the tables agrees with the bytecode and the words, by the kernel -/
set_option maxRecDepth 100000 in
theorem rb_k43 : rb_c43.all (fun q => rb_chk 43 q.1 q.2) = true := by decide +kernel
set_option maxRecDepth 100000 in
theorem rb_k44 : rb_c44.all (fun q => rb_chk 44 q.1 q.2) = true := by decide +kernel
set_option maxRecDepth 100000 in
theorem rb_k45 : rb_c45.all (fun q => rb_chk 45 q.1 q.2) = true := by decide +kernel
set_option maxRecDepth 100000 in
theorem rb_k46 : rb_c46.all (fun q => rb_chk 46 q.1 q.2) = true := by decide +kernel
set_option maxRecDepth 100000 in
theorem rb_k47 : rb_c47.all (fun q => rb_chk 47 q.1 q.2) = true := by decide +kernel
set_option maxRecDepth 100000 in
theorem rb_k48 : rb_c48.all (fun q => rb_chk 48 q.1 q.2) = true := by decide +kernel
set_option maxRecDepth 100000 in
theorem rb_k49 : rb_c49.all (fun q => rb_chk 49 q.1 q.2) = true := by decide +kernel
set_option maxRecDepth 100000 in
theorem rb_k50 : rb_c50.all (fun q => rb_chk 50 q.1 q.2) = true := by decide +kernel
set_option maxRecDepth 100000 in
theorem rb_k51 : rb_c51.all (fun q => rb_chk 51 q.1 q.2) = true := by decide +kernel
set_option maxRecDepth 100000 in
theorem rb_k52 : rb_c52.all (fun q => rb_chk 52 q.1 q.2) = true := by decide +kernel
set_option maxRecDepth 100000 in
theorem rb_k53 : rb_c53.all (fun q => rb_chk 53 q.1 q.2) = true := by decide +kernel
set_option maxRecDepth 100000 in
theorem rb_k54 : rb_c54.all (fun q => rb_chk 54 q.1 q.2) = true := by decide +kernel
set_option maxRecDepth 100000 in
theorem rb_k55 : rb_c55.all (fun q => rb_chk 55 q.1 q.2) = true := by decide +kernel
set_option maxRecDepth 100000 in
theorem rb_k56 : rb_c56.all (fun q => rb_chk 56 q.1 q.2) = true := by decide +kernel
set_option maxRecDepth 100000 in
theorem rb_k57 : rb_c57.all (fun q => rb_chk 57 q.1 q.2) = true := by decide +kernel
set_option maxRecDepth 100000 in
theorem rb_k58 : rb_c58.all (fun q => rb_chk 58 q.1 q.2) = true := by decide +kernel
set_option maxRecDepth 100000 in
theorem rb_k59 : rb_c59.all (fun q => rb_chk 59 q.1 q.2) = true := by decide +kernel
set_option maxRecDepth 100000 in
theorem rb_k60 : rb_c60.all (fun q => rb_chk 60 q.1 q.2) = true := by decide +kernel
set_option maxRecDepth 100000 in
theorem rb_k61 : rb_c61.all (fun q => rb_chk 61 q.1 q.2) = true := by decide +kernel
set_option maxRecDepth 100000 in
theorem rb_k62 : rb_c62.all (fun q => rb_chk 62 q.1 q.2) = true := by decide +kernel
set_option maxRecDepth 100000 in
theorem rb_k63 : rb_c63.all (fun q => rb_chk 63 q.1 q.2) = true := by decide +kernel
set_option maxRecDepth 100000 in
theorem rb_k64 : rb_c64.all (fun q => rb_chk 64 q.1 q.2) = true := by decide +kernel
set_option maxRecDepth 100000 in
theorem rb_k65 : rb_c65.all (fun q => rb_chk 65 q.1 q.2) = true := by decide +kernel
