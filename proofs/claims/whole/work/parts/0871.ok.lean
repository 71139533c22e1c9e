/-! each row of the tables agrees with the bytecode and the words, by the kernel -/
set_option maxRecDepth 100000 in
theorem rb_k0 : rb_c0.all (fun q => rb_chk 0 q.1 q.2) = true := by decide +kernel
set_option maxRecDepth 100000 in
theorem rb_k1 : rb_c1.all (fun q => rb_chk 1 q.1 q.2) = true := by decide +kernel
set_option maxRecDepth 100000 in
theorem rb_k2 : rb_c2.all (fun q => rb_chk 2 q.1 q.2) = true := by decide +kernel
set_option maxRecDepth 100000 in
theorem rb_k3 : rb_c3.all (fun q => rb_chk 3 q.1 q.2) = true := by decide +kernel
set_option maxRecDepth 100000 in
theorem rb_k4 : rb_c4.all (fun q => rb_chk 4 q.1 q.2) = true := by decide +kernel
set_option maxRecDepth 100000 in
theorem rb_k5 : rb_c5.all (fun q => rb_chk 5 q.1 q.2) = true := by decide +kernel
set_option maxRecDepth 100000 in
theorem rb_k6 : rb_c6.all (fun q => rb_chk 6 q.1 q.2) = true := by decide +kernel
set_option maxRecDepth 100000 in
theorem rb_k7 : rb_c7.all (fun q => rb_chk 7 q.1 q.2) = true := by decide +kernel
set_option maxRecDepth 100000 in
theorem rb_k8 : rb_c8.all (fun q => rb_chk 8 q.1 q.2) = true := by decide +kernel
set_option maxRecDepth 100000 in
theorem rb_k9 : rb_c9.all (fun q => rb_chk 9 q.1 q.2) = true := by decide +kernel
set_option maxRecDepth 100000 in
theorem rb_k10 : rb_c10.all (fun q => rb_chk 10 q.1 q.2) = true := by decide +kernel
set_option maxRecDepth 100000 in
theorem rb_k11 : rb_c11.all (fun q => rb_chk 11 q.1 q.2) = true := by decide +kernel
set_option maxRecDepth 100000 in
theorem rb_k12 : rb_c12.all (fun q => rb_chk 12 q.1 q.2) = true := by decide +kernel
set_option maxRecDepth 100000 in
theorem rb_k13 : rb_c13.all (fun q => rb_chk 13 q.1 q.2) = true := by decide +kernel
set_option maxRecDepth 100000 in
theorem rb_k14 : rb_c14.all (fun q => rb_chk 14 q.1 q.2) = true := by decide +kernel
set_option maxRecDepth 100000 in
theorem rb_k15 : rb_c15.all (fun q => rb_chk 15 q.1 q.2) = true := by decide +kernel
set_option maxRecDepth 100000 in
theorem rb_k16 : rb_c16.all (fun q => rb_chk 16 q.1 q.2) = true := by decide +kernel
set_option maxRecDepth 100000 in
theorem rb_k17 : rb_c17.all (fun q => rb_chk 17 q.1 q.2) = true := by decide +kernel
set_option maxRecDepth 100000 in
theorem rb_k18 : rb_c18.all (fun q => rb_chk 18 q.1 q.2) = true := by decide +kernel
set_option maxRecDepth 100000 in
theorem rb_k19 : rb_c19.all (fun q => rb_chk 19 q.1 q.2) = true := by decide +kernel
set_option maxRecDepth 100000 in
theorem rb_k20 : rb_c20.all (fun q => rb_chk 20 q.1 q.2) = true := by decide +kernel
set_option maxRecDepth 100000 in
theorem rb_k21 : rb_c21.all (fun q => rb_chk 21 q.1 q.2) = true := by decide +kernel
set_option maxRecDepth 100000 in
theorem rb_k22 : rb_c22.all (fun q => rb_chk 22 q.1 q.2) = true := by decide +kernel
set_option maxRecDepth 100000 in
theorem rb_k23 : rb_c23.all (fun q => rb_chk 23 q.1 q.2) = true := by decide +kernel
set_option maxRecDepth 100000 in
theorem rb_k24 : rb_c24.all (fun q => rb_chk 24 q.1 q.2) = true := by decide +kernel
set_option maxRecDepth 100000 in
theorem rb_k25 : rb_c25.all (fun q => rb_chk 25 q.1 q.2) = true := by decide +kernel
set_option maxRecDepth 100000 in
theorem rb_k26 : rb_c26.all (fun q => rb_chk 26 q.1 q.2) = true := by decide +kernel
set_option maxRecDepth 100000 in
theorem rb_k27 : rb_c27.all (fun q => rb_chk 27 q.1 q.2) = true := by decide +kernel
set_option maxRecDepth 100000 in
theorem rb_k28 : rb_c28.all (fun q => rb_chk 28 q.1 q.2) = true := by decide +kernel
set_option maxRecDepth 100000 in
theorem rb_k29 : rb_c29.all (fun q => rb_chk 29 q.1 q.2) = true := by decide +kernel
set_option maxRecDepth 100000 in
theorem rb_k30 : rb_c30.all (fun q => rb_chk 30 q.1 q.2) = true := by decide +kernel
set_option maxRecDepth 100000 in
theorem rb_k31 : rb_c31.all (fun q => rb_chk 31 q.1 q.2) = true := by decide +kernel
set_option maxRecDepth 100000 in
theorem rb_k32 : rb_c32.all (fun q => rb_chk 32 q.1 q.2) = true := by decide +kernel
set_option maxRecDepth 100000 in
theorem rb_k33 : rb_c33.all (fun q => rb_chk 33 q.1 q.2) = true := by decide +kernel
set_option maxRecDepth 100000 in
theorem rb_k34 : rb_c34.all (fun q => rb_chk 34 q.1 q.2) = true := by decide +kernel
set_option maxRecDepth 100000 in
theorem rb_k35 : rb_c35.all (fun q => rb_chk 35 q.1 q.2) = true := by decide +kernel
set_option maxRecDepth 100000 in
theorem rb_k36 : rb_c36.all (fun q => rb_chk 36 q.1 q.2) = true := by decide +kernel
set_option maxRecDepth 100000 in
theorem rb_k37 : rb_c37.all (fun q => rb_chk 37 q.1 q.2) = true := by decide +kernel
set_option maxRecDepth 100000 in
theorem rb_k38 : rb_c38.all (fun q => rb_chk 38 q.1 q.2) = true := by decide +kernel
set_option maxRecDepth 100000 in
theorem rb_k39 : rb_c39.all (fun q => rb_chk 39 q.1 q.2) = true := by decide +kernel
set_option maxRecDepth 100000 in
theorem rb_k40 : rb_c40.all (fun q => rb_chk 40 q.1 q.2) = true := by decide +kernel
set_option maxRecDepth 100000 in
theorem rb_k41 : rb_c41.all (fun q => rb_chk 41 q.1 q.2) = true := by decide +kernel
set_option maxRecDepth 100000 in
theorem rb_k42 : rb_c42.all (fun q => rb_chk 42 q.1 q.2) = true := by decide +kernel
