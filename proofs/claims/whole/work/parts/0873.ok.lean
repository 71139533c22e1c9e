/-! each row of the tables agrees with the bytecode and the words, by the kernel -/
set_option maxRecDepth 100000 in
theorem rb_k66 : rb_c66.all (fun q => rb_chk 66 q.1 q.2) = true := by decide +kernel
set_option maxRecDepth 100000 in
theorem rb_k67 : rb_c67.all (fun q => rb_chk 67 q.1 q.2) = true := by decide +kernel
set_option maxRecDepth 100000 in
theorem rb_k68 : rb_c68.all (fun q => rb_chk 68 q.1 q.2) = true := by decide +kernel
set_option maxRecDepth 100000 in
theorem rb_k69 : rb_c69.all (fun q => rb_chk 69 q.1 q.2) = true := by decide +kernel
set_option maxRecDepth 100000 in
theorem rb_k70 : rb_c70.all (fun q => rb_chk 70 q.1 q.2) = true := by decide +kernel
set_option maxRecDepth 100000 in
theorem rb_k71 : rb_c71.all (fun q => rb_chk 71 q.1 q.2) = true := by decide +kernel
set_option maxRecDepth 100000 in
theorem rb_k72 : rb_c72.all (fun q => rb_chk 72 q.1 q.2) = true := by decide +kernel
set_option maxRecDepth 100000 in
theorem rb_k73 : rb_c73.all (fun q => rb_chk 73 q.1 q.2) = true := by decide +kernel
set_option maxRecDepth 100000 in
theorem rb_k74 : rb_c74.all (fun q => rb_chk 74 q.1 q.2) = true := by decide +kernel
set_option maxRecDepth 100000 in
theorem rb_k75 : rb_c75.all (fun q => rb_chk 75 q.1 q.2) = true := by decide +kernel
set_option maxRecDepth 100000 in
theorem rb_k76 : rb_c76.all (fun q => rb_chk 76 q.1 q.2) = true := by decide +kernel
set_option maxRecDepth 100000 in
theorem rb_k77 : rb_c77.all (fun q => rb_chk 77 q.1 q.2) = true := by decide +kernel
set_option maxRecDepth 100000 in
theorem rb_k78 : rb_c78.all (fun q => rb_chk 78 q.1 q.2) = true := by decide +kernel
set_option maxRecDepth 100000 in
theorem rb_k79 : rb_c79.all (fun q => rb_chk 79 q.1 q.2) = true := by decide +kernel
set_option maxRecDepth 100000 in
theorem rb_k80 : rb_c80.all (fun q => rb_chk 80 q.1 q.2) = true := by decide +kernel
set_option maxRecDepth 100000 in
theorem rb_k81 : rb_c81.all (fun q => rb_chk 81 q.1 q.2) = true := by decide +kernel
set_option maxRecDepth 100000 in
theorem rb_k82 : rb_c82.all (fun q => rb_chk 82 q.1 q.2) = true := by decide +kernel
set_option maxRecDepth 100000 in
theorem rb_k83 : rb_c83.all (fun q => rb_chk 83 q.1 q.2) = true := by decide +kernel
set_option maxRecDepth 100000 in
theorem rb_k84 : rb_c84.all (fun q => rb_chk 84 q.1 q.2) = true := by decide +kernel
set_option maxRecDepth 100000 in
theorem rb_k85 : rb_c85.all (fun q => rb_chk 85 q.1 q.2) = true := by decide +kernel
set_option maxRecDepth 100000 in
theorem rb_k86 : rb_c86.all (fun q => rb_chk 86 q.1 q.2) = true := by decide +kernel
set_option maxRecDepth 100000 in
theorem rb_k87 : rb_c87.all (fun q => rb_chk 87 q.1 q.2) = true := by decide +kernel
