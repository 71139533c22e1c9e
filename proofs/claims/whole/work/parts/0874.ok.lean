/-! each row of the tables agrees with the bytecode and the words, by the kernel -/
set_option maxRecDepth 100000 in
theorem rb_k88 : rb_c88.all (fun q => rb_chk 88 q.1 q.2) = true := by decide +kernel
set_option maxRecDepth 100000 in
theorem rb_k89 : rb_c89.all (fun q => rb_chk 89 q.1 q.2) = true := by decide +kernel
set_option maxRecDepth 100000 in
theorem rb_k90 : rb_c90.all (fun q => rb_chk 90 q.1 q.2) = true := by decide +kernel
set_option maxRecDepth 100000 in
theorem rb_k91 : rb_c91.all (fun q => rb_chk 91 q.1 q.2) = true := by decide +kernel
set_option maxRecDepth 100000 in
theorem rb_k92 : rb_c92.all (fun q => rb_chk 92 q.1 q.2) = true := by decide +kernel
set_option maxRecDepth 100000 in
theorem rb_k93 : rb_c93.all (fun q => rb_chk 93 q.1 q.2) = true := by decide +kernel
set_option maxRecDepth 100000 in
theorem rb_k94 : rb_c94.all (fun q => rb_chk 94 q.1 q.2) = true := by decide +kernel
set_option maxRecDepth 100000 in
theorem rb_k95 : rb_c95.all (fun q => rb_chk 95 q.1 q.2) = true := by decide +kernel
set_option maxRecDepth 100000 in
theorem rb_k96 : rb_c96.all (fun q => rb_chk 96 q.1 q.2) = true := by decide +kernel
set_option maxRecDepth 100000 in
theorem rb_k97 : rb_c97.all (fun q => rb_chk 97 q.1 q.2) = true := by decide +kernel
set_option maxRecDepth 100000 in
theorem rb_k98 : rb_c98.all (fun q => rb_chk 98 q.1 q.2) = true := by decide +kernel
set_option maxRecDepth 100000 in
theorem rb_k99 : rb_c99.all (fun q => rb_chk 99 q.1 q.2) = true := by decide +kernel
set_option maxRecDepth 100000 in
theorem rb_k100 : rb_c100.all (fun q => rb_chk 100 q.1 q.2) = true := by decide +kernel
set_option maxRecDepth 100000 in
theorem rb_k101 : rb_c101.all (fun q => rb_chk 101 q.1 q.2) = true := by decide +kernel
set_option maxRecDepth 100000 in
theorem rb_k102 : rb_c102.all (fun q => rb_chk 102 q.1 q.2) = true := by decide +kernel
set_option maxRecDepth 100000 in
theorem rb_k103 : rb_c103.all (fun q => rb_chk 103 q.1 q.2) = true := by decide +kernel
set_option maxRecDepth 100000 in
theorem rb_k104 : rb_c104.all (fun q => rb_chk 104 q.1 q.2) = true := by decide +kernel
set_option maxRecDepth 100000 in
theorem rb_k105 : rb_c105.all (fun q => rb_chk 105 q.1 q.2) = true := by decide +kernel
set_option maxRecDepth 100000 in
theorem rb_k106 : rb_c106.all (fun q => rb_chk 106 q.1 q.2) = true := by decide +kernel
set_option maxRecDepth 100000 in
theorem rb_k107 : rb_c107.all (fun q => rb_chk 107 q.1 q.2) = true := by decide +kernel
set_option maxRecDepth 100000 in
theorem rb_k108 : rb_c108.all (fun q => rb_chk 108 q.1 q.2) = true := by decide +kernel
set_option maxRecDepth 100000 in
theorem rb_k109 : rb_c109.all (fun q => rb_chk 109 q.1 q.2) = true := by decide +kernel
set_option maxRecDepth 100000 in
theorem rb_k110 : rb_c110.all (fun q => rb_chk 110 q.1 q.2) = true := by decide +kernel
set_option maxRecDepth 100000 in
theorem rb_k111 : rb_c111.all (fun q => rb_chk 111 q.1 q.2) = true := by decide +kernel
set_option maxRecDepth 100000 in
theorem rb_k112 : rb_c112.all (fun q => rb_chk 112 q.1 q.2) = true := by decide +kernel
set_option maxRecDepth 100000 in
theorem rb_k113 : rb_c113.all (fun q => rb_chk 113 q.1 q.2) = true := by decide +kernel
set_option maxRecDepth 100000 in
theorem rb_k114 : rb_c114.all (fun q => rb_chk 114 q.1 q.2) = true := by decide +kernel
set_option maxRecDepth 100000 in
theorem rb_k115 : rb_c115.all (fun q => rb_chk 115 q.1 q.2) = true := by decide +kernel
set_option maxRecDepth 100000 in
theorem rb_k116 : rb_c116.all (fun q => rb_chk 116 q.1 q.2) = true := by decide +kernel
set_option maxRecDepth 100000 in
theorem rb_k117 : rb_c117.all (fun q => rb_chk 117 q.1 q.2) = true := by decide +kernel
set_option maxRecDepth 100000 in
theorem rb_k118 : rb_c118.all (fun q => rb_chk 118 q.1 q.2) = true := by decide +kernel
set_option maxRecDepth 100000 in
theorem rb_k119 : rb_c119.all (fun q => rb_chk 119 q.1 q.2) = true := by decide +kernel
set_option maxRecDepth 100000 in
theorem rb_k120 : rb_c120.all (fun q => rb_chk 120 q.1 q.2) = true := by decide +kernel
set_option maxRecDepth 100000 in
theorem rb_k121 : rb_c121.all (fun q => rb_chk 121 q.1 q.2) = true := by decide +kernel
set_option maxRecDepth 100000 in
theorem rb_k122 : rb_c122.all (fun q => rb_chk 122 q.1 q.2) = true := by decide +kernel
set_option maxRecDepth 100000 in
theorem rb_k123 : rb_c123.all (fun q => rb_chk 123 q.1 q.2) = true := by decide +kernel
set_option maxRecDepth 100000 in
theorem rb_k124 : rb_c124.all (fun q => rb_chk 124 q.1 q.2) = true := by decide +kernel
set_option maxRecDepth 100000 in
theorem rb_k125 : rb_c125.all (fun q => rb_chk 125 q.1 q.2) = true := by decide +kernel
set_option maxRecDepth 100000 in
theorem rb_k126 : rb_c126.all (fun q => rb_chk 126 q.1 q.2) = true := by decide +kernel
set_option maxRecDepth 100000 in
theorem rb_k127 : rb_c127.all (fun q => rb_chk 127 q.1 q.2) = true := by decide +kernel
set_option maxRecDepth 100000 in
theorem rb_k128 : rb_c128.all (fun q => rb_chk 128 q.1 q.2) = true := by decide +kernel
set_option maxRecDepth 100000 in
theorem rb_k129 : rb_c129.all (fun q => rb_chk 129 q.1 q.2) = true := by decide +kernel
set_option maxRecDepth 100000 in
theorem rb_k130 : rb_c130.all (fun q => rb_chk 130 q.1 q.2) = true := by decide +kernel
set_option maxRecDepth 100000 in
theorem rb_k131 : rb_c131.all (fun q => rb_chk 131 q.1 q.2) = true := by decide +kernel
set_option maxRecDepth 100000 in
theorem rb_k132 : rb_c132.all (fun q => rb_chk 132 q.1 q.2) = true := by decide +kernel
