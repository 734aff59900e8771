set_option maxRecDepth 100000 in
theorem ckX10_takeKept : kX10_takeKept.all (fun q => jck 93 q.1 q.2) = true := by decide +kernel
set_option maxRecDepth 100000 in
theorem ckX10_guess : kX10_guess.all (fun q => jck 94 q.1 q.2) = true := by decide +kernel
set_option maxRecDepth 100000 in
theorem ckX10_ofGuess : kX10_ofGuess.all (fun q => jck 95 q.1 q.2) = true := by decide +kernel
set_option maxRecDepth 100000 in
theorem ckX10_bits : kX10_bits.all (fun q => jck 96 q.1 q.2) = true := by decide +kernel
set_option maxRecDepth 100000 in
theorem ckX10_speaks : kX10_speaks.all (fun q => jck 97 q.1 q.2) = true := by decide +kernel
set_option maxRecDepth 100000 in
theorem ckX10_giveUp : kX10_giveUp.all (fun q => jck 98 q.1 q.2) = true := by decide +kernel
set_option maxRecDepth 100000 in
theorem ckX10_boundOf : kX10_boundOf.all (fun q => jck 99 q.1 q.2) = true := by decide +kernel
set_option maxRecDepth 100000 in
theorem ckX10_bound : kX10_bound.all (fun q => jck 100 q.1 q.2) = true := by decide +kernel
set_option maxRecDepth 100000 in
theorem ckX10_likest : kX10_likest.all (fun q => jck 101 q.1 q.2) = true := by decide +kernel
set_option maxRecDepth 100000 in
theorem ckX10_seek : kX10_seek.all (fun q => jck 102 q.1 q.2) = true := by decide +kernel
set_option maxRecDepth 100000 in
theorem ckX10_sought : kX10_sought.all (fun q => jck 103 q.1 q.2) = true := by decide +kernel
set_option maxRecDepth 100000 in
theorem ckX10_moved : kX10_moved.all (fun q => jck 104 q.1 q.2) = true := by decide +kernel
set_option maxRecDepth 100000 in
theorem ckX10_add : kX10_add.all (fun q => jck 105 q.1 q.2) = true := by decide +kernel
set_option maxRecDepth 100000 in
theorem ckX10_common : kX10_common.all (fun q => jck 106 q.1 q.2) = true := by decide +kernel
set_option maxRecDepth 100000 in
theorem ckX10_inMade : kX10_inMade.all (fun q => jck 107 q.1 q.2) = true := by decide +kernel
