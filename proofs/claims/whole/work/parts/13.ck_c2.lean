set_option maxRecDepth 100000 in
theorem ckX9_isPeaceWithout : kX9_isPeaceWithout.all (fun q => jck 38 q.1 q.2) = true := by decide +kernel
set_option maxRecDepth 100000 in
theorem ckX0_take : kX0_take.all (fun q => jck 111 q.1 q.2) = true := by decide +kernel
set_option maxRecDepth 100000 in
theorem ckX0_compareTie : kX0_compareTie.all (fun q => jck 112 q.1 q.2) = true := by decide +kernel
set_option maxRecDepth 100000 in
theorem ckX0_noteEnds : kX0_noteEnds.all (fun q => jck 113 q.1 q.2) = true := by decide +kernel
set_option maxRecDepth 100000 in
theorem ckX0_readDigits : kX0_readDigits.all (fun q => jck 114 q.1 q.2) = true := by decide +kernel
set_option maxRecDepth 100000 in
theorem ckX0_settle : kX0_settle.all (fun q => jck 115 q.1 q.2) = true := by decide +kernel
set_option maxRecDepth 100000 in
theorem ckX0_hope : kX0_hope.all (fun q => jck 116 q.1 q.2) = true := by decide +kernel
set_option maxRecDepth 100000 in
theorem ckX0_noteFree : kX0_noteFree.all (fun q => jck 117 q.1 q.2) = true := by decide +kernel
set_option maxRecDepth 100000 in
theorem ckX0_gain : kX0_gain.all (fun q => jck 118 q.1 q.2) = true := by decide +kernel
set_option maxRecDepth 100000 in
theorem ckX0_reachable : kX0_reachable.all (fun q => jck 119 q.1 q.2) = true := by decide +kernel
set_option maxRecDepth 100000 in
theorem ckX0_reach : kX0_reach.all (fun q => jck 120 q.1 q.2) = true := by decide +kernel
set_option maxRecDepth 100000 in
theorem ckX0_firstOf : kX0_firstOf.all (fun q => jck 121 q.1 q.2) = true := by decide +kernel
set_option maxRecDepth 100000 in
theorem ckX0_spread : kX0_spread.all (fun q => jck 122 q.1 q.2) = true := by decide +kernel
set_option maxRecDepth 100000 in
theorem ckX0_sortsShared : kX0_sortsShared.all (fun q => jck 123 q.1 q.2) = true := by decide +kernel
