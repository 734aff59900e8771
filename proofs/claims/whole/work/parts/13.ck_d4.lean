set_option maxRecDepth 100000 in
theorem ckX10_series : kX10_series.all (fun q => jck 108 q.1 q.2) = true := by decide +kernel
set_option maxRecDepth 100000 in
theorem ckX10_leftOut : kX10_leftOut.all (fun q => jck 109 q.1 q.2) = true := by decide +kernel
set_option maxRecDepth 100000 in
theorem ckX10_trial : kX10_trial.all (fun q => jck 110 q.1 q.2) = true := by decide +kernel
