set_option maxRecDepth 100000 in
theorem ckX10_in : kX10_in.all (fun q => jck 39 q.1 q.2) = true := by decide +kernel
set_option maxRecDepth 100000 in
theorem ckX10_isKind : kX10_isKind.all (fun q => jck 40 q.1 q.2) = true := by decide +kernel
set_option maxRecDepth 100000 in
theorem ckX10_isTale : kX10_isTale.all (fun q => jck 41 q.1 q.2) = true := by decide +kernel
set_option maxRecDepth 100000 in
theorem ckX10_at : kX10_at.all (fun q => jck 42 q.1 q.2) = true := by decide +kernel
set_option maxRecDepth 100000 in
theorem ckX10_tiesOf : kX10_tiesOf.all (fun q => jck 43 q.1 q.2) = true := by decide +kernel
set_option maxRecDepth 100000 in
theorem ckX10_isUsed : kX10_isUsed.all (fun q => jck 44 q.1 q.2) = true := by decide +kernel
set_option maxRecDepth 100000 in
theorem ckX10_isWide : kX10_isWide.all (fun q => jck 45 q.1 q.2) = true := by decide +kernel
set_option maxRecDepth 100000 in
theorem ckX10_kind : kX10_kind.all (fun q => jck 46 q.1 q.2) = true := by decide +kernel
set_option maxRecDepth 100000 in
theorem ckX10_above : kX10_above.all (fun q => jck 47 q.1 q.2) = true := by decide +kernel
set_option maxRecDepth 100000 in
theorem ckX10_wider : kX10_wider.all (fun q => jck 48 q.1 q.2) = true := by decide +kernel
set_option maxRecDepth 100000 in
theorem ckX10_free : kX10_free.all (fun q => jck 49 q.1 q.2) = true := by decide +kernel
set_option maxRecDepth 100000 in
theorem ckX10_opposite : kX10_opposite.all (fun q => jck 50 q.1 q.2) = true := by decide +kernel
set_option maxRecDepth 100000 in
theorem ckX10_ofKind : kX10_ofKind.all (fun q => jck 51 q.1 q.2) = true := by decide +kernel
set_option maxRecDepth 100000 in
theorem ckX10_alikeAt : kX10_alikeAt.all (fun q => jck 52 q.1 q.2) = true := by decide +kernel
set_option maxRecDepth 100000 in
theorem ckX10_alike : kX10_alike.all (fun q => jck 53 q.1 q.2) = true := by decide +kernel
set_option maxRecDepth 100000 in
theorem ckX10_timed : kX10_timed.all (fun q => jck 54 q.1 q.2) = true := by decide +kernel
set_option maxRecDepth 100000 in
theorem ckX10_empty : kX10_empty.all (fun q => jck 55 q.1 q.2) = true := by decide +kernel
set_option maxRecDepth 100000 in
theorem ckX10_tale : kX10_tale.all (fun q => jck 56 q.1 q.2) = true := by decide +kernel
set_option maxRecDepth 100000 in
theorem ckX10_isThing : kX10_isThing.all (fun q => jck 57 q.1 q.2) = true := by decide +kernel
set_option maxRecDepth 100000 in
theorem ckX10_sort : kX10_sort.all (fun q => jck 58 q.1 q.2) = true := by decide +kernel
set_option maxRecDepth 100000 in
theorem ckX10_label : kX10_label.all (fun q => jck 59 q.1 q.2) = true := by decide +kernel
set_option maxRecDepth 100000 in
theorem ckX10_isEnd : kX10_isEnd.all (fun q => jck 60 q.1 q.2) = true := by decide +kernel
set_option maxRecDepth 100000 in
theorem ckX10_tieWith : kX10_tieWith.all (fun q => jck 61 q.1 q.2) = true := by decide +kernel
set_option maxRecDepth 100000 in
theorem ckX10_heightOf : kX10_heightOf.all (fun q => jck 62 q.1 q.2) = true := by decide +kernel
set_option maxRecDepth 100000 in
theorem ckX10_put : kX10_put.all (fun q => jck 63 q.1 q.2) = true := by decide +kernel
set_option maxRecDepth 100000 in
theorem ckX10_tie : kX10_tie.all (fun q => jck 64 q.1 q.2) = true := by decide +kernel
set_option maxRecDepth 100000 in
theorem ckX10_ofTie : kX10_ofTie.all (fun q => jck 65 q.1 q.2) = true := by decide +kernel
set_option maxRecDepth 100000 in
theorem ckX10_highest : kX10_highest.all (fun q => jck 66 q.1 q.2) = true := by decide +kernel
set_option maxRecDepth 100000 in
theorem ckX10_ofTale : kX10_ofTale.all (fun q => jck 67 q.1 q.2) = true := by decide +kernel
set_option maxRecDepth 100000 in
theorem ckX10_become : kX10_become.all (fun q => jck 68 q.1 q.2) = true := by decide +kernel
set_option maxRecDepth 100000 in
theorem ckX10_copy : kX10_copy.all (fun q => jck 69 q.1 q.2) = true := by decide +kernel
set_option maxRecDepth 100000 in
theorem ckX10_endAnswers : kX10_endAnswers.all (fun q => jck 70 q.1 q.2) = true := by decide +kernel
set_option maxRecDepth 100000 in
theorem ckX10_sign : kX10_sign.all (fun q => jck 71 q.1 q.2) = true := by decide +kernel
set_option maxRecDepth 100000 in
theorem ckX10_goes : kX10_goes.all (fun q => jck 72 q.1 q.2) = true := by decide +kernel
