set_option maxRecDepth 100000 in
theorem ckX9_kind : kX9_kind.all (fun q => jck 0 q.1 q.2) = true := by decide +kernel
set_option maxRecDepth 100000 in
theorem ckX9_wider : kX9_wider.all (fun q => jck 1 q.1 q.2) = true := by decide +kernel
set_option maxRecDepth 100000 in
theorem ckX9_opposite : kX9_opposite.all (fun q => jck 2 q.1 q.2) = true := by decide +kernel
set_option maxRecDepth 100000 in
theorem ckX9_ofKind : kX9_ofKind.all (fun q => jck 3 q.1 q.2) = true := by decide +kernel
set_option maxRecDepth 100000 in
theorem ckX9_alike : kX9_alike.all (fun q => jck 4 q.1 q.2) = true := by decide +kernel
set_option maxRecDepth 100000 in
theorem ckX9_timed : kX9_timed.all (fun q => jck 5 q.1 q.2) = true := by decide +kernel
set_option maxRecDepth 100000 in
theorem ckX9_tale : kX9_tale.all (fun q => jck 6 q.1 q.2) = true := by decide +kernel
set_option maxRecDepth 100000 in
theorem ckX9_sort : kX9_sort.all (fun q => jck 7 q.1 q.2) = true := by decide +kernel
set_option maxRecDepth 100000 in
theorem ckX9_label : kX9_label.all (fun q => jck 8 q.1 q.2) = true := by decide +kernel
set_option maxRecDepth 100000 in
theorem ckX9_tie : kX9_tie.all (fun q => jck 9 q.1 q.2) = true := by decide +kernel
set_option maxRecDepth 100000 in
theorem ckX9_ofTie : kX9_ofTie.all (fun q => jck 10 q.1 q.2) = true := by decide +kernel
set_option maxRecDepth 100000 in
theorem ckX9_ofTale : kX9_ofTale.all (fun q => jck 11 q.1 q.2) = true := by decide +kernel
set_option maxRecDepth 100000 in
theorem ckX9_copy : kX9_copy.all (fun q => jck 12 q.1 q.2) = true := by decide +kernel
set_option maxRecDepth 100000 in
theorem ckX9_like : kX9_like.all (fun q => jck 13 q.1 q.2) = true := by decide +kernel
set_option maxRecDepth 100000 in
theorem ckX9_partner : kX9_partner.all (fun q => jck 14 q.1 q.2) = true := by decide +kernel
set_option maxRecDepth 100000 in
theorem ckX9_answer : kX9_answer.all (fun q => jck 15 q.1 q.2) = true := by decide +kernel
set_option maxRecDepth 100000 in
theorem ckX9_likes : kX9_likes.all (fun q => jck 16 q.1 q.2) = true := by decide +kernel
set_option maxRecDepth 100000 in
theorem ckX9_worth : kX9_worth.all (fun q => jck 17 q.1 q.2) = true := by decide +kernel
set_option maxRecDepth 100000 in
theorem ckX9_same : kX9_same.all (fun q => jck 18 q.1 q.2) = true := by decide +kernel
set_option maxRecDepth 100000 in
theorem ckX9_guess : kX9_guess.all (fun q => jck 19 q.1 q.2) = true := by decide +kernel
set_option maxRecDepth 100000 in
theorem ckX9_ofGuess : kX9_ofGuess.all (fun q => jck 20 q.1 q.2) = true := by decide +kernel
set_option maxRecDepth 100000 in
theorem ckX9_giveUp : kX9_giveUp.all (fun q => jck 21 q.1 q.2) = true := by decide +kernel
set_option maxRecDepth 100000 in
theorem ckX9_bound : kX9_bound.all (fun q => jck 22 q.1 q.2) = true := by decide +kernel
set_option maxRecDepth 100000 in
theorem ckX9_seek : kX9_seek.all (fun q => jck 23 q.1 q.2) = true := by decide +kernel
set_option maxRecDepth 100000 in
theorem ckX9_sought : kX9_sought.all (fun q => jck 24 q.1 q.2) = true := by decide +kernel
set_option maxRecDepth 100000 in
theorem ckX9_common : kX9_common.all (fun q => jck 25 q.1 q.2) = true := by decide +kernel
set_option maxRecDepth 100000 in
theorem ckX9_series : kX9_series.all (fun q => jck 26 q.1 q.2) = true := by decide +kernel
set_option maxRecDepth 100000 in
theorem ckX9_leftOut : kX9_leftOut.all (fun q => jck 27 q.1 q.2) = true := by decide +kernel
set_option maxRecDepth 100000 in
theorem ckX9_trial : kX9_trial.all (fun q => jck 28 q.1 q.2) = true := by decide +kernel
set_option maxRecDepth 100000 in
theorem ckX9_isKind : kX9_isKind.all (fun q => jck 29 q.1 q.2) = true := by decide +kernel
set_option maxRecDepth 100000 in
theorem ckX9_isTale : kX9_isTale.all (fun q => jck 30 q.1 q.2) = true := by decide +kernel
set_option maxRecDepth 100000 in
theorem ckX9_isLevel : kX9_isLevel.all (fun q => jck 31 q.1 q.2) = true := by decide +kernel
set_option maxRecDepth 100000 in
theorem ckX9_isDigit : kX9_isDigit.all (fun q => jck 32 q.1 q.2) = true := by decide +kernel
set_option maxRecDepth 100000 in
theorem ckX9_orNone : kX9_orNone.all (fun q => jck 33 q.1 q.2) = true := by decide +kernel
set_option maxRecDepth 100000 in
theorem ckX9_refusedLikeness : kX9_refusedLikeness.all (fun q => jck 34 q.1 q.2) = true := by decide +kernel
set_option maxRecDepth 100000 in
theorem ckX9_tiesToldOf : kX9_tiesToldOf.all (fun q => jck 35 q.1 q.2) = true := by decide +kernel
set_option maxRecDepth 100000 in
theorem ckX9_isInUse : kX9_isInUse.all (fun q => jck 36 q.1 q.2) = true := by decide +kernel
set_option maxRecDepth 100000 in
theorem ckX9_isRight : kX9_isRight.all (fun q => jck 37 q.1 q.2) = true := by decide +kernel
