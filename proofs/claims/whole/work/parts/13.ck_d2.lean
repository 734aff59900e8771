set_option maxRecDepth 100000 in
theorem ckX10_tieAnswers : kX10_tieAnswers.all (fun q => jck 73 q.1 q.2) = true := by decide +kernel
set_option maxRecDepth 100000 in
theorem ckX10_weigh : kX10_weigh.all (fun q => jck 74 q.1 q.2) = true := by decide +kernel
set_option maxRecDepth 100000 in
theorem ckX10_pairsOfRow : kX10_pairsOfRow.all (fun q => jck 75 q.1 q.2) = true := by decide +kernel
set_option maxRecDepth 100000 in
theorem ckX10_isPairing : kX10_isPairing.all (fun q => jck 76 q.1 q.2) = true := by decide +kernel
set_option maxRecDepth 100000 in
theorem ckX10_firstRow : kX10_firstRow.all (fun q => jck 77 q.1 q.2) = true := by decide +kernel
set_option maxRecDepth 100000 in
theorem ckX10_nextRow : kX10_nextRow.all (fun q => jck 78 q.1 q.2) = true := by decide +kernel
set_option maxRecDepth 100000 in
theorem ckX10_isWeighed : kX10_isWeighed.all (fun q => jck 79 q.1 q.2) = true := by decide +kernel
set_option maxRecDepth 100000 in
theorem ckX10_likeness : kX10_likeness.all (fun q => jck 80 q.1 q.2) = true := by decide +kernel
set_option maxRecDepth 100000 in
theorem ckX10_isLevel : kX10_isLevel.all (fun q => jck 81 q.1 q.2) = true := by decide +kernel
set_option maxRecDepth 100000 in
theorem ckX10_like : kX10_like.all (fun q => jck 82 q.1 q.2) = true := by decide +kernel
set_option maxRecDepth 100000 in
theorem ckX10_partner : kX10_partner.all (fun q => jck 83 q.1 q.2) = true := by decide +kernel
set_option maxRecDepth 100000 in
theorem ckX10_answer : kX10_answer.all (fun q => jck 84 q.1 q.2) = true := by decide +kernel
set_option maxRecDepth 100000 in
theorem ckX10_digits : kX10_digits.all (fun q => jck 85 q.1 q.2) = true := by decide +kernel
set_option maxRecDepth 100000 in
theorem ckX10_likes : kX10_likes.all (fun q => jck 86 q.1 q.2) = true := by decide +kernel
set_option maxRecDepth 100000 in
theorem ckX10_worth : kX10_worth.all (fun q => jck 87 q.1 q.2) = true := by decide +kernel
set_option maxRecDepth 100000 in
theorem ckX10_same : kX10_same.all (fun q => jck 88 q.1 q.2) = true := by decide +kernel
set_option maxRecDepth 100000 in
theorem ckX10_over : kX10_over.all (fun q => jck 89 q.1 q.2) = true := by decide +kernel
set_option maxRecDepth 100000 in
theorem ckX10_layGuesses : kX10_layGuesses.all (fun q => jck 90 q.1 q.2) = true := by decide +kernel
set_option maxRecDepth 100000 in
theorem ckX10_hasGuess : kX10_hasGuess.all (fun q => jck 91 q.1 q.2) = true := by decide +kernel
set_option maxRecDepth 100000 in
theorem ckX10_isAgainst : kX10_isAgainst.all (fun q => jck 92 q.1 q.2) = true := by decide +kernel
