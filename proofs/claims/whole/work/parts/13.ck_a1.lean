set_option maxRecDepth 100000 in
theorem ckX1_gather : kX1_gather.all (fun q => jck 124 q.1 q.2) = true := by decide +kernel
set_option maxRecDepth 100000 in
theorem ckX1_isGuess : kX1_isGuess.all (fun q => jck 125 q.1 q.2) = true := by decide +kernel
set_option maxRecDepth 100000 in
theorem ckX1_over : kX1_over.all (fun q => jck 126 q.1 q.2) = true := by decide +kernel
set_option maxRecDepth 100000 in
theorem ckX1_endOver : kX1_endOver.all (fun q => jck 127 q.1 q.2) = true := by decide +kernel
set_option maxRecDepth 100000 in
theorem ckX1_isHeld : kX1_isHeld.all (fun q => jck 128 q.1 q.2) = true := by decide +kernel
set_option maxRecDepth 100000 in
theorem ckX1_isAgainst : kX1_isAgainst.all (fun q => jck 129 q.1 q.2) = true := by decide +kernel
set_option maxRecDepth 100000 in
theorem ckX1_isTold : kX1_isTold.all (fun q => jck 130 q.1 q.2) = true := by decide +kernel
set_option maxRecDepth 100000 in
theorem ckX2_take : kX2_take.all (fun q => jck 131 q.1 q.2) = true := by decide +kernel
set_option maxRecDepth 100000 in
theorem ckX2_takePairing : kX2_takePairing.all (fun q => jck 132 q.1 q.2) = true := by decide +kernel
set_option maxRecDepth 100000 in
theorem ckX2_pairedThings : kX2_pairedThings.all (fun q => jck 133 q.1 q.2) = true := by decide +kernel
set_option maxRecDepth 100000 in
theorem ckX3_isLinked : kX3_isLinked.all (fun q => jck 134 q.1 q.2) = true := by decide +kernel
set_option maxRecDepth 100000 in
theorem ckX3_mayStandOver : kX3_mayStandOver.all (fun q => jck 135 q.1 q.2) = true := by decide +kernel
set_option maxRecDepth 100000 in
theorem ckX3_oppose : kX3_oppose.all (fun q => jck 136 q.1 q.2) = true := by decide +kernel
set_option maxRecDepth 100000 in
theorem ckX3_loosen : kX3_loosen.all (fun q => jck 137 q.1 q.2) = true := by decide +kernel
set_option maxRecDepth 100000 in
theorem ckX3_above : kX3_above.all (fun q => jck 138 q.1 q.2) = true := by decide +kernel
set_option maxRecDepth 100000 in
theorem ckX3_meetingLevel : kX3_meetingLevel.all (fun q => jck 139 q.1 q.2) = true := by decide +kernel
set_option maxRecDepth 100000 in
theorem ckX4_empty : kX4_empty.all (fun q => jck 140 q.1 q.2) = true := by decide +kernel
set_option maxRecDepth 100000 in
theorem ckX4_become : kX4_become.all (fun q => jck 141 q.1 q.2) = true := by decide +kernel
set_option maxRecDepth 100000 in
theorem ckX4_hasEnds : kX4_hasEnds.all (fun q => jck 142 q.1 q.2) = true := by decide +kernel
set_option maxRecDepth 100000 in
theorem ckX4_isEnd : kX4_isEnd.all (fun q => jck 143 q.1 q.2) = true := by decide +kernel
set_option maxRecDepth 100000 in
theorem ckX4_find : kX4_find.all (fun q => jck 144 q.1 q.2) = true := by decide +kernel
set_option maxRecDepth 100000 in
theorem ckX4_put : kX4_put.all (fun q => jck 145 q.1 q.2) = true := by decide +kernel
set_option maxRecDepth 100000 in
theorem ckX4_heightOfEnd : kX4_heightOfEnd.all (fun q => jck 146 q.1 q.2) = true := by decide +kernel
set_option maxRecDepth 100000 in
theorem ckX4_greatestHeight : kX4_greatestHeight.all (fun q => jck 147 q.1 q.2) = true := by decide +kernel
set_option maxRecDepth 100000 in
theorem ckX4_countOfKind : kX4_countOfKind.all (fun q => jck 148 q.1 q.2) = true := by decide +kernel
set_option maxRecDepth 100000 in
theorem ckX4_countOfMoments : kX4_countOfMoments.all (fun q => jck 149 q.1 q.2) = true := by decide +kernel
set_option maxRecDepth 100000 in
theorem ckJ6_bitCount : kJ6_bitCount.all (fun q => jck 181 q.1 q.2) = true := by decide +kernel
