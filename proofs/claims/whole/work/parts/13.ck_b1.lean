set_option maxRecDepth 100000 in
theorem ckX5_likeness : kX5_likeness.all (fun q => jck 150 q.1 q.2) = true := by decide +kernel
set_option maxRecDepth 100000 in
theorem ckX5_list : kX5_list.all (fun q => jck 151 q.1 q.2) = true := by decide +kernel
set_option maxRecDepth 100000 in
theorem ckX5_digits : kX5_digits.all (fun q => jck 152 q.1 q.2) = true := by decide +kernel
set_option maxRecDepth 100000 in
theorem ckX5_mostAnswering : kX5_mostAnswering.all (fun q => jck 153 q.1 q.2) = true := by decide +kernel
set_option maxRecDepth 100000 in
theorem ckX5_isSame : kX5_isSame.all (fun q => jck 154 q.1 q.2) = true := by decide +kernel
set_option maxRecDepth 100000 in
theorem ckX5_prepare : kX5_prepare.all (fun q => jck 155 q.1 q.2) = true := by decide +kernel
set_option maxRecDepth 100000 in
theorem ckX5_open : kX5_open.all (fun q => jck 156 q.1 q.2) = true := by decide +kernel
set_option maxRecDepth 100000 in
theorem ckX5_place : kX5_place.all (fun q => jck 157 q.1 q.2) = true := by decide +kernel
set_option maxRecDepth 100000 in
theorem ckX5_isHopeful : kX5_isHopeful.all (fun q => jck 158 q.1 q.2) = true := by decide +kernel
set_option maxRecDepth 100000 in
theorem ckX5_sortHope : kX5_sortHope.all (fun q => jck 159 q.1 q.2) = true := by decide +kernel
set_option maxRecDepth 100000 in
theorem ckX5_arrive : kX5_arrive.all (fun q => jck 160 q.1 q.2) = true := by decide +kernel
set_option maxRecDepth 100000 in
theorem ckX5_keepPartners : kX5_keepPartners.all (fun q => jck 161 q.1 q.2) = true := by decide +kernel
set_option maxRecDepth 100000 in
theorem ckX6_likest : kX6_likest.all (fun q => jck 162 q.1 q.2) = true := by decide +kernel
set_option maxRecDepth 100000 in
theorem ckX6_greatestBound : kX6_greatestBound.all (fun q => jck 163 q.1 q.2) = true := by decide +kernel
set_option maxRecDepth 100000 in
theorem ckX6_boundOf : kX6_boundOf.all (fun q => jck 164 q.1 q.2) = true := by decide +kernel
set_option maxRecDepth 100000 in
theorem ckX6_countOfSort : kX6_countOfSort.all (fun q => jck 165 q.1 q.2) = true := by decide +kernel
set_option maxRecDepth 100000 in
theorem ckX7_take : kX7_take.all (fun q => jck 166 q.1 q.2) = true := by decide +kernel
set_option maxRecDepth 100000 in
theorem ckX7_inStep : kX7_inStep.all (fun q => jck 167 q.1 q.2) = true := by decide +kernel
set_option maxRecDepth 100000 in
theorem ckX7_outOfStep : kX7_outOfStep.all (fun q => jck 168 q.1 q.2) = true := by decide +kernel
set_option maxRecDepth 100000 in
theorem ckX7_isOrdered : kX7_isOrdered.all (fun q => jck 169 q.1 q.2) = true := by decide +kernel
set_option maxRecDepth 100000 in
theorem ckX7_add : kX7_add.all (fun q => jck 170 q.1 q.2) = true := by decide +kernel
set_option maxRecDepth 100000 in
theorem ckX7_heaviestOrder : kX7_heaviestOrder.all (fun q => jck 171 q.1 q.2) = true := by decide +kernel
set_option maxRecDepth 100000 in
theorem ckX8_weaveCommon : kX8_weaveCommon.all (fun q => jck 172 q.1 q.2) = true := by decide +kernel
set_option maxRecDepth 100000 in
theorem ckX8_noteFirst : kX8_noteFirst.all (fun q => jck 173 q.1 q.2) = true := by decide +kernel
