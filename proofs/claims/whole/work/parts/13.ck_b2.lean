set_option maxRecDepth 100000 in
theorem ckX8_weaveLeft : kX8_weaveLeft.all (fun q => jck 174 q.1 q.2) = true := by decide +kernel
set_option maxRecDepth 100000 in
theorem ckX8_bridge : kX8_bridge.all (fun q => jck 175 q.1 q.2) = true := by decide +kernel
set_option maxRecDepth 100000 in
theorem ckX8_putWon : kX8_putWon.all (fun q => jck 176 q.1 q.2) = true := by decide +kernel
set_option maxRecDepth 100000 in
theorem ckX8_clear : kX8_clear.all (fun q => jck 177 q.1 q.2) = true := by decide +kernel
set_option maxRecDepth 100000 in
theorem ckX8_bringEnds : kX8_bringEnds.all (fun q => jck 178 q.1 q.2) = true := by decide +kernel
set_option maxRecDepth 100000 in
theorem ckX8_newEnd : kX8_newEnd.all (fun q => jck 179 q.1 q.2) = true := by decide +kernel
set_option maxRecDepth 100000 in
theorem ckX8_findOrPut : kX8_findOrPut.all (fun q => jck 180 q.1 q.2) = true := by decide +kernel
