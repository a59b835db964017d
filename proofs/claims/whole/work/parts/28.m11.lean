/-! The check of the methods -/
set_option maxRecDepth 100000 in
theorem mokp_326_177 : ((mzip 326).drop 177 |>.take 32).all (fun q => eOk 326 q.1 q.2) = true := by decide +kernel
set_option maxRecDepth 100000 in
theorem mokp_326_209 : ((mzip 326).drop 209 |>.take 26).all (fun q => eOk 326 q.1 q.2) = true := by decide +kernel
set_option maxRecDepth 100000 in
theorem mokp_326_235 : ((mzip 326).drop 235 |>.take 27).all (fun q => eOk 326 q.1 q.2) = true := by decide +kernel
set_option maxRecDepth 100000 in
theorem mokp_326_262 : ((mzip 326).drop 262 |>.take 24).all (fun q => eOk 326 q.1 q.2) = true := by decide +kernel
set_option maxRecDepth 100000 in
theorem mokp_326_286 : ((mzip 326).drop 286 |>.take 25).all (fun q => eOk 326 q.1 q.2) = true := by decide +kernel
set_option maxRecDepth 100000 in
theorem mokp_326_311 : ((mzip 326).drop 311 |>.take 23).all (fun q => eOk 326 q.1 q.2) = true := by decide +kernel
set_option maxRecDepth 100000 in
theorem mokp_326_334 : ((mzip 326).drop 334 |>.take 22).all (fun q => eOk 326 q.1 q.2) = true := by decide +kernel
set_option maxRecDepth 100000 in
theorem mokp_326_356 : ((mzip 326).drop 356 |>.take 22).all (fun q => eOk 326 q.1 q.2) = true := by decide +kernel
set_option maxRecDepth 100000 in
theorem mokp_326_378 : ((mzip 326).drop 378 |>.take 22).all (fun q => eOk 326 q.1 q.2) = true := by decide +kernel
set_option maxRecDepth 100000 in
theorem mokp_326_400 : ((mzip 326).drop 400 |>.take 21).all (fun q => eOk 326 q.1 q.2) = true := by decide +kernel
set_option maxRecDepth 100000 in
theorem mokp_326_421 : ((mzip 326).drop 421 |>.take 20).all (fun q => eOk 326 q.1 q.2) = true := by decide +kernel
set_option maxRecDepth 100000 in
theorem mokp_326_441 : ((mzip 326).drop 441 |>.take 21).all (fun q => eOk 326 q.1 q.2) = true := by decide +kernel
set_option maxRecDepth 100000 in
theorem mokp_326_462 : ((mzip 326).drop 462 |>.take 19).all (fun q => eOk 326 q.1 q.2) = true := by decide +kernel
set_option maxRecDepth 100000 in
theorem mokp_326_481 : ((mzip 326).drop 481 |>.take 19).all (fun q => eOk 326 q.1 q.2) = true := by decide +kernel
set_option maxRecDepth 100000 in
theorem mokp_326_500 : ((mzip 326).drop 500 |>.take 18).all (fun q => eOk 326 q.1 q.2) = true := by decide +kernel
set_option maxRecDepth 100000 in
theorem mokp_326_518 : ((mzip 326).drop 518 |>.take 16).all (fun q => eOk 326 q.1 q.2) = true := by decide +kernel
set_option maxRecDepth 100000 in
theorem mokp_326_534 : ((mzip 326).drop 534 |>.take 17).all (fun q => eOk 326 q.1 q.2) = true := by decide +kernel
set_option maxRecDepth 100000 in
theorem mokp_326_551 : ((mzip 326).drop 551 |>.take 17).all (fun q => eOk 326 q.1 q.2) = true := by decide +kernel
set_option maxRecDepth 100000 in
theorem mokp_326_568 : ((mzip 326).drop 568 |>.take 18).all (fun q => eOk 326 q.1 q.2) = true := by decide +kernel
set_option maxRecDepth 100000 in
theorem mokp_326_586 : ((mzip 326).drop 586 |>.take 16).all (fun q => eOk 326 q.1 q.2) = true := by decide +kernel
