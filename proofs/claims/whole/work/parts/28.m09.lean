/-! The check of the methods -/
set_option maxRecDepth 100000 in
theorem mokp_264_0 : ((mzip 264).drop 0 |>.take 50).all (fun q => eOk 264 q.1 q.2) = true := by decide +kernel
set_option maxRecDepth 100000 in
theorem mokp_264_50 : ((mzip 264).drop 50 |>.take 21).all (fun q => eOk 264 q.1 q.2) = true := by decide +kernel
set_option maxRecDepth 100000 in
theorem mokr_264 : mrest 264 = true := by decide +kernel
set_option maxRecDepth 100000 in
theorem mokl_264 : (mzip 264).length = 71 := by decide +kernel
theorem mokw_264 : mOk 264 = true := mk_join mokr_264 (mk_cut (n := 50) mokp_264_0 (mk_cut (n := 21) mokp_264_50 (mk_end mokl_264)))
set_option maxRecDepth 100000 in
theorem mokg_265 : (List.range 2).all (fun k => mOk (265 + k)) = true := by decide +kernel
set_option maxRecDepth 100000 in
theorem mokg_267 : (List.range 3).all (fun k => mOk (267 + k)) = true := by decide +kernel
set_option maxRecDepth 100000 in
theorem mokg_270 : (List.range 1).all (fun k => mOk (270 + k)) = true := by decide +kernel
set_option maxRecDepth 100000 in
theorem mokg_271 : (List.range 1).all (fun k => mOk (271 + k)) = true := by decide +kernel
set_option maxRecDepth 100000 in
theorem mokp_272_0 : ((mzip 272).drop 0 |>.take 69).all (fun q => eOk 272 q.1 q.2) = true := by decide +kernel
set_option maxRecDepth 100000 in
theorem mokp_272_69 : ((mzip 272).drop 69 |>.take 9).all (fun q => eOk 272 q.1 q.2) = true := by decide +kernel
set_option maxRecDepth 100000 in
theorem mokr_272 : mrest 272 = true := by decide +kernel
set_option maxRecDepth 100000 in
theorem mokl_272 : (mzip 272).length = 78 := by decide +kernel
theorem mokw_272 : mOk 272 = true := mk_join mokr_272 (mk_cut (n := 69) mokp_272_0 (mk_cut (n := 9) mokp_272_69 (mk_end mokl_272)))
set_option maxRecDepth 100000 in
theorem mokg_273 : (List.range 3).all (fun k => mOk (273 + k)) = true := by decide +kernel
set_option maxRecDepth 100000 in
theorem mokp_276_0 : ((mzip 276).drop 0 |>.take 69).all (fun q => eOk 276 q.1 q.2) = true := by decide +kernel
set_option maxRecDepth 100000 in
theorem mokp_276_69 : ((mzip 276).drop 69 |>.take 16).all (fun q => eOk 276 q.1 q.2) = true := by decide +kernel
set_option maxRecDepth 100000 in
theorem mokr_276 : mrest 276 = true := by decide +kernel
set_option maxRecDepth 100000 in
theorem mokl_276 : (mzip 276).length = 85 := by decide +kernel
theorem mokw_276 : mOk 276 = true := mk_join mokr_276 (mk_cut (n := 69) mokp_276_0 (mk_cut (n := 16) mokp_276_69 (mk_end mokl_276)))
set_option maxRecDepth 100000 in
theorem mokg_277 : (List.range 2).all (fun k => mOk (277 + k)) = true := by decide +kernel
set_option maxRecDepth 100000 in
theorem mokp_279_0 : ((mzip 279).drop 0 |>.take 66).all (fun q => eOk 279 q.1 q.2) = true := by decide +kernel
set_option maxRecDepth 100000 in
theorem mokp_279_66 : ((mzip 279).drop 66 |>.take 9).all (fun q => eOk 279 q.1 q.2) = true := by decide +kernel
set_option maxRecDepth 100000 in
theorem mokr_279 : mrest 279 = true := by decide +kernel
set_option maxRecDepth 100000 in
theorem mokl_279 : (mzip 279).length = 75 := by decide +kernel
theorem mokw_279 : mOk 279 = true := mk_join mokr_279 (mk_cut (n := 66) mokp_279_0 (mk_cut (n := 9) mokp_279_66 (mk_end mokl_279)))
set_option maxRecDepth 100000 in
theorem mokg_280 : (List.range 3).all (fun k => mOk (280 + k)) = true := by decide +kernel
set_option maxRecDepth 100000 in
theorem mokg_283 : (List.range 2).all (fun k => mOk (283 + k)) = true := by decide +kernel
set_option maxRecDepth 100000 in
theorem mokg_285 : (List.range 1).all (fun k => mOk (285 + k)) = true := by decide +kernel
set_option maxRecDepth 100000 in
theorem mokg_286 : (List.range 1).all (fun k => mOk (286 + k)) = true := by decide +kernel
set_option maxRecDepth 100000 in
theorem mokg_287 : (List.range 1).all (fun k => mOk (287 + k)) = true := by decide +kernel
set_option maxRecDepth 100000 in
theorem mokg_288 : (List.range 1).all (fun k => mOk (288 + k)) = true := by decide +kernel
set_option maxRecDepth 100000 in
theorem mokg_289 : (List.range 1).all (fun k => mOk (289 + k)) = true := by decide +kernel
set_option maxRecDepth 100000 in
theorem mokg_290 : (List.range 1).all (fun k => mOk (290 + k)) = true := by decide +kernel
set_option maxRecDepth 100000 in
theorem mokg_291 : (List.range 2).all (fun k => mOk (291 + k)) = true := by decide +kernel
set_option maxRecDepth 100000 in
theorem mokg_293 : (List.range 1).all (fun k => mOk (293 + k)) = true := by decide +kernel
set_option maxRecDepth 100000 in
theorem mokg_294 : (List.range 2).all (fun k => mOk (294 + k)) = true := by decide +kernel
set_option maxRecDepth 100000 in
theorem mokg_296 : (List.range 1).all (fun k => mOk (296 + k)) = true := by decide +kernel
set_option maxRecDepth 100000 in
theorem mokg_297 : (List.range 1).all (fun k => mOk (297 + k)) = true := by decide +kernel
set_option maxRecDepth 100000 in
theorem mokp_298_0 : ((mzip 298).drop 0 |>.take 68).all (fun q => eOk 298 q.1 q.2) = true := by decide +kernel
