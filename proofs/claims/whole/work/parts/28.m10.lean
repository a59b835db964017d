/-! The check of the methods -/
set_option maxRecDepth 100000 in
theorem mokp_298_68 : ((mzip 298).drop 68 |>.take 7).all (fun q => eOk 298 q.1 q.2) = true := by decide +kernel
set_option maxRecDepth 100000 in
theorem mokr_298 : mrest 298 = true := by decide +kernel
set_option maxRecDepth 100000 in
theorem mokl_298 : (mzip 298).length = 75 := by decide +kernel
theorem mokw_298 : mOk 298 = true := mk_join mokr_298 (mk_cut (n := 68) mokp_298_0 (mk_cut (n := 7) mokp_298_68 (mk_end mokl_298)))
set_option maxRecDepth 100000 in
theorem mokg_299 : (List.range 1).all (fun k => mOk (299 + k)) = true := by decide +kernel
set_option maxRecDepth 100000 in
theorem mokg_300 : (List.range 2).all (fun k => mOk (300 + k)) = true := by decide +kernel
set_option maxRecDepth 100000 in
theorem mokg_302 : (List.range 1).all (fun k => mOk (302 + k)) = true := by decide +kernel
set_option maxRecDepth 100000 in
theorem mokg_303 : (List.range 1).all (fun k => mOk (303 + k)) = true := by decide +kernel
set_option maxRecDepth 100000 in
theorem mokg_304 : (List.range 3).all (fun k => mOk (304 + k)) = true := by decide +kernel
set_option maxRecDepth 100000 in
theorem mokg_307 : (List.range 1).all (fun k => mOk (307 + k)) = true := by decide +kernel
set_option maxRecDepth 100000 in
theorem mokg_308 : (List.range 1).all (fun k => mOk (308 + k)) = true := by decide +kernel
set_option maxRecDepth 100000 in
theorem mokg_309 : (List.range 1).all (fun k => mOk (309 + k)) = true := by decide +kernel
set_option maxRecDepth 100000 in
theorem mokg_310 : (List.range 1).all (fun k => mOk (310 + k)) = true := by decide +kernel
set_option maxRecDepth 100000 in
theorem mokp_311_0 : ((mzip 311).drop 0 |>.take 74).all (fun q => eOk 311 q.1 q.2) = true := by decide +kernel
set_option maxRecDepth 100000 in
theorem mokp_311_74 : ((mzip 311).drop 74 |>.take 4).all (fun q => eOk 311 q.1 q.2) = true := by decide +kernel
set_option maxRecDepth 100000 in
theorem mokr_311 : mrest 311 = true := by decide +kernel
set_option maxRecDepth 100000 in
theorem mokl_311 : (mzip 311).length = 78 := by decide +kernel
theorem mokw_311 : mOk 311 = true := mk_join mokr_311 (mk_cut (n := 74) mokp_311_0 (mk_cut (n := 4) mokp_311_74 (mk_end mokl_311)))
set_option maxRecDepth 100000 in
theorem mokg_312 : (List.range 1).all (fun k => mOk (312 + k)) = true := by decide +kernel
set_option maxRecDepth 100000 in
theorem mokg_313 : (List.range 1).all (fun k => mOk (313 + k)) = true := by decide +kernel
set_option maxRecDepth 100000 in
theorem mokg_314 : (List.range 3).all (fun k => mOk (314 + k)) = true := by decide +kernel
set_option maxRecDepth 100000 in
theorem mokp_317_0 : ((mzip 317).drop 0 |>.take 8).all (fun q => eOk 317 q.1 q.2) = true := by decide +kernel
set_option maxRecDepth 100000 in
theorem mokp_317_8 : ((mzip 317).drop 8 |>.take 62).all (fun q => eOk 317 q.1 q.2) = true := by decide +kernel
set_option maxRecDepth 100000 in
theorem mokp_317_70 : ((mzip 317).drop 70 |>.take 14).all (fun q => eOk 317 q.1 q.2) = true := by decide +kernel
set_option maxRecDepth 100000 in
theorem mokr_317 : mrest 317 = true := by decide +kernel
set_option maxRecDepth 100000 in
theorem mokl_317 : (mzip 317).length = 84 := by decide +kernel
theorem mokw_317 : mOk 317 = true := mk_join mokr_317 (mk_cut (n := 8) mokp_317_0 (mk_cut (n := 62) mokp_317_8 (mk_cut (n := 14) mokp_317_70 (mk_end mokl_317))))
set_option maxRecDepth 100000 in
theorem mokf_318 : mOkF 318 = true := by decide +kernel
set_option maxRecDepth 100000 in
theorem mokf_319 : mOkF 319 = true := by decide +kernel
set_option maxRecDepth 100000 in
theorem mokf_320 : mOkF 320 = true := by decide +kernel
set_option maxRecDepth 100000 in
theorem mokf_321 : mOkF 321 = true := by decide +kernel
set_option maxRecDepth 100000 in
theorem mokf_322 : mOkF 322 = true := by decide +kernel
set_option maxRecDepth 100000 in
theorem mokf_323 : mOkF 323 = true := by decide +kernel
set_option maxRecDepth 100000 in
theorem mokf_324 : mOkF 324 = true := by decide +kernel
set_option maxRecDepth 100000 in
theorem mokf_325 : mOkF 325 = true := by decide +kernel
set_option maxRecDepth 100000 in
theorem mokp_326_0 : ((mzip 326).drop 0 |>.take 24).all (fun q => eOk 326 q.1 q.2) = true := by decide +kernel
set_option maxRecDepth 100000 in
theorem mokp_326_24 : ((mzip 326).drop 24 |>.take 1).all (fun q => eOk 326 q.1 q.2) = true := by decide +kernel
set_option maxRecDepth 100000 in
theorem mokp_326_25 : ((mzip 326).drop 25 |>.take 52).all (fun q => eOk 326 q.1 q.2) = true := by decide +kernel
set_option maxRecDepth 100000 in
theorem mokp_326_77 : ((mzip 326).drop 77 |>.take 35).all (fun q => eOk 326 q.1 q.2) = true := by decide +kernel
set_option maxRecDepth 100000 in
theorem mokp_326_112 : ((mzip 326).drop 112 |>.take 33).all (fun q => eOk 326 q.1 q.2) = true := by decide +kernel
set_option maxRecDepth 100000 in
theorem mokp_326_145 : ((mzip 326).drop 145 |>.take 32).all (fun q => eOk 326 q.1 q.2) = true := by decide +kernel
