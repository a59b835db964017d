/-! The check of the methods -/
set_option maxRecDepth 100000 in
theorem mokg_224 : (List.range 2).all (fun k => mOk (224 + k)) = true := by decide +kernel
set_option maxRecDepth 100000 in
theorem mokg_226 : (List.range 1).all (fun k => mOk (226 + k)) = true := by decide +kernel
set_option maxRecDepth 100000 in
theorem mokg_227 : (List.range 1).all (fun k => mOk (227 + k)) = true := by decide +kernel
set_option maxRecDepth 100000 in
theorem mokg_228 : (List.range 1).all (fun k => mOk (228 + k)) = true := by decide +kernel
set_option maxRecDepth 100000 in
theorem mokp_229_0 : ((mzip 229).drop 0 |>.take 78).all (fun q => eOk 229 q.1 q.2) = true := by decide +kernel
set_option maxRecDepth 100000 in
theorem mokp_229_78 : ((mzip 229).drop 78 |>.take 42).all (fun q => eOk 229 q.1 q.2) = true := by decide +kernel
set_option maxRecDepth 100000 in
theorem mokr_229 : mrest 229 = true := by decide +kernel
set_option maxRecDepth 100000 in
theorem mokl_229 : (mzip 229).length = 120 := by decide +kernel
theorem mokw_229 : mOk 229 = true := mk_join mokr_229 (mk_cut (n := 78) mokp_229_0 (mk_cut (n := 42) mokp_229_78 (mk_end mokl_229)))
set_option maxRecDepth 100000 in
theorem mokg_230 : (List.range 6).all (fun k => mOk (230 + k)) = true := by decide +kernel
set_option maxRecDepth 100000 in
theorem mokg_236 : (List.range 3).all (fun k => mOk (236 + k)) = true := by decide +kernel
set_option maxRecDepth 100000 in
theorem mokg_239 : (List.range 2).all (fun k => mOk (239 + k)) = true := by decide +kernel
set_option maxRecDepth 100000 in
theorem mokg_241 : (List.range 2).all (fun k => mOk (241 + k)) = true := by decide +kernel
set_option maxRecDepth 100000 in
theorem mokg_243 : (List.range 2).all (fun k => mOk (243 + k)) = true := by decide +kernel
set_option maxRecDepth 100000 in
theorem mokg_245 : (List.range 1).all (fun k => mOk (245 + k)) = true := by decide +kernel
set_option maxRecDepth 100000 in
theorem mokp_246_0 : ((mzip 246).drop 0 |>.take 59).all (fun q => eOk 246 q.1 q.2) = true := by decide +kernel
set_option maxRecDepth 100000 in
theorem mokp_246_59 : ((mzip 246).drop 59 |>.take 48).all (fun q => eOk 246 q.1 q.2) = true := by decide +kernel
set_option maxRecDepth 100000 in
theorem mokp_246_107 : ((mzip 246).drop 107 |>.take 2).all (fun q => eOk 246 q.1 q.2) = true := by decide +kernel
set_option maxRecDepth 100000 in
theorem mokr_246 : mrest 246 = true := by decide +kernel
set_option maxRecDepth 100000 in
theorem mokl_246 : (mzip 246).length = 109 := by decide +kernel
theorem mokw_246 : mOk 246 = true := mk_join mokr_246 (mk_cut (n := 59) mokp_246_0 (mk_cut (n := 48) mokp_246_59 (mk_cut (n := 2) mokp_246_107 (mk_end mokl_246))))
set_option maxRecDepth 100000 in
theorem mokg_247 : (List.range 1).all (fun k => mOk (247 + k)) = true := by decide +kernel
set_option maxRecDepth 100000 in
theorem mokg_248 : (List.range 2).all (fun k => mOk (248 + k)) = true := by decide +kernel
set_option maxRecDepth 100000 in
theorem mokg_250 : (List.range 1).all (fun k => mOk (250 + k)) = true := by decide +kernel
set_option maxRecDepth 100000 in
theorem mokg_251 : (List.range 1).all (fun k => mOk (251 + k)) = true := by decide +kernel
set_option maxRecDepth 100000 in
theorem mokg_252 : (List.range 2).all (fun k => mOk (252 + k)) = true := by decide +kernel
set_option maxRecDepth 100000 in
theorem mokp_254_0 : ((mzip 254).drop 0 |>.take 49).all (fun q => eOk 254 q.1 q.2) = true := by decide +kernel
set_option maxRecDepth 100000 in
theorem mokp_254_49 : ((mzip 254).drop 49 |>.take 6).all (fun q => eOk 254 q.1 q.2) = true := by decide +kernel
set_option maxRecDepth 100000 in
theorem mokr_254 : mrest 254 = true := by decide +kernel
set_option maxRecDepth 100000 in
theorem mokl_254 : (mzip 254).length = 55 := by decide +kernel
theorem mokw_254 : mOk 254 = true := mk_join mokr_254 (mk_cut (n := 49) mokp_254_0 (mk_cut (n := 6) mokp_254_49 (mk_end mokl_254)))
set_option maxRecDepth 100000 in
theorem mokg_255 : (List.range 3).all (fun k => mOk (255 + k)) = true := by decide +kernel
set_option maxRecDepth 100000 in
theorem mokg_258 : (List.range 1).all (fun k => mOk (258 + k)) = true := by decide +kernel
set_option maxRecDepth 100000 in
theorem mokg_259 : (List.range 2).all (fun k => mOk (259 + k)) = true := by decide +kernel
set_option maxRecDepth 100000 in
theorem mokg_261 : (List.range 2).all (fun k => mOk (261 + k)) = true := by decide +kernel
set_option maxRecDepth 100000 in
theorem mokg_263 : (List.range 1).all (fun k => mOk (263 + k)) = true := by decide +kernel
