/-! The check of the methods -/
set_option maxRecDepth 100000 in
theorem mokp_207_0 : ((mzip 207).drop 0 |>.take 56).all (fun q => eOk 207 q.1 q.2) = true := by decide +kernel
set_option maxRecDepth 100000 in
theorem mokp_207_56 : ((mzip 207).drop 56 |>.take 24).all (fun q => eOk 207 q.1 q.2) = true := by decide +kernel
set_option maxRecDepth 100000 in
theorem mokr_207 : mrest 207 = true := by decide +kernel
set_option maxRecDepth 100000 in
theorem mokl_207 : (mzip 207).length = 80 := by decide +kernel
theorem mokw_207 : mOk 207 = true := mk_join mokr_207 (mk_cut (n := 56) mokp_207_0 (mk_cut (n := 24) mokp_207_56 (mk_end mokl_207)))
set_option maxRecDepth 100000 in
theorem mokg_208 : (List.range 1).all (fun k => mOk (208 + k)) = true := by decide +kernel
set_option maxRecDepth 100000 in
theorem mokp_209_0 : ((mzip 209).drop 0 |>.take 61).all (fun q => eOk 209 q.1 q.2) = true := by decide +kernel
set_option maxRecDepth 100000 in
theorem mokp_209_61 : ((mzip 209).drop 61 |>.take 11).all (fun q => eOk 209 q.1 q.2) = true := by decide +kernel
set_option maxRecDepth 100000 in
theorem mokr_209 : mrest 209 = true := by decide +kernel
set_option maxRecDepth 100000 in
theorem mokl_209 : (mzip 209).length = 72 := by decide +kernel
theorem mokw_209 : mOk 209 = true := mk_join mokr_209 (mk_cut (n := 61) mokp_209_0 (mk_cut (n := 11) mokp_209_61 (mk_end mokl_209)))
set_option maxRecDepth 100000 in
theorem mokg_210 : (List.range 2).all (fun k => mOk (210 + k)) = true := by decide +kernel
set_option maxRecDepth 100000 in
theorem mokg_212 : (List.range 1).all (fun k => mOk (212 + k)) = true := by decide +kernel
set_option maxRecDepth 100000 in
theorem mokg_213 : (List.range 1).all (fun k => mOk (213 + k)) = true := by decide +kernel
set_option maxRecDepth 100000 in
theorem mokp_214_0 : ((mzip 214).drop 0 |>.take 47).all (fun q => eOk 214 q.1 q.2) = true := by decide +kernel
set_option maxRecDepth 100000 in
theorem mokp_214_47 : ((mzip 214).drop 47 |>.take 8).all (fun q => eOk 214 q.1 q.2) = true := by decide +kernel
set_option maxRecDepth 100000 in
theorem mokr_214 : mrest 214 = true := by decide +kernel
set_option maxRecDepth 100000 in
theorem mokl_214 : (mzip 214).length = 55 := by decide +kernel
theorem mokw_214 : mOk 214 = true := mk_join mokr_214 (mk_cut (n := 47) mokp_214_0 (mk_cut (n := 8) mokp_214_47 (mk_end mokl_214)))
set_option maxRecDepth 100000 in
theorem mokg_215 : (List.range 1).all (fun k => mOk (215 + k)) = true := by decide +kernel
set_option maxRecDepth 100000 in
theorem mokg_216 : (List.range 1).all (fun k => mOk (216 + k)) = true := by decide +kernel
set_option maxRecDepth 100000 in
theorem mokp_217_0 : ((mzip 217).drop 0 |>.take 50).all (fun q => eOk 217 q.1 q.2) = true := by decide +kernel
set_option maxRecDepth 100000 in
theorem mokp_217_50 : ((mzip 217).drop 50 |>.take 49).all (fun q => eOk 217 q.1 q.2) = true := by decide +kernel
set_option maxRecDepth 100000 in
theorem mokp_217_99 : ((mzip 217).drop 99 |>.take 4).all (fun q => eOk 217 q.1 q.2) = true := by decide +kernel
set_option maxRecDepth 100000 in
theorem mokr_217 : mrest 217 = true := by decide +kernel
set_option maxRecDepth 100000 in
theorem mokl_217 : (mzip 217).length = 103 := by decide +kernel
theorem mokw_217 : mOk 217 = true := mk_join mokr_217 (mk_cut (n := 50) mokp_217_0 (mk_cut (n := 49) mokp_217_50 (mk_cut (n := 4) mokp_217_99 (mk_end mokl_217))))
set_option maxRecDepth 100000 in
theorem mokg_218 : (List.range 1).all (fun k => mOk (218 + k)) = true := by decide +kernel
set_option maxRecDepth 100000 in
theorem mokp_219_0 : ((mzip 219).drop 0 |>.take 73).all (fun q => eOk 219 q.1 q.2) = true := by decide +kernel
set_option maxRecDepth 100000 in
theorem mokp_219_73 : ((mzip 219).drop 73 |>.take 37).all (fun q => eOk 219 q.1 q.2) = true := by decide +kernel
set_option maxRecDepth 100000 in
theorem mokp_219_110 : ((mzip 219).drop 110 |>.take 29).all (fun q => eOk 219 q.1 q.2) = true := by decide +kernel
set_option maxRecDepth 100000 in
theorem mokp_219_139 : ((mzip 219).drop 139 |>.take 7).all (fun q => eOk 219 q.1 q.2) = true := by decide +kernel
set_option maxRecDepth 100000 in
theorem mokr_219 : mrest 219 = true := by decide +kernel
set_option maxRecDepth 100000 in
theorem mokl_219 : (mzip 219).length = 146 := by decide +kernel
theorem mokw_219 : mOk 219 = true := mk_join mokr_219 (mk_cut (n := 73) mokp_219_0 (mk_cut (n := 37) mokp_219_73 (mk_cut (n := 29) mokp_219_110 (mk_cut (n := 7) mokp_219_139 (mk_end mokl_219)))))
set_option maxRecDepth 100000 in
theorem mokg_220 : (List.range 3).all (fun k => mOk (220 + k)) = true := by decide +kernel
set_option maxRecDepth 100000 in
theorem mokp_223_0 : ((mzip 223).drop 0 |>.take 43).all (fun q => eOk 223 q.1 q.2) = true := by decide +kernel
set_option maxRecDepth 100000 in
theorem mokp_223_43 : ((mzip 223).drop 43 |>.take 17).all (fun q => eOk 223 q.1 q.2) = true := by decide +kernel
set_option maxRecDepth 100000 in
theorem mokp_223_60 : ((mzip 223).drop 60 |>.take 47).all (fun q => eOk 223 q.1 q.2) = true := by decide +kernel
set_option maxRecDepth 100000 in
theorem mokp_223_107 : ((mzip 223).drop 107 |>.take 37).all (fun q => eOk 223 q.1 q.2) = true := by decide +kernel
set_option maxRecDepth 100000 in
theorem mokp_223_144 : ((mzip 223).drop 144 |>.take 36).all (fun q => eOk 223 q.1 q.2) = true := by decide +kernel
set_option maxRecDepth 100000 in
theorem mokp_223_180 : ((mzip 223).drop 180 |>.take 11).all (fun q => eOk 223 q.1 q.2) = true := by decide +kernel
set_option maxRecDepth 100000 in
theorem mokr_223 : mrest 223 = true := by decide +kernel
set_option maxRecDepth 100000 in
theorem mokl_223 : (mzip 223).length = 191 := by decide +kernel
theorem mokw_223 : mOk 223 = true := mk_join mokr_223 (mk_cut (n := 43) mokp_223_0 (mk_cut (n := 17) mokp_223_43 (mk_cut (n := 47) mokp_223_60 (mk_cut (n := 37) mokp_223_107 (mk_cut (n := 36) mokp_223_144 (mk_cut (n := 11) mokp_223_180 (mk_end mokl_223)))))))
