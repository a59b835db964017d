/-! The check of the methods -/
set_option maxRecDepth 100000 in
theorem mokp_183_61 : ((mzip 183).drop 61 |>.take 47).all (fun q => eOk 183 q.1 q.2) = true := by decide +kernel
set_option maxRecDepth 100000 in
theorem mokp_183_108 : ((mzip 183).drop 108 |>.take 40).all (fun q => eOk 183 q.1 q.2) = true := by decide +kernel
set_option maxRecDepth 100000 in
theorem mokp_183_148 : ((mzip 183).drop 148 |>.take 35).all (fun q => eOk 183 q.1 q.2) = true := by decide +kernel
set_option maxRecDepth 100000 in
theorem mokp_183_183 : ((mzip 183).drop 183 |>.take 14).all (fun q => eOk 183 q.1 q.2) = true := by decide +kernel
set_option maxRecDepth 100000 in
theorem mokr_183 : mrest 183 = true := by decide +kernel
set_option maxRecDepth 100000 in
theorem mokl_183 : (mzip 183).length = 197 := by decide +kernel
theorem mokw_183 : mOk 183 = true := mk_join mokr_183 (mk_cut (n := 61) mokp_183_0 (mk_cut (n := 47) mokp_183_61 (mk_cut (n := 40) mokp_183_108 (mk_cut (n := 35) mokp_183_148 (mk_cut (n := 14) mokp_183_183 (mk_end mokl_183))))))
set_option maxRecDepth 100000 in
theorem mokg_184 : (List.range 4).all (fun k => mOk (184 + k)) = true := by decide +kernel
set_option maxRecDepth 100000 in
theorem mokg_188 : (List.range 1).all (fun k => mOk (188 + k)) = true := by decide +kernel
set_option maxRecDepth 100000 in
theorem mokp_189_0 : ((mzip 189).drop 0 |>.take 49).all (fun q => eOk 189 q.1 q.2) = true := by decide +kernel
set_option maxRecDepth 100000 in
theorem mokp_189_49 : ((mzip 189).drop 49 |>.take 46).all (fun q => eOk 189 q.1 q.2) = true := by decide +kernel
set_option maxRecDepth 100000 in
theorem mokp_189_95 : ((mzip 189).drop 95 |>.take 19).all (fun q => eOk 189 q.1 q.2) = true := by decide +kernel
set_option maxRecDepth 100000 in
theorem mokr_189 : mrest 189 = true := by decide +kernel
set_option maxRecDepth 100000 in
theorem mokl_189 : (mzip 189).length = 114 := by decide +kernel
theorem mokw_189 : mOk 189 = true := mk_join mokr_189 (mk_cut (n := 49) mokp_189_0 (mk_cut (n := 46) mokp_189_49 (mk_cut (n := 19) mokp_189_95 (mk_end mokl_189))))
set_option maxRecDepth 100000 in
theorem mokp_190_0 : ((mzip 190).drop 0 |>.take 73).all (fun q => eOk 190 q.1 q.2) = true := by decide +kernel
set_option maxRecDepth 100000 in
theorem mokp_190_73 : ((mzip 190).drop 73 |>.take 12).all (fun q => eOk 190 q.1 q.2) = true := by decide +kernel
set_option maxRecDepth 100000 in
theorem mokr_190 : mrest 190 = true := by decide +kernel
set_option maxRecDepth 100000 in
theorem mokl_190 : (mzip 190).length = 85 := by decide +kernel
theorem mokw_190 : mOk 190 = true := mk_join mokr_190 (mk_cut (n := 73) mokp_190_0 (mk_cut (n := 12) mokp_190_73 (mk_end mokl_190)))
set_option maxRecDepth 100000 in
theorem mokp_191_0 : ((mzip 191).drop 0 |>.take 64).all (fun q => eOk 191 q.1 q.2) = true := by decide +kernel
set_option maxRecDepth 100000 in
theorem mokp_191_64 : ((mzip 191).drop 64 |>.take 3).all (fun q => eOk 191 q.1 q.2) = true := by decide +kernel
set_option maxRecDepth 100000 in
theorem mokr_191 : mrest 191 = true := by decide +kernel
set_option maxRecDepth 100000 in
theorem mokl_191 : (mzip 191).length = 67 := by decide +kernel
theorem mokw_191 : mOk 191 = true := mk_join mokr_191 (mk_cut (n := 64) mokp_191_0 (mk_cut (n := 3) mokp_191_64 (mk_end mokl_191)))
set_option maxRecDepth 100000 in
theorem mokg_192 : (List.range 5).all (fun k => mOk (192 + k)) = true := by decide +kernel
set_option maxRecDepth 100000 in
theorem mokg_197 : (List.range 2).all (fun k => mOk (197 + k)) = true := by decide +kernel
set_option maxRecDepth 100000 in
theorem mokg_199 : (List.range 3).all (fun k => mOk (199 + k)) = true := by decide +kernel
set_option maxRecDepth 100000 in
theorem mokg_202 : (List.range 2).all (fun k => mOk (202 + k)) = true := by decide +kernel
set_option maxRecDepth 100000 in
theorem mokg_204 : (List.range 1).all (fun k => mOk (204 + k)) = true := by decide +kernel
set_option maxRecDepth 100000 in
theorem mokp_205_0 : ((mzip 205).drop 0 |>.take 51).all (fun q => eOk 205 q.1 q.2) = true := by decide +kernel
set_option maxRecDepth 100000 in
theorem mokp_205_51 : ((mzip 205).drop 51 |>.take 21).all (fun q => eOk 205 q.1 q.2) = true := by decide +kernel
set_option maxRecDepth 100000 in
theorem mokp_205_72 : ((mzip 205).drop 72 |>.take 36).all (fun q => eOk 205 q.1 q.2) = true := by decide +kernel
set_option maxRecDepth 100000 in
theorem mokp_205_108 : ((mzip 205).drop 108 |>.take 33).all (fun q => eOk 205 q.1 q.2) = true := by decide +kernel
set_option maxRecDepth 100000 in
theorem mokp_205_141 : ((mzip 205).drop 141 |>.take 24).all (fun q => eOk 205 q.1 q.2) = true := by decide +kernel
set_option maxRecDepth 100000 in
theorem mokp_205_165 : ((mzip 205).drop 165 |>.take 19).all (fun q => eOk 205 q.1 q.2) = true := by decide +kernel
set_option maxRecDepth 100000 in
theorem mokr_205 : mrest 205 = true := by decide +kernel
set_option maxRecDepth 100000 in
theorem mokl_205 : (mzip 205).length = 184 := by decide +kernel
theorem mokw_205 : mOk 205 = true := mk_join mokr_205 (mk_cut (n := 51) mokp_205_0 (mk_cut (n := 21) mokp_205_51 (mk_cut (n := 36) mokp_205_72 (mk_cut (n := 33) mokp_205_108 (mk_cut (n := 24) mokp_205_141 (mk_cut (n := 19) mokp_205_165 (mk_end mokl_205)))))))
set_option maxRecDepth 100000 in
theorem mokg_206 : (List.range 1).all (fun k => mOk (206 + k)) = true := by decide +kernel
