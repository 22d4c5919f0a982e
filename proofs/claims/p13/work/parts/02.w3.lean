def q_wsX12_isLeft : List Nat := 6253 :: (([5264]) ++ (q_wsX120))
set_option maxRecDepth 100000 in
theorem e_wsX12_isLeft : q_wsX12_isLeft.map fe = wsX12_isLeft := ce fw_6253 (ca (ce fw_5264 (cn)) (e_wsX120))
def q_wsX12_leftAt : List Nat := 6268 :: (([5259, 5261, 32, 1038, 5262, 5264, 6250, 6252, 54, 6253]) ++ (q_wsX120))
set_option maxRecDepth 100000 in
theorem e_wsX12_leftAt : q_wsX12_leftAt.map fe = wsX12_leftAt := ce fw_6268 (ca (ce fw_5259 (ce fw_5261 (ce fw_32 (ce fw_1038 (ce fw_5262 (ce fw_5264 (ce fw_6250 (ce fw_6252 (ce fw_54 (ce fw_6253 (cn))))))))))) (e_wsX120))
def q_wsX12_fixedFrom : List Nat := 6272 :: (([5259, 5261, 32, 1038, 5262, 5264, 6254, 6256, 55, 6257, 6177, 6179, 42, 6180, 6181, 6183, 43, 6184]) ++ (q_wsX120))
set_option maxRecDepth 100000 in
theorem e_wsX12_fixedFrom : q_wsX12_fixedFrom.map fe = wsX12_fixedFrom := ce fw_6272 (ca (ce fw_5259 (ce fw_5261 (ce fw_32 (ce fw_1038 (ce fw_5262 (ce fw_5264 (ce fw_6254 (ce fw_6256 (ce fw_55 (ce fw_6257 (ce fw_6177 (ce fw_6179 (ce fw_42 (ce fw_6180 (ce fw_6181 (ce fw_6183 (ce fw_43 (ce fw_6184 (cn))))))))))))))))))) (e_wsX120))
def q_wsX12_hunted_r1 : List Nat := [5264, 6246, 6248, 53, 1038, 6249, 5259, 5261, 32, 5262, 6250, 6252, 54, 6253, 6254, 6256, 55, 6257, 6177, 6179, 42, 6180, 6181, 6183]
set_option maxRecDepth 100000 in
theorem e_wsX12_hunted_r1 : q_wsX12_hunted_r1.map fe = wsX12_hunted_r1 := ce fw_5264 (ce fw_6246 (ce fw_6248 (ce fw_53 (ce fw_1038 (ce fw_6249 (ce fw_5259 (ce fw_5261 (ce fw_32 (ce fw_5262 (ce fw_6250 (ce fw_6252 (ce fw_54 (ce fw_6253 (ce fw_6254 (ce fw_6256 (ce fw_55 (ce fw_6257 (ce fw_6177 (ce fw_6179 (ce fw_42 (ce fw_6180 (ce fw_6181 (ce fw_6183 (cn))))))))))))))))))))))))
def q_wsX12_hunted_r2 : List Nat := [43, 6184, 6258, 6260, 56, 6261, 6262, 6263, 6264, 5255, 5257, 31, 5258, 6265, 6267, 57, 6268, 6269, 6271, 58, 6272, 6185, 6187, 44]
set_option maxRecDepth 100000 in
theorem e_wsX12_hunted_r2 : q_wsX12_hunted_r2.map fe = wsX12_hunted_r2 := ce fw_43 (ce fw_6184 (ce fw_6258 (ce fw_6260 (ce fw_56 (ce fw_6261 (ce fw_6262 (ce fw_6263 (ce fw_6264 (ce fw_5255 (ce fw_5257 (ce fw_31 (ce fw_5258 (ce fw_6265 (ce fw_6267 (ce fw_57 (ce fw_6268 (ce fw_6269 (ce fw_6271 (ce fw_58 (ce fw_6272 (ce fw_6185 (ce fw_6187 (ce fw_44 (cn))))))))))))))))))))))))
def q_wsX12_hunted_r3 : List Nat := [6188, 6273, 6275, 59, 6276]
set_option maxRecDepth 100000 in
theorem e_wsX12_hunted_r3 : q_wsX12_hunted_r3.map fe = wsX12_hunted_r3 := ce fw_6188 (ce fw_6273 (ce fw_6275 (ce fw_59 (ce fw_6276 (cn)))))
def q_wsX12_hunted : List Nat := 6245 :: (((q_wsX12_hunted_r1) ++ ((q_wsX12_hunted_r2) ++ (q_wsX12_hunted_r3))) ++ (q_wsX120))
set_option maxRecDepth 100000 in
theorem e_wsX12_hunted : q_wsX12_hunted.map fe = wsX12_hunted := ce fw_6245 (ca (ca (e_wsX12_hunted_r1) (ca (e_wsX12_hunted_r2) (e_wsX12_hunted_r3))) (e_wsX120))
def q_wsX12_follows : List Nat := 6276 :: (([5264]) ++ (q_wsX120))
set_option maxRecDepth 100000 in
theorem e_wsX12_follows : q_wsX12_follows.map fe = wsX12_follows := ce fw_6276 (ca (ce fw_5264 (cn)) (e_wsX120))
def q_wsX12_checked : List Nat := 6284 :: (([5264, 6177, 6179, 42, 1038, 6180, 6181, 6183, 43, 6184, 6185, 6187, 44, 6188, 6189, 6191, 45, 6192, 5259, 5261, 32, 5262]) ++ (q_wsX120))
set_option maxRecDepth 100000 in
theorem e_wsX12_checked : q_wsX12_checked.map fe = wsX12_checked := ce fw_6284 (ca (ce fw_5264 (ce fw_6177 (ce fw_6179 (ce fw_42 (ce fw_1038 (ce fw_6180 (ce fw_6181 (ce fw_6183 (ce fw_43 (ce fw_6184 (ce fw_6185 (ce fw_6187 (ce fw_44 (ce fw_6188 (ce fw_6189 (ce fw_6191 (ce fw_45 (ce fw_6192 (ce fw_5259 (ce fw_5261 (ce fw_32 (ce fw_5262 (cn))))))))))))))))))))))) (e_wsX120))
def q_wsX12_verified_r1 : List Nat := [5264, 6254, 6256, 55, 1038, 6257, 6177, 6179, 42, 6180, 6181, 6183, 43, 6184, 5255, 5257, 31, 5258, 5259, 5261, 32, 5262, 6281, 6283]
set_option maxRecDepth 100000 in
theorem e_wsX12_verified_r1 : q_wsX12_verified_r1.map fe = wsX12_verified_r1 := ce fw_5264 (ce fw_6254 (ce fw_6256 (ce fw_55 (ce fw_1038 (ce fw_6257 (ce fw_6177 (ce fw_6179 (ce fw_42 (ce fw_6180 (ce fw_6181 (ce fw_6183 (ce fw_43 (ce fw_6184 (ce fw_5255 (ce fw_5257 (ce fw_31 (ce fw_5258 (ce fw_5259 (ce fw_5261 (ce fw_32 (ce fw_5262 (ce fw_6281 (ce fw_6283 (cn))))))))))))))))))))))))
def q_wsX12_verified_r2 : List Nat := [61, 6284, 6185, 6187, 44, 6188, 6189, 6191, 45, 6192, 6273, 6275, 59, 6276]
set_option maxRecDepth 100000 in
theorem e_wsX12_verified_r2 : q_wsX12_verified_r2.map fe = wsX12_verified_r2 := ce fw_61 (ce fw_6284 (ce fw_6185 (ce fw_6187 (ce fw_44 (ce fw_6188 (ce fw_6189 (ce fw_6191 (ce fw_45 (ce fw_6192 (ce fw_6273 (ce fw_6275 (ce fw_59 (ce fw_6276 (cn))))))))))))))
def q_wsX12_verified : List Nat := 6280 :: (((q_wsX12_verified_r1) ++ (q_wsX12_verified_r2)) ++ (q_wsX120))
set_option maxRecDepth 100000 in
theorem e_wsX12_verified : q_wsX12_verified.map fe = wsX12_verified := ce fw_6280 (ca (ca (e_wsX12_verified_r1) (e_wsX12_verified_r2)) (e_wsX120))
def q_wsX12_framed : List Nat := 6296 :: (([5264, 6297, 6299, 65, 1038, 6300]) ++ (q_wsX120))
set_option maxRecDepth 100000 in
theorem e_wsX12_framed : q_wsX12_framed.map fe = wsX12_framed := ce fw_6296 (ca (ce fw_5264 (ce fw_6297 (ce fw_6299 (ce fw_65 (ce fw_1038 (ce fw_6300 (cn))))))) (e_wsX120))
def q_wsX12_stores : List Nat := 6300 :: (([5264]) ++ (q_wsX120))
set_option maxRecDepth 100000 in
theorem e_wsX12_stores : q_wsX12_stores.map fe = wsX12_stores := ce fw_6300 (ca (ce fw_5264 (cn)) (e_wsX120))
def q_wsX12_locked_r1 : List Nat := [5264, 6254, 6256, 55, 1038, 6257, 6177, 6179, 42, 6180, 6181, 6183, 43, 6184, 6150, 6151, 6152, 6262, 6263, 6264, 5255, 5257, 31, 5258]
set_option maxRecDepth 100000 in
theorem e_wsX12_locked_r1 : q_wsX12_locked_r1.map fe = wsX12_locked_r1 := ce fw_5264 (ce fw_6254 (ce fw_6256 (ce fw_55 (ce fw_1038 (ce fw_6257 (ce fw_6177 (ce fw_6179 (ce fw_42 (ce fw_6180 (ce fw_6181 (ce fw_6183 (ce fw_43 (ce fw_6184 (ce fw_6150 (ce fw_6151 (ce fw_6152 (ce fw_6262 (ce fw_6263 (ce fw_6264 (ce fw_5255 (ce fw_5257 (ce fw_31 (ce fw_5258 (cn))))))))))))))))))))))))
def q_wsX12_locked_r2 : List Nat := [5259, 5261, 32, 5262, 6281, 6283, 61, 6284, 6185, 6187, 44, 6188, 6189, 6191, 45, 6192, 6289, 6291, 63, 6292, 6293, 6295, 64, 6296]
set_option maxRecDepth 100000 in
theorem e_wsX12_locked_r2 : q_wsX12_locked_r2.map fe = wsX12_locked_r2 := ce fw_5259 (ce fw_5261 (ce fw_32 (ce fw_5262 (ce fw_6281 (ce fw_6283 (ce fw_61 (ce fw_6284 (ce fw_6185 (ce fw_6187 (ce fw_44 (ce fw_6188 (ce fw_6189 (ce fw_6191 (ce fw_45 (ce fw_6192 (ce fw_6289 (ce fw_6291 (ce fw_63 (ce fw_6292 (ce fw_6293 (ce fw_6295 (ce fw_64 (ce fw_6296 (cn))))))))))))))))))))))))
def q_wsX12_locked_r3 : List Nat := [6297, 6299, 65, 6300]
set_option maxRecDepth 100000 in
theorem e_wsX12_locked_r3 : q_wsX12_locked_r3.map fe = wsX12_locked_r3 := ce fw_6297 (ce fw_6299 (ce fw_65 (ce fw_6300 (cn))))
def q_wsX12_locked : List Nat := 6288 :: (((q_wsX12_locked_r1) ++ ((q_wsX12_locked_r2) ++ (q_wsX12_locked_r3))) ++ (q_wsX120))
set_option maxRecDepth 100000 in
theorem e_wsX12_locked : q_wsX12_locked.map fe = wsX12_locked := ce fw_6288 (ca (ca (e_wsX12_locked_r1) (ca (e_wsX12_locked_r2) (e_wsX12_locked_r3))) (e_wsX120))
def q_wsX12_linkHears : List Nat := 6292 :: (([5264]) ++ (q_wsX120))
set_option maxRecDepth 100000 in
theorem e_wsX12_linkHears : q_wsX12_linkHears.map fe = wsX12_linkHears := ce fw_6292 (ca (ce fw_5264 (cn)) (e_wsX120))
def q_wsX12_ticks : List Nat := 6304 :: (([5264, 6305, 6307, 67, 1038, 6308, 6309, 6311, 68, 6312, 6313, 6315, 69, 6316, 6150, 6151, 6152]) ++ (q_wsX120))
set_option maxRecDepth 100000 in
theorem e_wsX12_ticks : q_wsX12_ticks.map fe = wsX12_ticks := ce fw_6304 (ca (ce fw_5264 (ce fw_6305 (ce fw_6307 (ce fw_67 (ce fw_1038 (ce fw_6308 (ce fw_6309 (ce fw_6311 (ce fw_68 (ce fw_6312 (ce fw_6313 (ce fw_6315 (ce fw_69 (ce fw_6316 (ce fw_6150 (ce fw_6151 (ce fw_6152 (cn)))))))))))))))))) (e_wsX120))
def q_wsX12_signals : List Nat := 6308 :: (([5264, 6309, 6311, 68, 1038, 6312, 6313, 6315, 69, 6316, 6150, 6151, 6152]) ++ (q_wsX120))
set_option maxRecDepth 100000 in
theorem e_wsX12_signals : q_wsX12_signals.map fe = wsX12_signals := ce fw_6308 (ca (ce fw_5264 (ce fw_6309 (ce fw_6311 (ce fw_68 (ce fw_1038 (ce fw_6312 (ce fw_6313 (ce fw_6315 (ce fw_69 (ce fw_6316 (ce fw_6150 (ce fw_6151 (ce fw_6152 (cn)))))))))))))) (e_wsX120))
def q_wsX12_channels : List Nat := 6312 :: (([5264]) ++ (q_wsX120))
set_option maxRecDepth 100000 in
theorem e_wsX12_channels : q_wsX12_channels.map fe = wsX12_channels := ce fw_6312 (ca (ce fw_5264 (cn)) (e_wsX120))
def q_wsX12_bitOf : List Nat := 6316 :: (([5264]) ++ (q_wsX120))
set_option maxRecDepth 100000 in
theorem e_wsX12_bitOf : q_wsX12_bitOf.map fe = wsX12_bitOf := ce fw_6316 (ca (ce fw_5264 (cn)) (e_wsX120))
def q_wsX12_hears_r1 : List Nat := [5264, 6242, 6244, 52, 1038, 6245, 6246, 6248, 53, 6249, 5259, 5261, 32, 5262, 6250, 6252, 54, 6253, 6254, 6256, 55, 6257, 6177, 6179]
set_option maxRecDepth 100000 in
theorem e_wsX12_hears_r1 : q_wsX12_hears_r1.map fe = wsX12_hears_r1 := ce fw_5264 (ce fw_6242 (ce fw_6244 (ce fw_52 (ce fw_1038 (ce fw_6245 (ce fw_6246 (ce fw_6248 (ce fw_53 (ce fw_6249 (ce fw_5259 (ce fw_5261 (ce fw_32 (ce fw_5262 (ce fw_6250 (ce fw_6252 (ce fw_54 (ce fw_6253 (ce fw_6254 (ce fw_6256 (ce fw_55 (ce fw_6257 (ce fw_6177 (ce fw_6179 (cn))))))))))))))))))))))))
def q_wsX12_hears_r2 : List Nat := [42, 6180, 6181, 6183, 43, 6184, 6258, 6260, 56, 6261, 6262, 6263, 6264, 5255, 5257, 31, 5258, 6265, 6267, 57, 6268, 6269, 6271, 58]
set_option maxRecDepth 100000 in
theorem e_wsX12_hears_r2 : q_wsX12_hears_r2.map fe = wsX12_hears_r2 := ce fw_42 (ce fw_6180 (ce fw_6181 (ce fw_6183 (ce fw_43 (ce fw_6184 (ce fw_6258 (ce fw_6260 (ce fw_56 (ce fw_6261 (ce fw_6262 (ce fw_6263 (ce fw_6264 (ce fw_5255 (ce fw_5257 (ce fw_31 (ce fw_5258 (ce fw_6265 (ce fw_6267 (ce fw_57 (ce fw_6268 (ce fw_6269 (ce fw_6271 (ce fw_58 (cn))))))))))))))))))))))))
def q_wsX12_hears_r3 : List Nat := [6272, 6185, 6187, 44, 6188, 6273, 6275, 59, 6276, 6277, 6279, 60, 6280, 6281, 6283, 61, 6284, 6189, 6191, 45, 6192, 6285, 6287, 62]
set_option maxRecDepth 100000 in
theorem e_wsX12_hears_r3 : q_wsX12_hears_r3.map fe = wsX12_hears_r3 := ce fw_6272 (ce fw_6185 (ce fw_6187 (ce fw_44 (ce fw_6188 (ce fw_6273 (ce fw_6275 (ce fw_59 (ce fw_6276 (ce fw_6277 (ce fw_6279 (ce fw_60 (ce fw_6280 (ce fw_6281 (ce fw_6283 (ce fw_61 (ce fw_6284 (ce fw_6189 (ce fw_6191 (ce fw_45 (ce fw_6192 (ce fw_6285 (ce fw_6287 (ce fw_62 (cn))))))))))))))))))))))))
def q_wsX12_hears_r4 : List Nat := [6288, 6150, 6151, 6152, 6289, 6291, 63, 6292, 6293, 6295, 64, 6296, 6297, 6299, 65, 6300, 6301, 6303, 66, 6304, 6305, 6307, 67, 6308]
set_option maxRecDepth 100000 in
theorem e_wsX12_hears_r4 : q_wsX12_hears_r4.map fe = wsX12_hears_r4 := ce fw_6288 (ce fw_6150 (ce fw_6151 (ce fw_6152 (ce fw_6289 (ce fw_6291 (ce fw_63 (ce fw_6292 (ce fw_6293 (ce fw_6295 (ce fw_64 (ce fw_6296 (ce fw_6297 (ce fw_6299 (ce fw_65 (ce fw_6300 (ce fw_6301 (ce fw_6303 (ce fw_66 (ce fw_6304 (ce fw_6305 (ce fw_6307 (ce fw_67 (ce fw_6308 (cn))))))))))))))))))))))))
def q_wsX12_hears_r5 : List Nat := [6309, 6311, 68, 6312, 6313, 6315, 69, 6316]
set_option maxRecDepth 100000 in
theorem e_wsX12_hears_r5 : q_wsX12_hears_r5.map fe = wsX12_hears_r5 := ce fw_6309 (ce fw_6311 (ce fw_68 (ce fw_6312 (ce fw_6313 (ce fw_6315 (ce fw_69 (ce fw_6316 (cn))))))))
def q_wsX12_hears : List Nat := 6241 :: (((q_wsX12_hears_r1) ++ ((q_wsX12_hears_r2) ++ ((q_wsX12_hears_r3) ++ ((q_wsX12_hears_r4) ++ (q_wsX12_hears_r5))))) ++ (q_wsX120))
set_option maxRecDepth 100000 in
theorem e_wsX12_hears : q_wsX12_hears.map fe = wsX12_hears := ce fw_6241 (ca (ca (e_wsX12_hears_r1) (ca (e_wsX12_hears_r2) (ca (e_wsX12_hears_r3) (ca (e_wsX12_hears_r4) (e_wsX12_hears_r5))))) (e_wsX120))
def q_wsX12_say : List Nat := 6196 :: (([5263, 5264, 5342, 5343, 1038, 5344, 6197, 6199, 46, 6200, 5270, 5268, 5269, 5265]) ++ (q_wsX120))
set_option maxRecDepth 100000 in
theorem e_wsX12_say : q_wsX12_say.map fe = wsX12_say := ce fw_6196 (ca (ce fw_5263 (ce fw_5264 (ce fw_5342 (ce fw_5343 (ce fw_1038 (ce fw_5344 (ce fw_6197 (ce fw_6199 (ce fw_46 (ce fw_6200 (ce fw_5270 (ce fw_5268 (ce fw_5269 (ce fw_5265 (cn))))))))))))))) (e_wsX120))
def q_wsX12_keeps : List Nat := 6200 :: (([5270, 5268, 5269, 5264, 5265]) ++ (q_wsX120))
set_option maxRecDepth 100000 in
theorem e_wsX12_keeps : q_wsX12_keeps.map fe = wsX12_keeps := ce fw_6200 (ca (ce fw_5270 (ce fw_5268 (ce fw_5269 (ce fw_5264 (ce fw_5265 (cn)))))) (e_wsX120))
def q_wsX12_send_r1 : List Nat := [5263, 5264, 5342, 5343, 1038, 5344, 5259, 5261, 32, 5262, 6197, 6199, 46, 6200, 5270, 5268, 5269, 5265, 6205, 6207, 47, 6208, 5281, 6209]
set_option maxRecDepth 100000 in
theorem e_wsX12_send_r1 : q_wsX12_send_r1.map fe = wsX12_send_r1 := ce fw_5263 (ce fw_5264 (ce fw_5342 (ce fw_5343 (ce fw_1038 (ce fw_5344 (ce fw_5259 (ce fw_5261 (ce fw_32 (ce fw_5262 (ce fw_6197 (ce fw_6199 (ce fw_46 (ce fw_6200 (ce fw_5270 (ce fw_5268 (ce fw_5269 (ce fw_5265 (ce fw_6205 (ce fw_6207 (ce fw_47 (ce fw_6208 (ce fw_5281 (ce fw_6209 (cn))))))))))))))))))))))))
def q_wsX12_send_r2 : List Nat := [6211, 48, 6212, 6185, 6187, 44, 6188, 6181, 6183, 43, 6184, 6177, 6179, 42, 6180, 6213, 6215, 49, 6216, 6217, 6218, 6220, 50, 6221]
set_option maxRecDepth 100000 in
theorem e_wsX12_send_r2 : q_wsX12_send_r2.map fe = wsX12_send_r2 := ce fw_6211 (ce fw_48 (ce fw_6212 (ce fw_6185 (ce fw_6187 (ce fw_44 (ce fw_6188 (ce fw_6181 (ce fw_6183 (ce fw_43 (ce fw_6184 (ce fw_6177 (ce fw_6179 (ce fw_42 (ce fw_6180 (ce fw_6213 (ce fw_6215 (ce fw_49 (ce fw_6216 (ce fw_6217 (ce fw_6218 (ce fw_6220 (ce fw_50 (ce fw_6221 (cn))))))))))))))))))))))))
def q_wsX12_send_r3 : List Nat := [6189, 6191, 45, 6192]
set_option maxRecDepth 100000 in
theorem e_wsX12_send_r3 : q_wsX12_send_r3.map fe = wsX12_send_r3 := ce fw_6189 (ce fw_6191 (ce fw_45 (ce fw_6192 (cn))))
def q_wsX12_send : List Nat := 6204 :: (((q_wsX12_send_r1) ++ ((q_wsX12_send_r2) ++ (q_wsX12_send_r3))) ++ (q_wsX120))
set_option maxRecDepth 100000 in
theorem e_wsX12_send : q_wsX12_send.map fe = wsX12_send := ce fw_6204 (ca (ca (e_wsX12_send_r1) (ca (e_wsX12_send_r2) (e_wsX12_send_r3))) (e_wsX120))
def q_wsX12_turn : List Nat := 6225 :: (([5263, 5264, 5265, 5342, 5343, 1038, 5344, 6197, 6199, 46, 6200, 5270, 5268, 5269]) ++ (q_wsX120))
set_option maxRecDepth 100000 in
theorem e_wsX12_turn : q_wsX12_turn.map fe = wsX12_turn := ce fw_6225 (ca (ce fw_5263 (ce fw_5264 (ce fw_5265 (ce fw_5342 (ce fw_5343 (ce fw_1038 (ce fw_5344 (ce fw_6197 (ce fw_6199 (ce fw_46 (ce fw_6200 (ce fw_5270 (ce fw_5268 (ce fw_5269 (cn))))))))))))))) (e_wsX120))
def q_wsX12_lose : List Nat := 6229 :: (([5263, 5264, 5265, 5342, 5343, 1038, 5344, 6197, 6199, 46, 6200, 5270, 5268, 5269]) ++ (q_wsX120))
set_option maxRecDepth 100000 in
theorem e_wsX12_lose : q_wsX12_lose.map fe = wsX12_lose := ce fw_6229 (ca (ce fw_5263 (ce fw_5264 (ce fw_5265 (ce fw_5342 (ce fw_5343 (ce fw_1038 (ce fw_5344 (ce fw_6197 (ce fw_6199 (ce fw_46 (ce fw_6200 (ce fw_5270 (ce fw_5268 (ce fw_5269 (cn))))))))))))))) (e_wsX120))
def q_wsX12_put : List Nat := 6233 :: (([5263, 5264, 5265, 5342, 5343, 1038, 5344, 6197, 6199, 46, 6200, 5270, 5268, 5269]) ++ (q_wsX120))
set_option maxRecDepth 100000 in
theorem e_wsX12_put : q_wsX12_put.map fe = wsX12_put := ce fw_6233 (ca (ce fw_5263 (ce fw_5264 (ce fw_5265 (ce fw_5342 (ce fw_5343 (ce fw_1038 (ce fw_5344 (ce fw_6197 (ce fw_6199 (ce fw_46 (ce fw_6200 (ce fw_5270 (ce fw_5268 (ce fw_5269 (cn))))))))))))))) (e_wsX120))
def q_wsX12_hear_r1 : List Nat := [5263, 5264, 5265, 6150, 6151, 1038, 6152, 5342, 5343, 5344, 6197, 6199, 46, 6200, 5270, 5268, 5269, 6238, 6240, 51, 6241, 6242, 6244, 52]
set_option maxRecDepth 100000 in
theorem e_wsX12_hear_r1 : q_wsX12_hear_r1.map fe = wsX12_hear_r1 := ce fw_5263 (ce fw_5264 (ce fw_5265 (ce fw_6150 (ce fw_6151 (ce fw_1038 (ce fw_6152 (ce fw_5342 (ce fw_5343 (ce fw_5344 (ce fw_6197 (ce fw_6199 (ce fw_46 (ce fw_6200 (ce fw_5270 (ce fw_5268 (ce fw_5269 (ce fw_6238 (ce fw_6240 (ce fw_51 (ce fw_6241 (ce fw_6242 (ce fw_6244 (ce fw_52 (cn))))))))))))))))))))))))
def q_wsX12_hear_r2 : List Nat := [6245, 6246, 6248, 53, 6249, 5259, 5261, 32, 5262, 6250, 6252, 54, 6253, 6254, 6256, 55, 6257, 6177, 6179, 42, 6180, 6181, 6183, 43]
set_option maxRecDepth 100000 in
theorem e_wsX12_hear_r2 : q_wsX12_hear_r2.map fe = wsX12_hear_r2 := ce fw_6245 (ce fw_6246 (ce fw_6248 (ce fw_53 (ce fw_6249 (ce fw_5259 (ce fw_5261 (ce fw_32 (ce fw_5262 (ce fw_6250 (ce fw_6252 (ce fw_54 (ce fw_6253 (ce fw_6254 (ce fw_6256 (ce fw_55 (ce fw_6257 (ce fw_6177 (ce fw_6179 (ce fw_42 (ce fw_6180 (ce fw_6181 (ce fw_6183 (ce fw_43 (cn))))))))))))))))))))))))
def q_wsX12_hear_r3 : List Nat := [6184, 6258, 6260, 56, 6261, 6262, 6263, 6264, 5255, 5257, 31, 5258, 6265, 6267, 57, 6268, 6269, 6271, 58, 6272, 6185, 6187, 44, 6188]
set_option maxRecDepth 100000 in
theorem e_wsX12_hear_r3 : q_wsX12_hear_r3.map fe = wsX12_hear_r3 := ce fw_6184 (ce fw_6258 (ce fw_6260 (ce fw_56 (ce fw_6261 (ce fw_6262 (ce fw_6263 (ce fw_6264 (ce fw_5255 (ce fw_5257 (ce fw_31 (ce fw_5258 (ce fw_6265 (ce fw_6267 (ce fw_57 (ce fw_6268 (ce fw_6269 (ce fw_6271 (ce fw_58 (ce fw_6272 (ce fw_6185 (ce fw_6187 (ce fw_44 (ce fw_6188 (cn))))))))))))))))))))))))
def q_wsX12_hear_r4 : List Nat := [6273, 6275, 59, 6276, 6277, 6279, 60, 6280, 6281, 6283, 61, 6284, 6189, 6191, 45, 6192, 6285, 6287, 62, 6288, 6289, 6291, 63, 6292]
set_option maxRecDepth 100000 in
theorem e_wsX12_hear_r4 : q_wsX12_hear_r4.map fe = wsX12_hear_r4 := ce fw_6273 (ce fw_6275 (ce fw_59 (ce fw_6276 (ce fw_6277 (ce fw_6279 (ce fw_60 (ce fw_6280 (ce fw_6281 (ce fw_6283 (ce fw_61 (ce fw_6284 (ce fw_6189 (ce fw_6191 (ce fw_45 (ce fw_6192 (ce fw_6285 (ce fw_6287 (ce fw_62 (ce fw_6288 (ce fw_6289 (ce fw_6291 (ce fw_63 (ce fw_6292 (cn))))))))))))))))))))))))
def q_wsX12_hear_r5 : List Nat := [6293, 6295, 64, 6296, 6297, 6299, 65, 6300, 6301, 6303, 66, 6304, 6305, 6307, 67, 6308, 6309, 6311, 68, 6312, 6313, 6315, 69, 6316]
set_option maxRecDepth 100000 in
theorem e_wsX12_hear_r5 : q_wsX12_hear_r5.map fe = wsX12_hear_r5 := ce fw_6293 (ce fw_6295 (ce fw_64 (ce fw_6296 (ce fw_6297 (ce fw_6299 (ce fw_65 (ce fw_6300 (ce fw_6301 (ce fw_6303 (ce fw_66 (ce fw_6304 (ce fw_6305 (ce fw_6307 (ce fw_67 (ce fw_6308 (ce fw_6309 (ce fw_6311 (ce fw_68 (ce fw_6312 (ce fw_6313 (ce fw_6315 (ce fw_69 (ce fw_6316 (cn))))))))))))))))))))))))
def q_wsX12_hear : List Nat := 6237 :: (((q_wsX12_hear_r1) ++ ((q_wsX12_hear_r2) ++ ((q_wsX12_hear_r3) ++ ((q_wsX12_hear_r4) ++ (q_wsX12_hear_r5))))) ++ (q_wsX120))
set_option maxRecDepth 100000 in
theorem e_wsX12_hear : q_wsX12_hear.map fe = wsX12_hear := ce fw_6237 (ca (ca (e_wsX12_hear_r1) (ca (e_wsX12_hear_r2) (ca (e_wsX12_hear_r3) (ca (e_wsX12_hear_r4) (e_wsX12_hear_r5))))) (e_wsX120))
def q_wsX12_count : List Nat := 6324 :: (([5263, 5264, 5270, 6309, 6311, 68, 1038, 6312, 6185, 6187, 44, 6188, 6181, 6183, 43, 6184]) ++ (q_wsX120))
set_option maxRecDepth 100000 in
theorem e_wsX12_count : q_wsX12_count.map fe = wsX12_count := ce fw_6324 (ca (ce fw_5263 (ce fw_5264 (ce fw_5270 (ce fw_6309 (ce fw_6311 (ce fw_68 (ce fw_1038 (ce fw_6312 (ce fw_6185 (ce fw_6187 (ce fw_44 (ce fw_6188 (ce fw_6181 (ce fw_6183 (ce fw_43 (ce fw_6184 (cn))))))))))))))))) (e_wsX120))
def q_wsX12_role : List Nat := 6328 :: (([5264, 5263, 5342, 5343, 1038, 5344, 6181, 6183, 43, 6184]) ++ (q_wsX120))
set_option maxRecDepth 100000 in
theorem e_wsX12_role : q_wsX12_role.map fe = wsX12_role := ce fw_6328 (ca (ce fw_5264 (ce fw_5263 (ce fw_5342 (ce fw_5343 (ce fw_1038 (ce fw_5344 (ce fw_6181 (ce fw_6183 (ce fw_43 (ce fw_6184 (cn))))))))))) (e_wsX120))
def q_wsX12_bit : List Nat := 6332 :: (([5263, 5264, 5265, 5342, 5343, 1038, 5344]) ++ (q_wsX120))
set_option maxRecDepth 100000 in
theorem e_wsX12_bit : q_wsX12_bit.map fe = wsX12_bit := ce fw_6332 (ca (ce fw_5263 (ce fw_5264 (ce fw_5265 (ce fw_5342 (ce fw_5343 (ce fw_1038 (ce fw_5344 (cn)))))))) (e_wsX120))
def q_wsX12_told : List Nat := 6340 :: (([5264, 6258, 6260, 56, 1038, 6261, 6262, 6263, 6264]) ++ (q_wsX120))
set_option maxRecDepth 100000 in
theorem e_wsX12_told : q_wsX12_told.map fe = wsX12_told := ce fw_6340 (ca (ce fw_5264 (ce fw_6258 (ce fw_6260 (ce fw_56 (ce fw_1038 (ce fw_6261 (ce fw_6262 (ce fw_6263 (ce fw_6264 (cn)))))))))) (e_wsX120))
def q_wsX12_receiver : List Nat := 6336 :: (([5263, 5342, 5343, 1038, 5344, 6337, 6339, 70, 6340, 5264, 6258, 6260, 56, 6261, 6262, 6263, 6264]) ++ (q_wsX120))
set_option maxRecDepth 100000 in
theorem e_wsX12_receiver : q_wsX12_receiver.map fe = wsX12_receiver := ce fw_6336 (ca (ce fw_5263 (ce fw_5342 (ce fw_5343 (ce fw_1038 (ce fw_5344 (ce fw_6337 (ce fw_6339 (ce fw_70 (ce fw_6340 (ce fw_5264 (ce fw_6258 (ce fw_6260 (ce fw_56 (ce fw_6261 (ce fw_6262 (ce fw_6263 (ce fw_6264 (cn)))))))))))))))))) (e_wsX120))
def q_wsX12_candidate : List Nat := 6344 :: (([5263, 5264, 6265, 6267, 57, 1038, 6268, 5259, 5261, 32, 5262, 6250, 6252, 54, 6253]) ++ (q_wsX120))
set_option maxRecDepth 100000 in
theorem e_wsX12_candidate : q_wsX12_candidate.map fe = wsX12_candidate := ce fw_6344 (ca (ce fw_5263 (ce fw_5264 (ce fw_6265 (ce fw_6267 (ce fw_57 (ce fw_1038 (ce fw_6268 (ce fw_5259 (ce fw_5261 (ce fw_32 (ce fw_5262 (ce fw_6250 (ce fw_6252 (ce fw_54 (ce fw_6253 (cn)))))))))))))))) (e_wsX120))
def q_wsX12_channelBits : List Nat := 6352 :: (([5264, 6313, 6315, 69, 1038, 6316]) ++ (q_wsX120))
set_option maxRecDepth 100000 in
theorem e_wsX12_channelBits : q_wsX12_channelBits.map fe = wsX12_channelBits := ce fw_6352 (ca (ce fw_5264 (ce fw_6313 (ce fw_6315 (ce fw_69 (ce fw_1038 (ce fw_6316 (cn))))))) (e_wsX120))
def q_wsX12_frame : List Nat := 6348 :: (([5263, 5264, 6309, 6311, 68, 1038, 6312, 5342, 5343, 5344, 6349, 6351, 71, 6352, 6313, 6315, 69, 6316, 6262, 6263, 6264]) ++ (q_wsX120))
set_option maxRecDepth 100000 in
theorem e_wsX12_frame : q_wsX12_frame.map fe = wsX12_frame := ce fw_6348 (ca (ce fw_5263 (ce fw_5264 (ce fw_6309 (ce fw_6311 (ce fw_68 (ce fw_1038 (ce fw_6312 (ce fw_5342 (ce fw_5343 (ce fw_5344 (ce fw_6349 (ce fw_6351 (ce fw_71 (ce fw_6352 (ce fw_6313 (ce fw_6315 (ce fw_69 (ce fw_6316 (ce fw_6262 (ce fw_6263 (ce fw_6264 (cn)))))))))))))))))))))) (e_wsX120))
def q_wsX12_signal : List Nat := 6356 :: (([5263, 5264, 6309, 6311, 68, 1038, 6312, 5342, 5343, 5344, 6262, 6263, 6264]) ++ (q_wsX120))
set_option maxRecDepth 100000 in
theorem e_wsX12_signal : q_wsX12_signal.map fe = wsX12_signal := ce fw_6356 (ca (ce fw_5263 (ce fw_5264 (ce fw_6309 (ce fw_6311 (ce fw_68 (ce fw_1038 (ce fw_6312 (ce fw_5342 (ce fw_5343 (ce fw_5344 (ce fw_6262 (ce fw_6263 (ce fw_6264 (cn)))))))))))))) (e_wsX120))
def q_wsX12_value : List Nat := 6360 :: (([5263, 5264, 6150, 6151, 1038, 6152, 5342, 5343, 5344]) ++ (q_wsX120))
set_option maxRecDepth 100000 in
theorem e_wsX12_value : q_wsX12_value.map fe = wsX12_value := ce fw_6360 (ca (ce fw_5263 (ce fw_5264 (ce fw_6150 (ce fw_6151 (ce fw_1038 (ce fw_6152 (ce fw_5342 (ce fw_5343 (ce fw_5344 (cn)))))))))) (e_wsX120))
def q_wsX12_back : List Nat := 6372 :: (([6365, 6367, 72, 1038, 6368, 5264]) ++ (q_wsX120))
set_option maxRecDepth 100000 in
theorem e_wsX12_back : q_wsX12_back.map fe = wsX12_back := ce fw_6372 (ca (ce fw_6365 (ce fw_6367 (ce fw_72 (ce fw_1038 (ce fw_6368 (ce fw_5264 (cn))))))) (e_wsX120))
def q_wsX12_copies : List Nat := 6368 :: (([5264]) ++ (q_wsX120))
set_option maxRecDepth 100000 in
theorem e_wsX12_copies : q_wsX12_copies.map fe = wsX12_copies := ce fw_6368 (ca (ce fw_5264 (cn)) (e_wsX120))
def q_wsX12_ahead_r1 : List Nat := [5263, 5264, 5265, 5342, 5343, 1038, 5344, 6365, 6367, 72, 6368, 6205, 6207, 47, 6208, 5281, 6209, 6211, 48, 6212, 6185, 6187, 44, 6188]
set_option maxRecDepth 100000 in
theorem e_wsX12_ahead_r1 : q_wsX12_ahead_r1.map fe = wsX12_ahead_r1 := ce fw_5263 (ce fw_5264 (ce fw_5265 (ce fw_5342 (ce fw_5343 (ce fw_1038 (ce fw_5344 (ce fw_6365 (ce fw_6367 (ce fw_72 (ce fw_6368 (ce fw_6205 (ce fw_6207 (ce fw_47 (ce fw_6208 (ce fw_5281 (ce fw_6209 (ce fw_6211 (ce fw_48 (ce fw_6212 (ce fw_6185 (ce fw_6187 (ce fw_44 (ce fw_6188 (cn))))))))))))))))))))))))
def q_wsX12_ahead_r2 : List Nat := [6181, 6183, 43, 6184, 5259, 5261, 32, 5262, 6177, 6179, 42, 6180, 6213, 6215, 49, 6216, 6217, 6218, 6220, 50, 6221, 6189, 6191, 45]
set_option maxRecDepth 100000 in
theorem e_wsX12_ahead_r2 : q_wsX12_ahead_r2.map fe = wsX12_ahead_r2 := ce fw_6181 (ce fw_6183 (ce fw_43 (ce fw_6184 (ce fw_5259 (ce fw_5261 (ce fw_32 (ce fw_5262 (ce fw_6177 (ce fw_6179 (ce fw_42 (ce fw_6180 (ce fw_6213 (ce fw_6215 (ce fw_49 (ce fw_6216 (ce fw_6217 (ce fw_6218 (ce fw_6220 (ce fw_50 (ce fw_6221 (ce fw_6189 (ce fw_6191 (ce fw_45 (cn))))))))))))))))))))))))
def q_wsX12_ahead_r3 : List Nat := [6192, 6238, 6240, 51, 6241, 6242, 6244, 52, 6245, 6246, 6248, 53, 6249, 6250, 6252, 54, 6253, 6254, 6256, 55, 6257, 6258, 6260, 56]
set_option maxRecDepth 100000 in
theorem e_wsX12_ahead_r3 : q_wsX12_ahead_r3.map fe = wsX12_ahead_r3 := ce fw_6192 (ce fw_6238 (ce fw_6240 (ce fw_51 (ce fw_6241 (ce fw_6242 (ce fw_6244 (ce fw_52 (ce fw_6245 (ce fw_6246 (ce fw_6248 (ce fw_53 (ce fw_6249 (ce fw_6250 (ce fw_6252 (ce fw_54 (ce fw_6253 (ce fw_6254 (ce fw_6256 (ce fw_55 (ce fw_6257 (ce fw_6258 (ce fw_6260 (ce fw_56 (cn))))))))))))))))))))))))
def q_wsX12_ahead_r4 : List Nat := [6261, 6262, 6263, 6264, 5255, 5257, 31, 5258, 6265, 6267, 57, 6268, 6269, 6271, 58, 6272, 6273, 6275, 59, 6276, 6277, 6279, 60, 6280]
set_option maxRecDepth 100000 in
theorem e_wsX12_ahead_r4 : q_wsX12_ahead_r4.map fe = wsX12_ahead_r4 := ce fw_6261 (ce fw_6262 (ce fw_6263 (ce fw_6264 (ce fw_5255 (ce fw_5257 (ce fw_31 (ce fw_5258 (ce fw_6265 (ce fw_6267 (ce fw_57 (ce fw_6268 (ce fw_6269 (ce fw_6271 (ce fw_58 (ce fw_6272 (ce fw_6273 (ce fw_6275 (ce fw_59 (ce fw_6276 (ce fw_6277 (ce fw_6279 (ce fw_60 (ce fw_6280 (cn))))))))))))))))))))))))
def q_wsX12_ahead_r5 : List Nat := [6281, 6283, 61, 6284, 6285, 6287, 62, 6288, 6150, 6151, 6152, 6289, 6291, 63, 6292, 6293, 6295, 64, 6296, 6297, 6299, 65, 6300, 6301]
set_option maxRecDepth 100000 in
theorem e_wsX12_ahead_r5 : q_wsX12_ahead_r5.map fe = wsX12_ahead_r5 := ce fw_6281 (ce fw_6283 (ce fw_61 (ce fw_6284 (ce fw_6285 (ce fw_6287 (ce fw_62 (ce fw_6288 (ce fw_6150 (ce fw_6151 (ce fw_6152 (ce fw_6289 (ce fw_6291 (ce fw_63 (ce fw_6292 (ce fw_6293 (ce fw_6295 (ce fw_64 (ce fw_6296 (ce fw_6297 (ce fw_6299 (ce fw_65 (ce fw_6300 (ce fw_6301 (cn))))))))))))))))))))))))
def q_wsX12_ahead_r6 : List Nat := [6303, 66, 6304, 6305, 6307, 67, 6308, 6309, 6311, 68, 6312, 6313, 6315, 69, 6316, 6337, 6339, 70, 6340, 6369, 6371, 73, 6372]
set_option maxRecDepth 100000 in
theorem e_wsX12_ahead_r6 : q_wsX12_ahead_r6.map fe = wsX12_ahead_r6 := ce fw_6303 (ce fw_66 (ce fw_6304 (ce fw_6305 (ce fw_6307 (ce fw_67 (ce fw_6308 (ce fw_6309 (ce fw_6311 (ce fw_68 (ce fw_6312 (ce fw_6313 (ce fw_6315 (ce fw_69 (ce fw_6316 (ce fw_6337 (ce fw_6339 (ce fw_70 (ce fw_6340 (ce fw_6369 (ce fw_6371 (ce fw_73 (ce fw_6372 (cn)))))))))))))))))))))))
def q_wsX12_ahead : List Nat := 6364 :: (((q_wsX12_ahead_r1) ++ ((q_wsX12_ahead_r2) ++ ((q_wsX12_ahead_r3) ++ ((q_wsX12_ahead_r4) ++ ((q_wsX12_ahead_r5) ++ (q_wsX12_ahead_r6)))))) ++ (q_wsX120))
set_option maxRecDepth 100000 in
theorem e_wsX12_ahead : q_wsX12_ahead.map fe = wsX12_ahead := ce fw_6364 (ca (ca (e_wsX12_ahead_r1) (ca (e_wsX12_ahead_r2) (ca (e_wsX12_ahead_r3) (ca (e_wsX12_ahead_r4) (ca (e_wsX12_ahead_r5) (e_wsX12_ahead_r6)))))) (e_wsX120))
def q_wsX12_struck : List Nat := 6376 :: (([5263, 5264, 5265, 5342, 5343, 1038, 5344, 5259, 5261, 32, 5262, 6254, 6256, 55, 6257, 6177, 6179, 42, 6180, 6181, 6183, 43, 6184]) ++ (q_wsX120))
set_option maxRecDepth 100000 in
theorem e_wsX12_struck : q_wsX12_struck.map fe = wsX12_struck := ce fw_6376 (ca (ce fw_5263 (ce fw_5264 (ce fw_5265 (ce fw_5342 (ce fw_5343 (ce fw_1038 (ce fw_5344 (ce fw_5259 (ce fw_5261 (ce fw_32 (ce fw_5262 (ce fw_6254 (ce fw_6256 (ce fw_55 (ce fw_6257 (ce fw_6177 (ce fw_6179 (ce fw_42 (ce fw_6180 (ce fw_6181 (ce fw_6183 (ce fw_43 (ce fw_6184 (cn)))))))))))))))))))))))) (e_wsX120))
def q_wsX12_hearsFrom_r1 : List Nat := [5264, 5265, 5251, 5253, 30, 1038, 5254, 5255, 5257, 31, 5258, 5259, 5261, 32, 5262, 6238, 6240, 51, 6241, 6242, 6244, 52, 6245, 6246]
set_option maxRecDepth 100000 in
theorem e_wsX12_hearsFrom_r1 : q_wsX12_hearsFrom_r1.map fe = wsX12_hearsFrom_r1 := ce fw_5264 (ce fw_5265 (ce fw_5251 (ce fw_5253 (ce fw_30 (ce fw_1038 (ce fw_5254 (ce fw_5255 (ce fw_5257 (ce fw_31 (ce fw_5258 (ce fw_5259 (ce fw_5261 (ce fw_32 (ce fw_5262 (ce fw_6238 (ce fw_6240 (ce fw_51 (ce fw_6241 (ce fw_6242 (ce fw_6244 (ce fw_52 (ce fw_6245 (ce fw_6246 (cn))))))))))))))))))))))))
def q_wsX12_hearsFrom_r2 : List Nat := [6248, 53, 6249, 6250, 6252, 54, 6253, 6254, 6256, 55, 6257, 6177, 6179, 42, 6180, 6181, 6183, 43, 6184, 6258, 6260, 56, 6261, 6262]
set_option maxRecDepth 100000 in
theorem e_wsX12_hearsFrom_r2 : q_wsX12_hearsFrom_r2.map fe = wsX12_hearsFrom_r2 := ce fw_6248 (ce fw_53 (ce fw_6249 (ce fw_6250 (ce fw_6252 (ce fw_54 (ce fw_6253 (ce fw_6254 (ce fw_6256 (ce fw_55 (ce fw_6257 (ce fw_6177 (ce fw_6179 (ce fw_42 (ce fw_6180 (ce fw_6181 (ce fw_6183 (ce fw_43 (ce fw_6184 (ce fw_6258 (ce fw_6260 (ce fw_56 (ce fw_6261 (ce fw_6262 (cn))))))))))))))))))))))))
def q_wsX12_hearsFrom_r3 : List Nat := [6263, 6264, 6265, 6267, 57, 6268, 6269, 6271, 58, 6272, 6185, 6187, 44, 6188, 6273, 6275, 59, 6276, 6277, 6279, 60, 6280, 6281, 6283]
set_option maxRecDepth 100000 in
theorem e_wsX12_hearsFrom_r3 : q_wsX12_hearsFrom_r3.map fe = wsX12_hearsFrom_r3 := ce fw_6263 (ce fw_6264 (ce fw_6265 (ce fw_6267 (ce fw_57 (ce fw_6268 (ce fw_6269 (ce fw_6271 (ce fw_58 (ce fw_6272 (ce fw_6185 (ce fw_6187 (ce fw_44 (ce fw_6188 (ce fw_6273 (ce fw_6275 (ce fw_59 (ce fw_6276 (ce fw_6277 (ce fw_6279 (ce fw_60 (ce fw_6280 (ce fw_6281 (ce fw_6283 (cn))))))))))))))))))))))))
def q_wsX12_hearsFrom_r4 : List Nat := [61, 6284, 6189, 6191, 45, 6192, 6285, 6287, 62, 6288, 6150, 6151, 6152, 6289, 6291, 63, 6292, 6293, 6295, 64, 6296, 6297, 6299, 65]
set_option maxRecDepth 100000 in
theorem e_wsX12_hearsFrom_r4 : q_wsX12_hearsFrom_r4.map fe = wsX12_hearsFrom_r4 := ce fw_61 (ce fw_6284 (ce fw_6189 (ce fw_6191 (ce fw_45 (ce fw_6192 (ce fw_6285 (ce fw_6287 (ce fw_62 (ce fw_6288 (ce fw_6150 (ce fw_6151 (ce fw_6152 (ce fw_6289 (ce fw_6291 (ce fw_63 (ce fw_6292 (ce fw_6293 (ce fw_6295 (ce fw_64 (ce fw_6296 (ce fw_6297 (ce fw_6299 (ce fw_65 (cn))))))))))))))))))))))))
def q_wsX12_hearsFrom_r5 : List Nat := [6300, 6301, 6303, 66, 6304, 6305, 6307, 67, 6308, 6309, 6311, 68, 6312, 6313, 6315, 69, 6316]
set_option maxRecDepth 100000 in
theorem e_wsX12_hearsFrom_r5 : q_wsX12_hearsFrom_r5.map fe = wsX12_hearsFrom_r5 := ce fw_6300 (ce fw_6301 (ce fw_6303 (ce fw_66 (ce fw_6304 (ce fw_6305 (ce fw_6307 (ce fw_67 (ce fw_6308 (ce fw_6309 (ce fw_6311 (ce fw_68 (ce fw_6312 (ce fw_6313 (ce fw_6315 (ce fw_69 (ce fw_6316 (cn)))))))))))))))))
def q_wsX12_hearsFrom : List Nat := 7168 :: (((q_wsX12_hearsFrom_r1) ++ ((q_wsX12_hearsFrom_r2) ++ ((q_wsX12_hearsFrom_r3) ++ ((q_wsX12_hearsFrom_r4) ++ (q_wsX12_hearsFrom_r5))))) ++ (q_wsX120))
set_option maxRecDepth 100000 in
theorem e_wsX12_hearsFrom : q_wsX12_hearsFrom.map fe = wsX12_hearsFrom := ce fw_7168 (ca (ca (e_wsX12_hearsFrom_r1) (ca (e_wsX12_hearsFrom_r2) (ca (e_wsX12_hearsFrom_r3) (ca (e_wsX12_hearsFrom_r4) (e_wsX12_hearsFrom_r5))))) (e_wsX120))
def q_wsX12_locks_r1 : List Nat := [5263, 5264, 5342, 5343, 1038, 5344, 6365, 6367, 72, 6368, 6381, 6383, 74, 7168, 5265, 5251, 5253, 30, 5254, 5255, 5257, 31, 5258, 5259]
set_option maxRecDepth 100000 in
theorem e_wsX12_locks_r1 : q_wsX12_locks_r1.map fe = wsX12_locks_r1 := ce fw_5263 (ce fw_5264 (ce fw_5342 (ce fw_5343 (ce fw_1038 (ce fw_5344 (ce fw_6365 (ce fw_6367 (ce fw_72 (ce fw_6368 (ce fw_6381 (ce fw_6383 (ce fw_74 (ce fw_7168 (ce fw_5265 (ce fw_5251 (ce fw_5253 (ce fw_30 (ce fw_5254 (ce fw_5255 (ce fw_5257 (ce fw_31 (ce fw_5258 (ce fw_5259 (cn))))))))))))))))))))))))
def q_wsX12_locks_r2 : List Nat := [5261, 32, 5262, 6238, 6240, 51, 6241, 6242, 6244, 52, 6245, 6246, 6248, 53, 6249, 6250, 6252, 54, 6253, 6254, 6256, 55, 6257, 6177]
set_option maxRecDepth 100000 in
theorem e_wsX12_locks_r2 : q_wsX12_locks_r2.map fe = wsX12_locks_r2 := ce fw_5261 (ce fw_32 (ce fw_5262 (ce fw_6238 (ce fw_6240 (ce fw_51 (ce fw_6241 (ce fw_6242 (ce fw_6244 (ce fw_52 (ce fw_6245 (ce fw_6246 (ce fw_6248 (ce fw_53 (ce fw_6249 (ce fw_6250 (ce fw_6252 (ce fw_54 (ce fw_6253 (ce fw_6254 (ce fw_6256 (ce fw_55 (ce fw_6257 (ce fw_6177 (cn))))))))))))))))))))))))
def q_wsX12_locks_r3 : List Nat := [6179, 42, 6180, 6181, 6183, 43, 6184, 6258, 6260, 56, 6261, 6262, 6263, 6264, 6265, 6267, 57, 6268, 6269, 6271, 58, 6272, 6185, 6187]
set_option maxRecDepth 100000 in
theorem e_wsX12_locks_r3 : q_wsX12_locks_r3.map fe = wsX12_locks_r3 := ce fw_6179 (ce fw_42 (ce fw_6180 (ce fw_6181 (ce fw_6183 (ce fw_43 (ce fw_6184 (ce fw_6258 (ce fw_6260 (ce fw_56 (ce fw_6261 (ce fw_6262 (ce fw_6263 (ce fw_6264 (ce fw_6265 (ce fw_6267 (ce fw_57 (ce fw_6268 (ce fw_6269 (ce fw_6271 (ce fw_58 (ce fw_6272 (ce fw_6185 (ce fw_6187 (cn))))))))))))))))))))))))
def q_wsX12_locks_r4 : List Nat := [44, 6188, 6273, 6275, 59, 6276, 6277, 6279, 60, 6280, 6281, 6283, 61, 6284, 6189, 6191, 45, 6192, 6285, 6287, 62, 6288, 6150, 6151]
set_option maxRecDepth 100000 in
theorem e_wsX12_locks_r4 : q_wsX12_locks_r4.map fe = wsX12_locks_r4 := ce fw_44 (ce fw_6188 (ce fw_6273 (ce fw_6275 (ce fw_59 (ce fw_6276 (ce fw_6277 (ce fw_6279 (ce fw_60 (ce fw_6280 (ce fw_6281 (ce fw_6283 (ce fw_61 (ce fw_6284 (ce fw_6189 (ce fw_6191 (ce fw_45 (ce fw_6192 (ce fw_6285 (ce fw_6287 (ce fw_62 (ce fw_6288 (ce fw_6150 (ce fw_6151 (cn))))))))))))))))))))))))
def q_wsX12_locks_r5 : List Nat := [6152, 6289, 6291, 63, 6292, 6293, 6295, 64, 6296, 6297, 6299, 65, 6300, 6301, 6303, 66, 6304, 6305, 6307, 67, 6308, 6309, 6311, 68]
set_option maxRecDepth 100000 in
theorem e_wsX12_locks_r5 : q_wsX12_locks_r5.map fe = wsX12_locks_r5 := ce fw_6152 (ce fw_6289 (ce fw_6291 (ce fw_63 (ce fw_6292 (ce fw_6293 (ce fw_6295 (ce fw_64 (ce fw_6296 (ce fw_6297 (ce fw_6299 (ce fw_65 (ce fw_6300 (ce fw_6301 (ce fw_6303 (ce fw_66 (ce fw_6304 (ce fw_6305 (ce fw_6307 (ce fw_67 (ce fw_6308 (ce fw_6309 (ce fw_6311 (ce fw_68 (cn))))))))))))))))))))))))
def q_wsX12_locks_r6 : List Nat := [6312, 6313, 6315, 69, 6316, 6369, 6371, 73, 6372]
set_option maxRecDepth 100000 in
theorem e_wsX12_locks_r6 : q_wsX12_locks_r6.map fe = wsX12_locks_r6 := ce fw_6312 (ce fw_6313 (ce fw_6315 (ce fw_69 (ce fw_6316 (ce fw_6369 (ce fw_6371 (ce fw_73 (ce fw_6372 (cn)))))))))
def q_wsX12_locks : List Nat := 6380 :: (((q_wsX12_locks_r1) ++ ((q_wsX12_locks_r2) ++ ((q_wsX12_locks_r3) ++ ((q_wsX12_locks_r4) ++ ((q_wsX12_locks_r5) ++ (q_wsX12_locks_r6)))))) ++ (q_wsX120))
set_option maxRecDepth 100000 in
theorem e_wsX12_locks : q_wsX12_locks.map fe = wsX12_locks := ce fw_6380 (ca (ca (e_wsX12_locks_r1) (ca (e_wsX12_locks_r2) (ca (e_wsX12_locks_r3) (ca (e_wsX12_locks_r4) (ca (e_wsX12_locks_r5) (e_wsX12_locks_r6)))))) (e_wsX120))
def q_wsX12_from_r1 : List Nat := [5263, 5264, 5342, 5343, 1038, 5344, 6365, 6367, 72, 6368, 6381, 6383, 74, 7168, 5265, 5251, 5253, 30, 5254, 5255, 5257, 31, 5258, 5259]
set_option maxRecDepth 100000 in
theorem e_wsX12_from_r1 : q_wsX12_from_r1.map fe = wsX12_from_r1 := ce fw_5263 (ce fw_5264 (ce fw_5342 (ce fw_5343 (ce fw_1038 (ce fw_5344 (ce fw_6365 (ce fw_6367 (ce fw_72 (ce fw_6368 (ce fw_6381 (ce fw_6383 (ce fw_74 (ce fw_7168 (ce fw_5265 (ce fw_5251 (ce fw_5253 (ce fw_30 (ce fw_5254 (ce fw_5255 (ce fw_5257 (ce fw_31 (ce fw_5258 (ce fw_5259 (cn))))))))))))))))))))))))
def q_wsX12_from_r2 : List Nat := [5261, 32, 5262, 6238, 6240, 51, 6241, 6242, 6244, 52, 6245, 6246, 6248, 53, 6249, 6250, 6252, 54, 6253, 6254, 6256, 55, 6257, 6177]
set_option maxRecDepth 100000 in
theorem e_wsX12_from_r2 : q_wsX12_from_r2.map fe = wsX12_from_r2 := ce fw_5261 (ce fw_32 (ce fw_5262 (ce fw_6238 (ce fw_6240 (ce fw_51 (ce fw_6241 (ce fw_6242 (ce fw_6244 (ce fw_52 (ce fw_6245 (ce fw_6246 (ce fw_6248 (ce fw_53 (ce fw_6249 (ce fw_6250 (ce fw_6252 (ce fw_54 (ce fw_6253 (ce fw_6254 (ce fw_6256 (ce fw_55 (ce fw_6257 (ce fw_6177 (cn))))))))))))))))))))))))
def q_wsX12_from_r3 : List Nat := [6179, 42, 6180, 6181, 6183, 43, 6184, 6258, 6260, 56, 6261, 6262, 6263, 6264, 6265, 6267, 57, 6268, 6269, 6271, 58, 6272, 6185, 6187]
set_option maxRecDepth 100000 in
theorem e_wsX12_from_r3 : q_wsX12_from_r3.map fe = wsX12_from_r3 := ce fw_6179 (ce fw_42 (ce fw_6180 (ce fw_6181 (ce fw_6183 (ce fw_43 (ce fw_6184 (ce fw_6258 (ce fw_6260 (ce fw_56 (ce fw_6261 (ce fw_6262 (ce fw_6263 (ce fw_6264 (ce fw_6265 (ce fw_6267 (ce fw_57 (ce fw_6268 (ce fw_6269 (ce fw_6271 (ce fw_58 (ce fw_6272 (ce fw_6185 (ce fw_6187 (cn))))))))))))))))))))))))
def q_wsX12_from_r4 : List Nat := [44, 6188, 6273, 6275, 59, 6276, 6277, 6279, 60, 6280, 6281, 6283, 61, 6284, 6189, 6191, 45, 6192, 6285, 6287, 62, 6288, 6150, 6151]
set_option maxRecDepth 100000 in
theorem e_wsX12_from_r4 : q_wsX12_from_r4.map fe = wsX12_from_r4 := ce fw_44 (ce fw_6188 (ce fw_6273 (ce fw_6275 (ce fw_59 (ce fw_6276 (ce fw_6277 (ce fw_6279 (ce fw_60 (ce fw_6280 (ce fw_6281 (ce fw_6283 (ce fw_61 (ce fw_6284 (ce fw_6189 (ce fw_6191 (ce fw_45 (ce fw_6192 (ce fw_6285 (ce fw_6287 (ce fw_62 (ce fw_6288 (ce fw_6150 (ce fw_6151 (cn))))))))))))))))))))))))
def q_wsX12_from_r5 : List Nat := [6152, 6289, 6291, 63, 6292, 6293, 6295, 64, 6296, 6297, 6299, 65, 6300, 6301, 6303, 66, 6304, 6305, 6307, 67, 6308, 6309, 6311, 68]
set_option maxRecDepth 100000 in
theorem e_wsX12_from_r5 : q_wsX12_from_r5.map fe = wsX12_from_r5 := ce fw_6152 (ce fw_6289 (ce fw_6291 (ce fw_63 (ce fw_6292 (ce fw_6293 (ce fw_6295 (ce fw_64 (ce fw_6296 (ce fw_6297 (ce fw_6299 (ce fw_65 (ce fw_6300 (ce fw_6301 (ce fw_6303 (ce fw_66 (ce fw_6304 (ce fw_6305 (ce fw_6307 (ce fw_67 (ce fw_6308 (ce fw_6309 (ce fw_6311 (ce fw_68 (cn))))))))))))))))))))))))
def q_wsX12_from_r6 : List Nat := [6312, 6313, 6315, 69, 6316, 6337, 6339, 70, 6340, 6369, 6371, 73, 6372]
set_option maxRecDepth 100000 in
theorem e_wsX12_from_r6 : q_wsX12_from_r6.map fe = wsX12_from_r6 := ce fw_6312 (ce fw_6313 (ce fw_6315 (ce fw_69 (ce fw_6316 (ce fw_6337 (ce fw_6339 (ce fw_70 (ce fw_6340 (ce fw_6369 (ce fw_6371 (ce fw_73 (ce fw_6372 (cn)))))))))))))
def q_wsX12_from : List Nat := 7172 :: (((q_wsX12_from_r1) ++ ((q_wsX12_from_r2) ++ ((q_wsX12_from_r3) ++ ((q_wsX12_from_r4) ++ ((q_wsX12_from_r5) ++ (q_wsX12_from_r6)))))) ++ (q_wsX120))
set_option maxRecDepth 100000 in
theorem e_wsX12_from : q_wsX12_from.map fe = wsX12_from := ce fw_7172 (ca (ca (e_wsX12_from_r1) (ca (e_wsX12_from_r2) (ca (e_wsX12_from_r3) (ca (e_wsX12_from_r4) (ca (e_wsX12_from_r5) (e_wsX12_from_r6)))))) (e_wsX120))
def q_wsX12_canBe : List Nat := 7180 :: (([5265, 5259, 5261, 32, 1038, 5262, 5264, 6254, 6256, 55, 6257, 6177, 6179, 42, 6180, 6181, 6183, 43, 6184]) ++ (q_wsX120))
set_option maxRecDepth 100000 in
theorem e_wsX12_canBe : q_wsX12_canBe.map fe = wsX12_canBe := ce fw_7180 (ca (ce fw_5265 (ce fw_5259 (ce fw_5261 (ce fw_32 (ce fw_1038 (ce fw_5262 (ce fw_5264 (ce fw_6254 (ce fw_6256 (ce fw_55 (ce fw_6257 (ce fw_6177 (ce fw_6179 (ce fw_42 (ce fw_6180 (ce fw_6181 (ce fw_6183 (ce fw_43 (ce fw_6184 (cn)))))))))))))))))))) (e_wsX120))
def q_wsX12_fits_r1 : List Nat := [5263, 5264, 5342, 5343, 1038, 5344, 5259, 5261, 32, 5262, 7177, 7179, 75, 7180, 5265, 6254, 6256, 55, 6257, 6177, 6179, 42, 6180, 6181]
set_option maxRecDepth 100000 in
theorem e_wsX12_fits_r1 : q_wsX12_fits_r1.map fe = wsX12_fits_r1 := ce fw_5263 (ce fw_5264 (ce fw_5342 (ce fw_5343 (ce fw_1038 (ce fw_5344 (ce fw_5259 (ce fw_5261 (ce fw_32 (ce fw_5262 (ce fw_7177 (ce fw_7179 (ce fw_75 (ce fw_7180 (ce fw_5265 (ce fw_6254 (ce fw_6256 (ce fw_55 (ce fw_6257 (ce fw_6177 (ce fw_6179 (ce fw_42 (ce fw_6180 (ce fw_6181 (cn))))))))))))))))))))))))
def q_wsX12_fits_r2 : List Nat := [6183, 43, 6184]
set_option maxRecDepth 100000 in
theorem e_wsX12_fits_r2 : q_wsX12_fits_r2.map fe = wsX12_fits_r2 := ce fw_6183 (ce fw_43 (ce fw_6184 (cn)))
def q_wsX12_fits : List Nat := 7176 :: (((q_wsX12_fits_r1) ++ (q_wsX12_fits_r2)) ++ (q_wsX120))
set_option maxRecDepth 100000 in
theorem e_wsX12_fits : q_wsX12_fits.map fe = wsX12_fits := ce fw_7176 (ca (ca (e_wsX12_fits_r1) (e_wsX12_fits_r2)) (e_wsX120))
def q_wsX12_least_r1 : List Nat := [5263, 5264, 5265, 5342, 5343, 1038, 5344, 6365, 6367, 72, 6368, 5251, 5253, 30, 5254, 5255, 5257, 31, 5258, 5259, 5261, 32, 5262, 6246]
set_option maxRecDepth 100000 in
theorem e_wsX12_least_r1 : q_wsX12_least_r1.map fe = wsX12_least_r1 := ce fw_5263 (ce fw_5264 (ce fw_5265 (ce fw_5342 (ce fw_5343 (ce fw_1038 (ce fw_5344 (ce fw_6365 (ce fw_6367 (ce fw_72 (ce fw_6368 (ce fw_5251 (ce fw_5253 (ce fw_30 (ce fw_5254 (ce fw_5255 (ce fw_5257 (ce fw_31 (ce fw_5258 (ce fw_5259 (ce fw_5261 (ce fw_32 (ce fw_5262 (ce fw_6246 (cn))))))))))))))))))))))))
def q_wsX12_least_r2 : List Nat := [6248, 53, 6249, 6250, 6252, 54, 6253, 6254, 6256, 55, 6257, 6177, 6179, 42, 6180, 6181, 6183, 43, 6184, 6258, 6260, 56, 6261, 6262]
set_option maxRecDepth 100000 in
theorem e_wsX12_least_r2 : q_wsX12_least_r2.map fe = wsX12_least_r2 := ce fw_6248 (ce fw_53 (ce fw_6249 (ce fw_6250 (ce fw_6252 (ce fw_54 (ce fw_6253 (ce fw_6254 (ce fw_6256 (ce fw_55 (ce fw_6257 (ce fw_6177 (ce fw_6179 (ce fw_42 (ce fw_6180 (ce fw_6181 (ce fw_6183 (ce fw_43 (ce fw_6184 (ce fw_6258 (ce fw_6260 (ce fw_56 (ce fw_6261 (ce fw_6262 (cn))))))))))))))))))))))))
def q_wsX12_least_r3 : List Nat := [6263, 6264, 6369, 6371, 73, 6372]
set_option maxRecDepth 100000 in
theorem e_wsX12_least_r3 : q_wsX12_least_r3.map fe = wsX12_least_r3 := ce fw_6263 (ce fw_6264 (ce fw_6369 (ce fw_6371 (ce fw_73 (ce fw_6372 (cn))))))
def q_wsX12_least : List Nat := 7184 :: (((q_wsX12_least_r1) ++ ((q_wsX12_least_r2) ++ (q_wsX12_least_r3))) ++ (q_wsX120))
set_option maxRecDepth 100000 in
theorem e_wsX12_least : q_wsX12_least.map fe = wsX12_least := ce fw_7184 (ca (ca (e_wsX12_least_r1) (ca (e_wsX12_least_r2) (e_wsX12_least_r3))) (e_wsX120))
def q_wsX12_lostAt_r1 : List Nat := [5264, 5265, 6238, 6240, 51, 1038, 6241, 6242, 6244, 52, 6245, 6246, 6248, 53, 6249, 5259, 5261, 32, 5262, 6250, 6252, 54, 6253, 6254]
set_option maxRecDepth 100000 in
theorem e_wsX12_lostAt_r1 : q_wsX12_lostAt_r1.map fe = wsX12_lostAt_r1 := ce fw_5264 (ce fw_5265 (ce fw_6238 (ce fw_6240 (ce fw_51 (ce fw_1038 (ce fw_6241 (ce fw_6242 (ce fw_6244 (ce fw_52 (ce fw_6245 (ce fw_6246 (ce fw_6248 (ce fw_53 (ce fw_6249 (ce fw_5259 (ce fw_5261 (ce fw_32 (ce fw_5262 (ce fw_6250 (ce fw_6252 (ce fw_54 (ce fw_6253 (ce fw_6254 (cn))))))))))))))))))))))))
def q_wsX12_lostAt_r2 : List Nat := [6256, 55, 6257, 6177, 6179, 42, 6180, 6181, 6183, 43, 6184, 6258, 6260, 56, 6261, 6262, 6263, 6264, 5255, 5257, 31, 5258, 6265, 6267]
set_option maxRecDepth 100000 in
theorem e_wsX12_lostAt_r2 : q_wsX12_lostAt_r2.map fe = wsX12_lostAt_r2 := ce fw_6256 (ce fw_55 (ce fw_6257 (ce fw_6177 (ce fw_6179 (ce fw_42 (ce fw_6180 (ce fw_6181 (ce fw_6183 (ce fw_43 (ce fw_6184 (ce fw_6258 (ce fw_6260 (ce fw_56 (ce fw_6261 (ce fw_6262 (ce fw_6263 (ce fw_6264 (ce fw_5255 (ce fw_5257 (ce fw_31 (ce fw_5258 (ce fw_6265 (ce fw_6267 (cn))))))))))))))))))))))))
def q_wsX12_lostAt_r3 : List Nat := [57, 6268, 6269, 6271, 58, 6272, 6185, 6187, 44, 6188, 6273, 6275, 59, 6276, 6277, 6279, 60, 6280, 6281, 6283, 61, 6284, 6189, 6191]
set_option maxRecDepth 100000 in
theorem e_wsX12_lostAt_r3 : q_wsX12_lostAt_r3.map fe = wsX12_lostAt_r3 := ce fw_57 (ce fw_6268 (ce fw_6269 (ce fw_6271 (ce fw_58 (ce fw_6272 (ce fw_6185 (ce fw_6187 (ce fw_44 (ce fw_6188 (ce fw_6273 (ce fw_6275 (ce fw_59 (ce fw_6276 (ce fw_6277 (ce fw_6279 (ce fw_60 (ce fw_6280 (ce fw_6281 (ce fw_6283 (ce fw_61 (ce fw_6284 (ce fw_6189 (ce fw_6191 (cn))))))))))))))))))))))))
def q_wsX12_lostAt_r4 : List Nat := [45, 6192, 6285, 6287, 62, 6288, 6150, 6151, 6152, 6289, 6291, 63, 6292, 6293, 6295, 64, 6296, 6297, 6299, 65, 6300, 6301, 6303, 66]
set_option maxRecDepth 100000 in
theorem e_wsX12_lostAt_r4 : q_wsX12_lostAt_r4.map fe = wsX12_lostAt_r4 := ce fw_45 (ce fw_6192 (ce fw_6285 (ce fw_6287 (ce fw_62 (ce fw_6288 (ce fw_6150 (ce fw_6151 (ce fw_6152 (ce fw_6289 (ce fw_6291 (ce fw_63 (ce fw_6292 (ce fw_6293 (ce fw_6295 (ce fw_64 (ce fw_6296 (ce fw_6297 (ce fw_6299 (ce fw_65 (ce fw_6300 (ce fw_6301 (ce fw_6303 (ce fw_66 (cn))))))))))))))))))))))))
def q_wsX12_lostAt_r5 : List Nat := [6304, 6305, 6307, 67, 6308, 6309, 6311, 68, 6312, 6313, 6315, 69, 6316]
set_option maxRecDepth 100000 in
theorem e_wsX12_lostAt_r5 : q_wsX12_lostAt_r5.map fe = wsX12_lostAt_r5 := ce fw_6304 (ce fw_6305 (ce fw_6307 (ce fw_67 (ce fw_6308 (ce fw_6309 (ce fw_6311 (ce fw_68 (ce fw_6312 (ce fw_6313 (ce fw_6315 (ce fw_69 (ce fw_6316 (cn)))))))))))))
def q_wsX12_lostAt : List Nat := 7192 :: (((q_wsX12_lostAt_r1) ++ ((q_wsX12_lostAt_r2) ++ ((q_wsX12_lostAt_r3) ++ ((q_wsX12_lostAt_r4) ++ (q_wsX12_lostAt_r5))))) ++ (q_wsX120))
set_option maxRecDepth 100000 in
theorem e_wsX12_lostAt : q_wsX12_lostAt.map fe = wsX12_lostAt := ce fw_7192 (ca (ca (e_wsX12_lostAt_r1) (ca (e_wsX12_lostAt_r2) (ca (e_wsX12_lostAt_r3) (ca (e_wsX12_lostAt_r4) (e_wsX12_lostAt_r5))))) (e_wsX120))
def q_wsX12_weak_r1 : List Nat := [5263, 5264, 5265, 6150, 6151, 1038, 6152, 6365, 6367, 72, 6368, 7189, 7191, 76, 7192, 6238, 6240, 51, 6241, 6242, 6244, 52, 6245, 6246]
set_option maxRecDepth 100000 in
theorem e_wsX12_weak_r1 : q_wsX12_weak_r1.map fe = wsX12_weak_r1 := ce fw_5263 (ce fw_5264 (ce fw_5265 (ce fw_6150 (ce fw_6151 (ce fw_1038 (ce fw_6152 (ce fw_6365 (ce fw_6367 (ce fw_72 (ce fw_6368 (ce fw_7189 (ce fw_7191 (ce fw_76 (ce fw_7192 (ce fw_6238 (ce fw_6240 (ce fw_51 (ce fw_6241 (ce fw_6242 (ce fw_6244 (ce fw_52 (ce fw_6245 (ce fw_6246 (cn))))))))))))))))))))))))
def q_wsX12_weak_r2 : List Nat := [6248, 53, 6249, 5259, 5261, 32, 5262, 6250, 6252, 54, 6253, 6254, 6256, 55, 6257, 6177, 6179, 42, 6180, 6181, 6183, 43, 6184, 6258]
set_option maxRecDepth 100000 in
theorem e_wsX12_weak_r2 : q_wsX12_weak_r2.map fe = wsX12_weak_r2 := ce fw_6248 (ce fw_53 (ce fw_6249 (ce fw_5259 (ce fw_5261 (ce fw_32 (ce fw_5262 (ce fw_6250 (ce fw_6252 (ce fw_54 (ce fw_6253 (ce fw_6254 (ce fw_6256 (ce fw_55 (ce fw_6257 (ce fw_6177 (ce fw_6179 (ce fw_42 (ce fw_6180 (ce fw_6181 (ce fw_6183 (ce fw_43 (ce fw_6184 (ce fw_6258 (cn))))))))))))))))))))))))
def q_wsX12_weak_r3 : List Nat := [6260, 56, 6261, 6262, 6263, 6264, 5255, 5257, 31, 5258, 6265, 6267, 57, 6268, 6269, 6271, 58, 6272, 6185, 6187, 44, 6188, 6273, 6275]
set_option maxRecDepth 100000 in
theorem e_wsX12_weak_r3 : q_wsX12_weak_r3.map fe = wsX12_weak_r3 := ce fw_6260 (ce fw_56 (ce fw_6261 (ce fw_6262 (ce fw_6263 (ce fw_6264 (ce fw_5255 (ce fw_5257 (ce fw_31 (ce fw_5258 (ce fw_6265 (ce fw_6267 (ce fw_57 (ce fw_6268 (ce fw_6269 (ce fw_6271 (ce fw_58 (ce fw_6272 (ce fw_6185 (ce fw_6187 (ce fw_44 (ce fw_6188 (ce fw_6273 (ce fw_6275 (cn))))))))))))))))))))))))
def q_wsX12_weak_r4 : List Nat := [59, 6276, 6277, 6279, 60, 6280, 6281, 6283, 61, 6284, 6189, 6191, 45, 6192, 6285, 6287, 62, 6288, 6289, 6291, 63, 6292, 6293, 6295]
set_option maxRecDepth 100000 in
theorem e_wsX12_weak_r4 : q_wsX12_weak_r4.map fe = wsX12_weak_r4 := ce fw_59 (ce fw_6276 (ce fw_6277 (ce fw_6279 (ce fw_60 (ce fw_6280 (ce fw_6281 (ce fw_6283 (ce fw_61 (ce fw_6284 (ce fw_6189 (ce fw_6191 (ce fw_45 (ce fw_6192 (ce fw_6285 (ce fw_6287 (ce fw_62 (ce fw_6288 (ce fw_6289 (ce fw_6291 (ce fw_63 (ce fw_6292 (ce fw_6293 (ce fw_6295 (cn))))))))))))))))))))))))
def q_wsX12_weak_r5 : List Nat := [64, 6296, 6297, 6299, 65, 6300, 6301, 6303, 66, 6304, 6305, 6307, 67, 6308, 6309, 6311, 68, 6312, 6313, 6315, 69, 6316]
set_option maxRecDepth 100000 in
theorem e_wsX12_weak_r5 : q_wsX12_weak_r5.map fe = wsX12_weak_r5 := ce fw_64 (ce fw_6296 (ce fw_6297 (ce fw_6299 (ce fw_65 (ce fw_6300 (ce fw_6301 (ce fw_6303 (ce fw_66 (ce fw_6304 (ce fw_6305 (ce fw_6307 (ce fw_67 (ce fw_6308 (ce fw_6309 (ce fw_6311 (ce fw_68 (ce fw_6312 (ce fw_6313 (ce fw_6315 (ce fw_69 (ce fw_6316 (cn))))))))))))))))))))))
def q_wsX12_weak : List Nat := 7188 :: (((q_wsX12_weak_r1) ++ ((q_wsX12_weak_r2) ++ ((q_wsX12_weak_r3) ++ ((q_wsX12_weak_r4) ++ (q_wsX12_weak_r5))))) ++ (q_wsX120))
set_option maxRecDepth 100000 in
theorem e_wsX12_weak : q_wsX12_weak.map fe = wsX12_weak := ce fw_7188 (ca (ca (e_wsX12_weak_r1) (ca (e_wsX12_weak_r2) (ca (e_wsX12_weak_r3) (ca (e_wsX12_weak_r4) (e_wsX12_weak_r5))))) (e_wsX120))
def q_wsX12_copiesAll : List Nat := 7200 :: (([5265, 5266, 6365, 6367, 72, 1038, 6368, 5264]) ++ (q_wsX120))
set_option maxRecDepth 100000 in
theorem e_wsX12_copiesAll : q_wsX12_copiesAll.map fe = wsX12_copiesAll := ce fw_7200 (ca (ce fw_5265 (ce fw_5266 (ce fw_6365 (ce fw_6367 (ce fw_72 (ce fw_1038 (ce fw_6368 (ce fw_5264 (cn))))))))) (e_wsX120))
def q_wsX12_image : List Nat := 7196 :: (([5263, 5267, 5342, 5343, 1038, 5344, 7197, 7199, 77, 7200, 5265, 5266, 6365, 6367, 72, 6368, 5264]) ++ (q_wsX120))
set_option maxRecDepth 100000 in
theorem e_wsX12_image : q_wsX12_image.map fe = wsX12_image := ce fw_7196 (ca (ce fw_5263 (ce fw_5267 (ce fw_5342 (ce fw_5343 (ce fw_1038 (ce fw_5344 (ce fw_7197 (ce fw_7199 (ce fw_77 (ce fw_7200 (ce fw_5265 (ce fw_5266 (ce fw_6365 (ce fw_6367 (ce fw_72 (ce fw_6368 (ce fw_5264 (cn)))))))))))))))))) (e_wsX120))
def q_wsX12_again : List Nat := 7204 :: (([5263, 5267, 5270, 5342, 5343, 1038, 5344, 7197, 7199, 77, 7200, 5265, 5266, 6365, 6367, 72, 6368, 5264]) ++ (q_wsX120))
set_option maxRecDepth 100000 in
theorem e_wsX12_again : q_wsX12_again.map fe = wsX12_again := ce fw_7204 (ca (ce fw_5263 (ce fw_5267 (ce fw_5270 (ce fw_5342 (ce fw_5343 (ce fw_1038 (ce fw_5344 (ce fw_7197 (ce fw_7199 (ce fw_77 (ce fw_7200 (ce fw_5265 (ce fw_5266 (ce fw_6365 (ce fw_6367 (ce fw_72 (ce fw_6368 (ce fw_5264 (cn))))))))))))))))))) (e_wsX120))
def q_wsJ0_coder_7d493 : List Nat := 3159 :: ([3160, 7225])
set_option maxRecDepth 100000 in
theorem e_wsJ0_coder_7d493 : q_wsJ0_coder_7d493.map fe = wsJ0_coder_7d493 := ce fw_3159 (ce fw_3160 (ce fw_7225 (cn)))
def q_wsJ0_isLatin1_aae02 : List Nat := 3169 :: ([3160, 7225])
set_option maxRecDepth 100000 in
theorem e_wsJ0_isLatin1_aae02 : q_wsJ0_isLatin1_aae02.map fe = wsJ0_isLatin1_aae02 := ce fw_3169 (ce fw_3160 (ce fw_7225 (cn)))
def q_wsJ1_charAt_3b067 : List Nat := 3172 :: ([3173, 3174, 1040, 3175, 3176, 3178, 3179, 1042, 3180])
set_option maxRecDepth 100000 in
theorem e_wsJ1_charAt_3b067 : q_wsJ1_charAt_3b067.map fe = wsJ1_charAt_3b067 := ce fw_3172 (ce fw_3173 (ce fw_3174 (ce fw_1040 (ce fw_3175 (ce fw_3176 (ce fw_3178 (ce fw_3179 (ce fw_1042 (ce fw_3180 (cn))))))))))
def q_wsJ2_charAt_3b067 : List Nat := 3183 :: ([3184, 3185, 1043, 3186, 3187, 3188, 3189, 3190, 3174, 1040, 3175, 3176, 3178, 3179, 1042, 3180, 3191, 3192, 3193, 3194, 3196, 3198])
set_option maxRecDepth 100000 in
theorem e_wsJ2_charAt_3b067 : q_wsJ2_charAt_3b067.map fe = wsJ2_charAt_3b067 := ce fw_3183 (ce fw_3184 (ce fw_3185 (ce fw_1043 (ce fw_3186 (ce fw_3187 (ce fw_3188 (ce fw_3189 (ce fw_3190 (ce fw_3174 (ce fw_1040 (ce fw_3175 (ce fw_3176 (ce fw_3178 (ce fw_3179 (ce fw_1042 (ce fw_3180 (ce fw_3191 (ce fw_3192 (ce fw_3193 (ce fw_3194 (ce fw_3196 (ce fw_3198 (cn)))))))))))))))))))))))
def q_wsJ0_checkIndex_df160 : List Nat := 3175 :: ([3176, 3178, 3179, 1042, 3180])
set_option maxRecDepth 100000 in
theorem e_wsJ0_checkIndex_df160 : q_wsJ0_checkIndex_df160.map fe = wsJ0_checkIndex_df160 := ce fw_3175 (ce fw_3176 (ce fw_3178 (ce fw_3179 (ce fw_1042 (ce fw_3180 (cn))))))
def q_wsJ3_checkIndex_8e157 : List Nat := 3180 :: ([])
set_option maxRecDepth 100000 in
theorem e_wsJ3_checkIndex_8e157 : q_wsJ3_checkIndex_8e157.map fe = wsJ3_checkIndex_8e157 := ce fw_3180 (cn)
def q_wsJ2_getChar_3b067 : List Nat := 3193 :: ([3194, 3196, 3198, 3187, 3188, 1043, 3189])
set_option maxRecDepth 100000 in
theorem e_wsJ2_getChar_3b067 : q_wsJ2_getChar_3b067.map fe = wsJ2_getChar_3b067 := ce fw_3193 (ce fw_3194 (ce fw_3196 (ce fw_3198 (ce fw_3187 (ce fw_3188 (ce fw_1043 (ce fw_3189 (cn))))))))
def q_wsJ2_length_9d52b : List Nat := 3189 :: ([])
set_option maxRecDepth 100000 in
theorem e_wsJ2_length_9d52b : q_wsJ2_length_9d52b.map fe = wsJ2_length_9d52b := ce fw_3189 (cn)
def q_wsJ2_checkIndex_2214a : List Nat := 3186 :: ([3187, 3188, 1043, 3189, 3190, 3174, 1040, 3175, 3176, 3178, 3179, 1042, 3180])
set_option maxRecDepth 100000 in
theorem e_wsJ2_checkIndex_2214a : q_wsJ2_checkIndex_2214a.map fe = wsJ2_checkIndex_2214a := ce fw_3186 (ce fw_3187 (ce fw_3188 (ce fw_1043 (ce fw_3189 (ce fw_3190 (ce fw_3174 (ce fw_1040 (ce fw_3175 (ce fw_3176 (ce fw_3178 (ce fw_3179 (ce fw_1042 (ce fw_3180 (cn))))))))))))))
def q_wsX11_count : List Nat := 4275 :: (((((((([3073, 2237, 1083, 1090, 1093, 1096, 1099, 1103, 1107, 1111, 1115, 1121, 1125, 2241, 2220, 2213, 2226, 3077, 2239, 1174, 2222, 1204]) ++ (q_wsX110)) ++ (q_wsX100)) ++ (q_wsX50)) ++ (q_wsX90)) ++ (q_wsX20)) ++ (q_wsX80)) ++ (q_wsX60))
set_option maxRecDepth 100000 in
theorem e_wsX11_count : q_wsX11_count.map fe = wsX11_count := ce fw_4275 (ca (ca (ca (ca (ca (ca (ca (ce fw_3073 (ce fw_2237 (ce fw_1083 (ce fw_1090 (ce fw_1093 (ce fw_1096 (ce fw_1099 (ce fw_1103 (ce fw_1107 (ce fw_1111 (ce fw_1115 (ce fw_1121 (ce fw_1125 (ce fw_2241 (ce fw_2220 (ce fw_2213 (ce fw_2226 (ce fw_3077 (ce fw_2239 (ce fw_1174 (ce fw_2222 (ce fw_1204 (cn))))))))))))))))))))))) (e_wsX110)) (e_wsX100)) (e_wsX50)) (e_wsX90)) (e_wsX20)) (e_wsX80)) (e_wsX60))
def q_wsX12_thrown : List Nat := 5324 :: (([5263]) ++ (q_wsX120))
set_option maxRecDepth 100000 in
theorem e_wsX12_thrown : q_wsX12_thrown.map fe = wsX12_thrown := ce fw_5324 (ca (ce fw_5263 (cn)) (e_wsX120))
def q_wsX12_undo : List Nat := 6320 :: (([5263, 5270, 5264, 5268, 5265, 5269]) ++ (q_wsX120))
set_option maxRecDepth 100000 in
theorem e_wsX12_undo : q_wsX12_undo.map fe = wsX12_undo := ce fw_6320 (ca (ce fw_5263 (ce fw_5270 (ce fw_5264 (ce fw_5268 (ce fw_5265 (ce fw_5269 (cn))))))) (e_wsX120))
def q_wsX11_fault : List Nat := 3245 :: (((([3073, 2239, 1179, 1176]) ++ (q_wsX110)) ++ (q_wsX100)) ++ (q_wsX80))
set_option maxRecDepth 100000 in
theorem e_wsX11_fault : q_wsX11_fault.map fe = wsX11_fault := ce fw_3245 (ca (ca (ca (ce fw_3073 (ce fw_2239 (ce fw_1179 (ce fw_1176 (cn))))) (e_wsX110)) (e_wsX100)) (e_wsX80))
def q_wsX12_fault : List Nat := 6172 :: (([5263, 5264]) ++ (q_wsX120))
set_option maxRecDepth 100000 in
theorem e_wsX12_fault : q_wsX12_fault.map fe = wsX12_fault := ce fw_6172 (ca (ce fw_5263 (ce fw_5264 (cn))) (e_wsX120))
def q_wsX12_key : List Nat := 5328 :: (([5263, 5329, 5264, 5266]) ++ (q_wsX120))
set_option maxRecDepth 100000 in
theorem e_wsX12_key : q_wsX12_key.map fe = wsX12_key := ce fw_5328 (ca (ce fw_5263 (ce fw_5329 (ce fw_5264 (ce fw_5266 (cn))))) (e_wsX120))
