section LO
variable {p : Program} {l : Launch} {e : Env} {s : State} {m : MethodId} {below : List Frame} {meth : Method} {c : Code} {H : Heap} {locs : List Loc} {Q : State → Prop}
variable {D : va_G} {cs : Nat → ClassId} {ls : Array Slot} {b L i : Nat} {xs : Nat → Int32} {ad : Nat → Nat → Nat} {am : Nat → Nat} {M E O P : Nat → Nat → Int} {z : Nat → Int}
set_option maxRecDepth 100000 in
set_option maxHeartbeats 4000000 in
theorem lo_initial (X : LX D cs p m c s b L xs) (hL6 : i + 6 ≤ L) (hok : Ok M E O P z) (hw : HW D (AL s) s.heap (wE ad cs E O P z ++ wM am cs M) H locs) (hl : lv_has ls 4 (lL b (ad 5 0) (am 0) i))
    (nx : ∀ (M E O P : Nat → Nat → Int) (z : Nat → Int) (H : Heap) (locs : List Loc), Ok M E O P z → HW D (AL s) s.heap (wE ad cs E O P z ++ wM am cs M) H locs → W p l e room_1 s m #[Value.ref b] below meth c H locs 279 14862 Q (F0 m 598 ls [])) :
    W p l e room_1 s m #[Value.ref b] below meth c H locs 279 14862 Q (F0 m 92 ls []) := by
  obtain ⟨N, t, q, S, hR, h⟩ := hok
  refine sy_aload_n X.1 d_L_law_92 hl 1 rfl ?_
  refine sc_arg X hw hl 1 rfl (by omega) d_L_law_93 d_L_law_94 d_L_law_95 d_L_law_96 d_L_law_97 ?_
  refine sc_arg X hw hl 2 rfl (by omega) d_L_law_98 d_L_law_99 d_L_law_100 d_L_law_101 d_L_law_102 ?_
  refine sc_arg X hw hl 3 rfl (by omega) d_L_law_103 d_L_law_104 d_L_law_105 d_L_law_106 d_L_law_107 ?_
  refine sc_arg X hw hl 4 rfl (by omega) d_L_law_108 d_L_law_109 d_L_law_110 d_L_law_111 d_L_law_112 ?_
  refine sc_arg X hw hl 5 rfl (by omega) d_L_law_113 d_L_law_114 d_L_law_115 d_L_law_116 d_L_law_117 ?_
  refine call_Vi (Xs := wM am cs M) (b := ad 5 0) (As := [.int (iI (vX xs (i + 1))), .int (iI (vX xs (i + 2))), .int (iI (vX xs (i + 3))), .int (iI (vX xs (i + 4))), .int (iI (vX xs (i + 5)))]) (rest := []) X.1 lk_L_13 (c_E_initial l D cs ad E O P z (vX xs (i + 1)) (vX xs (i + 2)) (vX xs (i + 3)) (vX xs (i + 4)) (vX xs (i + 5)) (vX_R xs (i + 1)) (vX_R xs (i + 2)) (vX_R xs (i + 3)) (vX_R xs (i + 4)) (vX_R xs (i + 5))) ⟨by decide, by decide⟩ rcv_E (hw.perm List.perm_append_comm) rfl hl.1 (Nat.le_of_ble_eq_true rfl) d_L_law_118 rfl rfl ⟨by decide, by decide⟩ (fun u H locs hu hw => ?_)
  have hw := hw.perm List.perm_append_comm
  refine sy_aload_n X.1 d_L_law_121 hl 2 rfl ?_
  refine sc_arg X hw hl 1 rfl (by omega) d_L_law_122 d_L_law_123 d_L_law_124 d_L_law_125 d_L_law_126 ?_
  refine sc_arg X hw hl 2 rfl (by omega) d_L_law_127 d_L_law_128 d_L_law_129 d_L_law_130 d_L_law_131 ?_
  refine sc_arg X hw hl 3 rfl (by omega) d_L_law_132 d_L_law_133 d_L_law_134 d_L_law_135 d_L_law_136 ?_
  refine sc_arg X hw hl 4 rfl (by omega) d_L_law_137 d_L_law_138 d_L_law_139 d_L_law_140 d_L_law_141 ?_
  refine sc_arg X hw hl 5 rfl (by omega) d_L_law_142 d_L_law_143 d_L_law_144 d_L_law_145 d_L_law_146 ?_
  refine call_Vi (Xs := wE ad cs u.2.1 u.2.2.1 u.2.2.2.1 u.2.2.2.2) (b := am 0) (As := [.int (iI (vX xs (i + 1))), .int (iI (vX xs (i + 2))), .int (iI (vX xs (i + 3))), .int (iI (vX xs (i + 4))), .int (iI (vX xs (i + 5)))]) (rest := [.int (iI u.1)]) X.1 lk_L_17 (c_M_initial l D cs am M N (vX xs (i + 1)) (vX xs (i + 2)) (vX xs (i + 3)) (vX xs (i + 4)) (vX xs (i + 5)) (vX_R xs (i + 1)) (vX_R xs (i + 2)) (vX_R xs (i + 3)) (vX_R xs (i + 4)) (vX_R xs (i + 5)) hR) ⟨by decide, by decide⟩ rcv_M hw rfl hl.1 (Nat.le_of_ble_eq_true rfl) d_L_law_147 rfl rfl ⟨by decide, by decide⟩ (fun v H locs hv hw => ?_)
  obtain ⟨g1, g2⟩ := pr_initial h hR hu hv
  exact sc_same X g1 d_L_law_150 (by decide) (nx _ _ _ _ _ _ _ g2 hw)
set_option maxRecDepth 100000 in
set_option maxHeartbeats 4000000 in
theorem lo_step (X : LX D cs p m c s b L xs) (hL6 : i + 6 ≤ L) (hok : Ok M E O P z) (hw : HW D (AL s) s.heap (wE ad cs E O P z ++ wM am cs M) H locs) (hl : lv_has ls 4 (lL b (ad 5 0) (am 0) i))
    (nx : ∀ (M E O P : Nat → Nat → Int) (z : Nat → Int) (H : Heap) (locs : List Loc), Ok M E O P z → HW D (AL s) s.heap (wE ad cs E O P z ++ wM am cs M) H locs → W p l e room_1 s m #[Value.ref b] below meth c H locs 279 14862 Q (F0 m 598 ls [])) :
    W p l e room_1 s m #[Value.ref b] below meth c H locs 279 14862 Q (F0 m 155 ls []) := by
  obtain ⟨N, t, q, S, hR, h⟩ := hok
  refine sy_aload_n X.1 d_L_law_155 hl 1 rfl ?_
  refine sc_arg X hw hl 1 rfl (by omega) d_L_law_156 d_L_law_157 d_L_law_158 d_L_law_159 d_L_law_160 ?_
  refine sc_arg X hw hl 2 rfl (by omega) d_L_law_161 d_L_law_162 d_L_law_163 d_L_law_164 d_L_law_165 ?_
  refine sc_arg X hw hl 3 rfl (by omega) d_L_law_166 d_L_law_167 d_L_law_168 d_L_law_169 d_L_law_170 ?_
  refine sc_arg X hw hl 4 rfl (by omega) d_L_law_171 d_L_law_172 d_L_law_173 d_L_law_174 d_L_law_175 ?_
  refine call_Vi (Xs := wM am cs M) (b := ad 5 0) (As := [.int (iI (vX xs (i + 1))), .int (iI (vX xs (i + 2))), .int (iI (vX xs (i + 3))), .int (iI (vX xs (i + 4)))]) (rest := []) X.1 lk_L_18 (c_E_step l D cs ad E O P z (vX xs (i + 1)) (vX xs (i + 2)) (vX xs (i + 3)) (vX xs (i + 4)) (vX_R xs (i + 1)) (vX_R xs (i + 2)) (vX_R xs (i + 3)) (vX_R xs (i + 4))) ⟨by decide, by decide⟩ rcv_E (hw.perm List.perm_append_comm) rfl hl.1 (Nat.le_of_ble_eq_true rfl) d_L_law_176 rfl rfl ⟨by decide, by decide⟩ (fun u H locs hu hw => ?_)
  have hw := hw.perm List.perm_append_comm
  refine sy_aload_n X.1 d_L_law_179 hl 2 rfl ?_
  refine sc_arg X hw hl 1 rfl (by omega) d_L_law_180 d_L_law_181 d_L_law_182 d_L_law_183 d_L_law_184 ?_
  refine sc_arg X hw hl 2 rfl (by omega) d_L_law_185 d_L_law_186 d_L_law_187 d_L_law_188 d_L_law_189 ?_
  refine sc_arg X hw hl 3 rfl (by omega) d_L_law_190 d_L_law_191 d_L_law_192 d_L_law_193 d_L_law_194 ?_
  refine sc_arg X hw hl 4 rfl (by omega) d_L_law_195 d_L_law_196 d_L_law_197 d_L_law_198 d_L_law_199 ?_
  refine call_Vi (Xs := wE ad cs u.2.1 u.2.2.1 u.2.2.2.1 u.2.2.2.2) (b := am 0) (As := [.int (iI (vX xs (i + 1))), .int (iI (vX xs (i + 2))), .int (iI (vX xs (i + 3))), .int (iI (vX xs (i + 4)))]) (rest := [.int (iI u.1)]) X.1 lk_L_22 (c_M_step l D cs am M N (vX xs (i + 1)) (vX xs (i + 2)) (vX xs (i + 3)) (vX xs (i + 4)) (vX_R xs (i + 1)) (vX_R xs (i + 2)) (vX_R xs (i + 3)) (vX_R xs (i + 4))) ⟨by decide, by decide⟩ rcv_M hw rfl hl.1 (Nat.le_of_ble_eq_true rfl) d_L_law_200 rfl rfl ⟨by decide, by decide⟩ (fun v H locs hv hw => ?_)
  obtain ⟨g1, g2⟩ := pr_step h hR hu hv
  exact sc_same X g1 d_L_law_203 (by decide) (nx _ _ _ _ _ _ _ g2 hw)
set_option maxRecDepth 100000 in
set_option maxHeartbeats 4000000 in
theorem lo_noise (X : LX D cs p m c s b L xs) (hL6 : i + 6 ≤ L) (hok : Ok M E O P z) (hw : HW D (AL s) s.heap (wE ad cs E O P z ++ wM am cs M) H locs) (hl : lv_has ls 4 (lL b (ad 5 0) (am 0) i))
    (nx : ∀ (M E O P : Nat → Nat → Int) (z : Nat → Int) (H : Heap) (locs : List Loc), Ok M E O P z → HW D (AL s) s.heap (wE ad cs E O P z ++ wM am cs M) H locs → W p l e room_1 s m #[Value.ref b] below meth c H locs 279 14862 Q (F0 m 598 ls [])) :
    W p l e room_1 s m #[Value.ref b] below meth c H locs 279 14862 Q (F0 m 208 ls []) := by
  obtain ⟨N, t, q, S, hR, h⟩ := hok
  refine sy_aload_n X.1 d_L_law_208 hl 1 rfl ?_
  refine sc_arg X hw hl 1 rfl (by omega) d_L_law_209 d_L_law_210 d_L_law_211 d_L_law_212 d_L_law_213 ?_
  refine sc_arg X hw hl 2 rfl (by omega) d_L_law_214 d_L_law_215 d_L_law_216 d_L_law_217 d_L_law_218 ?_
  refine sc_arg X hw hl 3 rfl (by omega) d_L_law_219 d_L_law_220 d_L_law_221 d_L_law_222 d_L_law_223 ?_
  refine call_Vi (Xs := wM am cs M) (b := ad 5 0) (As := [.int (iI (vX xs (i + 1))), .int (iI (vX xs (i + 2))), .int (iI (vX xs (i + 3)))]) (rest := []) X.1 lk_L_23 (c_E_noise l D cs ad E O P z (vX xs (i + 1)) (vX xs (i + 2)) (vX xs (i + 3)) (vX_R xs (i + 1)) (vX_R xs (i + 2)) (vX_R xs (i + 3))) ⟨by decide, by decide⟩ rcv_E (hw.perm List.perm_append_comm) rfl hl.1 (Nat.le_of_ble_eq_true rfl) d_L_law_224 rfl rfl ⟨by decide, by decide⟩ (fun u H locs hu hw => ?_)
  have hw := hw.perm List.perm_append_comm
  refine sy_aload_n X.1 d_L_law_227 hl 2 rfl ?_
  refine sc_arg X hw hl 1 rfl (by omega) d_L_law_228 d_L_law_229 d_L_law_230 d_L_law_231 d_L_law_232 ?_
  refine sc_arg X hw hl 2 rfl (by omega) d_L_law_233 d_L_law_234 d_L_law_235 d_L_law_236 d_L_law_237 ?_
  refine sc_arg X hw hl 3 rfl (by omega) d_L_law_238 d_L_law_239 d_L_law_240 d_L_law_241 d_L_law_242 ?_
  refine call_Vi (Xs := wE ad cs u.2.1 u.2.2.1 u.2.2.2.1 u.2.2.2.2) (b := am 0) (As := [.int (iI (vX xs (i + 1))), .int (iI (vX xs (i + 2))), .int (iI (vX xs (i + 3)))]) (rest := [.int (iI u.1)]) X.1 lk_L_27 (c_M_noise l D cs am M N (vX xs (i + 1)) (vX xs (i + 2)) (vX xs (i + 3)) (vX_R xs (i + 1)) (vX_R xs (i + 2)) (vX_R xs (i + 3))) ⟨by decide, by decide⟩ rcv_M hw rfl hl.1 (Nat.le_of_ble_eq_true rfl) d_L_law_243 rfl rfl ⟨by decide, by decide⟩ (fun v H locs hv hw => ?_)
  obtain ⟨g1, g2⟩ := pr_noise h hR hu hv
  exact sc_same X g1 d_L_law_246 (by decide) (nx _ _ _ _ _ _ _ g2 hw)
set_option maxRecDepth 100000 in
set_option maxHeartbeats 4000000 in
theorem lo_observe (X : LX D cs p m c s b L xs) (hL6 : i + 6 ≤ L) (hok : Ok M E O P z) (hw : HW D (AL s) s.heap (wE ad cs E O P z ++ wM am cs M) H locs) (hl : lv_has ls 4 (lL b (ad 5 0) (am 0) i))
    (nx : ∀ (M E O P : Nat → Nat → Int) (z : Nat → Int) (H : Heap) (locs : List Loc), Ok M E O P z → HW D (AL s) s.heap (wE ad cs E O P z ++ wM am cs M) H locs → W p l e room_1 s m #[Value.ref b] below meth c H locs 279 14862 Q (F0 m 598 ls [])) :
    W p l e room_1 s m #[Value.ref b] below meth c H locs 279 14862 Q (F0 m 251 ls []) := by
  obtain ⟨N, t, q, S, hR, h⟩ := hok
  refine sy_aload_n X.1 d_L_law_251 hl 1 rfl ?_
  refine sc_arg X hw hl 1 rfl (by omega) d_L_law_252 d_L_law_253 d_L_law_254 d_L_law_255 d_L_law_256 ?_
  refine sc_arg X hw hl 2 rfl (by omega) d_L_law_257 d_L_law_258 d_L_law_259 d_L_law_260 d_L_law_261 ?_
  refine sc_arg X hw hl 3 rfl (by omega) d_L_law_262 d_L_law_263 d_L_law_264 d_L_law_265 d_L_law_266 ?_
  refine sc_arg X hw hl 4 rfl (by omega) d_L_law_267 d_L_law_268 d_L_law_269 d_L_law_270 d_L_law_271 ?_
  refine call_Vi (Xs := wM am cs M) (b := ad 5 0) (As := [.int (iI (vX xs (i + 1))), .int (iI (vX xs (i + 2))), .int (iI (vX xs (i + 3))), .int (iI (vX xs (i + 4)))]) (rest := []) X.1 lk_L_28 (c_E_observe l D cs ad E O P z t q (vX xs (i + 1)) (vX xs (i + 2)) (vX xs (i + 3)) (vX xs (i + 4)) (vX_R xs (i + 1)) (vX_R xs (i + 2)) (vX_R xs (i + 3)) (vX_R xs (i + 4)) h.tq.1.1 h.tq.1.2.2 h.tq.2.1 h.tq.2.2.2) ⟨by decide, by decide⟩ rcv_E (hw.perm List.perm_append_comm) rfl hl.1 (Nat.le_of_ble_eq_true rfl) d_L_law_272 rfl rfl ⟨by decide, by decide⟩ (fun u H locs hu hw => ?_)
  have hw := hw.perm List.perm_append_comm
  refine sy_aload_n X.1 d_L_law_275 hl 2 rfl ?_
  refine sc_arg X hw hl 1 rfl (by omega) d_L_law_276 d_L_law_277 d_L_law_278 d_L_law_279 d_L_law_280 ?_
  refine sc_arg X hw hl 2 rfl (by omega) d_L_law_281 d_L_law_282 d_L_law_283 d_L_law_284 d_L_law_285 ?_
  refine sc_arg X hw hl 3 rfl (by omega) d_L_law_286 d_L_law_287 d_L_law_288 d_L_law_289 d_L_law_290 ?_
  refine sc_arg X hw hl 4 rfl (by omega) d_L_law_291 d_L_law_292 d_L_law_293 d_L_law_294 d_L_law_295 ?_
  refine call_Vi (Xs := wE ad cs u.2.1 u.2.2.1 u.2.2.2.1 u.2.2.2.2) (b := am 0) (As := [.int (iI (vX xs (i + 1))), .int (iI (vX xs (i + 2))), .int (iI (vX xs (i + 3))), .int (iI (vX xs (i + 4)))]) (rest := [.int (iI u.1)]) X.1 lk_L_32 (c_M_observe l D cs am M N t q (vX xs (i + 1)) (vX xs (i + 2)) (vX xs (i + 3)) (vX xs (i + 4)) (vX_R xs (i + 1)) (vX_R xs (i + 2)) (vX_R xs (i + 3)) (vX_R xs (i + 4)) hR h.tq.1.2.1 h.tq.1.2.2 h.tq.2.2.1 h.tq.2.2.2 (fun j hj => (h.minv.2.2.2.2.1 t (Nat.le_refl t) j hj).1) (fun ho => h.hpos ho)) ⟨by decide, by decide⟩ rcv_M hw rfl hl.1 (Nat.le_of_ble_eq_true rfl) d_L_law_296 rfl rfl ⟨by decide, by decide⟩ (fun v H locs hv hw => ?_)
  obtain ⟨g1, g2⟩ := pr_observe h hR hu hv
  exact sc_same X g1 d_L_law_299 (by decide) (nx _ _ _ _ _ _ _ g2 hw)
set_option maxRecDepth 100000 in
set_option maxHeartbeats 4000000 in
theorem lo_advance (X : LX D cs p m c s b L xs) (hL6 : i + 6 ≤ L) (hok : Ok M E O P z) (hw : HW D (AL s) s.heap (wE ad cs E O P z ++ wM am cs M) H locs) (hl : lv_has ls 4 (lL b (ad 5 0) (am 0) i))
    (nx : ∀ (M E O P : Nat → Nat → Int) (z : Nat → Int) (H : Heap) (locs : List Loc), Ok M E O P z → HW D (AL s) s.heap (wE ad cs E O P z ++ wM am cs M) H locs → W p l e room_1 s m #[Value.ref b] below meth c H locs 279 14862 Q (F0 m 598 ls [])) :
    W p l e room_1 s m #[Value.ref b] below meth c H locs 279 14862 Q (F0 m 304 ls []) := by
  obtain ⟨N, t, q, S, hR, h⟩ := hok
  refine sy_aload_n X.1 d_L_law_304 hl 1 rfl ?_
  refine call_Vi (Xs := wM am cs M) (b := ad 5 0) (As := []) (rest := []) X.1 lk_L_33 (c_E_advance l D cs ad E O P z t q h.tq.1.1 h.tq.1.2.2 h.tq.2.1 h.tq.2.2.2 h.1.2.2.2.2.2.1 h.1.2.2.2.2.2.2.1) ⟨by decide, by decide⟩ rcv_E (hw.perm List.perm_append_comm) rfl hl.1 (Nat.le_of_ble_eq_true rfl) d_L_law_305 rfl rfl ⟨by decide, by decide⟩ (fun u H locs hu hw => ?_)
  have hw := hw.perm List.perm_append_comm
  refine sy_aload_n X.1 d_L_law_308 hl 2 rfl ?_
  refine call_Vi (Xs := wE ad cs u.2.1 u.2.2.1 u.2.2.2.1 u.2.2.2.2) (b := am 0) (As := []) (rest := [.int (iI u.1)]) X.1 lk_L_37 (c_M_advance l D cs am M N t hR h.tq.1.2.1 h.tq.1.2.2 h.minv.2.2.1.1 h.minv.2.2.1.2.1 (fun j hj => (h.minv.2.2.2.2.1 t (Nat.le_refl t) j hj).1)) ⟨by decide, by decide⟩ rcv_M hw rfl hl.1 (Nat.le_of_ble_eq_true rfl) d_L_law_309 rfl rfl ⟨by decide, by decide⟩ (fun v H locs hv hw => ?_)
  obtain ⟨g1, g2⟩ := pr_advance h hR hu hv
  exact sc_same X g1 d_L_law_312 (by decide) (nx _ _ _ _ _ _ _ g2 hw)
set_option maxRecDepth 100000 in
set_option maxHeartbeats 4000000 in
theorem lo_time (X : LX D cs p m c s b L xs) (hL6 : i + 6 ≤ L) (hok : Ok M E O P z) (hw : HW D (AL s) s.heap (wE ad cs E O P z ++ wM am cs M) H locs) (hl : lv_has ls 4 (lL b (ad 5 0) (am 0) i))
    (nx : ∀ (M E O P : Nat → Nat → Int) (z : Nat → Int) (H : Heap) (locs : List Loc), Ok M E O P z → HW D (AL s) s.heap (wE ad cs E O P z ++ wM am cs M) H locs → W p l e room_1 s m #[Value.ref b] below meth c H locs 279 14862 Q (F0 m 598 ls [])) :
    W p l e room_1 s m #[Value.ref b] below meth c H locs 279 14862 Q (F0 m 317 ls []) := by
  obtain ⟨N, t, q, S, hR, h⟩ := hok
  refine sy_aload_n X.1 d_L_law_317 hl 1 rfl ?_
  refine call_Vi (Xs := wM am cs M) (b := ad 5 0) (As := []) (rest := []) X.1 lk_L_38 (c_E_time l D cs ad E O P z) ⟨by decide, by decide⟩ rcv_E (hw.perm List.perm_append_comm) rfl hl.1 (Nat.le_of_ble_eq_true rfl) d_L_law_318 rfl rfl ⟨by decide, by decide⟩ (fun u H locs hu hw => ?_)
  have hw := hw.perm List.perm_append_comm
  refine sy_aload_n X.1 d_L_law_321 hl 2 rfl ?_
  refine call_Vi (Xs := wE ad cs E O P z) (b := am 0) (As := []) (rest := [.int (iI (E 0 0))]) X.1 lk_L_41 (c_M_time l D cs am M N) ⟨by decide, by decide⟩ rcv_M hw rfl hl.1 (Nat.le_of_ble_eq_true rfl) d_L_law_322 rfl rfl ⟨by decide, by decide⟩ (fun v H locs hv hw => ?_)
  exact sc_same X (h.tq.1.1.trans h.tq.1.2.1.symm) d_L_law_325 (by decide) (nx _ _ _ _ _ _ _ ⟨N, t, q, S, hR, h⟩ hw)
set_option maxRecDepth 100000 in
set_option maxHeartbeats 4000000 in
theorem lo_observations (X : LX D cs p m c s b L xs) (hL6 : i + 6 ≤ L) (hok : Ok M E O P z) (hw : HW D (AL s) s.heap (wE ad cs E O P z ++ wM am cs M) H locs) (hl : lv_has ls 4 (lL b (ad 5 0) (am 0) i))
    (nx : ∀ (M E O P : Nat → Nat → Int) (z : Nat → Int) (H : Heap) (locs : List Loc), Ok M E O P z → HW D (AL s) s.heap (wE ad cs E O P z ++ wM am cs M) H locs → W p l e room_1 s m #[Value.ref b] below meth c H locs 279 14862 Q (F0 m 598 ls [])) :
    W p l e room_1 s m #[Value.ref b] below meth c H locs 279 14862 Q (F0 m 330 ls []) := by
  obtain ⟨N, t, q, S, hR, h⟩ := hok
  refine sy_aload_n X.1 d_L_law_330 hl 1 rfl ?_
  refine call_Vi (Xs := wM am cs M) (b := ad 5 0) (As := []) (rest := []) X.1 lk_L_42 (c_E_observations l D cs ad E O P z) ⟨by decide, by decide⟩ rcv_E (hw.perm List.perm_append_comm) rfl hl.1 (Nat.le_of_ble_eq_true rfl) d_L_law_331 rfl rfl ⟨by decide, by decide⟩ (fun u H locs hu hw => ?_)
  have hw := hw.perm List.perm_append_comm
  refine sy_aload_n X.1 d_L_law_334 hl 2 rfl ?_
  refine call_Vi (Xs := wE ad cs E O P z) (b := am 0) (As := []) (rest := [.int (iI (E 0 1))]) X.1 lk_L_45 (c_M_observations l D cs am M N) ⟨by decide, by decide⟩ rcv_M hw rfl hl.1 (Nat.le_of_ble_eq_true rfl) d_L_law_335 rfl rfl ⟨by decide, by decide⟩ (fun v H locs hv hw => ?_)
  exact sc_same X (h.tq.2.1.trans h.tq.2.2.1.symm) d_L_law_338 (by decide) (nx _ _ _ _ _ _ _ ⟨N, t, q, S, hR, h⟩ hw)
set_option maxRecDepth 100000 in
set_option maxHeartbeats 4000000 in
theorem lo_sign (X : LX D cs p m c s b L xs) (hL6 : i + 6 ≤ L) (hok : Ok M E O P z) (hw : HW D (AL s) s.heap (wE ad cs E O P z ++ wM am cs M) H locs) (hl : lv_has ls 4 (lL b (ad 5 0) (am 0) i))
    (nx : ∀ (M E O P : Nat → Nat → Int) (z : Nat → Int) (H : Heap) (locs : List Loc), Ok M E O P z → HW D (AL s) s.heap (wE ad cs E O P z ++ wM am cs M) H locs → W p l e room_1 s m #[Value.ref b] below meth c H locs 279 14862 Q (F0 m 598 ls [])) :
    W p l e room_1 s m #[Value.ref b] below meth c H locs 279 14862 Q (F0 m 343 ls []) := by
  obtain ⟨N, t, q, S, hR, h⟩ := hok
  refine sy_aload_n X.1 d_L_law_343 hl 1 rfl ?_
  refine sc_arg X hw hl 1 rfl (by omega) d_L_law_344 d_L_law_345 d_L_law_346 d_L_law_347 d_L_law_348 ?_
  refine sc_arg X hw hl 2 rfl (by omega) d_L_law_349 d_L_law_350 d_L_law_351 d_L_law_352 d_L_law_353 ?_
  refine sc_arg X hw hl 3 rfl (by omega) d_L_law_354 d_L_law_355 d_L_law_356 d_L_law_357 d_L_law_358 ?_
  refine call_Vi (Xs := wM am cs M) (b := ad 5 0) (As := [.int (iI (vX xs (i + 1))), .int (iI (vX xs (i + 2))), .int (iI (vX xs (i + 3)))]) (rest := []) X.1 lk_L_46 (c_E_sign l D cs ad E O P z t q (vX xs (i + 1)) (vX xs (i + 2)) (vX xs (i + 3)) h.ci (vX_R xs (i + 1)) (vX_R xs (i + 2)) (vX_R xs (i + 3)) (fun ok => h.small ok)) ⟨by decide, by decide⟩ rcv_E (hw.perm List.perm_append_comm) rfl hl.1 (Nat.le_of_ble_eq_true rfl) d_L_law_359 rfl rfl ⟨by decide, by decide⟩ (fun u H locs hu hw => ?_)
  have hw := hw.perm List.perm_append_comm
  refine sy_aload_n X.1 d_L_law_362 hl 2 rfl ?_
  refine sc_arg X hw hl 1 rfl (by omega) d_L_law_363 d_L_law_364 d_L_law_365 d_L_law_366 d_L_law_367 ?_
  refine sc_arg X hw hl 2 rfl (by omega) d_L_law_368 d_L_law_369 d_L_law_370 d_L_law_371 d_L_law_372 ?_
  refine sc_arg X hw hl 3 rfl (by omega) d_L_law_373 d_L_law_374 d_L_law_375 d_L_law_376 d_L_law_377 ?_
  refine call_Vi (Xs := wE ad cs E O P u.2) (b := am 0) (As := [.int (iI (vX xs (i + 1))), .int (iI (vX xs (i + 2))), .int (iI (vX xs (i + 3)))]) (rest := [.int (iI u.1)]) X.1 lk_L_49 (c_M_sign l D cs am M N t q hR h.minv (vX xs (i + 1)) (vX xs (i + 2)) (vX xs (i + 3)) (vX_R xs (i + 1)) (vX_R xs (i + 2)) (vX_R xs (i + 3))) ⟨by decide, by decide⟩ rcv_M hw rfl hl.1 (Nat.le_of_ble_eq_true rfl) d_L_law_378 rfl rfl ⟨by decide, by decide⟩ (fun v H locs hv hw => ?_)
  obtain ⟨g1, g2⟩ := pr_sign h hR hu hv
  exact sc_same X g1 d_L_law_381 (by decide) (nx _ _ _ _ _ _ _ g2 hw)
set_option maxRecDepth 100000 in
set_option maxHeartbeats 4000000 in
theorem lo_bits (X : LX D cs p m c s b L xs) (hL6 : i + 6 ≤ L) (hok : Ok M E O P z) (hw : HW D (AL s) s.heap (wE ad cs E O P z ++ wM am cs M) H locs) (hl : lv_has ls 4 (lL b (ad 5 0) (am 0) i))
    (nx : ∀ (M E O P : Nat → Nat → Int) (z : Nat → Int) (H : Heap) (locs : List Loc), Ok M E O P z → HW D (AL s) s.heap (wE ad cs E O P z ++ wM am cs M) H locs → W p l e room_1 s m #[Value.ref b] below meth c H locs 279 14862 Q (F0 m 598 ls [])) :
    W p l e room_1 s m #[Value.ref b] below meth c H locs 279 14862 Q (F0 m 386 ls []) := by
  obtain ⟨N, t, q, S, hR, h⟩ := hok
  refine sy_aload_n X.1 d_L_law_386 hl 1 rfl ?_
  refine sc_arg X hw hl 1 rfl (by omega) d_L_law_387 d_L_law_388 d_L_law_389 d_L_law_390 d_L_law_391 ?_
  refine sc_arg X hw hl 2 rfl (by omega) d_L_law_392 d_L_law_393 d_L_law_394 d_L_law_395 d_L_law_396 ?_
  refine sc_arg X hw hl 3 rfl (by omega) d_L_law_397 d_L_law_398 d_L_law_399 d_L_law_400 d_L_law_401 ?_
  refine sc_arg X hw hl 4 rfl (by omega) d_L_law_402 d_L_law_403 d_L_law_404 d_L_law_405 d_L_law_406 ?_
  refine sc_bool X (vX_R xs (i + 4)) d_L_law_407 d_L_law_410 d_L_law_411 d_L_law_414 ?_
  refine call_Vi (Xs := wM am cs M) (b := ad 5 0) (As := [.int (iI (vX xs (i + 1))), .int (iI (vX xs (i + 2))), .int (iI (vX xs (i + 3))), .int (iI (bz (vX xs (i + 4))))]) (rest := []) X.1 lk_L_50 (c_E_bits l D cs ad E O P z t q (vX xs (i + 1)) (vX xs (i + 2)) (vX xs (i + 3)) h.ci (vX_R xs (i + 1)) (vX_R xs (i + 2)) (vX_R xs (i + 3)) (fun ok => h.small ok) (bz (vX xs (i + 4))) (bz_01 _)) ⟨by decide, by decide⟩ rcv_E (hw.perm List.perm_append_comm) rfl hl.1 (Nat.le_of_ble_eq_true rfl) d_L_law_415 rfl rfl ⟨by decide, by decide⟩ (fun u H locs hu hw => ?_)
  have hw := hw.perm List.perm_append_comm
  refine sy_aload_n X.1 d_L_law_418 hl 2 rfl ?_
  refine sc_arg X hw hl 1 rfl (by omega) d_L_law_419 d_L_law_420 d_L_law_421 d_L_law_422 d_L_law_423 ?_
  refine sc_arg X hw hl 2 rfl (by omega) d_L_law_424 d_L_law_425 d_L_law_426 d_L_law_427 d_L_law_428 ?_
  refine sc_arg X hw hl 3 rfl (by omega) d_L_law_429 d_L_law_430 d_L_law_431 d_L_law_432 d_L_law_433 ?_
  refine sc_arg X hw hl 4 rfl (by omega) d_L_law_434 d_L_law_435 d_L_law_436 d_L_law_437 d_L_law_438 ?_
  refine sc_bool X (vX_R xs (i + 4)) d_L_law_439 d_L_law_442 d_L_law_443 d_L_law_446 ?_
  refine call_Vi (Xs := wE ad cs E O P u.2) (b := am 0) (As := [.int (iI (vX xs (i + 1))), .int (iI (vX xs (i + 2))), .int (iI (vX xs (i + 3))), .int (iI (bz (vX xs (i + 4))))]) (rest := [.int (iI u.1)]) X.1 lk_L_54 (c_M_bits l D cs am M N t q hR h.minv (vX xs (i + 1)) (vX xs (i + 2)) (vX xs (i + 3)) (vX_R xs (i + 1)) (vX_R xs (i + 2)) (vX_R xs (i + 3)) (bz (vX xs (i + 4))) (bz_R (vX xs (i + 4)))) ⟨by decide, by decide⟩ rcv_M hw rfl hl.1 (Nat.le_of_ble_eq_true rfl) d_L_law_447 rfl rfl ⟨by decide, by decide⟩ (fun v H locs hv hw => ?_)
  obtain ⟨g1, g2⟩ := pr_bits h hR hu hv
  exact sc_same X g1 d_L_law_450 (by decide) (nx _ _ _ _ _ _ _ g2 hw)
set_option maxRecDepth 100000 in
set_option maxHeartbeats 4000000 in
theorem lo_word (X : LX D cs p m c s b L xs) (hL6 : i + 6 ≤ L) (hok : Ok M E O P z) (hw : HW D (AL s) s.heap (wE ad cs E O P z ++ wM am cs M) H locs) (hl : lv_has ls 4 (lL b (ad 5 0) (am 0) i))
    (nx : ∀ (M E O P : Nat → Nat → Int) (z : Nat → Int) (H : Heap) (locs : List Loc), Ok M E O P z → HW D (AL s) s.heap (wE ad cs E O P z ++ wM am cs M) H locs → W p l e room_1 s m #[Value.ref b] below meth c H locs 279 14862 Q (F0 m 598 ls [])) :
    W p l e room_1 s m #[Value.ref b] below meth c H locs 279 14862 Q (F0 m 455 ls []) := by
  obtain ⟨N, t, q, S, hR, h⟩ := hok
  refine sy_aload_n X.1 d_L_law_455 hl 1 rfl ?_
  refine sc_arg X hw hl 1 rfl (by omega) d_L_law_456 d_L_law_457 d_L_law_458 d_L_law_459 d_L_law_460 ?_
  refine sc_arg X hw hl 2 rfl (by omega) d_L_law_461 d_L_law_462 d_L_law_463 d_L_law_464 d_L_law_465 ?_
  refine sc_arg X hw hl 3 rfl (by omega) d_L_law_466 d_L_law_467 d_L_law_468 d_L_law_469 d_L_law_470 ?_
  refine sc_arg X hw hl 4 rfl (by omega) d_L_law_471 d_L_law_472 d_L_law_473 d_L_law_474 d_L_law_475 ?_
  refine sc_bool X (vX_R xs (i + 4)) d_L_law_476 d_L_law_479 d_L_law_480 d_L_law_483 ?_
  refine sc_arg X hw hl 5 rfl (by omega) d_L_law_484 d_L_law_485 d_L_law_486 d_L_law_487 d_L_law_488 ?_
  refine call_Vj (Xs := wM am cs M) (b := ad 5 0) (As := [.int (iI (vX xs (i + 1))), .int (iI (vX xs (i + 2))), .int (iI (vX xs (i + 3))), .int (iI (bz (vX xs (i + 4)))), .int (iI (vX xs (i + 5)))]) (rest := []) X.1 lk_L_55 (c_E_word l D cs ad E O P z t q (vX xs (i + 1)) (vX xs (i + 2)) (vX xs (i + 3)) h.ci (vX_R xs (i + 1)) (vX_R xs (i + 2)) (vX_R xs (i + 3)) (fun ok => h.small ok) (bz (vX xs (i + 4))) (vX xs (i + 5)) (bz_01 _) (vX_R xs (i + 5))) ⟨by decide, by decide⟩ rcv_E (hw.perm List.perm_append_comm) rfl hl.1 (Nat.le_of_ble_eq_true rfl) d_L_law_489 rfl rfl ⟨by decide, by decide⟩ (fun u H locs hu hw => ?_)
  have hw := hw.perm List.perm_append_comm
  refine sy_aload_n X.1 d_L_law_492 hl 2 rfl ?_
  refine sc_arg X hw hl 1 rfl (by omega) d_L_law_493 d_L_law_494 d_L_law_495 d_L_law_496 d_L_law_497 ?_
  refine sc_arg X hw hl 2 rfl (by omega) d_L_law_498 d_L_law_499 d_L_law_500 d_L_law_501 d_L_law_502 ?_
  refine sc_arg X hw hl 3 rfl (by omega) d_L_law_503 d_L_law_504 d_L_law_505 d_L_law_506 d_L_law_507 ?_
  refine sc_arg X hw hl 4 rfl (by omega) d_L_law_508 d_L_law_509 d_L_law_510 d_L_law_511 d_L_law_512 ?_
  refine sc_bool X (vX_R xs (i + 4)) d_L_law_513 d_L_law_516 d_L_law_517 d_L_law_520 ?_
  refine sc_arg X hw hl 5 rfl (by omega) d_L_law_521 d_L_law_522 d_L_law_523 d_L_law_524 d_L_law_525 ?_
  refine call_Vj (Xs := wE ad cs E O P u.2) (b := am 0) (As := [.int (iI (vX xs (i + 1))), .int (iI (vX xs (i + 2))), .int (iI (vX xs (i + 3))), .int (iI (bz (vX xs (i + 4)))), .int (iI (vX xs (i + 5)))]) (rest := [.long (jI u.1)]) X.1 lk_L_59 (c_M_word l D cs am M N t q hR h.minv (vX xs (i + 1)) (vX xs (i + 2)) (vX xs (i + 3)) (vX_R xs (i + 1)) (vX_R xs (i + 2)) (vX_R xs (i + 3)) (bz (vX xs (i + 4))) (bz_R (vX xs (i + 4))) (vX xs (i + 5)) (vX_R xs (i + 5))) ⟨by decide, by decide⟩ rcv_M hw rfl hl.1 (Nat.le_of_ble_eq_true rfl) d_L_law_526 rfl rfl ⟨by decide, by decide⟩ (fun v H locs hv hw => ?_)
  obtain ⟨g1, g2, g3⟩ := pr_word h hR hu hv
  have r1 : R63 u.1 := ⟨by have := g2.1; omega, by have := g2.2; omega⟩
  exact sy_lcif_eq (tgt := 598) X.1 d_L_law_529 d_L_law_530 (by decide) r1 (by rw [← g1]; exact r1) (fun _ => nx _ _ _ _ _ _ _ g3 hw) (fun g => absurd g1 g)
set_option maxRecDepth 100000 in
set_option maxHeartbeats 4000000 in
theorem lo_compare (X : LX D cs p m c s b L xs) (hL6 : i + 6 ≤ L) (hok : Ok M E O P z) (hw : HW D (AL s) s.heap (wE ad cs E O P z ++ wM am cs M) H locs) (hl : lv_has ls 4 (lL b (ad 5 0) (am 0) i))
    (nx : ∀ (M E O P : Nat → Nat → Int) (z : Nat → Int) (H : Heap) (locs : List Loc), Ok M E O P z → HW D (AL s) s.heap (wE ad cs E O P z ++ wM am cs M) H locs → W p l e room_1 s m #[Value.ref b] below meth c H locs 279 14862 Q (F0 m 598 ls [])) :
    W p l e room_1 s m #[Value.ref b] below meth c H locs 279 14862 Q (F0 m 535 ls []) := by
  obtain ⟨N, t, q, S, hR, h⟩ := hok
  refine sy_aload_n X.1 d_L_law_535 hl 1 rfl ?_
  refine sc_arg X hw hl 1 rfl (by omega) d_L_law_536 d_L_law_537 d_L_law_538 d_L_law_539 d_L_law_540 ?_
  refine sc_arg X hw hl 2 rfl (by omega) d_L_law_541 d_L_law_542 d_L_law_543 d_L_law_544 d_L_law_545 ?_
  refine sc_arg X hw hl 3 rfl (by omega) d_L_law_546 d_L_law_547 d_L_law_548 d_L_law_549 d_L_law_550 ?_
  refine sc_arg X hw hl 4 rfl (by omega) d_L_law_551 d_L_law_552 d_L_law_553 d_L_law_554 d_L_law_555 ?_
  refine sc_arg X hw hl 5 rfl (by omega) d_L_law_556 d_L_law_557 d_L_law_558 d_L_law_559 d_L_law_560 ?_
  refine call_Vi (Xs := wM am cs M) (b := ad 5 0) (As := [.int (iI (vX xs (i + 1))), .int (iI (vX xs (i + 2))), .int (iI (vX xs (i + 3))), .int (iI (vX xs (i + 4))), .int (iI (vX xs (i + 5)))]) (rest := []) X.1 lk_L_60 (c_E_compare l D cs ad E O P z t q (vX xs (i + 1)) (vX xs (i + 2)) (vX xs (i + 3)) h.ci (vX_R xs (i + 1)) (vX_R xs (i + 2)) (vX_R xs (i + 3)) (fun ok => h.small ok) (vX xs (i + 4)) (vX xs (i + 5)) (vX_R xs (i + 4)) (vX_R xs (i + 5))) ⟨by decide, by decide⟩ rcv_E (hw.perm List.perm_append_comm) rfl hl.1 (Nat.le_of_ble_eq_true rfl) d_L_law_561 rfl rfl ⟨by decide, by decide⟩ (fun u H locs hu hw => ?_)
  have hw := hw.perm List.perm_append_comm
  refine sy_aload_n X.1 d_L_law_564 hl 2 rfl ?_
  refine sc_arg X hw hl 1 rfl (by omega) d_L_law_565 d_L_law_566 d_L_law_567 d_L_law_568 d_L_law_569 ?_
  refine sc_arg X hw hl 2 rfl (by omega) d_L_law_570 d_L_law_571 d_L_law_572 d_L_law_573 d_L_law_574 ?_
  refine sc_arg X hw hl 3 rfl (by omega) d_L_law_575 d_L_law_576 d_L_law_577 d_L_law_578 d_L_law_579 ?_
  refine sc_arg X hw hl 4 rfl (by omega) d_L_law_580 d_L_law_581 d_L_law_582 d_L_law_583 d_L_law_584 ?_
  refine sc_arg X hw hl 5 rfl (by omega) d_L_law_585 d_L_law_586 d_L_law_587 d_L_law_588 d_L_law_589 ?_
  refine call_Vi (Xs := wE ad cs E O P u.2) (b := am 0) (As := [.int (iI (vX xs (i + 1))), .int (iI (vX xs (i + 2))), .int (iI (vX xs (i + 3))), .int (iI (vX xs (i + 4))), .int (iI (vX xs (i + 5)))]) (rest := [.int (iI u.1)]) X.1 lk_L_63 (c_M_compare l D cs am M N t q hR h.minv (vX xs (i + 1)) (vX xs (i + 2)) (vX xs (i + 3)) (vX_R xs (i + 1)) (vX_R xs (i + 2)) (vX_R xs (i + 3)) (vX xs (i + 4)) (vX xs (i + 5)) (vX_R xs (i + 4)) (vX_R xs (i + 5))) ⟨by decide, by decide⟩ rcv_M hw rfl hl.1 (Nat.le_of_ble_eq_true rfl) d_L_law_590 rfl rfl ⟨by decide, by decide⟩ (fun v H locs hv hw => ?_)
  obtain ⟨g1, g2⟩ := pr_compare h hR hu hv
  exact sc_same X g1 d_L_law_593 (by decide) (nx _ _ _ _ _ _ _ g2 hw)
end LO
