
/-! THE LAW, call by call -/
theorem lcmp_rf (x : Int64) : lg_cmp x x = 0 := (lg_cmp_eq x x).mpr rfl
set_option maxHeartbeats 4000000 in
set_option maxRecDepth 100000 in
theorem law_write {p : Program} {l : Launch} {e : Env} {s : State} {m : MethodId} {below : List Frame} {meth : Method} {c : Code} {H : Heap} {locs : List Loc} {cells slots : Nat} {Q : State → Prop} {ls : Array Slot} {g : GT} {M : Mem} {b L : Nat} {xs : Nat → Int32} {z : Int} (C : CallFix p m c code 4 s #[Value.ref b] wsL_law RL) (hX : va_X b L xs s s.heap) (hbl : b < s.heap.size) (hg : gB g = s.heap.size) (hL : L ≤ 3072) (hcs : cells ≤ room_1.cells ∧ slots ≤ room_1.slots) (inv : WF M ∧ RM M M) (hz : 0 ≤ z ∧ z + 6 ≤ L) (hI : HI g s H locs M) (hl : lv_has ls 4 [(3, .int (iI z)), (2, .ref (gA g 18)), (1, .ref (gA g 0)), (0, .ref b)])
    (K : ∀ (u : Mem) (H : Heap) (locs : List Loc), (WF u ∧ RM u u) → HI g s H locs u → W p l e room_1 s m #[Value.ref b] below meth c H locs cells slots Q (F0 m 1038 ls [])) : W p l e room_1 s m #[Value.ref b] below meth c H locs cells slots Q (F0 m 164 ls []) := by
  have hx := C.1
  have hb := C.2.1
  have hts := C.2.2.2.2

  refine lv_aload_n hx hb dL_law_164 rfl (lv_at hl 2 rfl) ?_
  refine lv_aload_n hx hb dL_law_165 rfl (lv_at hl 3 rfl) ?_
  refine lv_iload_n hx hb dL_law_166 rfl (lv_at hl 0 rfl) ?_
  refine lv_iconst (v := iI 1) hx hb dL_law_167 rfl ?_
  refine r_iadd hx hb dL_law_168 ?_
  refine r_sld C hX hbl hg hI (by omega) hL dL_law_169 ?_
  refine r_iv C hI (As := [.int (iI (scX xs (z + 1)))]) (rest := []) (c_X6_write l g M (scX xs (z + 1)) inv.1 (scX_R xs (z + 1))) (cwV 1 hts gL_law_X6_write rfl rfl rfl (by decide +kernel) ⟨Nat.le_of_ble_eq_true rfl, Nat.le_of_ble_eq_true rfl⟩) (by decide) rfl rfl rfl hl.1 rfl (Nat.le_of_ble_eq_true rfl) dL_law_170 hcs (k_I (fun H locs hI => ?_))
  refine lv_aload_n hx hb dL_law_173 rfl (lv_at hl 1 rfl) ?_
  refine lv_aload_n hx hb dL_law_174 rfl (lv_at hl 3 rfl) ?_
  refine lv_iload_n hx hb dL_law_175 rfl (lv_at hl 0 rfl) ?_
  refine lv_iconst (v := iI 1) hx hb dL_law_176 rfl ?_
  refine r_iadd hx hb dL_law_177 ?_
  refine r_sld C hX hbl hg hI (by omega) hL dL_law_178 ?_
  refine r_iv C hI (As := [.int (iI (scX xs (z + 1)))]) (rest := [.int (iI (zWr M (scX xs (z + 1))))]) (c_X7_write l g (gWr M (scX xs (z + 1))) (scX xs (z + 1)) M inv.1 (RM_cls (cl_Wr M (scX xs (z + 1))) inv.2) (scX_R xs (z + 1))) (cwV 1 hts gL_law_X7_write rfl rfl rfl (by decide +kernel) ⟨Nat.le_of_ble_eq_true rfl, Nat.le_of_ble_eq_true rfl⟩) (by decide) rfl rfl rfl hl.1 rfl (Nat.le_of_ble_eq_true rfl) dL_law_179 hcs (k_E (fun z2 M2 H locs q2 hI => ?_))
  exact lv_icmp_eq (tgt := 1038) hx hb dL_law_182 (by decide) (fun _ => K M2 H locs (inv_step (M1 := (gWr M (scX xs (z + 1)))) (A' := (gWr M (scX xs (z + 1)))) (WF_wr inv.1) (fun _ _ => rfl) q2.2.1 q2.2.2) hI) (fun h => absurd (congrArg iI q2.1.symm) h)
set_option maxHeartbeats 4000000 in
set_option maxRecDepth 100000 in
theorem law_wipe {p : Program} {l : Launch} {e : Env} {s : State} {m : MethodId} {below : List Frame} {meth : Method} {c : Code} {H : Heap} {locs : List Loc} {cells slots : Nat} {Q : State → Prop} {ls : Array Slot} {g : GT} {M : Mem} {b L : Nat} {xs : Nat → Int32} {z : Int} (C : CallFix p m c code 4 s #[Value.ref b] wsL_law RL) (hX : va_X b L xs s s.heap) (hbl : b < s.heap.size) (hg : gB g = s.heap.size) (hL : L ≤ 3072) (hcs : cells ≤ room_1.cells ∧ slots ≤ room_1.slots) (inv : WF M ∧ RM M M) (hz : 0 ≤ z ∧ z + 6 ≤ L) (hI : HI g s H locs M) (hl : lv_has ls 4 [(3, .int (iI z)), (2, .ref (gA g 18)), (1, .ref (gA g 0)), (0, .ref b)])
    (K : ∀ (u : Mem) (H : Heap) (locs : List Loc), (WF u ∧ RM u u) → HI g s H locs u → W p l e room_1 s m #[Value.ref b] below meth c H locs cells slots Q (F0 m 1038 ls [])) : W p l e room_1 s m #[Value.ref b] below meth c H locs cells slots Q (F0 m 187 ls []) := by
  have hx := C.1
  have hb := C.2.1
  have hts := C.2.2.2.2

  refine lv_aload_n hx hb dL_law_187 rfl (lv_at hl 2 rfl) ?_
  refine r_iv C hI (As := []) (rest := []) (c_X6_wipe l g M) (cwV 0 hts gL_law_X6_wipe rfl rfl rfl (by decide +kernel) ⟨Nat.le_of_ble_eq_true rfl, Nat.le_of_ble_eq_true rfl⟩) (by decide) rfl rfl rfl hl.1 rfl (Nat.le_of_ble_eq_true rfl) dL_law_188 hcs (k_I (fun H locs hI => ?_))
  refine lv_aload_n hx hb dL_law_191 rfl (lv_at hl 1 rfl) ?_
  refine r_iv C hI (As := []) (rest := [.int (iI (M 1 1))]) (c_X7_wipe l g (mset M 1 1 0)  M inv.1 (RM_cls (cl_Wip M ) inv.2) ) (cwV 0 hts gL_law_X7_wipe rfl rfl rfl (by decide +kernel) ⟨Nat.le_of_ble_eq_true rfl, Nat.le_of_ble_eq_true rfl⟩) (by decide) rfl rfl rfl hl.1 rfl (Nat.le_of_ble_eq_true rfl) dL_law_192 hcs (k_E (fun z2 M2 H locs q2 hI => ?_))
  exact lv_icmp_eq (tgt := 1038) hx hb dL_law_195 (by decide) (fun _ => K M2 H locs (inv_step (M1 := (mset M 1 1 0)) (A' := (mset M 1 1 0)) (WF_wp inv.1) (fun _ _ => rfl) q2.2.1 q2.2.2) hI) (fun h => absurd (congrArg iI q2.1.symm) h)
set_option maxHeartbeats 4000000 in
set_option maxRecDepth 100000 in
theorem law_fault {p : Program} {l : Launch} {e : Env} {s : State} {m : MethodId} {below : List Frame} {meth : Method} {c : Code} {H : Heap} {locs : List Loc} {cells slots : Nat} {Q : State → Prop} {ls : Array Slot} {g : GT} {M : Mem} {b L : Nat} {xs : Nat → Int32} {z : Int} (C : CallFix p m c code 4 s #[Value.ref b] wsL_law RL) (hX : va_X b L xs s s.heap) (hbl : b < s.heap.size) (hg : gB g = s.heap.size) (hL : L ≤ 3072) (hcs : cells ≤ room_1.cells ∧ slots ≤ room_1.slots) (inv : WF M ∧ RM M M) (hz : 0 ≤ z ∧ z + 6 ≤ L) (hI : HI g s H locs M) (hl : lv_has ls 4 [(3, .int (iI z)), (2, .ref (gA g 18)), (1, .ref (gA g 0)), (0, .ref b)])
    (K : ∀ (u : Mem) (H : Heap) (locs : List Loc), (WF u ∧ RM u u) → HI g s H locs u → W p l e room_1 s m #[Value.ref b] below meth c H locs cells slots Q (F0 m 1038 ls [])) : W p l e room_1 s m #[Value.ref b] below meth c H locs cells slots Q (F0 m 200 ls []) := by
  have hx := C.1
  have hb := C.2.1
  have hts := C.2.2.2.2

  refine lv_aload_n hx hb dL_law_200 rfl (lv_at hl 2 rfl) ?_
  refine r_iv C hI (As := []) (rest := []) (c_X6_fault l g M inv.1) (cwV 0 hts gL_law_X6_fault rfl rfl rfl (by decide +kernel) ⟨Nat.le_of_ble_eq_true rfl, Nat.le_of_ble_eq_true rfl⟩) (by decide) rfl rfl rfl hl.1 rfl (Nat.le_of_ble_eq_true rfl) dL_law_201 hcs (k_I (fun H locs hI => ?_))
  refine lv_aload_n hx hb dL_law_204 rfl (lv_at hl 1 rfl) ?_
  refine r_iv C hI (As := []) (rest := [.int (iI (fltO M))]) (c_X7_fault l g M  M inv.1 inv.2 ) (cwV 0 hts gL_law_X7_fault rfl rfl rfl (by decide +kernel) ⟨Nat.le_of_ble_eq_true rfl, Nat.le_of_ble_eq_true rfl⟩) (by decide) rfl rfl rfl hl.1 rfl (Nat.le_of_ble_eq_true rfl) dL_law_205 hcs (k_E (fun z2 M2 H locs q2 hI => ?_))
  exact lv_icmp_eq (tgt := 1038) hx hb dL_law_208 (by decide) (fun _ => K M2 H locs (inv_step (M1 := M) (A' := M) inv.1 (fun _ _ => rfl) q2.2.1 q2.2.2) hI) (fun h => absurd (congrArg iI q2.1.symm) h)
set_option maxHeartbeats 4000000 in
set_option maxRecDepth 100000 in
theorem law_desk {p : Program} {l : Launch} {e : Env} {s : State} {m : MethodId} {below : List Frame} {meth : Method} {c : Code} {H : Heap} {locs : List Loc} {cells slots : Nat} {Q : State → Prop} {ls : Array Slot} {g : GT} {M : Mem} {b L : Nat} {xs : Nat → Int32} {z : Int} (C : CallFix p m c code 4 s #[Value.ref b] wsL_law RL) (hX : va_X b L xs s s.heap) (hbl : b < s.heap.size) (hg : gB g = s.heap.size) (hL : L ≤ 3072) (hcs : cells ≤ room_1.cells ∧ slots ≤ room_1.slots) (inv : WF M ∧ RM M M) (hz : 0 ≤ z ∧ z + 6 ≤ L) (hI : HI g s H locs M) (hl : lv_has ls 4 [(3, .int (iI z)), (2, .ref (gA g 18)), (1, .ref (gA g 0)), (0, .ref b)])
    (K : ∀ (u : Mem) (H : Heap) (locs : List Loc), (WF u ∧ RM u u) → HI g s H locs u → W p l e room_1 s m #[Value.ref b] below meth c H locs cells slots Q (F0 m 1038 ls [])) : W p l e room_1 s m #[Value.ref b] below meth c H locs cells slots Q (F0 m 213 ls []) := by
  have hx := C.1
  have hb := C.2.1
  have hts := C.2.2.2.2

  refine lv_aload_n hx hb dL_law_213 rfl (lv_at hl 2 rfl) ?_
  refine r_iv C hI (As := []) (rest := []) (c_X6_desk l g M inv.1) (cwV 0 hts gL_law_X6_desk rfl rfl rfl (by decide +kernel) ⟨Nat.le_of_ble_eq_true rfl, Nat.le_of_ble_eq_true rfl⟩) (by decide) rfl rfl rfl hl.1 rfl (Nat.le_of_ble_eq_true rfl) dL_law_214 hcs (k_I (fun H locs hI => ?_))
  refine lv_aload_n hx hb dL_law_217 rfl (lv_at hl 1 rfl) ?_
  refine r_iv C hI (As := []) (rest := [.int (iI (zDsk M ))]) (c_X7_desk l g (gDsk M )  M inv.1 (RM_cls (cl_Dsk M ) inv.2) ) (cwV 0 hts gL_law_X7_desk rfl rfl rfl (by decide +kernel) ⟨Nat.le_of_ble_eq_true rfl, Nat.le_of_ble_eq_true rfl⟩) (by decide) rfl rfl rfl hl.1 rfl (Nat.le_of_ble_eq_true rfl) dL_law_218 hcs (k_E (fun z2 M2 H locs q2 hI => ?_))
  exact lv_icmp_eq (tgt := 1038) hx hb dL_law_221 (by decide) (fun _ => K M2 H locs (inv_step (M1 := (gDsk M )) (A' := (gDsk M )) (WF_de inv.1) (fun _ _ => rfl) q2.2.1 q2.2.2) hI) (fun h => absurd (congrArg iI q2.1.symm) h)
set_option maxHeartbeats 4000000 in
set_option maxRecDepth 100000 in
theorem law_about {p : Program} {l : Launch} {e : Env} {s : State} {m : MethodId} {below : List Frame} {meth : Method} {c : Code} {H : Heap} {locs : List Loc} {cells slots : Nat} {Q : State → Prop} {ls : Array Slot} {g : GT} {M : Mem} {b L : Nat} {xs : Nat → Int32} {z : Int} (C : CallFix p m c code 4 s #[Value.ref b] wsL_law RL) (hX : va_X b L xs s s.heap) (hbl : b < s.heap.size) (hg : gB g = s.heap.size) (hL : L ≤ 3072) (hcs : cells ≤ room_1.cells ∧ slots ≤ room_1.slots) (inv : WF M ∧ RM M M) (hz : 0 ≤ z ∧ z + 6 ≤ L) (hI : HI g s H locs M) (hl : lv_has ls 4 [(3, .int (iI z)), (2, .ref (gA g 18)), (1, .ref (gA g 0)), (0, .ref b)])
    (K : ∀ (u : Mem) (H : Heap) (locs : List Loc), (WF u ∧ RM u u) → HI g s H locs u → W p l e room_1 s m #[Value.ref b] below meth c H locs cells slots Q (F0 m 1038 ls [])) : W p l e room_1 s m #[Value.ref b] below meth c H locs cells slots Q (F0 m 226 ls []) := by
  have hx := C.1
  have hb := C.2.1
  have hts := C.2.2.2.2

  refine lv_aload_n hx hb dL_law_226 rfl (lv_at hl 2 rfl) ?_
  refine lv_aload_n hx hb dL_law_227 rfl (lv_at hl 3 rfl) ?_
  refine lv_iload_n hx hb dL_law_228 rfl (lv_at hl 0 rfl) ?_
  refine lv_iconst (v := iI 1) hx hb dL_law_229 rfl ?_
  refine r_iadd hx hb dL_law_230 ?_
  refine r_sld C hX hbl hg hI (by omega) hL dL_law_231 ?_
  refine r_iv C hI (As := [.int (iI (scX xs (z + 1)))]) (rest := []) (c_X6_about l g M (scX xs (z + 1)) inv.1 (scX_R xs (z + 1))) (cwV 1 hts gL_law_X6_about rfl rfl rfl (by decide +kernel) ⟨Nat.le_of_ble_eq_true rfl, Nat.le_of_ble_eq_true rfl⟩) (by decide) rfl rfl rfl hl.1 rfl (Nat.le_of_ble_eq_true rfl) dL_law_232 hcs (k_I (fun H locs hI => ?_))
  refine lv_aload_n hx hb dL_law_235 rfl (lv_at hl 1 rfl) ?_
  refine lv_aload_n hx hb dL_law_236 rfl (lv_at hl 3 rfl) ?_
  refine lv_iload_n hx hb dL_law_237 rfl (lv_at hl 0 rfl) ?_
  refine lv_iconst (v := iI 1) hx hb dL_law_238 rfl ?_
  refine r_iadd hx hb dL_law_239 ?_
  refine r_sld C hX hbl hg hI (by omega) hL dL_law_240 ?_
  refine r_iv C hI (As := [.int (iI (scX xs (z + 1)))]) (rest := [.int (iI (zAbt M (scX xs (z + 1))))]) (c_X7_about l g M (scX xs (z + 1)) M inv.1 inv.2 (scX_R xs (z + 1))) (cwV 1 hts gL_law_X7_about rfl rfl rfl (by decide +kernel) ⟨Nat.le_of_ble_eq_true rfl, Nat.le_of_ble_eq_true rfl⟩) (by decide) rfl rfl rfl hl.1 rfl (Nat.le_of_ble_eq_true rfl) dL_law_241 hcs (k_E (fun z2 M2 H locs q2 hI => ?_))
  exact lv_icmp_eq (tgt := 1038) hx hb dL_law_244 (by decide) (fun _ => K M2 H locs (inv_step (M1 := M) (A' := M) inv.1 (fun _ _ => rfl) q2.2.1 q2.2.2) hI) (fun h => absurd (congrArg iI q2.1.symm) h)
set_option maxHeartbeats 4000000 in
set_option maxRecDepth 100000 in
theorem law_person {p : Program} {l : Launch} {e : Env} {s : State} {m : MethodId} {below : List Frame} {meth : Method} {c : Code} {H : Heap} {locs : List Loc} {cells slots : Nat} {Q : State → Prop} {ls : Array Slot} {g : GT} {M : Mem} {b L : Nat} {xs : Nat → Int32} {z : Int} (C : CallFix p m c code 4 s #[Value.ref b] wsL_law RL) (hX : va_X b L xs s s.heap) (hbl : b < s.heap.size) (hg : gB g = s.heap.size) (hL : L ≤ 3072) (hcs : cells ≤ room_1.cells ∧ slots ≤ room_1.slots) (inv : WF M ∧ RM M M) (hz : 0 ≤ z ∧ z + 6 ≤ L) (hI : HI g s H locs M) (hl : lv_has ls 4 [(3, .int (iI z)), (2, .ref (gA g 18)), (1, .ref (gA g 0)), (0, .ref b)])
    (K : ∀ (u : Mem) (H : Heap) (locs : List Loc), (WF u ∧ RM u u) → HI g s H locs u → W p l e room_1 s m #[Value.ref b] below meth c H locs cells slots Q (F0 m 1038 ls [])) : W p l e room_1 s m #[Value.ref b] below meth c H locs cells slots Q (F0 m 249 ls []) := by
  have hx := C.1
  have hb := C.2.1
  have hts := C.2.2.2.2

  refine lv_aload_n hx hb dL_law_249 rfl (lv_at hl 2 rfl) ?_
  refine lv_aload_n hx hb dL_law_250 rfl (lv_at hl 3 rfl) ?_
  refine lv_iload_n hx hb dL_law_251 rfl (lv_at hl 0 rfl) ?_
  refine lv_iconst (v := iI 1) hx hb dL_law_252 rfl ?_
  refine r_iadd hx hb dL_law_253 ?_
  refine r_sld C hX hbl hg hI (by omega) hL dL_law_254 ?_
  refine lv_aload_n hx hb dL_law_255 rfl (lv_at hl 3 rfl) ?_
  refine lv_iload_n hx hb dL_law_256 rfl (lv_at hl 0 rfl) ?_
  refine lv_iconst (v := iI 2) hx hb dL_law_257 rfl ?_
  refine r_iadd hx hb dL_law_258 ?_
  refine r_sld C hX hbl hg hI (by omega) hL dL_law_259 ?_
  refine r_iv C hI (As := [.int (iI (scX xs (z + 1))), .int (iI (scX xs (z + 2)))]) (rest := []) (c_X6_person l g M (scX xs (z + 1)) (scX xs (z + 2)) inv.1 (scX_R xs (z + 1)) (scX_R xs (z + 2))) (cwV 2 hts gL_law_X6_person rfl rfl rfl (by decide +kernel) ⟨Nat.le_of_ble_eq_true rfl, Nat.le_of_ble_eq_true rfl⟩) (by decide) rfl rfl rfl hl.1 rfl (Nat.le_of_ble_eq_true rfl) dL_law_260 hcs (k_I (fun H locs hI => ?_))
  refine lv_aload_n hx hb dL_law_263 rfl (lv_at hl 1 rfl) ?_
  refine lv_aload_n hx hb dL_law_264 rfl (lv_at hl 3 rfl) ?_
  refine lv_iload_n hx hb dL_law_265 rfl (lv_at hl 0 rfl) ?_
  refine lv_iconst (v := iI 1) hx hb dL_law_266 rfl ?_
  refine r_iadd hx hb dL_law_267 ?_
  refine r_sld C hX hbl hg hI (by omega) hL dL_law_268 ?_
  refine lv_aload_n hx hb dL_law_269 rfl (lv_at hl 3 rfl) ?_
  refine lv_iload_n hx hb dL_law_270 rfl (lv_at hl 0 rfl) ?_
  refine lv_iconst (v := iI 2) hx hb dL_law_271 rfl ?_
  refine r_iadd hx hb dL_law_272 ?_
  refine r_sld C hX hbl hg hI (by omega) hL dL_law_273 ?_
  refine r_iv C hI (As := [.int (iI (scX xs (z + 1))), .int (iI (scX xs (z + 2)))]) (rest := [.int (iI (zPer M (scX xs (z + 1)) (scX xs (z + 2))))]) (c_X7_person l g M (scX xs (z + 1)) (scX xs (z + 2)) M inv.1 inv.2 (scX_R xs (z + 1)) (scX_R xs (z + 2))) (cwV 2 hts gL_law_X7_person rfl rfl rfl (by decide +kernel) ⟨Nat.le_of_ble_eq_true rfl, Nat.le_of_ble_eq_true rfl⟩) (by decide) rfl rfl rfl hl.1 rfl (Nat.le_of_ble_eq_true rfl) dL_law_274 hcs (k_E (fun z2 M2 H locs q2 hI => ?_))
  exact lv_icmp_eq (tgt := 1038) hx hb dL_law_277 (by decide) (fun _ => K M2 H locs (inv_step (M1 := M) (A' := M) inv.1 (fun _ _ => rfl) q2.2.1 q2.2.2) hI) (fun h => absurd (congrArg iI q2.1.symm) h)
set_option maxHeartbeats 4000000 in
set_option maxRecDepth 100000 in
theorem law_glove {p : Program} {l : Launch} {e : Env} {s : State} {m : MethodId} {below : List Frame} {meth : Method} {c : Code} {H : Heap} {locs : List Loc} {cells slots : Nat} {Q : State → Prop} {ls : Array Slot} {g : GT} {M : Mem} {b L : Nat} {xs : Nat → Int32} {z : Int} (C : CallFix p m c code 4 s #[Value.ref b] wsL_law RL) (hX : va_X b L xs s s.heap) (hbl : b < s.heap.size) (hg : gB g = s.heap.size) (hL : L ≤ 3072) (hcs : cells ≤ room_1.cells ∧ slots ≤ room_1.slots) (inv : WF M ∧ RM M M) (hz : 0 ≤ z ∧ z + 6 ≤ L) (hI : HI g s H locs M) (hl : lv_has ls 4 [(3, .int (iI z)), (2, .ref (gA g 18)), (1, .ref (gA g 0)), (0, .ref b)])
    (K : ∀ (u : Mem) (H : Heap) (locs : List Loc), (WF u ∧ RM u u) → HI g s H locs u → W p l e room_1 s m #[Value.ref b] below meth c H locs cells slots Q (F0 m 1038 ls [])) : W p l e room_1 s m #[Value.ref b] below meth c H locs cells slots Q (F0 m 282 ls []) := by
  have hx := C.1
  have hb := C.2.1
  have hts := C.2.2.2.2

  refine lv_aload_n hx hb dL_law_282 rfl (lv_at hl 2 rfl) ?_
  refine lv_aload_n hx hb dL_law_283 rfl (lv_at hl 3 rfl) ?_
  refine lv_iload_n hx hb dL_law_284 rfl (lv_at hl 0 rfl) ?_
  refine lv_iconst (v := iI 1) hx hb dL_law_285 rfl ?_
  refine r_iadd hx hb dL_law_286 ?_
  refine r_sld C hX hbl hg hI (by omega) hL dL_law_287 ?_
  refine lv_aload_n hx hb dL_law_288 rfl (lv_at hl 3 rfl) ?_
  refine lv_iload_n hx hb dL_law_289 rfl (lv_at hl 0 rfl) ?_
  refine lv_iconst (v := iI 2) hx hb dL_law_290 rfl ?_
  refine r_iadd hx hb dL_law_291 ?_
  refine r_sld C hX hbl hg hI (by omega) hL dL_law_292 ?_
  refine r_iv C hI (As := [.int (iI (scX xs (z + 1))), .int (iI (scX xs (z + 2)))]) (rest := []) (c_X6_glove l g M (scX xs (z + 1)) (scX xs (z + 2)) inv.1 (scX_R xs (z + 1)) (scX_R xs (z + 2))) (cwV 2 hts gL_law_X6_glove rfl rfl rfl (by decide +kernel) ⟨Nat.le_of_ble_eq_true rfl, Nat.le_of_ble_eq_true rfl⟩) (by decide) rfl rfl rfl hl.1 rfl (Nat.le_of_ble_eq_true rfl) dL_law_293 hcs (k_I (fun H locs hI => ?_))
  refine lv_aload_n hx hb dL_law_296 rfl (lv_at hl 1 rfl) ?_
  refine lv_aload_n hx hb dL_law_297 rfl (lv_at hl 3 rfl) ?_
  refine lv_iload_n hx hb dL_law_298 rfl (lv_at hl 0 rfl) ?_
  refine lv_iconst (v := iI 1) hx hb dL_law_299 rfl ?_
  refine r_iadd hx hb dL_law_300 ?_
  refine r_sld C hX hbl hg hI (by omega) hL dL_law_301 ?_
  refine lv_aload_n hx hb dL_law_302 rfl (lv_at hl 3 rfl) ?_
  refine lv_iload_n hx hb dL_law_303 rfl (lv_at hl 0 rfl) ?_
  refine lv_iconst (v := iI 2) hx hb dL_law_304 rfl ?_
  refine r_iadd hx hb dL_law_305 ?_
  refine r_sld C hX hbl hg hI (by omega) hL dL_law_306 ?_
  refine r_iv C hI (As := [.int (iI (scX xs (z + 1))), .int (iI (scX xs (z + 2)))]) (rest := [.int (iI (zGlo M (scX xs (z + 1)) (scX xs (z + 2))))]) (c_X7_glove l g M (scX xs (z + 1)) (scX xs (z + 2)) M inv.1 inv.2 (scX_R xs (z + 1)) (scX_R xs (z + 2))) (cwV 2 hts gL_law_X7_glove rfl rfl rfl (by decide +kernel) ⟨Nat.le_of_ble_eq_true rfl, Nat.le_of_ble_eq_true rfl⟩) (by decide) rfl rfl rfl hl.1 rfl (Nat.le_of_ble_eq_true rfl) dL_law_307 hcs (k_E (fun z2 M2 H locs q2 hI => ?_))
  exact lv_icmp_eq (tgt := 1038) hx hb dL_law_310 (by decide) (fun _ => K M2 H locs (inv_step (M1 := M) (A' := M) inv.1 (fun _ _ => rfl) q2.2.1 q2.2.2) hI) (fun h => absurd (congrArg iI q2.1.symm) h)
set_option maxHeartbeats 4000000 in
set_option maxRecDepth 100000 in
theorem law_wear {p : Program} {l : Launch} {e : Env} {s : State} {m : MethodId} {below : List Frame} {meth : Method} {c : Code} {H : Heap} {locs : List Loc} {cells slots : Nat} {Q : State → Prop} {ls : Array Slot} {g : GT} {M : Mem} {b L : Nat} {xs : Nat → Int32} {z : Int} (C : CallFix p m c code 4 s #[Value.ref b] wsL_law RL) (hX : va_X b L xs s s.heap) (hbl : b < s.heap.size) (hg : gB g = s.heap.size) (hL : L ≤ 3072) (hcs : cells ≤ room_1.cells ∧ slots ≤ room_1.slots) (inv : WF M ∧ RM M M) (hz : 0 ≤ z ∧ z + 6 ≤ L) (hI : HI g s H locs M) (hl : lv_has ls 4 [(3, .int (iI z)), (2, .ref (gA g 18)), (1, .ref (gA g 0)), (0, .ref b)])
    (K : ∀ (u : Mem) (H : Heap) (locs : List Loc), (WF u ∧ RM u u) → HI g s H locs u → W p l e room_1 s m #[Value.ref b] below meth c H locs cells slots Q (F0 m 1038 ls [])) : W p l e room_1 s m #[Value.ref b] below meth c H locs cells slots Q (F0 m 315 ls []) := by
  have hx := C.1
  have hb := C.2.1
  have hts := C.2.2.2.2

  refine lv_aload_n hx hb dL_law_315 rfl (lv_at hl 2 rfl) ?_
  refine lv_aload_n hx hb dL_law_316 rfl (lv_at hl 3 rfl) ?_
  refine lv_iload_n hx hb dL_law_317 rfl (lv_at hl 0 rfl) ?_
  refine lv_iconst (v := iI 1) hx hb dL_law_318 rfl ?_
  refine r_iadd hx hb dL_law_319 ?_
  refine r_sld C hX hbl hg hI (by omega) hL dL_law_320 ?_
  refine lv_aload_n hx hb dL_law_321 rfl (lv_at hl 3 rfl) ?_
  refine lv_iload_n hx hb dL_law_322 rfl (lv_at hl 0 rfl) ?_
  refine lv_iconst (v := iI 2) hx hb dL_law_323 rfl ?_
  refine r_iadd hx hb dL_law_324 ?_
  refine r_sld C hX hbl hg hI (by omega) hL dL_law_325 ?_
  refine r_iv C hI (As := [.int (iI (scX xs (z + 1))), .int (iI (scX xs (z + 2)))]) (rest := []) (c_X6_wear l g M (scX xs (z + 1)) (scX xs (z + 2)) inv.1 (scX_R xs (z + 1)) (scX_R xs (z + 2))) (cwV 2 hts gL_law_X6_wear rfl rfl rfl (by decide +kernel) ⟨Nat.le_of_ble_eq_true rfl, Nat.le_of_ble_eq_true rfl⟩) (by decide) rfl rfl rfl hl.1 rfl (Nat.le_of_ble_eq_true rfl) dL_law_326 hcs (k_I (fun H locs hI => ?_))
  refine lv_aload_n hx hb dL_law_329 rfl (lv_at hl 1 rfl) ?_
  refine lv_aload_n hx hb dL_law_330 rfl (lv_at hl 3 rfl) ?_
  refine lv_iload_n hx hb dL_law_331 rfl (lv_at hl 0 rfl) ?_
  refine lv_iconst (v := iI 1) hx hb dL_law_332 rfl ?_
  refine r_iadd hx hb dL_law_333 ?_
  refine r_sld C hX hbl hg hI (by omega) hL dL_law_334 ?_
  refine lv_aload_n hx hb dL_law_335 rfl (lv_at hl 3 rfl) ?_
  refine lv_iload_n hx hb dL_law_336 rfl (lv_at hl 0 rfl) ?_
  refine lv_iconst (v := iI 2) hx hb dL_law_337 rfl ?_
  refine r_iadd hx hb dL_law_338 ?_
  refine r_sld C hX hbl hg hI (by omega) hL dL_law_339 ?_
  refine r_iv C hI (As := [.int (iI (scX xs (z + 1))), .int (iI (scX xs (z + 2)))]) (rest := [.int (iI (zWea M (scX xs (z + 1)) (scX xs (z + 2))))]) (c_X7_wear l g (gWea M (scX xs (z + 1)) (scX xs (z + 2))) (scX xs (z + 1)) (scX xs (z + 2)) M inv.1 (RM_cls (cl_Wea M (scX xs (z + 1)) (scX xs (z + 2))) inv.2) (scX_R xs (z + 1)) (scX_R xs (z + 2))) (cwV 2 hts gL_law_X7_wear rfl rfl rfl (by decide +kernel) ⟨Nat.le_of_ble_eq_true rfl, Nat.le_of_ble_eq_true rfl⟩) (by decide) rfl rfl rfl hl.1 rfl (Nat.le_of_ble_eq_true rfl) dL_law_340 hcs (k_E (fun z2 M2 H locs q2 hI => ?_))
  exact lv_icmp_eq (tgt := 1038) hx hb dL_law_343 (by decide) (fun _ => K M2 H locs (inv_step (M1 := (gWea M (scX xs (z + 1)) (scX xs (z + 2)))) (A' := (gWea M (scX xs (z + 1)) (scX xs (z + 2)))) (WF_we inv.1) (fun _ _ => rfl) q2.2.1 q2.2.2) hI) (fun h => absurd (congrArg iI q2.1.symm) h)
set_option maxHeartbeats 4000000 in
set_option maxRecDepth 100000 in
theorem law_takeOff {p : Program} {l : Launch} {e : Env} {s : State} {m : MethodId} {below : List Frame} {meth : Method} {c : Code} {H : Heap} {locs : List Loc} {cells slots : Nat} {Q : State → Prop} {ls : Array Slot} {g : GT} {M : Mem} {b L : Nat} {xs : Nat → Int32} {z : Int} (C : CallFix p m c code 4 s #[Value.ref b] wsL_law RL) (hX : va_X b L xs s s.heap) (hbl : b < s.heap.size) (hg : gB g = s.heap.size) (hL : L ≤ 3072) (hcs : cells ≤ room_1.cells ∧ slots ≤ room_1.slots) (inv : WF M ∧ RM M M) (hz : 0 ≤ z ∧ z + 6 ≤ L) (hI : HI g s H locs M) (hl : lv_has ls 4 [(3, .int (iI z)), (2, .ref (gA g 18)), (1, .ref (gA g 0)), (0, .ref b)])
    (K : ∀ (u : Mem) (H : Heap) (locs : List Loc), (WF u ∧ RM u u) → HI g s H locs u → W p l e room_1 s m #[Value.ref b] below meth c H locs cells slots Q (F0 m 1038 ls [])) : W p l e room_1 s m #[Value.ref b] below meth c H locs cells slots Q (F0 m 348 ls []) := by
  have hx := C.1
  have hb := C.2.1
  have hts := C.2.2.2.2

  refine lv_aload_n hx hb dL_law_348 rfl (lv_at hl 2 rfl) ?_
  refine lv_aload_n hx hb dL_law_349 rfl (lv_at hl 3 rfl) ?_
  refine lv_iload_n hx hb dL_law_350 rfl (lv_at hl 0 rfl) ?_
  refine lv_iconst (v := iI 1) hx hb dL_law_351 rfl ?_
  refine r_iadd hx hb dL_law_352 ?_
  refine r_sld C hX hbl hg hI (by omega) hL dL_law_353 ?_
  refine r_iv C hI (As := [.int (iI (scX xs (z + 1)))]) (rest := []) (c_X6_takeOff l g M (scX xs (z + 1)) inv.1 (scX_R xs (z + 1))) (cwV 1 hts gL_law_X6_takeOff rfl rfl rfl (by decide +kernel) ⟨Nat.le_of_ble_eq_true rfl, Nat.le_of_ble_eq_true rfl⟩) (by decide) rfl rfl rfl hl.1 rfl (Nat.le_of_ble_eq_true rfl) dL_law_354 hcs (k_I (fun H locs hI => ?_))
  refine lv_aload_n hx hb dL_law_357 rfl (lv_at hl 1 rfl) ?_
  refine lv_aload_n hx hb dL_law_358 rfl (lv_at hl 3 rfl) ?_
  refine lv_iload_n hx hb dL_law_359 rfl (lv_at hl 0 rfl) ?_
  refine lv_iconst (v := iI 1) hx hb dL_law_360 rfl ?_
  refine r_iadd hx hb dL_law_361 ?_
  refine r_sld C hX hbl hg hI (by omega) hL dL_law_362 ?_
  refine r_iv C hI (As := [.int (iI (scX xs (z + 1)))]) (rest := [.int (iI (zTak M (scX xs (z + 1))))]) (c_X7_takeOff l g (gTak M (scX xs (z + 1))) (scX xs (z + 1)) M inv.1 (RM_cls (cl_Tak M (scX xs (z + 1))) inv.2) (scX_R xs (z + 1))) (cwV 1 hts gL_law_X7_takeOff rfl rfl rfl (by decide +kernel) ⟨Nat.le_of_ble_eq_true rfl, Nat.le_of_ble_eq_true rfl⟩) (by decide) rfl rfl rfl hl.1 rfl (Nat.le_of_ble_eq_true rfl) dL_law_363 hcs (k_E (fun z2 M2 H locs q2 hI => ?_))
  exact lv_icmp_eq (tgt := 1038) hx hb dL_law_366 (by decide) (fun _ => K M2 H locs (inv_step (M1 := (gTak M (scX xs (z + 1)))) (A' := (gTak M (scX xs (z + 1)))) (WF_ta inv.1) (fun _ _ => rfl) q2.2.1 q2.2.2) hI) (fun h => absurd (congrArg iI q2.1.symm) h)
set_option maxHeartbeats 4000000 in
set_option maxRecDepth 100000 in
theorem law_wash {p : Program} {l : Launch} {e : Env} {s : State} {m : MethodId} {below : List Frame} {meth : Method} {c : Code} {H : Heap} {locs : List Loc} {cells slots : Nat} {Q : State → Prop} {ls : Array Slot} {g : GT} {M : Mem} {b L : Nat} {xs : Nat → Int32} {z : Int} (C : CallFix p m c code 4 s #[Value.ref b] wsL_law RL) (hX : va_X b L xs s s.heap) (hbl : b < s.heap.size) (hg : gB g = s.heap.size) (hL : L ≤ 3072) (hcs : cells ≤ room_1.cells ∧ slots ≤ room_1.slots) (inv : WF M ∧ RM M M) (hz : 0 ≤ z ∧ z + 6 ≤ L) (hI : HI g s H locs M) (hl : lv_has ls 4 [(3, .int (iI z)), (2, .ref (gA g 18)), (1, .ref (gA g 0)), (0, .ref b)])
    (K : ∀ (u : Mem) (H : Heap) (locs : List Loc), (WF u ∧ RM u u) → HI g s H locs u → W p l e room_1 s m #[Value.ref b] below meth c H locs cells slots Q (F0 m 1038 ls [])) : W p l e room_1 s m #[Value.ref b] below meth c H locs cells slots Q (F0 m 371 ls []) := by
  have hx := C.1
  have hb := C.2.1
  have hts := C.2.2.2.2

  refine lv_aload_n hx hb dL_law_371 rfl (lv_at hl 2 rfl) ?_
  refine lv_aload_n hx hb dL_law_372 rfl (lv_at hl 3 rfl) ?_
  refine lv_iload_n hx hb dL_law_373 rfl (lv_at hl 0 rfl) ?_
  refine lv_iconst (v := iI 1) hx hb dL_law_374 rfl ?_
  refine r_iadd hx hb dL_law_375 ?_
  refine r_sld C hX hbl hg hI (by omega) hL dL_law_376 ?_
  refine r_iv C hI (As := [.int (iI (scX xs (z + 1)))]) (rest := []) (c_X6_wash l g M (scX xs (z + 1)) inv.1 (scX_R xs (z + 1))) (cwV 1 hts gL_law_X6_wash rfl rfl rfl (by decide +kernel) ⟨Nat.le_of_ble_eq_true rfl, Nat.le_of_ble_eq_true rfl⟩) (by decide) rfl rfl rfl hl.1 rfl (Nat.le_of_ble_eq_true rfl) dL_law_377 hcs (k_I (fun H locs hI => ?_))
  refine lv_aload_n hx hb dL_law_380 rfl (lv_at hl 1 rfl) ?_
  refine lv_aload_n hx hb dL_law_381 rfl (lv_at hl 3 rfl) ?_
  refine lv_iload_n hx hb dL_law_382 rfl (lv_at hl 0 rfl) ?_
  refine lv_iconst (v := iI 1) hx hb dL_law_383 rfl ?_
  refine r_iadd hx hb dL_law_384 ?_
  refine r_sld C hX hbl hg hI (by omega) hL dL_law_385 ?_
  refine r_iv C hI (As := [.int (iI (scX xs (z + 1)))]) (rest := [.int (iI (zWsh M (scX xs (z + 1))))]) (c_X7_wash l g (gWsh M (scX xs (z + 1))) (scX xs (z + 1)) M inv.1 (RM_cls (cl_Wsh M (scX xs (z + 1))) inv.2) (scX_R xs (z + 1))) (cwV 1 hts gL_law_X7_wash rfl rfl rfl (by decide +kernel) ⟨Nat.le_of_ble_eq_true rfl, Nat.le_of_ble_eq_true rfl⟩) (by decide) rfl rfl rfl hl.1 rfl (Nat.le_of_ble_eq_true rfl) dL_law_386 hcs (k_E (fun z2 M2 H locs q2 hI => ?_))
  exact lv_icmp_eq (tgt := 1038) hx hb dL_law_389 (by decide) (fun _ => K M2 H locs (inv_step (M1 := (gWsh M (scX xs (z + 1)))) (A' := (gWsh M (scX xs (z + 1)))) (WF_ws inv.1) (fun _ _ => rfl) q2.2.1 q2.2.2) hI) (fun h => absurd (congrArg iI q2.1.symm) h)
set_option maxHeartbeats 4000000 in
set_option maxRecDepth 100000 in
theorem law_day {p : Program} {l : Launch} {e : Env} {s : State} {m : MethodId} {below : List Frame} {meth : Method} {c : Code} {H : Heap} {locs : List Loc} {cells slots : Nat} {Q : State → Prop} {ls : Array Slot} {g : GT} {M : Mem} {b L : Nat} {xs : Nat → Int32} {z : Int} (C : CallFix p m c code 4 s #[Value.ref b] wsL_law RL) (hX : va_X b L xs s s.heap) (hbl : b < s.heap.size) (hg : gB g = s.heap.size) (hL : L ≤ 3072) (hcs : cells ≤ room_1.cells ∧ slots ≤ room_1.slots) (inv : WF M ∧ RM M M) (hz : 0 ≤ z ∧ z + 6 ≤ L) (hI : HI g s H locs M) (hl : lv_has ls 4 [(3, .int (iI z)), (2, .ref (gA g 18)), (1, .ref (gA g 0)), (0, .ref b)])
    (K : ∀ (u : Mem) (H : Heap) (locs : List Loc), (WF u ∧ RM u u) → HI g s H locs u → W p l e room_1 s m #[Value.ref b] below meth c H locs cells slots Q (F0 m 1038 ls [])) : W p l e room_1 s m #[Value.ref b] below meth c H locs cells slots Q (F0 m 394 ls []) := by
  have hx := C.1
  have hb := C.2.1
  have hts := C.2.2.2.2

  refine lv_aload_n hx hb dL_law_394 rfl (lv_at hl 2 rfl) ?_
  refine r_iv C hI (As := []) (rest := []) (c_X6_day l g M inv.1) (cwV 0 hts gL_law_X6_day rfl rfl rfl (by decide +kernel) ⟨Nat.le_of_ble_eq_true rfl, Nat.le_of_ble_eq_true rfl⟩) (by decide) rfl rfl rfl hl.1 rfl (Nat.le_of_ble_eq_true rfl) dL_law_395 hcs (k_I (fun H locs hI => ?_))
  refine lv_aload_n hx hb dL_law_398 rfl (lv_at hl 1 rfl) ?_
  refine r_iv C hI (As := []) (rest := [.int (iI (zDay M ))]) (c_X7_day l g (gDay M )  M inv.1 (RM_cls (cl_Day M ) inv.2) ) (cwV 0 hts gL_law_X7_day rfl rfl rfl (by decide +kernel) ⟨Nat.le_of_ble_eq_true rfl, Nat.le_of_ble_eq_true rfl⟩) (by decide) rfl rfl rfl hl.1 rfl (Nat.le_of_ble_eq_true rfl) dL_law_399 hcs (k_E (fun z2 M2 H locs q2 hI => ?_))
  exact lv_icmp_eq (tgt := 1038) hx hb dL_law_402 (by decide) (fun _ => K M2 H locs (inv_step (M1 := (gDay M )) (A' := (gDay M )) (WF_da inv.1) (fun _ _ => rfl) q2.2.1 q2.2.2) hI) (fun h => absurd (congrArg iI q2.1.symm) h)
set_option maxHeartbeats 4000000 in
set_option maxRecDepth 100000 in
theorem law_undo {p : Program} {l : Launch} {e : Env} {s : State} {m : MethodId} {below : List Frame} {meth : Method} {c : Code} {H : Heap} {locs : List Loc} {cells slots : Nat} {Q : State → Prop} {ls : Array Slot} {g : GT} {M : Mem} {b L : Nat} {xs : Nat → Int32} {z : Int} (C : CallFix p m c code 4 s #[Value.ref b] wsL_law RL) (hX : va_X b L xs s s.heap) (hbl : b < s.heap.size) (hg : gB g = s.heap.size) (hL : L ≤ 3072) (hcs : cells ≤ room_1.cells ∧ slots ≤ room_1.slots) (inv : WF M ∧ RM M M) (hz : 0 ≤ z ∧ z + 6 ≤ L) (hI : HI g s H locs M) (hl : lv_has ls 4 [(3, .int (iI z)), (2, .ref (gA g 18)), (1, .ref (gA g 0)), (0, .ref b)])
    (K : ∀ (u : Mem) (H : Heap) (locs : List Loc), (WF u ∧ RM u u) → HI g s H locs u → W p l e room_1 s m #[Value.ref b] below meth c H locs cells slots Q (F0 m 1038 ls [])) : W p l e room_1 s m #[Value.ref b] below meth c H locs cells slots Q (F0 m 407 ls []) := by
  have hx := C.1
  have hb := C.2.1
  have hts := C.2.2.2.2

  refine lv_aload_n hx hb dL_law_407 rfl (lv_at hl 2 rfl) ?_
  refine r_iv C hI (As := []) (rest := []) (c_X6_undo l g M inv.1) (cwV 0 hts gL_law_X6_undo rfl rfl rfl (by decide +kernel) ⟨Nat.le_of_ble_eq_true rfl, Nat.le_of_ble_eq_true rfl⟩) (by decide) rfl rfl rfl hl.1 rfl (Nat.le_of_ble_eq_true rfl) dL_law_408 hcs (k_I (fun H locs hI => ?_))
  refine lv_aload_n hx hb dL_law_411 rfl (lv_at hl 1 rfl) ?_
  refine r_iv C hI (As := []) (rest := [.int (iI (zUnd M ))]) (c_X7_undo l g (gUnd M )  M inv.1 (RM_cls (cl_Und M ) inv.2) ) (cwV 0 hts gL_law_X7_undo rfl rfl rfl (by decide +kernel) ⟨Nat.le_of_ble_eq_true rfl, Nat.le_of_ble_eq_true rfl⟩) (by decide) rfl rfl rfl hl.1 rfl (Nat.le_of_ble_eq_true rfl) dL_law_412 hcs (k_E (fun z2 M2 H locs q2 hI => ?_))
  exact lv_icmp_eq (tgt := 1038) hx hb dL_law_415 (by decide) (fun _ => K M2 H locs (inv_step (M1 := (gUnd M )) (A' := (gUnd M )) (WF_un inv.1) (fun _ _ => rfl) q2.2.1 q2.2.2) hI) (fun h => absurd (congrArg iI q2.1.symm) h)
set_option maxHeartbeats 4000000 in
set_option maxRecDepth 100000 in
theorem law_does {p : Program} {l : Launch} {e : Env} {s : State} {m : MethodId} {below : List Frame} {meth : Method} {c : Code} {H : Heap} {locs : List Loc} {cells slots : Nat} {Q : State → Prop} {ls : Array Slot} {g : GT} {M : Mem} {b L : Nat} {xs : Nat → Int32} {z : Int} (C : CallFix p m c code 4 s #[Value.ref b] wsL_law RL) (hX : va_X b L xs s s.heap) (hbl : b < s.heap.size) (hg : gB g = s.heap.size) (hL : L ≤ 3072) (hcs : cells ≤ room_1.cells ∧ slots ≤ room_1.slots) (inv : WF M ∧ RM M M) (hz : 0 ≤ z ∧ z + 6 ≤ L) (hI : HI g s H locs M) (hl : lv_has ls 4 [(3, .int (iI z)), (2, .ref (gA g 18)), (1, .ref (gA g 0)), (0, .ref b)])
    (K : ∀ (u : Mem) (H : Heap) (locs : List Loc), (WF u ∧ RM u u) → HI g s H locs u → W p l e room_1 s m #[Value.ref b] below meth c H locs cells slots Q (F0 m 1038 ls [])) : W p l e room_1 s m #[Value.ref b] below meth c H locs cells slots Q (F0 m 420 ls []) := by
  have hx := C.1
  have hb := C.2.1
  have hts := C.2.2.2.2

  refine lv_aload_n hx hb dL_law_420 rfl (lv_at hl 2 rfl) ?_
  refine lv_aload_n hx hb dL_law_421 rfl (lv_at hl 3 rfl) ?_
  refine lv_iload_n hx hb dL_law_422 rfl (lv_at hl 0 rfl) ?_
  refine lv_iconst (v := iI 1) hx hb dL_law_423 rfl ?_
  refine r_iadd hx hb dL_law_424 ?_
  refine r_sld C hX hbl hg hI (by omega) hL dL_law_425 ?_
  refine lv_aload_n hx hb dL_law_426 rfl (lv_at hl 3 rfl) ?_
  refine lv_iload_n hx hb dL_law_427 rfl (lv_at hl 0 rfl) ?_
  refine lv_iconst (v := iI 2) hx hb dL_law_428 rfl ?_
  refine r_iadd hx hb dL_law_429 ?_
  refine r_sld C hX hbl hg hI (by omega) hL dL_law_430 ?_
  refine lv_aload_n hx hb dL_law_431 rfl (lv_at hl 3 rfl) ?_
  refine lv_iload_n hx hb dL_law_432 rfl (lv_at hl 0 rfl) ?_
  refine lv_iconst (v := iI 3) hx hb dL_law_433 rfl ?_
  refine r_iadd hx hb dL_law_434 ?_
  refine r_sld C hX hbl hg hI (by omega) hL dL_law_435 ?_
  refine r_iv C hI (As := [.int (iI (scX xs (z + 1))), .int (iI (scX xs (z + 2))), .int (iI (scX xs (z + 3)))]) (rest := []) (c_X6_does l g M (scX xs (z + 1)) (scX xs (z + 2)) (scX xs (z + 3)) inv.1 (scX_R xs (z + 1)) (scX_R xs (z + 2)) (scX_R xs (z + 3))) (cwV 3 hts gL_law_X6_does rfl rfl rfl (by decide +kernel) ⟨Nat.le_of_ble_eq_true rfl, Nat.le_of_ble_eq_true rfl⟩) (by decide) rfl rfl rfl hl.1 rfl (Nat.le_of_ble_eq_true rfl) dL_law_436 hcs (k_I (fun H locs hI => ?_))
  refine lv_aload_n hx hb dL_law_439 rfl (lv_at hl 1 rfl) ?_
  refine lv_aload_n hx hb dL_law_440 rfl (lv_at hl 3 rfl) ?_
  refine lv_iload_n hx hb dL_law_441 rfl (lv_at hl 0 rfl) ?_
  refine lv_iconst (v := iI 1) hx hb dL_law_442 rfl ?_
  refine r_iadd hx hb dL_law_443 ?_
  refine r_sld C hX hbl hg hI (by omega) hL dL_law_444 ?_
  refine lv_aload_n hx hb dL_law_445 rfl (lv_at hl 3 rfl) ?_
  refine lv_iload_n hx hb dL_law_446 rfl (lv_at hl 0 rfl) ?_
  refine lv_iconst (v := iI 2) hx hb dL_law_447 rfl ?_
  refine r_iadd hx hb dL_law_448 ?_
  refine r_sld C hX hbl hg hI (by omega) hL dL_law_449 ?_
  refine lv_aload_n hx hb dL_law_450 rfl (lv_at hl 3 rfl) ?_
  refine lv_iload_n hx hb dL_law_451 rfl (lv_at hl 0 rfl) ?_
  refine lv_iconst (v := iI 3) hx hb dL_law_452 rfl ?_
  refine r_iadd hx hb dL_law_453 ?_
  refine r_sld C hX hbl hg hI (by omega) hL dL_law_454 ?_
  refine r_iv C hI (As := [.int (iI (scX xs (z + 1))), .int (iI (scX xs (z + 2))), .int (iI (scX xs (z + 3)))]) (rest := [.int (iI (zDoe M (scX xs (z + 1)) (scX xs (z + 2)) (scX xs (z + 3))))]) (c_X7_does l g M (scX xs (z + 1)) (scX xs (z + 2)) (scX xs (z + 3)) M inv.1 inv.2 (scX_R xs (z + 1)) (scX_R xs (z + 2)) (scX_R xs (z + 3))) (cwV 3 hts gL_law_X7_does rfl rfl rfl (by decide +kernel) ⟨Nat.le_of_ble_eq_true rfl, Nat.le_of_ble_eq_true rfl⟩) (by decide) rfl rfl rfl hl.1 rfl (Nat.le_of_ble_eq_true rfl) dL_law_455 hcs (k_E (fun z2 M2 H locs q2 hI => ?_))
  exact lv_icmp_eq (tgt := 1038) hx hb dL_law_458 (by decide) (fun _ => K M2 H locs (inv_step (M1 := M) (A' := M) inv.1 (fun _ _ => rfl) q2.2.1 q2.2.2) hI) (fun h => absurd (congrArg iI q2.1.symm) h)
set_option maxHeartbeats 4000000 in
set_option maxRecDepth 100000 in
theorem law_comes {p : Program} {l : Launch} {e : Env} {s : State} {m : MethodId} {below : List Frame} {meth : Method} {c : Code} {H : Heap} {locs : List Loc} {cells slots : Nat} {Q : State → Prop} {ls : Array Slot} {g : GT} {M : Mem} {b L : Nat} {xs : Nat → Int32} {z : Int} (C : CallFix p m c code 4 s #[Value.ref b] wsL_law RL) (hX : va_X b L xs s s.heap) (hbl : b < s.heap.size) (hg : gB g = s.heap.size) (hL : L ≤ 3072) (hcs : cells ≤ room_1.cells ∧ slots ≤ room_1.slots) (inv : WF M ∧ RM M M) (hz : 0 ≤ z ∧ z + 6 ≤ L) (hI : HI g s H locs M) (hl : lv_has ls 4 [(3, .int (iI z)), (2, .ref (gA g 18)), (1, .ref (gA g 0)), (0, .ref b)])
    (K : ∀ (u : Mem) (H : Heap) (locs : List Loc), (WF u ∧ RM u u) → HI g s H locs u → W p l e room_1 s m #[Value.ref b] below meth c H locs cells slots Q (F0 m 1038 ls [])) : W p l e room_1 s m #[Value.ref b] below meth c H locs cells slots Q (F0 m 463 ls []) := by
  have hx := C.1
  have hb := C.2.1
  have hts := C.2.2.2.2

  refine lv_aload_n hx hb dL_law_463 rfl (lv_at hl 2 rfl) ?_
  refine lv_aload_n hx hb dL_law_464 rfl (lv_at hl 3 rfl) ?_
  refine lv_iload_n hx hb dL_law_465 rfl (lv_at hl 0 rfl) ?_
  refine lv_iconst (v := iI 1) hx hb dL_law_466 rfl ?_
  refine r_iadd hx hb dL_law_467 ?_
  refine r_sld C hX hbl hg hI (by omega) hL dL_law_468 ?_
  refine lv_aload_n hx hb dL_law_469 rfl (lv_at hl 3 rfl) ?_
  refine lv_iload_n hx hb dL_law_470 rfl (lv_at hl 0 rfl) ?_
  refine lv_iconst (v := iI 2) hx hb dL_law_471 rfl ?_
  refine r_iadd hx hb dL_law_472 ?_
  refine r_sld C hX hbl hg hI (by omega) hL dL_law_473 ?_
  refine lv_aload_n hx hb dL_law_474 rfl (lv_at hl 3 rfl) ?_
  refine lv_iload_n hx hb dL_law_475 rfl (lv_at hl 0 rfl) ?_
  refine lv_iconst (v := iI 3) hx hb dL_law_476 rfl ?_
  refine r_iadd hx hb dL_law_477 ?_
  refine r_sld C hX hbl hg hI (by omega) hL dL_law_478 ?_
  refine r_iv C hI (As := [.int (iI (scX xs (z + 1))), .int (iI (scX xs (z + 2))), .int (iI (scX xs (z + 3)))]) (rest := []) (c_X6_comes l g M (scX xs (z + 1)) (scX xs (z + 2)) (scX xs (z + 3)) inv.1 (scX_R xs (z + 1)) (scX_R xs (z + 2)) (scX_R xs (z + 3))) (cwV 3 hts gL_law_X6_comes rfl rfl rfl (by decide +kernel) ⟨Nat.le_of_ble_eq_true rfl, Nat.le_of_ble_eq_true rfl⟩) (by decide) rfl rfl rfl hl.1 rfl (Nat.le_of_ble_eq_true rfl) dL_law_479 hcs (k_I (fun H locs hI => ?_))
  refine lv_aload_n hx hb dL_law_482 rfl (lv_at hl 1 rfl) ?_
  refine lv_aload_n hx hb dL_law_483 rfl (lv_at hl 3 rfl) ?_
  refine lv_iload_n hx hb dL_law_484 rfl (lv_at hl 0 rfl) ?_
  refine lv_iconst (v := iI 1) hx hb dL_law_485 rfl ?_
  refine r_iadd hx hb dL_law_486 ?_
  refine r_sld C hX hbl hg hI (by omega) hL dL_law_487 ?_
  refine lv_aload_n hx hb dL_law_488 rfl (lv_at hl 3 rfl) ?_
  refine lv_iload_n hx hb dL_law_489 rfl (lv_at hl 0 rfl) ?_
  refine lv_iconst (v := iI 2) hx hb dL_law_490 rfl ?_
  refine r_iadd hx hb dL_law_491 ?_
  refine r_sld C hX hbl hg hI (by omega) hL dL_law_492 ?_
  refine lv_aload_n hx hb dL_law_493 rfl (lv_at hl 3 rfl) ?_
  refine lv_iload_n hx hb dL_law_494 rfl (lv_at hl 0 rfl) ?_
  refine lv_iconst (v := iI 3) hx hb dL_law_495 rfl ?_
  refine r_iadd hx hb dL_law_496 ?_
  refine r_sld C hX hbl hg hI (by omega) hL dL_law_497 ?_
  refine r_iv C hI (As := [.int (iI (scX xs (z + 1))), .int (iI (scX xs (z + 2))), .int (iI (scX xs (z + 3)))]) (rest := [.int (iI (zCom M (scX xs (z + 1)) (scX xs (z + 2)) (scX xs (z + 3))))]) (c_X7_comes l g M (scX xs (z + 1)) (scX xs (z + 2)) (scX xs (z + 3)) M inv.1 inv.2 (scX_R xs (z + 1)) (scX_R xs (z + 2)) (scX_R xs (z + 3))) (cwV 3 hts gL_law_X7_comes rfl rfl rfl (by decide +kernel) ⟨Nat.le_of_ble_eq_true rfl, Nat.le_of_ble_eq_true rfl⟩) (by decide) rfl rfl rfl hl.1 rfl (Nat.le_of_ble_eq_true rfl) dL_law_498 hcs (k_E (fun z2 M2 H locs q2 hI => ?_))
  exact lv_icmp_eq (tgt := 1038) hx hb dL_law_501 (by decide) (fun _ => K M2 H locs (inv_step (M1 := M) (A' := M) inv.1 (fun _ _ => rfl) q2.2.1 q2.2.2) hI) (fun h => absurd (congrArg iI q2.1.symm) h)
set_option maxHeartbeats 4000000 in
set_option maxRecDepth 100000 in
theorem law_rounds {p : Program} {l : Launch} {e : Env} {s : State} {m : MethodId} {below : List Frame} {meth : Method} {c : Code} {H : Heap} {locs : List Loc} {cells slots : Nat} {Q : State → Prop} {ls : Array Slot} {g : GT} {M : Mem} {b L : Nat} {xs : Nat → Int32} {z : Int} (C : CallFix p m c code 4 s #[Value.ref b] wsL_law RL) (hX : va_X b L xs s s.heap) (hbl : b < s.heap.size) (hg : gB g = s.heap.size) (hL : L ≤ 3072) (hcs : cells ≤ room_1.cells ∧ slots ≤ room_1.slots) (inv : WF M ∧ RM M M) (hz : 0 ≤ z ∧ z + 6 ≤ L) (hI : HI g s H locs M) (hl : lv_has ls 4 [(3, .int (iI z)), (2, .ref (gA g 18)), (1, .ref (gA g 0)), (0, .ref b)])
    (K : ∀ (u : Mem) (H : Heap) (locs : List Loc), (WF u ∧ RM u u) → HI g s H locs u → W p l e room_1 s m #[Value.ref b] below meth c H locs cells slots Q (F0 m 1038 ls [])) : W p l e room_1 s m #[Value.ref b] below meth c H locs cells slots Q (F0 m 506 ls []) := by
  have hx := C.1
  have hb := C.2.1
  have hts := C.2.2.2.2

  refine lv_aload_n hx hb dL_law_506 rfl (lv_at hl 2 rfl) ?_
  refine lv_aload_n hx hb dL_law_507 rfl (lv_at hl 3 rfl) ?_
  refine lv_iload_n hx hb dL_law_508 rfl (lv_at hl 0 rfl) ?_
  refine lv_iconst (v := iI 1) hx hb dL_law_509 rfl ?_
  refine r_iadd hx hb dL_law_510 ?_
  refine r_sld C hX hbl hg hI (by omega) hL dL_law_511 ?_
  refine lv_aload_n hx hb dL_law_512 rfl (lv_at hl 3 rfl) ?_
  refine lv_iload_n hx hb dL_law_513 rfl (lv_at hl 0 rfl) ?_
  refine lv_iconst (v := iI 2) hx hb dL_law_514 rfl ?_
  refine r_iadd hx hb dL_law_515 ?_
  refine r_sld C hX hbl hg hI (by omega) hL dL_law_516 ?_
  refine r_iv C hI (As := [.int (iI (scX xs (z + 1))), .int (iI (scX xs (z + 2)))]) (rest := []) (c_X6_rounds l g M (scX xs (z + 1)) (scX xs (z + 2)) inv.1 (scX_R xs (z + 1)) (scX_R xs (z + 2))) (cwV 2 hts gL_law_X6_rounds rfl rfl rfl (by decide +kernel) ⟨Nat.le_of_ble_eq_true rfl, Nat.le_of_ble_eq_true rfl⟩) (by decide) rfl rfl rfl hl.1 rfl (Nat.le_of_ble_eq_true rfl) dL_law_517 hcs (k_E (fun z1 M1 H locs q1 hI => ?_))
  refine lv_aload_n hx hb dL_law_520 rfl (lv_at hl 1 rfl) ?_
  refine lv_aload_n hx hb dL_law_521 rfl (lv_at hl 3 rfl) ?_
  refine lv_iload_n hx hb dL_law_522 rfl (lv_at hl 0 rfl) ?_
  refine lv_iconst (v := iI 1) hx hb dL_law_523 rfl ?_
  refine r_iadd hx hb dL_law_524 ?_
  refine r_sld C hX hbl hg hI (by omega) hL dL_law_525 ?_
  refine lv_aload_n hx hb dL_law_526 rfl (lv_at hl 3 rfl) ?_
  refine lv_iload_n hx hb dL_law_527 rfl (lv_at hl 0 rfl) ?_
  refine lv_iconst (v := iI 2) hx hb dL_law_528 rfl ?_
  refine r_iadd hx hb dL_law_529 ?_
  refine r_sld C hX hbl hg hI (by omega) hL dL_law_530 ?_
  refine r_iv C hI (As := [.int (iI (scX xs (z + 1))), .int (iI (scX xs (z + 2)))]) (rest := [.int (iI z1)]) (c_X7_rounds l g M1 (scX xs (z + 1)) (scX xs (z + 2)) M inv.1 (RM_cls (fun c h1 h2 => q1.2 c (by omega)) inv.2) (scX_R xs (z + 1)) (scX_R xs (z + 2))) (cwV 2 hts gL_law_X7_rounds rfl rfl rfl (by decide +kernel) ⟨Nat.le_of_ble_eq_true rfl, Nat.le_of_ble_eq_true rfl⟩) (by decide) rfl rfl rfl hl.1 rfl (Nat.le_of_ble_eq_true rfl) dL_law_531 hcs (k_E (fun z2 M2 H locs q2 hI => ?_))
  exact lv_icmp_eq (tgt := 1038) hx hb dL_law_534 (by decide) (fun _ => K M2 H locs (inv_step (M1 := M1) (A' := M) inv.1 q1.2 q2.2.1 q2.2.2) hI) (fun h => absurd (congrArg iI (q1.1.trans q2.1.symm)) h)
set_option maxHeartbeats 4000000 in
set_option maxRecDepth 100000 in
theorem law_givesAway {p : Program} {l : Launch} {e : Env} {s : State} {m : MethodId} {below : List Frame} {meth : Method} {c : Code} {H : Heap} {locs : List Loc} {cells slots : Nat} {Q : State → Prop} {ls : Array Slot} {g : GT} {M : Mem} {b L : Nat} {xs : Nat → Int32} {z : Int} (C : CallFix p m c code 4 s #[Value.ref b] wsL_law RL) (hX : va_X b L xs s s.heap) (hbl : b < s.heap.size) (hg : gB g = s.heap.size) (hL : L ≤ 3072) (hcs : cells ≤ room_1.cells ∧ slots ≤ room_1.slots) (inv : WF M ∧ RM M M) (hz : 0 ≤ z ∧ z + 6 ≤ L) (hI : HI g s H locs M) (hl : lv_has ls 4 [(3, .int (iI z)), (2, .ref (gA g 18)), (1, .ref (gA g 0)), (0, .ref b)])
    (K : ∀ (u : Mem) (H : Heap) (locs : List Loc), (WF u ∧ RM u u) → HI g s H locs u → W p l e room_1 s m #[Value.ref b] below meth c H locs cells slots Q (F0 m 1038 ls [])) : W p l e room_1 s m #[Value.ref b] below meth c H locs cells slots Q (F0 m 539 ls []) := by
  have hx := C.1
  have hb := C.2.1
  have hts := C.2.2.2.2

  refine lv_aload_n hx hb dL_law_539 rfl (lv_at hl 2 rfl) ?_
  refine lv_aload_n hx hb dL_law_540 rfl (lv_at hl 3 rfl) ?_
  refine lv_iload_n hx hb dL_law_541 rfl (lv_at hl 0 rfl) ?_
  refine lv_iconst (v := iI 1) hx hb dL_law_542 rfl ?_
  refine r_iadd hx hb dL_law_543 ?_
  refine r_sld C hX hbl hg hI (by omega) hL dL_law_544 ?_
  refine r_iv C hI (As := [.int (iI (scX xs (z + 1)))]) (rest := []) (c_X6_givesAway l g M (scX xs (z + 1)) inv.1 (scX_R xs (z + 1))) (cwV 1 hts gL_law_X6_givesAway rfl rfl rfl (by decide +kernel) ⟨Nat.le_of_ble_eq_true rfl, Nat.le_of_ble_eq_true rfl⟩) (by decide) rfl rfl rfl hl.1 rfl (Nat.le_of_ble_eq_true rfl) dL_law_545 hcs (k_I (fun H locs hI => ?_))
  refine lv_aload_n hx hb dL_law_548 rfl (lv_at hl 1 rfl) ?_
  refine lv_aload_n hx hb dL_law_549 rfl (lv_at hl 3 rfl) ?_
  refine lv_iload_n hx hb dL_law_550 rfl (lv_at hl 0 rfl) ?_
  refine lv_iconst (v := iI 1) hx hb dL_law_551 rfl ?_
  refine r_iadd hx hb dL_law_552 ?_
  refine r_sld C hX hbl hg hI (by omega) hL dL_law_553 ?_
  refine r_iv C hI (As := [.int (iI (scX xs (z + 1)))]) (rest := [.int (iI (zGiv M (scX xs (z + 1))))]) (c_X7_givesAway l g M (scX xs (z + 1)) M inv.1 inv.2 (scX_R xs (z + 1))) (cwV 1 hts gL_law_X7_givesAway rfl rfl rfl (by decide +kernel) ⟨Nat.le_of_ble_eq_true rfl, Nat.le_of_ble_eq_true rfl⟩) (by decide) rfl rfl rfl hl.1 rfl (Nat.le_of_ble_eq_true rfl) dL_law_554 hcs (k_E (fun z2 M2 H locs q2 hI => ?_))
  exact lv_icmp_eq (tgt := 1038) hx hb dL_law_557 (by decide) (fun _ => K M2 H locs (inv_step (M1 := M) (A' := M) inv.1 (fun _ _ => rfl) q2.2.1 q2.2.2) hI) (fun h => absurd (congrArg iI q2.1.symm) h)
set_option maxHeartbeats 4000000 in
set_option maxRecDepth 100000 in
theorem law_leftBy {p : Program} {l : Launch} {e : Env} {s : State} {m : MethodId} {below : List Frame} {meth : Method} {c : Code} {H : Heap} {locs : List Loc} {cells slots : Nat} {Q : State → Prop} {ls : Array Slot} {g : GT} {M : Mem} {b L : Nat} {xs : Nat → Int32} {z : Int} (C : CallFix p m c code 4 s #[Value.ref b] wsL_law RL) (hX : va_X b L xs s s.heap) (hbl : b < s.heap.size) (hg : gB g = s.heap.size) (hL : L ≤ 3072) (hcs : cells ≤ room_1.cells ∧ slots ≤ room_1.slots) (inv : WF M ∧ RM M M) (hz : 0 ≤ z ∧ z + 6 ≤ L) (hI : HI g s H locs M) (hl : lv_has ls 4 [(3, .int (iI z)), (2, .ref (gA g 18)), (1, .ref (gA g 0)), (0, .ref b)])
    (K : ∀ (u : Mem) (H : Heap) (locs : List Loc), (WF u ∧ RM u u) → HI g s H locs u → W p l e room_1 s m #[Value.ref b] below meth c H locs cells slots Q (F0 m 1038 ls [])) : W p l e room_1 s m #[Value.ref b] below meth c H locs cells slots Q (F0 m 562 ls []) := by
  have hx := C.1
  have hb := C.2.1
  have hts := C.2.2.2.2

  refine lv_aload_n hx hb dL_law_562 rfl (lv_at hl 2 rfl) ?_
  refine lv_aload_n hx hb dL_law_563 rfl (lv_at hl 3 rfl) ?_
  refine lv_iload_n hx hb dL_law_564 rfl (lv_at hl 0 rfl) ?_
  refine lv_iconst (v := iI 1) hx hb dL_law_565 rfl ?_
  refine r_iadd hx hb dL_law_566 ?_
  refine r_sld C hX hbl hg hI (by omega) hL dL_law_567 ?_
  refine lv_aload_n hx hb dL_law_568 rfl (lv_at hl 3 rfl) ?_
  refine lv_iload_n hx hb dL_law_569 rfl (lv_at hl 0 rfl) ?_
  refine lv_iconst (v := iI 2) hx hb dL_law_570 rfl ?_
  refine r_iadd hx hb dL_law_571 ?_
  refine r_sld C hX hbl hg hI (by omega) hL dL_law_572 ?_
  refine r_iv C hI (As := [.int (iI (scX xs (z + 1))), .int (iI (scX xs (z + 2)))]) (rest := []) (c_X6_leftBy l g M (scX xs (z + 1)) (scX xs (z + 2)) inv.1 (scX_R xs (z + 1)) (scX_R xs (z + 2))) (cwV 2 hts gL_law_X6_leftBy rfl rfl rfl (by decide +kernel) ⟨Nat.le_of_ble_eq_true rfl, Nat.le_of_ble_eq_true rfl⟩) (by decide) rfl rfl rfl hl.1 rfl (Nat.le_of_ble_eq_true rfl) dL_law_573 hcs (k_I (fun H locs hI => ?_))
  refine lv_aload_n hx hb dL_law_576 rfl (lv_at hl 1 rfl) ?_
  refine lv_aload_n hx hb dL_law_577 rfl (lv_at hl 3 rfl) ?_
  refine lv_iload_n hx hb dL_law_578 rfl (lv_at hl 0 rfl) ?_
  refine lv_iconst (v := iI 1) hx hb dL_law_579 rfl ?_
  refine r_iadd hx hb dL_law_580 ?_
  refine r_sld C hX hbl hg hI (by omega) hL dL_law_581 ?_
  refine lv_aload_n hx hb dL_law_582 rfl (lv_at hl 3 rfl) ?_
  refine lv_iload_n hx hb dL_law_583 rfl (lv_at hl 0 rfl) ?_
  refine lv_iconst (v := iI 2) hx hb dL_law_584 rfl ?_
  refine r_iadd hx hb dL_law_585 ?_
  refine r_sld C hX hbl hg hI (by omega) hL dL_law_586 ?_
  refine r_iv C hI (As := [.int (iI (scX xs (z + 1))), .int (iI (scX xs (z + 2)))]) (rest := [.int (iI (zLef M (scX xs (z + 1)) (scX xs (z + 2))))]) (c_X7_leftBy l g M (scX xs (z + 1)) (scX xs (z + 2)) M inv.1 inv.2 (scX_R xs (z + 1)) (scX_R xs (z + 2))) (cwV 2 hts gL_law_X7_leftBy rfl rfl rfl (by decide +kernel) ⟨Nat.le_of_ble_eq_true rfl, Nat.le_of_ble_eq_true rfl⟩) (by decide) rfl rfl rfl hl.1 rfl (Nat.le_of_ble_eq_true rfl) dL_law_587 hcs (k_E (fun z2 M2 H locs q2 hI => ?_))
  exact lv_icmp_eq (tgt := 1038) hx hb dL_law_590 (by decide) (fun _ => K M2 H locs (inv_step (M1 := M) (A' := M) inv.1 (fun _ _ => rfl) q2.2.1 q2.2.2) hI) (fun h => absurd (congrArg iI q2.1.symm) h)
set_option maxHeartbeats 4000000 in
set_option maxRecDepth 100000 in
theorem law_washes {p : Program} {l : Launch} {e : Env} {s : State} {m : MethodId} {below : List Frame} {meth : Method} {c : Code} {H : Heap} {locs : List Loc} {cells slots : Nat} {Q : State → Prop} {ls : Array Slot} {g : GT} {M : Mem} {b L : Nat} {xs : Nat → Int32} {z : Int} (C : CallFix p m c code 4 s #[Value.ref b] wsL_law RL) (hX : va_X b L xs s s.heap) (hbl : b < s.heap.size) (hg : gB g = s.heap.size) (hL : L ≤ 3072) (hcs : cells ≤ room_1.cells ∧ slots ≤ room_1.slots) (inv : WF M ∧ RM M M) (hz : 0 ≤ z ∧ z + 6 ≤ L) (hI : HI g s H locs M) (hl : lv_has ls 4 [(3, .int (iI z)), (2, .ref (gA g 18)), (1, .ref (gA g 0)), (0, .ref b)])
    (K : ∀ (u : Mem) (H : Heap) (locs : List Loc), (WF u ∧ RM u u) → HI g s H locs u → W p l e room_1 s m #[Value.ref b] below meth c H locs cells slots Q (F0 m 1038 ls [])) : W p l e room_1 s m #[Value.ref b] below meth c H locs cells slots Q (F0 m 595 ls []) := by
  have hx := C.1
  have hb := C.2.1
  have hts := C.2.2.2.2

  refine lv_aload_n hx hb dL_law_595 rfl (lv_at hl 2 rfl) ?_
  refine lv_aload_n hx hb dL_law_596 rfl (lv_at hl 3 rfl) ?_
  refine lv_iload_n hx hb dL_law_597 rfl (lv_at hl 0 rfl) ?_
  refine lv_iconst (v := iI 1) hx hb dL_law_598 rfl ?_
  refine r_iadd hx hb dL_law_599 ?_
  refine r_sld C hX hbl hg hI (by omega) hL dL_law_600 ?_
  refine lv_aload_n hx hb dL_law_601 rfl (lv_at hl 3 rfl) ?_
  refine lv_iload_n hx hb dL_law_602 rfl (lv_at hl 0 rfl) ?_
  refine lv_iconst (v := iI 2) hx hb dL_law_603 rfl ?_
  refine r_iadd hx hb dL_law_604 ?_
  refine r_sld C hX hbl hg hI (by omega) hL dL_law_605 ?_
  refine r_iv C hI (As := [.int (iI (scX xs (z + 1))), .int (iI (scX xs (z + 2)))]) (rest := []) (c_X6_washes l g M (scX xs (z + 1)) (scX xs (z + 2)) inv.1 (scX_R xs (z + 1)) (scX_R xs (z + 2))) (cwV 2 hts gL_law_X6_washes rfl rfl rfl (by decide +kernel) ⟨Nat.le_of_ble_eq_true rfl, Nat.le_of_ble_eq_true rfl⟩) (by decide) rfl rfl rfl hl.1 rfl (Nat.le_of_ble_eq_true rfl) dL_law_606 hcs (k_I (fun H locs hI => ?_))
  refine lv_aload_n hx hb dL_law_609 rfl (lv_at hl 1 rfl) ?_
  refine lv_aload_n hx hb dL_law_610 rfl (lv_at hl 3 rfl) ?_
  refine lv_iload_n hx hb dL_law_611 rfl (lv_at hl 0 rfl) ?_
  refine lv_iconst (v := iI 1) hx hb dL_law_612 rfl ?_
  refine r_iadd hx hb dL_law_613 ?_
  refine r_sld C hX hbl hg hI (by omega) hL dL_law_614 ?_
  refine lv_aload_n hx hb dL_law_615 rfl (lv_at hl 3 rfl) ?_
  refine lv_iload_n hx hb dL_law_616 rfl (lv_at hl 0 rfl) ?_
  refine lv_iconst (v := iI 2) hx hb dL_law_617 rfl ?_
  refine r_iadd hx hb dL_law_618 ?_
  refine r_sld C hX hbl hg hI (by omega) hL dL_law_619 ?_
  refine r_iv C hI (As := [.int (iI (scX xs (z + 1))), .int (iI (scX xs (z + 2)))]) (rest := [.int (iI (zWas M (scX xs (z + 1)) (scX xs (z + 2))))]) (c_X7_washes l g M (scX xs (z + 1)) (scX xs (z + 2)) M inv.1 inv.2 (scX_R xs (z + 1)) (scX_R xs (z + 2))) (cwV 2 hts gL_law_X7_washes rfl rfl rfl (by decide +kernel) ⟨Nat.le_of_ble_eq_true rfl, Nat.le_of_ble_eq_true rfl⟩) (by decide) rfl rfl rfl hl.1 rfl (Nat.le_of_ble_eq_true rfl) dL_law_620 hcs (k_E (fun z2 M2 H locs q2 hI => ?_))
  exact lv_icmp_eq (tgt := 1038) hx hb dL_law_623 (by decide) (fun _ => K M2 H locs (inv_step (M1 := M) (A' := M) inv.1 (fun _ _ => rfl) q2.2.1 q2.2.2) hI) (fun h => absurd (congrArg iI q2.1.symm) h)
set_option maxHeartbeats 4000000 in
set_option maxRecDepth 100000 in
theorem law_both {p : Program} {l : Launch} {e : Env} {s : State} {m : MethodId} {below : List Frame} {meth : Method} {c : Code} {H : Heap} {locs : List Loc} {cells slots : Nat} {Q : State → Prop} {ls : Array Slot} {g : GT} {M : Mem} {b L : Nat} {xs : Nat → Int32} {z : Int} (C : CallFix p m c code 4 s #[Value.ref b] wsL_law RL) (hX : va_X b L xs s s.heap) (hbl : b < s.heap.size) (hg : gB g = s.heap.size) (hL : L ≤ 3072) (hcs : cells ≤ room_1.cells ∧ slots ≤ room_1.slots) (inv : WF M ∧ RM M M) (hz : 0 ≤ z ∧ z + 6 ≤ L) (hI : HI g s H locs M) (hl : lv_has ls 4 [(3, .int (iI z)), (2, .ref (gA g 18)), (1, .ref (gA g 0)), (0, .ref b)])
    (K : ∀ (u : Mem) (H : Heap) (locs : List Loc), (WF u ∧ RM u u) → HI g s H locs u → W p l e room_1 s m #[Value.ref b] below meth c H locs cells slots Q (F0 m 1038 ls [])) : W p l e room_1 s m #[Value.ref b] below meth c H locs cells slots Q (F0 m 628 ls []) := by
  have hx := C.1
  have hb := C.2.1
  have hts := C.2.2.2.2

  refine lv_aload_n hx hb dL_law_628 rfl (lv_at hl 2 rfl) ?_
  refine lv_aload_n hx hb dL_law_629 rfl (lv_at hl 3 rfl) ?_
  refine lv_iload_n hx hb dL_law_630 rfl (lv_at hl 0 rfl) ?_
  refine lv_iconst (v := iI 1) hx hb dL_law_631 rfl ?_
  refine r_iadd hx hb dL_law_632 ?_
  refine r_sld C hX hbl hg hI (by omega) hL dL_law_633 ?_
  refine lv_aload_n hx hb dL_law_634 rfl (lv_at hl 3 rfl) ?_
  refine lv_iload_n hx hb dL_law_635 rfl (lv_at hl 0 rfl) ?_
  refine lv_iconst (v := iI 2) hx hb dL_law_636 rfl ?_
  refine r_iadd hx hb dL_law_637 ?_
  refine r_sld C hX hbl hg hI (by omega) hL dL_law_638 ?_
  refine r_iv C hI (As := [.int (iI (scX xs (z + 1))), .int (iI (scX xs (z + 2)))]) (rest := []) (c_X6_both l g M (scX xs (z + 1)) (scX xs (z + 2)) inv.1 (scX_R xs (z + 1)) (scX_R xs (z + 2))) (cwV 2 hts gL_law_X6_both rfl rfl rfl (by decide +kernel) ⟨Nat.le_of_ble_eq_true rfl, Nat.le_of_ble_eq_true rfl⟩) (by decide) rfl rfl rfl hl.1 rfl (Nat.le_of_ble_eq_true rfl) dL_law_639 hcs (k_I (fun H locs hI => ?_))
  refine lv_aload_n hx hb dL_law_642 rfl (lv_at hl 1 rfl) ?_
  refine lv_aload_n hx hb dL_law_643 rfl (lv_at hl 3 rfl) ?_
  refine lv_iload_n hx hb dL_law_644 rfl (lv_at hl 0 rfl) ?_
  refine lv_iconst (v := iI 1) hx hb dL_law_645 rfl ?_
  refine r_iadd hx hb dL_law_646 ?_
  refine r_sld C hX hbl hg hI (by omega) hL dL_law_647 ?_
  refine lv_aload_n hx hb dL_law_648 rfl (lv_at hl 3 rfl) ?_
  refine lv_iload_n hx hb dL_law_649 rfl (lv_at hl 0 rfl) ?_
  refine lv_iconst (v := iI 2) hx hb dL_law_650 rfl ?_
  refine r_iadd hx hb dL_law_651 ?_
  refine r_sld C hX hbl hg hI (by omega) hL dL_law_652 ?_
  refine r_iv C hI (As := [.int (iI (scX xs (z + 1))), .int (iI (scX xs (z + 2)))]) (rest := [.int (iI (zBot M (scX xs (z + 1)) (scX xs (z + 2))))]) (c_X7_both l g M (scX xs (z + 1)) (scX xs (z + 2)) M inv.1 inv.2 (scX_R xs (z + 1)) (scX_R xs (z + 2))) (cwV 2 hts gL_law_X7_both rfl rfl rfl (by decide +kernel) ⟨Nat.le_of_ble_eq_true rfl, Nat.le_of_ble_eq_true rfl⟩) (by decide) rfl rfl rfl hl.1 rfl (Nat.le_of_ble_eq_true rfl) dL_law_653 hcs (k_E (fun z2 M2 H locs q2 hI => ?_))
  exact lv_icmp_eq (tgt := 1038) hx hb dL_law_656 (by decide) (fun _ => K M2 H locs (inv_step (M1 := M) (A' := M) inv.1 (fun _ _ => rfl) q2.2.1 q2.2.2) hI) (fun h => absurd (congrArg iI q2.1.symm) h)
set_option maxHeartbeats 4000000 in
set_option maxRecDepth 100000 in
theorem law_either {p : Program} {l : Launch} {e : Env} {s : State} {m : MethodId} {below : List Frame} {meth : Method} {c : Code} {H : Heap} {locs : List Loc} {cells slots : Nat} {Q : State → Prop} {ls : Array Slot} {g : GT} {M : Mem} {b L : Nat} {xs : Nat → Int32} {z : Int} (C : CallFix p m c code 4 s #[Value.ref b] wsL_law RL) (hX : va_X b L xs s s.heap) (hbl : b < s.heap.size) (hg : gB g = s.heap.size) (hL : L ≤ 3072) (hcs : cells ≤ room_1.cells ∧ slots ≤ room_1.slots) (inv : WF M ∧ RM M M) (hz : 0 ≤ z ∧ z + 6 ≤ L) (hI : HI g s H locs M) (hl : lv_has ls 4 [(3, .int (iI z)), (2, .ref (gA g 18)), (1, .ref (gA g 0)), (0, .ref b)])
    (K : ∀ (u : Mem) (H : Heap) (locs : List Loc), (WF u ∧ RM u u) → HI g s H locs u → W p l e room_1 s m #[Value.ref b] below meth c H locs cells slots Q (F0 m 1038 ls [])) : W p l e room_1 s m #[Value.ref b] below meth c H locs cells slots Q (F0 m 661 ls []) := by
  have hx := C.1
  have hb := C.2.1
  have hts := C.2.2.2.2

  refine lv_aload_n hx hb dL_law_661 rfl (lv_at hl 2 rfl) ?_
  refine lv_aload_n hx hb dL_law_662 rfl (lv_at hl 3 rfl) ?_
  refine lv_iload_n hx hb dL_law_663 rfl (lv_at hl 0 rfl) ?_
  refine lv_iconst (v := iI 1) hx hb dL_law_664 rfl ?_
  refine r_iadd hx hb dL_law_665 ?_
  refine r_sld C hX hbl hg hI (by omega) hL dL_law_666 ?_
  refine lv_aload_n hx hb dL_law_667 rfl (lv_at hl 3 rfl) ?_
  refine lv_iload_n hx hb dL_law_668 rfl (lv_at hl 0 rfl) ?_
  refine lv_iconst (v := iI 2) hx hb dL_law_669 rfl ?_
  refine r_iadd hx hb dL_law_670 ?_
  refine r_sld C hX hbl hg hI (by omega) hL dL_law_671 ?_
  refine r_iv C hI (As := [.int (iI (scX xs (z + 1))), .int (iI (scX xs (z + 2)))]) (rest := []) (c_X6_either l g M (scX xs (z + 1)) (scX xs (z + 2)) inv.1 (scX_R xs (z + 1)) (scX_R xs (z + 2))) (cwV 2 hts gL_law_X6_either rfl rfl rfl (by decide +kernel) ⟨Nat.le_of_ble_eq_true rfl, Nat.le_of_ble_eq_true rfl⟩) (by decide) rfl rfl rfl hl.1 rfl (Nat.le_of_ble_eq_true rfl) dL_law_672 hcs (k_I (fun H locs hI => ?_))
  refine lv_aload_n hx hb dL_law_675 rfl (lv_at hl 1 rfl) ?_
  refine lv_aload_n hx hb dL_law_676 rfl (lv_at hl 3 rfl) ?_
  refine lv_iload_n hx hb dL_law_677 rfl (lv_at hl 0 rfl) ?_
  refine lv_iconst (v := iI 1) hx hb dL_law_678 rfl ?_
  refine r_iadd hx hb dL_law_679 ?_
  refine r_sld C hX hbl hg hI (by omega) hL dL_law_680 ?_
  refine lv_aload_n hx hb dL_law_681 rfl (lv_at hl 3 rfl) ?_
  refine lv_iload_n hx hb dL_law_682 rfl (lv_at hl 0 rfl) ?_
  refine lv_iconst (v := iI 2) hx hb dL_law_683 rfl ?_
  refine r_iadd hx hb dL_law_684 ?_
  refine r_sld C hX hbl hg hI (by omega) hL dL_law_685 ?_
  refine r_iv C hI (As := [.int (iI (scX xs (z + 1))), .int (iI (scX xs (z + 2)))]) (rest := [.int (iI (zEit M (scX xs (z + 1)) (scX xs (z + 2))))]) (c_X7_either l g M (scX xs (z + 1)) (scX xs (z + 2)) M inv.1 inv.2 (scX_R xs (z + 1)) (scX_R xs (z + 2))) (cwV 2 hts gL_law_X7_either rfl rfl rfl (by decide +kernel) ⟨Nat.le_of_ble_eq_true rfl, Nat.le_of_ble_eq_true rfl⟩) (by decide) rfl rfl rfl hl.1 rfl (Nat.le_of_ble_eq_true rfl) dL_law_686 hcs (k_E (fun z2 M2 H locs q2 hI => ?_))
  exact lv_icmp_eq (tgt := 1038) hx hb dL_law_689 (by decide) (fun _ => K M2 H locs (inv_step (M1 := M) (A' := M) inv.1 (fun _ _ => rfl) q2.2.1 q2.2.2) hI) (fun h => absurd (congrArg iI q2.1.symm) h)
set_option maxHeartbeats 4000000 in
set_option maxRecDepth 100000 in
theorem law_see {p : Program} {l : Launch} {e : Env} {s : State} {m : MethodId} {below : List Frame} {meth : Method} {c : Code} {H : Heap} {locs : List Loc} {cells slots : Nat} {Q : State → Prop} {ls : Array Slot} {g : GT} {M : Mem} {b L : Nat} {xs : Nat → Int32} {z : Int} (C : CallFix p m c code 4 s #[Value.ref b] wsL_law RL) (hX : va_X b L xs s s.heap) (hbl : b < s.heap.size) (hg : gB g = s.heap.size) (hL : L ≤ 3072) (hcs : cells ≤ room_1.cells ∧ slots ≤ room_1.slots) (inv : WF M ∧ RM M M) (hz : 0 ≤ z ∧ z + 6 ≤ L) (hI : HI g s H locs M) (hl : lv_has ls 4 [(3, .int (iI z)), (2, .ref (gA g 18)), (1, .ref (gA g 0)), (0, .ref b)])
    (K : ∀ (u : Mem) (H : Heap) (locs : List Loc), (WF u ∧ RM u u) → HI g s H locs u → W p l e room_1 s m #[Value.ref b] below meth c H locs cells slots Q (F0 m 1038 ls [])) : W p l e room_1 s m #[Value.ref b] below meth c H locs cells slots Q (F0 m 694 ls []) := by
  have hx := C.1
  have hb := C.2.1
  have hts := C.2.2.2.2

  refine lv_aload_n hx hb dL_law_694 rfl (lv_at hl 2 rfl) ?_
  refine lv_aload_n hx hb dL_law_695 rfl (lv_at hl 3 rfl) ?_
  refine lv_iload_n hx hb dL_law_696 rfl (lv_at hl 0 rfl) ?_
  refine lv_iconst (v := iI 1) hx hb dL_law_697 rfl ?_
  refine r_iadd hx hb dL_law_698 ?_
  refine r_sld C hX hbl hg hI (by omega) hL dL_law_699 ?_
  refine lv_aload_n hx hb dL_law_700 rfl (lv_at hl 3 rfl) ?_
  refine lv_iload_n hx hb dL_law_701 rfl (lv_at hl 0 rfl) ?_
  refine lv_iconst (v := iI 2) hx hb dL_law_702 rfl ?_
  refine r_iadd hx hb dL_law_703 ?_
  refine r_sld C hX hbl hg hI (by omega) hL dL_law_704 ?_
  refine lv_aload_n hx hb dL_law_705 rfl (lv_at hl 3 rfl) ?_
  refine lv_iload_n hx hb dL_law_706 rfl (lv_at hl 0 rfl) ?_
  refine lv_iconst (v := iI 3) hx hb dL_law_707 rfl ?_
  refine r_iadd hx hb dL_law_708 ?_
  refine r_sld C hX hbl hg hI (by omega) hL dL_law_709 ?_
  refine r_iv C hI (As := [.int (iI (scX xs (z + 1))), .int (iI (scX xs (z + 2))), .int (iI (scX xs (z + 3)))]) (rest := []) (c_X6_see l g M (scX xs (z + 1)) (scX xs (z + 2)) (scX xs (z + 3)) inv.1 (scX_R xs (z + 1)) (scX_R xs (z + 2)) (scX_R xs (z + 3))) (cwV 3 hts gL_law_X6_see rfl rfl rfl (by decide +kernel) ⟨Nat.le_of_ble_eq_true rfl, Nat.le_of_ble_eq_true rfl⟩) (by decide) rfl rfl rfl hl.1 rfl (Nat.le_of_ble_eq_true rfl) dL_law_710 hcs (k_I (fun H locs hI => ?_))
  refine lv_aload_n hx hb dL_law_713 rfl (lv_at hl 1 rfl) ?_
  refine lv_aload_n hx hb dL_law_714 rfl (lv_at hl 3 rfl) ?_
  refine lv_iload_n hx hb dL_law_715 rfl (lv_at hl 0 rfl) ?_
  refine lv_iconst (v := iI 1) hx hb dL_law_716 rfl ?_
  refine r_iadd hx hb dL_law_717 ?_
  refine r_sld C hX hbl hg hI (by omega) hL dL_law_718 ?_
  refine lv_aload_n hx hb dL_law_719 rfl (lv_at hl 3 rfl) ?_
  refine lv_iload_n hx hb dL_law_720 rfl (lv_at hl 0 rfl) ?_
  refine lv_iconst (v := iI 2) hx hb dL_law_721 rfl ?_
  refine r_iadd hx hb dL_law_722 ?_
  refine r_sld C hX hbl hg hI (by omega) hL dL_law_723 ?_
  refine lv_aload_n hx hb dL_law_724 rfl (lv_at hl 3 rfl) ?_
  refine lv_iload_n hx hb dL_law_725 rfl (lv_at hl 0 rfl) ?_
  refine lv_iconst (v := iI 3) hx hb dL_law_726 rfl ?_
  refine r_iadd hx hb dL_law_727 ?_
  refine r_sld C hX hbl hg hI (by omega) hL dL_law_728 ?_
  refine r_iv C hI (As := [.int (iI (scX xs (z + 1))), .int (iI (scX xs (z + 2))), .int (iI (scX xs (z + 3)))]) (rest := [.int (iI (zSee M (scX xs (z + 1)) (scX xs (z + 2)) (scX xs (z + 3))))]) (c_X7_see l g (gSee M (scX xs (z + 1)) (scX xs (z + 2)) (scX xs (z + 3))) (scX xs (z + 1)) (scX xs (z + 2)) (scX xs (z + 3)) M inv.1 (RM_cls (cl_See M (scX xs (z + 1)) (scX xs (z + 2)) (scX xs (z + 3))) inv.2) (scX_R xs (z + 1)) (scX_R xs (z + 2)) (scX_R xs (z + 3))) (cwV 3 hts gL_law_X7_see rfl rfl rfl (by decide +kernel) ⟨Nat.le_of_ble_eq_true rfl, Nat.le_of_ble_eq_true rfl⟩) (by decide) rfl rfl rfl hl.1 rfl (Nat.le_of_ble_eq_true rfl) dL_law_729 hcs (k_E (fun z2 M2 H locs q2 hI => ?_))
  exact lv_icmp_eq (tgt := 1038) hx hb dL_law_732 (by decide) (fun _ => K M2 H locs (inv_step (M1 := (gSee M (scX xs (z + 1)) (scX xs (z + 2)) (scX xs (z + 3)))) (A' := (gSee M (scX xs (z + 1)) (scX xs (z + 2)) (scX xs (z + 3)))) (WF_se inv.1) (fun _ _ => rfl) q2.2.1 q2.2.2) hI) (fun h => absurd (congrArg iI q2.1.symm) h)
set_option maxHeartbeats 4000000 in
set_option maxRecDepth 100000 in
theorem law_unsee {p : Program} {l : Launch} {e : Env} {s : State} {m : MethodId} {below : List Frame} {meth : Method} {c : Code} {H : Heap} {locs : List Loc} {cells slots : Nat} {Q : State → Prop} {ls : Array Slot} {g : GT} {M : Mem} {b L : Nat} {xs : Nat → Int32} {z : Int} (C : CallFix p m c code 4 s #[Value.ref b] wsL_law RL) (hX : va_X b L xs s s.heap) (hbl : b < s.heap.size) (hg : gB g = s.heap.size) (hL : L ≤ 3072) (hcs : cells ≤ room_1.cells ∧ slots ≤ room_1.slots) (inv : WF M ∧ RM M M) (hz : 0 ≤ z ∧ z + 6 ≤ L) (hI : HI g s H locs M) (hl : lv_has ls 4 [(3, .int (iI z)), (2, .ref (gA g 18)), (1, .ref (gA g 0)), (0, .ref b)])
    (K : ∀ (u : Mem) (H : Heap) (locs : List Loc), (WF u ∧ RM u u) → HI g s H locs u → W p l e room_1 s m #[Value.ref b] below meth c H locs cells slots Q (F0 m 1038 ls [])) : W p l e room_1 s m #[Value.ref b] below meth c H locs cells slots Q (F0 m 737 ls []) := by
  have hx := C.1
  have hb := C.2.1
  have hts := C.2.2.2.2

  refine lv_aload_n hx hb dL_law_737 rfl (lv_at hl 2 rfl) ?_
  refine r_iv C hI (As := []) (rest := []) (c_X6_unsee l g M inv.1) (cwV 0 hts gL_law_X6_unsee rfl rfl rfl (by decide +kernel) ⟨Nat.le_of_ble_eq_true rfl, Nat.le_of_ble_eq_true rfl⟩) (by decide) rfl rfl rfl hl.1 rfl (Nat.le_of_ble_eq_true rfl) dL_law_738 hcs (k_I (fun H locs hI => ?_))
  refine lv_aload_n hx hb dL_law_741 rfl (lv_at hl 1 rfl) ?_
  refine r_iv C hI (As := []) (rest := [.int (iI (zUns M ))]) (c_X7_unsee l g (gUns M )  M inv.1 (RM_cls (cl_Uns M ) inv.2) ) (cwV 0 hts gL_law_X7_unsee rfl rfl rfl (by decide +kernel) ⟨Nat.le_of_ble_eq_true rfl, Nat.le_of_ble_eq_true rfl⟩) (by decide) rfl rfl rfl hl.1 rfl (Nat.le_of_ble_eq_true rfl) dL_law_742 hcs (k_E (fun z2 M2 H locs q2 hI => ?_))
  exact lv_icmp_eq (tgt := 1038) hx hb dL_law_745 (by decide) (fun _ => K M2 H locs (inv_step (M1 := (gUns M )) (A' := (gUns M )) (WF_us inv.1) (fun _ _ => rfl) q2.2.1 q2.2.2) hI) (fun h => absurd (congrArg iI q2.1.symm) h)
set_option maxHeartbeats 4000000 in
set_option maxRecDepth 100000 in
theorem law_wore {p : Program} {l : Launch} {e : Env} {s : State} {m : MethodId} {below : List Frame} {meth : Method} {c : Code} {H : Heap} {locs : List Loc} {cells slots : Nat} {Q : State → Prop} {ls : Array Slot} {g : GT} {M : Mem} {b L : Nat} {xs : Nat → Int32} {z : Int} (C : CallFix p m c code 4 s #[Value.ref b] wsL_law RL) (hX : va_X b L xs s s.heap) (hbl : b < s.heap.size) (hg : gB g = s.heap.size) (hL : L ≤ 3072) (hcs : cells ≤ room_1.cells ∧ slots ≤ room_1.slots) (inv : WF M ∧ RM M M) (hz : 0 ≤ z ∧ z + 6 ≤ L) (hI : HI g s H locs M) (hl : lv_has ls 4 [(3, .int (iI z)), (2, .ref (gA g 18)), (1, .ref (gA g 0)), (0, .ref b)])
    (K : ∀ (u : Mem) (H : Heap) (locs : List Loc), (WF u ∧ RM u u) → HI g s H locs u → W p l e room_1 s m #[Value.ref b] below meth c H locs cells slots Q (F0 m 1038 ls [])) : W p l e room_1 s m #[Value.ref b] below meth c H locs cells slots Q (F0 m 750 ls []) := by
  have hx := C.1
  have hb := C.2.1
  have hts := C.2.2.2.2

  refine lv_aload_n hx hb dL_law_750 rfl (lv_at hl 2 rfl) ?_
  refine lv_aload_n hx hb dL_law_751 rfl (lv_at hl 3 rfl) ?_
  refine lv_iload_n hx hb dL_law_752 rfl (lv_at hl 0 rfl) ?_
  refine lv_iconst (v := iI 1) hx hb dL_law_753 rfl ?_
  refine r_iadd hx hb dL_law_754 ?_
  refine r_sld C hX hbl hg hI (by omega) hL dL_law_755 ?_
  refine lv_aload_n hx hb dL_law_756 rfl (lv_at hl 3 rfl) ?_
  refine lv_iload_n hx hb dL_law_757 rfl (lv_at hl 0 rfl) ?_
  refine lv_iconst (v := iI 2) hx hb dL_law_758 rfl ?_
  refine r_iadd hx hb dL_law_759 ?_
  refine r_sld C hX hbl hg hI (by omega) hL dL_law_760 ?_
  refine r_iv C hI (As := [.int (iI (scX xs (z + 1))), .int (iI (scX xs (z + 2)))]) (rest := []) (c_X6_wore l g M (scX xs (z + 1)) (scX xs (z + 2)) inv.1 (scX_R xs (z + 1)) (scX_R xs (z + 2))) (cwV 2 hts gL_law_X6_wore rfl rfl rfl (by decide +kernel) ⟨Nat.le_of_ble_eq_true rfl, Nat.le_of_ble_eq_true rfl⟩) (by decide) rfl rfl rfl hl.1 rfl (Nat.le_of_ble_eq_true rfl) dL_law_761 hcs (k_E (fun z1 M1 H locs q1 hI => ?_))
  refine lv_aload_n hx hb dL_law_764 rfl (lv_at hl 1 rfl) ?_
  refine lv_aload_n hx hb dL_law_765 rfl (lv_at hl 3 rfl) ?_
  refine lv_iload_n hx hb dL_law_766 rfl (lv_at hl 0 rfl) ?_
  refine lv_iconst (v := iI 1) hx hb dL_law_767 rfl ?_
  refine r_iadd hx hb dL_law_768 ?_
  refine r_sld C hX hbl hg hI (by omega) hL dL_law_769 ?_
  refine lv_aload_n hx hb dL_law_770 rfl (lv_at hl 3 rfl) ?_
  refine lv_iload_n hx hb dL_law_771 rfl (lv_at hl 0 rfl) ?_
  refine lv_iconst (v := iI 2) hx hb dL_law_772 rfl ?_
  refine r_iadd hx hb dL_law_773 ?_
  refine r_sld C hX hbl hg hI (by omega) hL dL_law_774 ?_
  refine r_iv C hI (As := [.int (iI (scX xs (z + 1))), .int (iI (scX xs (z + 2)))]) (rest := [.int (iI z1)]) (c_X7_wore l g M1 (scX xs (z + 1)) (scX xs (z + 2)) M inv.1 (RM_cls (fun c h1 h2 => q1.2 c (by omega)) inv.2) (scX_R xs (z + 1)) (scX_R xs (z + 2))) (cwV 2 hts gL_law_X7_wore rfl rfl rfl (by decide +kernel) ⟨Nat.le_of_ble_eq_true rfl, Nat.le_of_ble_eq_true rfl⟩) (by decide) rfl rfl rfl hl.1 rfl (Nat.le_of_ble_eq_true rfl) dL_law_775 hcs (k_E (fun z2 M2 H locs q2 hI => ?_))
  exact lv_icmp_eq (tgt := 1038) hx hb dL_law_778 (by decide) (fun _ => K M2 H locs (inv_step (M1 := M1) (A' := M) inv.1 q1.2 q2.2.1 q2.2.2) hI) (fun h => absurd (congrArg iI (q1.1.trans q2.1.symm)) h)
set_option maxHeartbeats 4000000 in
set_option maxRecDepth 100000 in
theorem law_bids {p : Program} {l : Launch} {e : Env} {s : State} {m : MethodId} {below : List Frame} {meth : Method} {c : Code} {H : Heap} {locs : List Loc} {cells slots : Nat} {Q : State → Prop} {ls : Array Slot} {g : GT} {M : Mem} {b L : Nat} {xs : Nat → Int32} {z : Int} (C : CallFix p m c code 4 s #[Value.ref b] wsL_law RL) (hX : va_X b L xs s s.heap) (hbl : b < s.heap.size) (hg : gB g = s.heap.size) (hL : L ≤ 3072) (hcs : cells ≤ room_1.cells ∧ slots ≤ room_1.slots) (inv : WF M ∧ RM M M) (hz : 0 ≤ z ∧ z + 6 ≤ L) (hI : HI g s H locs M) (hl : lv_has ls 4 [(3, .int (iI z)), (2, .ref (gA g 18)), (1, .ref (gA g 0)), (0, .ref b)])
    (K : ∀ (u : Mem) (H : Heap) (locs : List Loc), (WF u ∧ RM u u) → HI g s H locs u → W p l e room_1 s m #[Value.ref b] below meth c H locs cells slots Q (F0 m 1038 ls [])) : W p l e room_1 s m #[Value.ref b] below meth c H locs cells slots Q (F0 m 783 ls []) := by
  have hx := C.1
  have hb := C.2.1
  have hts := C.2.2.2.2

  refine lv_aload_n hx hb dL_law_783 rfl (lv_at hl 2 rfl) ?_
  refine lv_aload_n hx hb dL_law_784 rfl (lv_at hl 3 rfl) ?_
  refine lv_iload_n hx hb dL_law_785 rfl (lv_at hl 0 rfl) ?_
  refine lv_iconst (v := iI 1) hx hb dL_law_786 rfl ?_
  refine r_iadd hx hb dL_law_787 ?_
  refine r_sld C hX hbl hg hI (by omega) hL dL_law_788 ?_
  refine lv_aload_n hx hb dL_law_789 rfl (lv_at hl 3 rfl) ?_
  refine lv_iload_n hx hb dL_law_790 rfl (lv_at hl 0 rfl) ?_
  refine lv_iconst (v := iI 2) hx hb dL_law_791 rfl ?_
  refine r_iadd hx hb dL_law_792 ?_
  refine r_sld C hX hbl hg hI (by omega) hL dL_law_793 ?_
  refine lv_aload_n hx hb dL_law_794 rfl (lv_at hl 3 rfl) ?_
  refine lv_iload_n hx hb dL_law_795 rfl (lv_at hl 0 rfl) ?_
  refine lv_iconst (v := iI 3) hx hb dL_law_796 rfl ?_
  refine r_iadd hx hb dL_law_797 ?_
  refine r_sld C hX hbl hg hI (by omega) hL dL_law_798 ?_
  refine lv_aload_n hx hb dL_law_799 rfl (lv_at hl 3 rfl) ?_
  refine lv_iload_n hx hb dL_law_800 rfl (lv_at hl 0 rfl) ?_
  refine lv_iconst (v := iI 4) hx hb dL_law_801 rfl ?_
  refine r_iadd hx hb dL_law_802 ?_
  refine r_sld C hX hbl hg hI (by omega) hL dL_law_803 ?_
  refine r_iv C hI (As := [.int (iI (scX xs (z + 1))), .int (iI (scX xs (z + 2))), .int (iI (scX xs (z + 3))), .int (iI (scX xs (z + 4)))]) (rest := []) (c_X6_bids l g M (scX xs (z + 1)) (scX xs (z + 2)) (scX xs (z + 3)) (scX xs (z + 4)) inv.1 (scX_R xs (z + 1)) (scX_R xs (z + 2)) (scX_R xs (z + 3)) (scX_R xs (z + 4))) (cwV 4 hts gL_law_X6_bids rfl rfl rfl (by decide +kernel) ⟨Nat.le_of_ble_eq_true rfl, Nat.le_of_ble_eq_true rfl⟩) (by decide) rfl rfl rfl hl.1 rfl (Nat.le_of_ble_eq_true rfl) dL_law_804 hcs (k_E (fun z1 M1 H locs q1 hI => ?_))
  refine lv_aload_n hx hb dL_law_807 rfl (lv_at hl 1 rfl) ?_
  refine lv_aload_n hx hb dL_law_808 rfl (lv_at hl 3 rfl) ?_
  refine lv_iload_n hx hb dL_law_809 rfl (lv_at hl 0 rfl) ?_
  refine lv_iconst (v := iI 1) hx hb dL_law_810 rfl ?_
  refine r_iadd hx hb dL_law_811 ?_
  refine r_sld C hX hbl hg hI (by omega) hL dL_law_812 ?_
  refine lv_aload_n hx hb dL_law_813 rfl (lv_at hl 3 rfl) ?_
  refine lv_iload_n hx hb dL_law_814 rfl (lv_at hl 0 rfl) ?_
  refine lv_iconst (v := iI 2) hx hb dL_law_815 rfl ?_
  refine r_iadd hx hb dL_law_816 ?_
  refine r_sld C hX hbl hg hI (by omega) hL dL_law_817 ?_
  refine lv_aload_n hx hb dL_law_818 rfl (lv_at hl 3 rfl) ?_
  refine lv_iload_n hx hb dL_law_819 rfl (lv_at hl 0 rfl) ?_
  refine lv_iconst (v := iI 3) hx hb dL_law_820 rfl ?_
  refine r_iadd hx hb dL_law_821 ?_
  refine r_sld C hX hbl hg hI (by omega) hL dL_law_822 ?_
  refine lv_aload_n hx hb dL_law_823 rfl (lv_at hl 3 rfl) ?_
  refine lv_iload_n hx hb dL_law_824 rfl (lv_at hl 0 rfl) ?_
  refine lv_iconst (v := iI 4) hx hb dL_law_825 rfl ?_
  refine r_iadd hx hb dL_law_826 ?_
  refine r_sld C hX hbl hg hI (by omega) hL dL_law_827 ?_
  refine r_iv C hI (As := [.int (iI (scX xs (z + 1))), .int (iI (scX xs (z + 2))), .int (iI (scX xs (z + 3))), .int (iI (scX xs (z + 4)))]) (rest := [.int (iI z1)]) (c_X7_bids l g M1 (scX xs (z + 1)) (scX xs (z + 2)) (scX xs (z + 3)) (scX xs (z + 4)) M inv.1 (RM_cls (fun c h1 h2 => q1.2 c (by omega)) inv.2) (scX_R xs (z + 1)) (scX_R xs (z + 2)) (scX_R xs (z + 3)) (scX_R xs (z + 4))) (cwV 4 hts gL_law_X7_bids rfl rfl rfl (by decide +kernel) ⟨Nat.le_of_ble_eq_true rfl, Nat.le_of_ble_eq_true rfl⟩) (by decide) rfl rfl rfl hl.1 rfl (Nat.le_of_ble_eq_true rfl) dL_law_828 hcs (k_E (fun z2 M2 H locs q2 hI => ?_))
  exact lv_icmp_eq (tgt := 1038) hx hb dL_law_831 (by decide) (fun _ => K M2 H locs (inv_step (M1 := M1) (A' := M) inv.1 q1.2 q2.2.1 q2.2.2) hI) (fun h => absurd (congrArg iI (q1.1.trans q2.1.symm)) h)
set_option maxHeartbeats 4000000 in
set_option maxRecDepth 100000 in
theorem law_lost {p : Program} {l : Launch} {e : Env} {s : State} {m : MethodId} {below : List Frame} {meth : Method} {c : Code} {H : Heap} {locs : List Loc} {cells slots : Nat} {Q : State → Prop} {ls : Array Slot} {g : GT} {M : Mem} {b L : Nat} {xs : Nat → Int32} {z : Int} (C : CallFix p m c code 4 s #[Value.ref b] wsL_law RL) (hX : va_X b L xs s s.heap) (hbl : b < s.heap.size) (hg : gB g = s.heap.size) (hL : L ≤ 3072) (hcs : cells ≤ room_1.cells ∧ slots ≤ room_1.slots) (inv : WF M ∧ RM M M) (hz : 0 ≤ z ∧ z + 6 ≤ L) (hI : HI g s H locs M) (hl : lv_has ls 4 [(3, .int (iI z)), (2, .ref (gA g 18)), (1, .ref (gA g 0)), (0, .ref b)])
    (K : ∀ (u : Mem) (H : Heap) (locs : List Loc), (WF u ∧ RM u u) → HI g s H locs u → W p l e room_1 s m #[Value.ref b] below meth c H locs cells slots Q (F0 m 1038 ls [])) : W p l e room_1 s m #[Value.ref b] below meth c H locs cells slots Q (F0 m 836 ls []) := by
  have hx := C.1
  have hb := C.2.1
  have hts := C.2.2.2.2

  refine lv_aload_n hx hb dL_law_836 rfl (lv_at hl 2 rfl) ?_
  refine lv_aload_n hx hb dL_law_837 rfl (lv_at hl 3 rfl) ?_
  refine lv_iload_n hx hb dL_law_838 rfl (lv_at hl 0 rfl) ?_
  refine lv_iconst (v := iI 1) hx hb dL_law_839 rfl ?_
  refine r_iadd hx hb dL_law_840 ?_
  refine r_sld C hX hbl hg hI (by omega) hL dL_law_841 ?_
  refine lv_aload_n hx hb dL_law_842 rfl (lv_at hl 3 rfl) ?_
  refine lv_iload_n hx hb dL_law_843 rfl (lv_at hl 0 rfl) ?_
  refine lv_iconst (v := iI 2) hx hb dL_law_844 rfl ?_
  refine r_iadd hx hb dL_law_845 ?_
  refine r_sld C hX hbl hg hI (by omega) hL dL_law_846 ?_
  refine lv_aload_n hx hb dL_law_847 rfl (lv_at hl 3 rfl) ?_
  refine lv_iload_n hx hb dL_law_848 rfl (lv_at hl 0 rfl) ?_
  refine lv_iconst (v := iI 3) hx hb dL_law_849 rfl ?_
  refine r_iadd hx hb dL_law_850 ?_
  refine r_sld C hX hbl hg hI (by omega) hL dL_law_851 ?_
  refine lv_aload_n hx hb dL_law_852 rfl (lv_at hl 3 rfl) ?_
  refine lv_iload_n hx hb dL_law_853 rfl (lv_at hl 0 rfl) ?_
  refine lv_iconst (v := iI 4) hx hb dL_law_854 rfl ?_
  refine r_iadd hx hb dL_law_855 ?_
  refine r_sld C hX hbl hg hI (by omega) hL dL_law_856 ?_
  refine lv_aload_n hx hb dL_law_857 rfl (lv_at hl 3 rfl) ?_
  refine lv_iload_n hx hb dL_law_858 rfl (lv_at hl 0 rfl) ?_
  refine lv_iconst (v := iI 5) hx hb dL_law_859 rfl ?_
  refine r_iadd hx hb dL_law_860 ?_
  refine r_sld C hX hbl hg hI (by omega) hL dL_law_861 ?_
  refine r_if_eq hx hb (tgt := 869) (scX_R xs (z + 5)) dL_law_862 (by decide) (fun c5 => ?_) (fun c5 => ?_)
  · refine lv_iconst (v := iI 0) hx hb dL_law_869 rfl ?_
    refine r_iv C hI (As := [.int (iI (scX xs (z + 1))), .int (iI (scX xs (z + 2))), .int (iI (scX xs (z + 3))), .int (iI (scX xs (z + 4))), .int (iI 0)]) (rest := []) (c_X6_lost l g M (scX xs (z + 1)) (scX xs (z + 2)) (scX xs (z + 3)) (scX xs (z + 4)) False inv.1 (scX_R xs (z + 1)) (scX_R xs (z + 2)) (scX_R xs (z + 3)) (scX_R xs (z + 4))) (cwV 5 hts gL_law_X6_lost rfl rfl rfl (by decide +kernel) ⟨Nat.le_of_ble_eq_true rfl, Nat.le_of_ble_eq_true rfl⟩) (by decide) rfl rfl rfl hl.1 rfl (Nat.le_of_ble_eq_true rfl) dL_law_870 hcs (k_I (fun H locs hI => ?_))
    refine lv_aload_n hx hb dL_law_873 rfl (lv_at hl 1 rfl) ?_
    refine lv_aload_n hx hb dL_law_874 rfl (lv_at hl 3 rfl) ?_
    refine lv_iload_n hx hb dL_law_875 rfl (lv_at hl 0 rfl) ?_
    refine lv_iconst (v := iI 1) hx hb dL_law_876 rfl ?_
    refine r_iadd hx hb dL_law_877 ?_
    refine r_sld C hX hbl hg hI (by omega) hL dL_law_878 ?_
    refine lv_aload_n hx hb dL_law_879 rfl (lv_at hl 3 rfl) ?_
    refine lv_iload_n hx hb dL_law_880 rfl (lv_at hl 0 rfl) ?_
    refine lv_iconst (v := iI 2) hx hb dL_law_881 rfl ?_
    refine r_iadd hx hb dL_law_882 ?_
    refine r_sld C hX hbl hg hI (by omega) hL dL_law_883 ?_
    refine lv_aload_n hx hb dL_law_884 rfl (lv_at hl 3 rfl) ?_
    refine lv_iload_n hx hb dL_law_885 rfl (lv_at hl 0 rfl) ?_
    refine lv_iconst (v := iI 3) hx hb dL_law_886 rfl ?_
    refine r_iadd hx hb dL_law_887 ?_
    refine r_sld C hX hbl hg hI (by omega) hL dL_law_888 ?_
    refine lv_aload_n hx hb dL_law_889 rfl (lv_at hl 3 rfl) ?_
    refine lv_iload_n hx hb dL_law_890 rfl (lv_at hl 0 rfl) ?_
    refine lv_iconst (v := iI 4) hx hb dL_law_891 rfl ?_
    refine r_iadd hx hb dL_law_892 ?_
    refine r_sld C hX hbl hg hI (by omega) hL dL_law_893 ?_
    refine lv_aload_n hx hb dL_law_894 rfl (lv_at hl 3 rfl) ?_
    refine lv_iload_n hx hb dL_law_895 rfl (lv_at hl 0 rfl) ?_
    refine lv_iconst (v := iI 5) hx hb dL_law_896 rfl ?_
    refine r_iadd hx hb dL_law_897 ?_
    refine r_sld C hX hbl hg hI (by omega) hL dL_law_898 ?_
    refine r_if_eq hx hb (tgt := 906) (scX_R xs (z + 5)) dL_law_899 (by decide) (fun _ => ?_) (fun c6 => absurd c5 c6)
    refine lv_iconst (v := iI 0) hx hb dL_law_906 rfl ?_
    refine r_iv C hI (As := [.int (iI (scX xs (z + 1))), .int (iI (scX xs (z + 2))), .int (iI (scX xs (z + 3))), .int (iI (scX xs (z + 4))), .int (iI 0)]) (rest := [.int (iI (zLos M (scX xs (z + 1)) (scX xs (z + 2)) (scX xs (z + 3)) (scX xs (z + 4)) False))]) (c_X7_lost l g M (scX xs (z + 1)) (scX xs (z + 2)) (scX xs (z + 3)) (scX xs (z + 4)) False M inv.1 inv.2 (scX_R xs (z + 1)) (scX_R xs (z + 2)) (scX_R xs (z + 3)) (scX_R xs (z + 4))) (cwV 5 hts gL_law_X7_lost rfl rfl rfl (by decide +kernel) ⟨Nat.le_of_ble_eq_true rfl, Nat.le_of_ble_eq_true rfl⟩) (by decide) rfl rfl rfl hl.1 rfl (Nat.le_of_ble_eq_true rfl) dL_law_907 hcs (k_E (fun z2 M2 H locs q2 hI => ?_))
    exact lv_icmp_eq (tgt := 1038) hx hb dL_law_910 (by decide) (fun _ => K M2 H locs (inv_step (M1 := M) (A' := M) inv.1 (fun _ _ => rfl) q2.2.1 q2.2.2) hI) (fun h => absurd (congrArg iI q2.1.symm) h)
  · refine lv_iconst (v := iI 1) hx hb dL_law_865 rfl ?_
    refine lv_goto (tgt := 870) hx hb dL_law_866 (by decide) ?_
    refine r_iv C hI (As := [.int (iI (scX xs (z + 1))), .int (iI (scX xs (z + 2))), .int (iI (scX xs (z + 3))), .int (iI (scX xs (z + 4))), .int (iI 1)]) (rest := []) (c_X6_lost l g M (scX xs (z + 1)) (scX xs (z + 2)) (scX xs (z + 3)) (scX xs (z + 4)) True inv.1 (scX_R xs (z + 1)) (scX_R xs (z + 2)) (scX_R xs (z + 3)) (scX_R xs (z + 4))) (cwV 5 hts gL_law_X6_lost rfl rfl rfl (by decide +kernel) ⟨Nat.le_of_ble_eq_true rfl, Nat.le_of_ble_eq_true rfl⟩) (by decide) rfl rfl rfl hl.1 rfl (Nat.le_of_ble_eq_true rfl) dL_law_870 hcs (k_I (fun H locs hI => ?_))
    refine lv_aload_n hx hb dL_law_873 rfl (lv_at hl 1 rfl) ?_
    refine lv_aload_n hx hb dL_law_874 rfl (lv_at hl 3 rfl) ?_
    refine lv_iload_n hx hb dL_law_875 rfl (lv_at hl 0 rfl) ?_
    refine lv_iconst (v := iI 1) hx hb dL_law_876 rfl ?_
    refine r_iadd hx hb dL_law_877 ?_
    refine r_sld C hX hbl hg hI (by omega) hL dL_law_878 ?_
    refine lv_aload_n hx hb dL_law_879 rfl (lv_at hl 3 rfl) ?_
    refine lv_iload_n hx hb dL_law_880 rfl (lv_at hl 0 rfl) ?_
    refine lv_iconst (v := iI 2) hx hb dL_law_881 rfl ?_
    refine r_iadd hx hb dL_law_882 ?_
    refine r_sld C hX hbl hg hI (by omega) hL dL_law_883 ?_
    refine lv_aload_n hx hb dL_law_884 rfl (lv_at hl 3 rfl) ?_
    refine lv_iload_n hx hb dL_law_885 rfl (lv_at hl 0 rfl) ?_
    refine lv_iconst (v := iI 3) hx hb dL_law_886 rfl ?_
    refine r_iadd hx hb dL_law_887 ?_
    refine r_sld C hX hbl hg hI (by omega) hL dL_law_888 ?_
    refine lv_aload_n hx hb dL_law_889 rfl (lv_at hl 3 rfl) ?_
    refine lv_iload_n hx hb dL_law_890 rfl (lv_at hl 0 rfl) ?_
    refine lv_iconst (v := iI 4) hx hb dL_law_891 rfl ?_
    refine r_iadd hx hb dL_law_892 ?_
    refine r_sld C hX hbl hg hI (by omega) hL dL_law_893 ?_
    refine lv_aload_n hx hb dL_law_894 rfl (lv_at hl 3 rfl) ?_
    refine lv_iload_n hx hb dL_law_895 rfl (lv_at hl 0 rfl) ?_
    refine lv_iconst (v := iI 5) hx hb dL_law_896 rfl ?_
    refine r_iadd hx hb dL_law_897 ?_
    refine r_sld C hX hbl hg hI (by omega) hL dL_law_898 ?_
    refine r_if_eq hx hb (tgt := 906) (scX_R xs (z + 5)) dL_law_899 (by decide) (fun c6 => absurd c6 c5) (fun _ => ?_)
    refine lv_iconst (v := iI 1) hx hb dL_law_902 rfl ?_
    refine lv_goto (tgt := 907) hx hb dL_law_903 (by decide) ?_
    refine r_iv C hI (As := [.int (iI (scX xs (z + 1))), .int (iI (scX xs (z + 2))), .int (iI (scX xs (z + 3))), .int (iI (scX xs (z + 4))), .int (iI 1)]) (rest := [.int (iI (zLos M (scX xs (z + 1)) (scX xs (z + 2)) (scX xs (z + 3)) (scX xs (z + 4)) True))]) (c_X7_lost l g M (scX xs (z + 1)) (scX xs (z + 2)) (scX xs (z + 3)) (scX xs (z + 4)) True M inv.1 inv.2 (scX_R xs (z + 1)) (scX_R xs (z + 2)) (scX_R xs (z + 3)) (scX_R xs (z + 4))) (cwV 5 hts gL_law_X7_lost rfl rfl rfl (by decide +kernel) ⟨Nat.le_of_ble_eq_true rfl, Nat.le_of_ble_eq_true rfl⟩) (by decide) rfl rfl rfl hl.1 rfl (Nat.le_of_ble_eq_true rfl) dL_law_907 hcs (k_E (fun z2 M2 H locs q2 hI => ?_))
    exact lv_icmp_eq (tgt := 1038) hx hb dL_law_910 (by decide) (fun _ => K M2 H locs (inv_step (M1 := M) (A' := M) inv.1 (fun _ _ => rfl) q2.2.1 q2.2.2) hI) (fun h => absurd (congrArg iI q2.1.symm) h)
set_option maxHeartbeats 4000000 in
set_option maxRecDepth 100000 in
theorem law_seed {p : Program} {l : Launch} {e : Env} {s : State} {m : MethodId} {below : List Frame} {meth : Method} {c : Code} {H : Heap} {locs : List Loc} {cells slots : Nat} {Q : State → Prop} {ls : Array Slot} {g : GT} {M : Mem} {b L : Nat} {xs : Nat → Int32} {z : Int} (C : CallFix p m c code 4 s #[Value.ref b] wsL_law RL) (hX : va_X b L xs s s.heap) (hbl : b < s.heap.size) (hg : gB g = s.heap.size) (hL : L ≤ 3072) (hcs : cells ≤ room_1.cells ∧ slots ≤ room_1.slots) (inv : WF M ∧ RM M M) (hz : 0 ≤ z ∧ z + 6 ≤ L) (hI : HI g s H locs M) (hl : lv_has ls 4 [(3, .int (iI z)), (2, .ref (gA g 18)), (1, .ref (gA g 0)), (0, .ref b)])
    (K : ∀ (u : Mem) (H : Heap) (locs : List Loc), (WF u ∧ RM u u) → HI g s H locs u → W p l e room_1 s m #[Value.ref b] below meth c H locs cells slots Q (F0 m 1038 ls [])) : W p l e room_1 s m #[Value.ref b] below meth c H locs cells slots Q (F0 m 915 ls []) := by
  have hx := C.1
  have hb := C.2.1
  have hts := C.2.2.2.2

  refine lv_aload_n hx hb dL_law_915 rfl (lv_at hl 2 rfl) ?_
  refine lv_aload_n hx hb dL_law_916 rfl (lv_at hl 3 rfl) ?_
  refine lv_iload_n hx hb dL_law_917 rfl (lv_at hl 0 rfl) ?_
  refine lv_iconst (v := iI 1) hx hb dL_law_918 rfl ?_
  refine r_iadd hx hb dL_law_919 ?_
  refine r_sld C hX hbl hg hI (by omega) hL dL_law_920 ?_
  refine lv_i2l hx hb dL_law_921 rfl ?_
  refine lv_bipush (v := iI 32) hx hb dL_law_922 (by decide +kernel) ?_
  refine lv_lshl hx hb dL_law_924 rfl ?_
  refine lv_aload_n hx hb dL_law_925 rfl (lv_at hl 3 rfl) ?_
  refine lv_iload_n hx hb dL_law_926 rfl (lv_at hl 0 rfl) ?_
  refine lv_iconst (v := iI 2) hx hb dL_law_927 rfl ?_
  refine r_iadd hx hb dL_law_928 ?_
  refine r_sld C hX hbl hg hI (by omega) hL dL_law_929 ?_
  refine lv_i2l hx hb dL_law_930 rfl ?_
  refine r_ldc2 C (n := 4294967295) (v := (4294967295 : Int64)) (index := 119) (by decide +kernel) (by decide +kernel) dL_law_931 ?_
  refine lv_land hx hb dL_law_934 ?_
  refine lv_lor hx hb dL_law_935 ?_
  refine lv_topl (fun y1 ey1 => ?_)
  refine r_ofL ?_
  refine r_iv C hI (As := [.long (iL y1.toInt)]) (rest := []) (c_X6_seed l g M y1.toInt) (cwV 1 hts gL_law_X6_seed rfl rfl rfl (by decide +kernel) ⟨Nat.le_of_ble_eq_true rfl, Nat.le_of_ble_eq_true rfl⟩) (by decide) rfl rfl rfl hl.1 rfl (Nat.le_of_ble_eq_true rfl) dL_law_936 hcs (k_L (fun H locs hI => ?_))
  refine lv_aload_n hx hb dL_law_939 rfl (lv_at hl 1 rfl) ?_
  refine lv_aload_n hx hb dL_law_940 rfl (lv_at hl 3 rfl) ?_
  refine lv_iload_n hx hb dL_law_941 rfl (lv_at hl 0 rfl) ?_
  refine lv_iconst (v := iI 1) hx hb dL_law_942 rfl ?_
  refine r_iadd hx hb dL_law_943 ?_
  refine r_sld C hX hbl hg hI (by omega) hL dL_law_944 ?_
  refine lv_i2l hx hb dL_law_945 rfl ?_
  refine lv_bipush (v := iI 32) hx hb dL_law_946 (by decide +kernel) ?_
  refine lv_lshl hx hb dL_law_948 rfl ?_
  refine lv_aload_n hx hb dL_law_949 rfl (lv_at hl 3 rfl) ?_
  refine lv_iload_n hx hb dL_law_950 rfl (lv_at hl 0 rfl) ?_
  refine lv_iconst (v := iI 2) hx hb dL_law_951 rfl ?_
  refine r_iadd hx hb dL_law_952 ?_
  refine r_sld C hX hbl hg hI (by omega) hL dL_law_953 ?_
  refine lv_i2l hx hb dL_law_954 rfl ?_
  refine r_ldc2 C (n := 4294967295) (v := (4294967295 : Int64)) (index := 119) (by decide +kernel) (by decide +kernel) dL_law_955 ?_
  refine lv_land hx hb dL_law_958 ?_
  refine lv_lor hx hb dL_law_959 ?_
  refine lv_topl (fun y2 ey2 => ?_)
  obtain rfl : y1 = y2 := ey1.trans ey2.symm
  refine r_ofL ?_
  have rm1 : RM M (mset M 0 8 y1.toInt) := RM_cls (cl_Sed M y1.toInt) inv.2
  refine r_iv C hI (As := [.long (iL y1.toInt)]) (rest := [.long (iL (M 0 8))]) (c_X7_seed l g (mset M 0 8 y1.toInt) y1.toInt M inv.1 rm1) (cwV 1 hts gL_law_X7_seed rfl rfl rfl (by decide +kernel) ⟨Nat.le_of_ble_eq_true rfl, Nat.le_of_ble_eq_true rfl⟩) (by decide) rfl rfl rfl hl.1 rfl (Nat.le_of_ble_eq_true rfl) dL_law_960 hcs (k_L (fun H locs hI => ?_))
  have e2 : mset M 0 8 y1.toInt 18 22 = M 0 8 := by rw [mset_n _ _ _ (by decide)]; exact inv.2.2.2.2.2.2.2
  have q2 := RM_sd (A' := mset M 0 8 y1.toInt) (u := mset (mset (mset M 0 8 y1.toInt) 18 0 0) 18 22 y1.toInt) rm1 inv.1.2.2.1.2.2 (fun c hc => mset_n _ _ _ hc) (fun c h1 _ => by rw [mset_n _ _ _ h1, mset_n _ _ _ h1]) (fun q h1 h2 => by rw [mset_s, rw1_n _ _ h2, mset_s, rw1_n _ _ h1]) (by rw [mset_s, rw1_s, mset_s, rw1_s])
  rw [e2] 
  refine W.lcmp hx hb dL_law_963 ?_
  refine lv_if_eq (tgt := 1038) hx hb dL_law_964 (by decide) (fun _ => K _ H locs (inv_step (M1 := mset M 0 8 y1.toInt) (A' := mset M 0 8 y1.toInt) (WF_sd inv.1) (fun _ _ => rfl) q2.1 q2.2) hI) (fun h => absurd (lcmp_rf _) h)
set_option maxHeartbeats 4000000 in
set_option maxRecDepth 100000 in
theorem law_weeks {p : Program} {l : Launch} {e : Env} {s : State} {m : MethodId} {below : List Frame} {meth : Method} {c : Code} {H : Heap} {locs : List Loc} {cells slots : Nat} {Q : State → Prop} {ls : Array Slot} {g : GT} {M : Mem} {b L : Nat} {xs : Nat → Int32} {z : Int} (C : CallFix p m c code 4 s #[Value.ref b] wsL_law RL) (hX : va_X b L xs s s.heap) (hbl : b < s.heap.size) (hg : gB g = s.heap.size) (hL : L ≤ 3072) (hcs : cells ≤ room_1.cells ∧ slots ≤ room_1.slots) (inv : WF M ∧ RM M M) (hz : 0 ≤ z ∧ z + 6 ≤ L) (hI : HI g s H locs M) (hl : lv_has ls 4 [(3, .int (iI z)), (2, .ref (gA g 18)), (1, .ref (gA g 0)), (0, .ref b)])
    (K : ∀ (u : Mem) (H : Heap) (locs : List Loc), (WF u ∧ RM u u) → HI g s H locs u → W p l e room_1 s m #[Value.ref b] below meth c H locs cells slots Q (F0 m 1038 ls [])) : W p l e room_1 s m #[Value.ref b] below meth c H locs cells slots Q (F0 m 969 ls []) := by
  have hx := C.1
  have hb := C.2.1
  have hts := C.2.2.2.2

  refine lv_aload_n hx hb dL_law_969 rfl (lv_at hl 2 rfl) ?_
  refine lv_aload_n hx hb dL_law_970 rfl (lv_at hl 3 rfl) ?_
  refine lv_iload_n hx hb dL_law_971 rfl (lv_at hl 0 rfl) ?_
  refine lv_iconst (v := iI 1) hx hb dL_law_972 rfl ?_
  refine r_iadd hx hb dL_law_973 ?_
  refine r_sld C hX hbl hg hI (by omega) hL dL_law_974 ?_
  refine r_iv C hI (As := [.int (iI (scX xs (z + 1)))]) (rest := []) (c_X6_weeks l g M (scX xs (z + 1)) inv.1 (scX_R xs (z + 1))) (cwV 1 hts gL_law_X6_weeks rfl rfl rfl (by decide +kernel) ⟨Nat.le_of_ble_eq_true rfl, Nat.le_of_ble_eq_true rfl⟩) (by decide) rfl rfl rfl hl.1 rfl (Nat.le_of_ble_eq_true rfl) dL_law_975 hcs (k_I (fun H locs hI => ?_))
  refine lv_aload_n hx hb dL_law_978 rfl (lv_at hl 1 rfl) ?_
  refine lv_aload_n hx hb dL_law_979 rfl (lv_at hl 3 rfl) ?_
  refine lv_iload_n hx hb dL_law_980 rfl (lv_at hl 0 rfl) ?_
  refine lv_iconst (v := iI 1) hx hb dL_law_981 rfl ?_
  refine r_iadd hx hb dL_law_982 ?_
  refine r_sld C hX hbl hg hI (by omega) hL dL_law_983 ?_
  refine r_iv C hI (As := [.int (iI (scX xs (z + 1)))]) (rest := [.int (iI (zWek M (scX xs (z + 1))))]) (c_X7_weeks l g (gWek M (scX xs (z + 1))) (scX xs (z + 1)) M inv.1 (RM_cls (cl_Wek M (scX xs (z + 1))) inv.2) (scX_R xs (z + 1))) (cwV 1 hts gL_law_X7_weeks rfl rfl rfl (by decide +kernel) ⟨Nat.le_of_ble_eq_true rfl, Nat.le_of_ble_eq_true rfl⟩) (by decide) rfl rfl rfl hl.1 rfl (Nat.le_of_ble_eq_true rfl) dL_law_984 hcs (k_E (fun z2 M2 H locs q2 hI => ?_))
  exact lv_icmp_eq (tgt := 1038) hx hb dL_law_987 (by decide) (fun _ => K M2 H locs (inv_step (M1 := (gWek M (scX xs (z + 1)))) (A' := (gWek M (scX xs (z + 1)))) (WF_wk inv.1) (fun _ _ => rfl) q2.2.1 q2.2.2) hI) (fun h => absurd (congrArg iI q2.1.symm) h)
set_option maxHeartbeats 4000000 in
set_option maxRecDepth 100000 in
theorem law_keep {p : Program} {l : Launch} {e : Env} {s : State} {m : MethodId} {below : List Frame} {meth : Method} {c : Code} {H : Heap} {locs : List Loc} {cells slots : Nat} {Q : State → Prop} {ls : Array Slot} {g : GT} {M : Mem} {b L : Nat} {xs : Nat → Int32} {z : Int} (C : CallFix p m c code 4 s #[Value.ref b] wsL_law RL) (hX : va_X b L xs s s.heap) (hbl : b < s.heap.size) (hg : gB g = s.heap.size) (hL : L ≤ 3072) (hcs : cells ≤ room_1.cells ∧ slots ≤ room_1.slots) (inv : WF M ∧ RM M M) (hz : 0 ≤ z ∧ z + 6 ≤ L) (hI : HI g s H locs M) (hl : lv_has ls 4 [(3, .int (iI z)), (2, .ref (gA g 18)), (1, .ref (gA g 0)), (0, .ref b)])
    (K : ∀ (u : Mem) (H : Heap) (locs : List Loc), (WF u ∧ RM u u) → HI g s H locs u → W p l e room_1 s m #[Value.ref b] below meth c H locs cells slots Q (F0 m 1038 ls [])) : W p l e room_1 s m #[Value.ref b] below meth c H locs cells slots Q (F0 m 992 ls []) := by
  have hx := C.1
  have hb := C.2.1
  have hts := C.2.2.2.2

  refine lv_aload_n hx hb dL_law_992 rfl (lv_at hl 2 rfl) ?_
  refine lv_aload_n hx hb dL_law_993 rfl (lv_at hl 3 rfl) ?_
  refine lv_iload_n hx hb dL_law_994 rfl (lv_at hl 0 rfl) ?_
  refine lv_iconst (v := iI 1) hx hb dL_law_995 rfl ?_
  refine r_iadd hx hb dL_law_996 ?_
  refine r_sld C hX hbl hg hI (by omega) hL dL_law_997 ?_
  refine r_iv C hI (As := [.int (iI (scX xs (z + 1)))]) (rest := []) (c_X6_keep l g M (scX xs (z + 1)) inv.1 (scX_R xs (z + 1))) (cwV 1 hts gL_law_X6_keep rfl rfl rfl (by decide +kernel) ⟨Nat.le_of_ble_eq_true rfl, Nat.le_of_ble_eq_true rfl⟩) (by decide) rfl rfl rfl hl.1 rfl (Nat.le_of_ble_eq_true rfl) dL_law_998 hcs (k_I (fun H locs hI => ?_))
  refine lv_aload_n hx hb dL_law_1001 rfl (lv_at hl 1 rfl) ?_
  refine lv_aload_n hx hb dL_law_1002 rfl (lv_at hl 3 rfl) ?_
  refine lv_iload_n hx hb dL_law_1003 rfl (lv_at hl 0 rfl) ?_
  refine lv_iconst (v := iI 1) hx hb dL_law_1004 rfl ?_
  refine r_iadd hx hb dL_law_1005 ?_
  refine r_sld C hX hbl hg hI (by omega) hL dL_law_1006 ?_
  refine r_iv C hI (As := [.int (iI (scX xs (z + 1)))]) (rest := [.int (iI (zKee M (scX xs (z + 1))))]) (c_X7_keep l g (gKee M (scX xs (z + 1))) (scX xs (z + 1)) M inv.1 (RM_cls (cl_Kee M (scX xs (z + 1))) inv.2) (scX_R xs (z + 1))) (cwV 1 hts gL_law_X7_keep rfl rfl rfl (by decide +kernel) ⟨Nat.le_of_ble_eq_true rfl, Nat.le_of_ble_eq_true rfl⟩) (by decide) rfl rfl rfl hl.1 rfl (Nat.le_of_ble_eq_true rfl) dL_law_1007 hcs (k_E (fun z2 M2 H locs q2 hI => ?_))
  exact lv_icmp_eq (tgt := 1038) hx hb dL_law_1010 (by decide) (fun _ => K M2 H locs (inv_step (M1 := (gKee M (scX xs (z + 1)))) (A' := (gKee M (scX xs (z + 1)))) (WF_ke inv.1) (fun _ _ => rfl) q2.2.1 q2.2.2) hI) (fun h => absurd (congrArg iI q2.1.symm) h)
set_option maxHeartbeats 4000000 in
set_option maxRecDepth 100000 in
theorem law_again {p : Program} {l : Launch} {e : Env} {s : State} {m : MethodId} {below : List Frame} {meth : Method} {c : Code} {H : Heap} {locs : List Loc} {cells slots : Nat} {Q : State → Prop} {ls : Array Slot} {g : GT} {M : Mem} {b L : Nat} {xs : Nat → Int32} {z : Int} (C : CallFix p m c code 4 s #[Value.ref b] wsL_law RL) (hX : va_X b L xs s s.heap) (hbl : b < s.heap.size) (hg : gB g = s.heap.size) (hL : L ≤ 3072) (hcs : cells ≤ room_1.cells ∧ slots ≤ room_1.slots) (inv : WF M ∧ RM M M) (hz : 0 ≤ z ∧ z + 6 ≤ L) (hI : HI g s H locs M) (hl : lv_has ls 4 [(3, .int (iI z)), (2, .ref (gA g 18)), (1, .ref (gA g 0)), (0, .ref b)])
    (K : ∀ (u : Mem) (H : Heap) (locs : List Loc), (WF u ∧ RM u u) → HI g s H locs u → W p l e room_1 s m #[Value.ref b] below meth c H locs cells slots Q (F0 m 1038 ls [])) : W p l e room_1 s m #[Value.ref b] below meth c H locs cells slots Q (F0 m 1015 ls []) := by
  have hx := C.1
  have hb := C.2.1
  have hts := C.2.2.2.2

  refine lv_aload_n hx hb dL_law_1015 rfl (lv_at hl 2 rfl) ?_
  refine lv_aload_n hx hb dL_law_1016 rfl (lv_at hl 3 rfl) ?_
  refine lv_iload_n hx hb dL_law_1017 rfl (lv_at hl 0 rfl) ?_
  refine lv_iconst (v := iI 1) hx hb dL_law_1018 rfl ?_
  refine r_iadd hx hb dL_law_1019 ?_
  refine r_sld C hX hbl hg hI (by omega) hL dL_law_1020 ?_
  refine r_iv C hI (As := [.int (iI (scX xs (z + 1)))]) (rest := []) (c_X6_again l g M (scX xs (z + 1)) inv.1 (scX_R xs (z + 1))) (cwV 1 hts gL_law_X6_again rfl rfl rfl (by decide +kernel) ⟨Nat.le_of_ble_eq_true rfl, Nat.le_of_ble_eq_true rfl⟩) (by decide) rfl rfl rfl hl.1 rfl (Nat.le_of_ble_eq_true rfl) dL_law_1021 hcs (k_I (fun H locs hI => ?_))
  refine lv_aload_n hx hb dL_law_1024 rfl (lv_at hl 1 rfl) ?_
  refine lv_aload_n hx hb dL_law_1025 rfl (lv_at hl 3 rfl) ?_
  refine lv_iload_n hx hb dL_law_1026 rfl (lv_at hl 0 rfl) ?_
  refine lv_iconst (v := iI 1) hx hb dL_law_1027 rfl ?_
  refine r_iadd hx hb dL_law_1028 ?_
  refine r_sld C hX hbl hg hI (by omega) hL dL_law_1029 ?_
  refine r_iv C hI (As := [.int (iI (scX xs (z + 1)))]) (rest := [.int (iI (zAga M (scX xs (z + 1))))]) (c_X7_again l g (gAga M (scX xs (z + 1))) (scX xs (z + 1)) M inv.1 (RM_cls (cl_Aga M (scX xs (z + 1))) inv.2) (scX_R xs (z + 1))) (cwV 1 hts gL_law_X7_again rfl rfl rfl (by decide +kernel) ⟨Nat.le_of_ble_eq_true rfl, Nat.le_of_ble_eq_true rfl⟩) (by decide) rfl rfl rfl hl.1 rfl (Nat.le_of_ble_eq_true rfl) dL_law_1030 hcs (k_E (fun z2 M2 H locs q2 hI => ?_))
  exact lv_icmp_eq (tgt := 1038) hx hb dL_law_1033 (by decide) (fun _ => K M2 H locs (inv_step (M1 := (gAga M (scX xs (z + 1)))) (A' := (gAga M (scX xs (z + 1)))) (WF_ag inv.1) (fun _ _ => rfl) q2.2.1 q2.2.2) hI) (fun h => absurd (congrArg iI q2.1.symm) h)
