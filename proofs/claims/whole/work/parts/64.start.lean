
def lawF (f6 f7 : Nat → Nat) : Nat → Nat := fun i => if 18 ≤ i ∧ i < 32 then f7 i else f6 i
theorem lawF_6 {f6 f7 : Nat → Nat} {i : Nat} (h : ¬ (18 ≤ i ∧ i < 32)) : lawF f6 f7 i = f6 i := by
  unfold lawF
  rw [if_neg h]

set_option maxHeartbeats 16000000 in
set_option maxRecDepth 100000 in
theorem whole_start {p : Program} {e : Env} {s : State} {m : MethodId} {below : List Frame} {meth : Method} {c : Code} (l : Launch) (hflags : l.flags = flags0) {b L : Nat} {xs : Nat → Int32} (hL : L ≤ 3072) (C0 : lw_At p s m meth c b L xs) : W p l e room_1 s m #[Value.ref b] below meth c s.heap [] 0 0 (lw_Z below #[Value.ref b] s) (entryFrame m ([Value.ref b] : List Value).toArray 4) := by
  obtain ⟨hx, hb, hr, hml, hown, hts, hX, hbl, hlocks, hgv⟩ := id C0
  have hs := flat_of_before _ hgv
  have hA : ∀ q : Nat, s.heap.size ≤ q → (fun q : Nat => s.heap.size ≤ q) q := fun _ h => h
  obtain ⟨c0, iS0, hKn0⟩ := u_known (C := RX0) (T := TX0) (N := 3) (n := 3) hts inX0 (hts (.instantiable RX0 3) (by decide +kernel))
  obtain ⟨c1, iS1, hKn1⟩ := u_known (C := RX1) (T := TX1) (N := 8) (n := 8) hts inX1 (hts (.instantiable RX1 8) (by decide +kernel))
  obtain ⟨c2, iS2, hKn2⟩ := u_known (C := RX2) (T := TX2) (N := 4) (n := 4) hts inX2 (hts (.instantiable RX2 4) (by decide +kernel))
  obtain ⟨c3, iS3, hKn3⟩ := u_known (C := RX3) (T := TX3) (N := 4) (n := 4) hts inX3 (hts (.instantiable RX3 4) (by decide +kernel))
  obtain ⟨c4, iS4, hKn4⟩ := u_known (C := RX4) (T := TX4) (N := 2) (n := 2) hts inX4 (hts (.instantiable RX4 2) (by decide +kernel))
  obtain ⟨c5, iS5, hKn5⟩ := u_known (C := RX5) (T := TX5) (N := 2) (n := 2) hts inX5 (hts (.instantiable RX5 2) (by decide +kernel))
  obtain ⟨c6, iS6, hKn6⟩ := u_known (C := RX6) (T := TX6) (N := 9) (n := 9) hts inX6 (hts (.instantiable RX6 9) (by decide +kernel))
  obtain ⟨c7, iS7, hKn7⟩ := u_known (C := RX7) (T := TX7) (N := 31) (n := 31) hts inX7 (hts (.instantiable RX7 31) (by decide +kernel))
  obtain ⟨D, hKc⟩ : ∃ D : va_G, ∀ (k : Nat) (q : vw_C), vwCl[k]? = some q → u_Kn s q.1 q.2.1 q.2.2 (D.1 k) (D.2 k) := by
    refine ⟨(fun k => if k = 0 then c0 else if k = 1 then c1 else if k = 2 then c2 else if k = 3 then c3 else if k = 4 then c4 else if k = 5 then c5 else if k = 6 then c6 else c7, fun k => if k = 0 then iS0 else if k = 1 then iS1 else if k = 2 then iS2 else if k = 3 then iS3 else if k = 4 then iS4 else if k = 5 then iS5 else if k = 6 then iS6 else iS7), ?_⟩
    intro k q hq
    match k, hq with
    | 0, hq => cases hq; exact hKn0
    | 1, hq => cases hq; exact hKn1
    | 2, hq => cases hq; exact hKn2
    | 3, hq => cases hq; exact hKn3
    | 4, hq => cases hq; exact hKn4
    | 5, hq => cases hq; exact hKn5
    | 6, hq => cases hq; exact hKn6
    | 7, hq => cases hq; exact hKn7
    | k + 8, hq => simp at hq
  obtain ⟨cI, kI, pI2, fI, gI2, hI2⟩ := Cond.arrayClass_spec (hts (.arrayClass .int) (by decide +kernel))
  obtain ⟨cZ, kZ, pZ2, fZ, gZ2, hZ2⟩ := Cond.arrayClass_spec (hts (.arrayClass .boolean) (by decide +kernel))
  have hAO : va_AO RX2 s := va_AO.of (hts (.arrayOver (.object RX2)) (by decide +kernel))
  obtain ⟨pQ, cQ, kQ, fQ, _, gQ2, hQ2, nQ⟩ := Cond.arrayOver_spec (va_AO.use (A := #[Value.ref b]) hAO)
  obtain ⟨cs, hcs⟩ : ∃ cs : CS, cs = (cI, cZ, cQ) := ⟨_, rfl⟩
  have hK : va_K D vwCl (tyC cs) s := by
    subst hcs
    refine ⟨hKc, fun k q hq => ?_⟩
    match k, hq with
    | 0, hq => cases hq; exact ⟨fun n z => ⟨fun k h => (by cases h), kI, gI2, pI2, hI2⟩, fI⟩
    | 1, hq => cases hq; exact ⟨fun n z => ⟨fun k h => (by cases h), kZ, gZ2, pZ2, hZ2⟩, fZ⟩
    | 2, hq => cases hq; exact ⟨fun n z => ⟨fun k h => (by cases h), kQ, gQ2, pQ, hQ2⟩, ⟨kQ, pQ, gQ2, hQ2, fQ, nQ⟩⟩
    | k + 3, hq => simp [tyC] at hq
  have hN : NW s := fun w hw => va_Nw.of (nest_on w hw) (hts w (nest_in w hw))
  obtain ⟨t0, zz0, tt0⟩ := st_ex (s := s) (args := #[Value.ref b]) 0 "PERSON_LEAST" (a0 := 1) (a1 := 1) (a2 := 0) (by decide +kernel) (by decide +kernel) (by decide +kernel) (hts (.laysStatic RX5 "PERSON_LEAST" "[I") (by decide +kernel)) (hts (.initialized RX5) (by decide +kernel)) (hs _ (by decide +kernel)) (hs _ (by decide +kernel)) (hs _ (by decide +kernel)) (hs _ (by decide +kernel)) (hs _ (by decide +kernel)) (fun a ha => Nat.not_le.mpr ha)
  obtain ⟨t1, zz1, tt1⟩ := st_ex (s := s) (args := #[Value.ref b]) 1 "GLOVE_LEAST" (a0 := 1) (a1 := 0) (a2 := 0) (by decide +kernel) (by decide +kernel) (by decide +kernel) (hts (.laysStatic RX5 "GLOVE_LEAST" "[I") (by decide +kernel)) (hts (.initialized RX5) (by decide +kernel)) (hs _ (by decide +kernel)) (hs _ (by decide +kernel)) (hs _ (by decide +kernel)) (hs _ (by decide +kernel)) (hs _ (by decide +kernel)) (fun a ha => Nat.not_le.mpr ha)
  obtain ⟨t2, zz2, tt2⟩ := st_ex (s := s) (args := #[Value.ref b]) 2 "PERSON_MOST" (a0 := 7) (a1 := 7) (a2 := 9) (by decide +kernel) (by decide +kernel) (by decide +kernel) (hts (.laysStatic RX5 "PERSON_MOST" "[I") (by decide +kernel)) (hts (.initialized RX5) (by decide +kernel)) (hs _ (by decide +kernel)) (hs _ (by decide +kernel)) (hs _ (by decide +kernel)) (hs _ (by decide +kernel)) (hs _ (by decide +kernel)) (fun a ha => Nat.not_le.mpr ha)
  obtain ⟨t3, zz3, tt3⟩ := st_ex (s := s) (args := #[Value.ref b]) 3 "GLOVE_MOST" (a0 := 3) (a1 := 3) (a2 := 7) (by decide +kernel) (by decide +kernel) (by decide +kernel) (hts (.laysStatic RX5 "GLOVE_MOST" "[I") (by decide +kernel)) (hts (.initialized RX5) (by decide +kernel)) (hs _ (by decide +kernel)) (hs _ (by decide +kernel)) (hs _ (by decide +kernel)) (hs _ (by decide +kernel)) (hs _ (by decide +kernel)) (fun a ha => Nat.not_le.mpr ha)
  have S : CallFix p m c code 4 s #[Value.ref b] wsL_law RL := ⟨hx, hb, hml, hown, fun w hw => hts w (wsL_law_in w hw)⟩
  have hts' := S.2.2.2.2
  have hS : va_S (fun q : Nat => s.heap.size ≤ q) s.heap s.heap [] := va_S.rf
  have hP : va_P D vwCl [] s.heap := fun k q h => by simp at h
  have hD : va_D (fun q : Nat => s.heap.size ≤ q) [] := ⟨fun i j p q h => by simp at h, fun k q h => by simp at h⟩
  have hl := lv_entry ([.ref b]) (n := 4) (Nat.le_of_ble_eq_true rfl)
  rw [lg_entry_eq]
  generalize (lg_sl ([.ref b]) ++ List.replicate (4 - (lg_sl ([.ref b])).length) Slot.unset).toArray = ls at hl ⊢
  have hl : lv_has ls 4 [(0, .ref b)] := hl
  refine r_mk S hAO hK hP hD hS hA (ci := 6) (C := RX6) (T := TX6) (N := 9) (fs := [.null, .null, .null, .null, .null, .null, .null, .null, .long (iL 0)]) inlX6 tyX6 tyX6_ok (by decide +kernel) (by decide +kernel) (by decide +kernel) rfl (fun j hj => by rcases (show j = 0 ∨ j = 1 ∨ j = 2 ∨ j = 3 ∨ j = 4 ∨ j = 5 ∨ j = 6 ∨ j = 7 ∨ j = 8 by omega) with rfl | rfl | rfl | rfl | rfl | rfl | rfl | rfl | rfl <;> rfl) (k_X6 l D cs) (cwI 0 hts' gL_law_X6_init rfl rfl rfl (hts' (.initialized RX6) (by decide +kernel)) (hts' (.methodLink RL 9 yX6_init) (by decide +kernel)) (hts' (.instanceMethod yX6_init) (by decide +kernel)) rfl (by decide +kernel) ⟨Nat.le_of_ble_eq_true rfl, Nat.le_of_ble_eq_true rfl⟩) hl.1 (Nat.le_of_ble_eq_true rfl) dL_law_0 dL_law_3 dL_law_4 (Nat.le_of_ble_eq_true rfl) (Nat.le_of_ble_eq_true rfl) (fun f6 H locs hP hD hS => ?_)
  refine lv_astore_n (lv' := [(1, .ref (f6 0)), (0, .ref b)]) hx hb dL_law_7 rfl hl (by decide) rfl (fun ls hl => ?_)
  refine r_mk S hAO hK hP hD hS hA (ci := 7) (C := RX7) (T := TX7) (N := 31) (fs := [.int (iI 0), .null, .int (iI 0), .int (iI 0), .int (iI 0), .int (iI 0), .null, .null, .int (iI 0), .int (iI 0), .null, .null, .null, .null, .null, .int (iI 0), .null, .null, .int (iI 0), .null, .null, .null, .long (iL 0), .int (iI 0), .int (iI 0), .int (iI 0), .int (iI 0), .int (iI 0), .int (iI 0), .int (iI 0), .int (iI 0)]) inlX7 tyX7 tyX7_ok (by decide +kernel) (by decide +kernel) (by decide +kernel) rfl (fun j hj => by rcases (show j = 0 ∨ j = 1 ∨ j = 2 ∨ j = 3 ∨ j = 4 ∨ j = 5 ∨ j = 6 ∨ j = 7 ∨ j = 8 ∨ j = 9 ∨ j = 10 ∨ j = 11 ∨ j = 12 ∨ j = 13 ∨ j = 14 ∨ j = 15 ∨ j = 16 ∨ j = 17 ∨ j = 18 ∨ j = 19 ∨ j = 20 ∨ j = 21 ∨ j = 22 ∨ j = 23 ∨ j = 24 ∨ j = 25 ∨ j = 26 ∨ j = 27 ∨ j = 28 ∨ j = 29 ∨ j = 30 by omega) with rfl | rfl | rfl | rfl | rfl | rfl | rfl | rfl | rfl | rfl | rfl | rfl | rfl | rfl | rfl | rfl | rfl | rfl | rfl | rfl | rfl | rfl | rfl | rfl | rfl | rfl | rfl | rfl | rfl | rfl | rfl <;> rfl) (k_X7 l D cs) (cwI 0 hts' gL_law_X7_init rfl rfl rfl (hts' (.initialized RX7) (by decide +kernel)) (hts' (.methodLink RL 12 yX7_init) (by decide +kernel)) (hts' (.instanceMethod yX7_init) (by decide +kernel)) rfl (by decide +kernel) ⟨Nat.le_of_ble_eq_true rfl, Nat.le_of_ble_eq_true rfl⟩) hl.1 (Nat.le_of_ble_eq_true rfl) dL_law_8 dL_law_11 dL_law_12 (Nat.le_of_ble_eq_true rfl) (Nat.le_of_ble_eq_true rfl) (fun f7 H locs hP hD hS => ?_)
  refine lv_astore_n (lv' := [(2, .ref (f7 18)), (1, .ref (f6 0)), (0, .ref b)]) hx hb dL_law_15 rfl hl (by decide) rfl (fun ls hl => ?_)
  refine lv_iconst (v := iI 0) hx hb dL_law_16 rfl ?_
  refine lv_istore_n (lv' := [(3, .int (iI 0)), (2, .ref (f7 18)), (1, .ref (f6 0)), (0, .ref b)]) hx hb dL_law_17 rfl hl (by decide) rfl (fun ls hl => ?_)
  have e6 : wl D f6 cs [0, 17, 1, 2, 3, 4, 5, 6, 7, 8, 9, 32, 33, 34, 35, 36, 37, 15, 16, 38, 39, 40, 41, 42, 43, 44, 45, 46, 47, 48, 49, 50, 51, 52, 53, 54, 55, 56, 57, 58, 59, 60, 61, 62, 63, 64, 65, 66, 67, 68, 69, 70, 71, 72, 73, 74, 75, 76, 77, 78, 79, 10, 11, 12, 13, 14, 80, 81, 82, 83, 84, 85] = wl D (lawF f6 f7) cs [0, 17, 1, 2, 3, 4, 5, 6, 7, 8, 9, 32, 33, 34, 35, 36, 37, 15, 16, 38, 39, 40, 41, 42, 43, 44, 45, 46, 47, 48, 49, 50, 51, 52, 53, 54, 55, 56, 57, 58, 59, 60, 61, 62, 63, 64, 65, 66, 67, 68, 69, 70, 71, 72, 73, 74, 75, 76, 77, 78, 79, 10, 11, 12, 13, 14, 80, 81, 82, 83, 84, 85] := wl_cg6 (fun j hj => (lawF_6 hj).symm) _ (by decide)
  have e7 : wl D f7 cs [18, 19, 20, 21, 22, 23, 24, 25, 26, 27, 28, 29, 30, 31] = wl D (lawF f6 f7) cs [18, 19, 20, 21, 22, 23, 24, 25, 26, 27, 28, 29, 30, 31] := rfl
  rw [e6, e7] at hP hD
  have hP : va_P D vwCl (wl D (lawF f6 f7) cs [0, 17, 1, 2, 3, 4, 5, 6, 7, 8, 9, 32, 33, 34, 35, 36, 37, 15, 16, 38, 39, 40, 41, 42, 43, 44, 45, 46, 47, 48, 49, 50, 51, 52, 53, 54, 55, 56, 57, 58, 59, 60, 61, 62, 63, 64, 65, 66, 67, 68, 69, 70, 71, 72, 73, 74, 75, 76, 77, 78, 79, 10, 11, 12, 13, 14, 80, 81, 82, 83, 84, 85, 18, 19, 20, 21, 22, 23, 24, 25, 26, 27, 28, 29, 30, 31]) H := hP
  have hD : va_D (fun q : Nat => s.heap.size ≤ q) (wl D (lawF f6 f7) cs [0, 17, 1, 2, 3, 4, 5, 6, 7, 8, 9, 32, 33, 34, 35, 36, 37, 15, 16, 38, 39, 40, 41, 42, 43, 44, 45, 46, 47, 48, 49, 50, 51, 52, 53, 54, 55, 56, 57, 58, 59, 60, 61, 62, 63, 64, 65, 66, 67, 68, 69, 70, 71, 72, 73, 74, 75, 76, 77, 78, 79, 10, 11, 12, 13, 14, 80, 81, 82, 83, 84, 85, 18, 19, 20, 21, 22, 23, 24, 25, 26, 27, 28, 29, 30, 31]) := hD
  obtain ⟨g, hgd⟩ : ∃ g : GT, g = (D, lawF f6 f7, (fun k => if k = 0 then t0 else if k = 1 then t1 else if k = 2 then t2 else t3), (fun k => if k = 0 then cs.1 else if k = 1 then cs.2.1 else cs.2.2), s.heap.size) := ⟨_, rfl⟩
  obtain ⟨hPb, hDb⟩ := wl_big (t := fun k => if k = 0 then t0 else if k = 1 then t1 else if k = 2 then t2 else t3) (B := s.heap.size) hP hD (by decide)
  have hT : ST g s s.heap := by
    subst hgd
    intro k hk
    rcases (show k = 0 ∨ k = 1 ∨ k = 2 ∨ k = 3 by omega) with rfl | rfl | rfl | rfl
    · exact ⟨zz0, tt0⟩
    · exact ⟨zz1, tt1⟩
    · exact ⟨zz2, tt2⟩
    · exact ⟨zz3, tt3⟩
  have hI : HI g s H locs M0 := by
    subst hgd
    exact ⟨hK, hPb, hDb, hS, Nat.le_refl _, hN, hT⟩
  have hgB : gB g = s.heap.size := by rw [hgd]; rfl
  have a0 : gA g 0 = f6 0 := by rw [hgd]; rfl
  have a18 : gA g 18 = f7 18 := by rw [hgd]; rfl
  rw [← a0, ← a18] at hl
  refine W.widen (k := 86) (n := 856) (Nat.le_of_ble_eq_true rfl) (Nat.le_of_ble_eq_true rfl) ?_
  exact law_loop S hr hlocks hX hbl hgB hL _ 0 M0 (Nat.lt_succ_self _) (by omega) inv_0 H locs hI ls hl
