
/-- the bits of n gloves that are worn -/
def wBn (r : Int → Int) : Nat → Int
  | 0 => 0
  | n + 1 => orI (wBn r n) (if r (5 * (n : Int) + 4) = -9 then 0 else shlI 1 (n : Int))
theorem wBn_b (r : Int → Int) : ∀ n : Nat, 0 ≤ wBn r n
  | 0 => by simp [wBn]
  | n + 1 => by unfold wBn orI; omega
theorem wb4 (a0 a1 a2 a3 : Prop) [Decidable a0] [Decidable a1] [Decidable a2] [Decidable a3] : orI (orI (orI (orI 0 (if a0 then 0 else shlI 1 ((0 : Nat) : Int))) (if a1 then 0 else shlI 1 ((1 : Nat) : Int))) (if a2 then 0 else shlI 1 ((2 : Nat) : Int))) (if a3 then 0 else shlI 1 ((3 : Nat) : Int)) = (if a0 then 0 else 1) + (if a1 then 0 else 2) + (if a2 then 0 else 4) + (if a3 then 0 else 8) := by
  by_cases h0 : a0 <;> by_cases h1 : a1 <;> by_cases h2 : a2 <;> by_cases h3 : a3 <;> simp only [h0, h1, h2, h3, if_true, if_false] <;> decide +kernel
theorem or0 (a : Int) (h : 0 ≤ a) : orI a 0 = a := by
  unfold orI
  rw [show (0 : Int).toNat = 0 from rfl, Nat.or_zero]; omega
theorem wB_eq {A : Mem} {o : Nat} {r : Int → Int} (h : PG A o r 0) (v : VM A o) (hG : 0 ≤ A 3 7 ∧ A 3 7 ≤ 4) : wBn r (A 3 7).toNat = wB (A (o + 2)) := by
  have e : ∀ j : Nat, (j : Int) < A 3 7 → r (5 * (j : Int) + 4) = A (o + 2) (j : Int) := fun j hj => (PG_0 h (j : Int) (by omega)).2
  have n9 : ∀ q : Int, 0 ≤ q ∧ q < 4 → A 3 7 ≤ q → A (o + 2) q = -9 := fun q hq h7 => by
    rcases (v.1 q hq).2.1 with h | h
    · exact h
    · omega
  obtain ⟨n, hn⟩ : ∃ n : Nat, A 3 7 = n := ⟨(A 3 7).toNat, by omega⟩
  have hn5 : n = 0 ∨ n = 1 ∨ n = 2 ∨ n = 3 ∨ n = 4 := by omega
  have e0 : 0 < A 3 7 → r (5 * ((0 : Nat) : Int) + 4) = A (o + 2) 0 := e 0
  have e1 : 1 < A 3 7 → r (5 * ((1 : Nat) : Int) + 4) = A (o + 2) 1 := e 1
  have e2 : 2 < A 3 7 → r (5 * ((2 : Nat) : Int) + 4) = A (o + 2) 2 := e 2
  have e3 : 3 < A 3 7 → r (5 * ((3 : Nat) : Int) + 4) = A (o + 2) 3 := e 3
  have w0 : wBn r 0 = 0 := rfl
  have w1 : wBn r 1 = orI (wBn r 0) (if r (5 * ((0 : Nat) : Int) + 4) = -9 then 0 else shlI 1 ((0 : Nat) : Int)) := rfl
  have w2 : wBn r 2 = orI (wBn r 1) (if r (5 * ((1 : Nat) : Int) + 4) = -9 then 0 else shlI 1 ((1 : Nat) : Int)) := rfl
  have w3 : wBn r 3 = orI (wBn r 2) (if r (5 * ((2 : Nat) : Int) + 4) = -9 then 0 else shlI 1 ((2 : Nat) : Int)) := rfl
  have w4 : wBn r 4 = orI (wBn r 3) (if r (5 * ((3 : Nat) : Int) + 4) = -9 then 0 else shlI 1 ((3 : Nat) : Int)) := rfl
  rw [w0] at w1
  have b1 := wBn_b r 1
  have b2 := wBn_b r 2
  have b3 := wBn_b r 3
  rw [show (A 3 7).toNat = n by rw [hn]; rfl]
  show _ = (if A (o + 2) 0 = -9 then 0 else 1) + (if A (o + 2) 1 = -9 then 0 else 2) + (if A (o + 2) 2 = -9 then 0 else 4) + (if A (o + 2) 3 = -9 then 0 else 8)
  rw [← wb4]
  rcases hn5 with rfl | rfl | rfl | rfl | rfl
  · rw [w0, if_pos (n9 0 (by decide) (by rw [hn]; decide)), if_pos (n9 1 (by decide) (by rw [hn]; decide)), if_pos (n9 2 (by decide) (by rw [hn]; decide)), if_pos (n9 3 (by decide) (by rw [hn]; decide))]; decide +kernel
  · rw [if_pos (n9 1 (by decide) (by rw [hn]; decide)), if_pos (n9 2 (by decide) (by rw [hn]; decide)), if_pos (n9 3 (by decide) (by rw [hn]; decide)), ← e0 (by rw [hn]; decide), ← w1, or0 _ b1, or0 _ b1, or0 _ b1]
  · rw [if_pos (n9 2 (by decide) (by rw [hn]; decide)), if_pos (n9 3 (by decide) (by rw [hn]; decide)), ← e0 (by rw [hn]; decide), ← e1 (by rw [hn]; decide), ← w1, ← w2, or0 _ b2, or0 _ b2]
  · rw [if_pos (n9 3 (by decide) (by rw [hn]; decide)), ← e0 (by rw [hn]; decide), ← e1 (by rw [hn]; decide), ← e2 (by rw [hn]; decide), ← w1, ← w2, ← w3, or0 _ b3]
  · rw [← e0 (by rw [hn]; decide), ← e1 (by rw [hn]; decide), ← e2 (by rw [hn]; decide), ← e3 (by rw [hn]; decide), ← w1, ← w2, ← w3, ← w4]
/-- days: the memory kept -/
theorem dyM_off (B : Mem) (n : Nat) (h : ¬ dyM B n 34 (n : Int) = -9) : dyM B (n + 1) = ldM (dyM B n) (n : Int) := by
  simp only [dyM]
  rw [if_neg h]
theorem dyM_on (B : Mem) (n : Nat) (h : dyM B n 34 (n : Int) = -9) : dyM B (n + 1) = dyM B n := by
  simp only [dyM]
  rw [if_pos h]
theorem RM_day {B N : Mem} (r : RM B N) (hG : B 3 7 ≤ 4) : QC N (mset N 24 20 (N 24 20 + 1)) ∧ RM (mset B 32 2 (B 32 2 + 1)) (mset N 24 20 (N 24 20 + 1)) := by
  refine ⟨QC_m (by decide), RM_now r (fun c h1 _ _ => mset_n _ _ _ h1) (fun c h => mset_n _ _ _ h) hG ⟨fun q hq => ?_, ?_⟩⟩
  · have h1 := r.2.2.1.1 q hq
    refine ⟨KG_of h1.1 (fun j hj => ?_), ?_⟩
    · have : q < 4 := by have : mset B 32 2 (B 32 2 + 1) 3 7 = B 3 7 := rfl
                         omega
      rw [mset_s, rw1_n _ _ (by omega)]
    · have : q < 4 := by have : mset B 32 2 (B 32 2 + 1) 3 7 = B 3 7 := rfl
                         omega
      rw [mset_s, rw1_n _ _ (by omega)]; exact h1.2
  · have h2 := r.2.2.1.2
    rw [Int.zero_add] at h2 ⊢
    rw [mset_s, rw1_s, mset_s, rw1_s, h2]
set_option maxHeartbeats 4000000 in
set_option maxRecDepth 100000 in
theorem c_X7_about (l : Launch) (g : GT) (M : Mem) (v : Int) (A : Mem) (wf : WF A) (rm : RM A M) (h_v : -2147483648 ≤ v ∧ v < 2147483648) : Ctr l g yX7_about wsX7_about ({ frames := 1, cells := 0, slots := 0, locals := 22 } : Room) [.ref (gA g 18), .int (iI v)] M (pE (fun z u => z = zAbt A v ∧ QC M u ∧ RM (A) u)) := by
  refine Ctr.mk (cc := cX7_about) (maxL := 4) (ret := some .int) (lv := [(0, .ref (gA g 18)), (1, .int (iI v))]) (by decide) rfl (Nat.le_of_ble_eq_true rfl) rfl ?_
  intro p e s m below meth c C hr hlk hI ls hl
  have C : CallFix p m c cX7_about 4 s ([.ref (gA g 18), .int (iI v)] : List Value).toArray wsX7_about RX7 := C
  have hx := C.1
  have hb := C.2.1
  have hts := C.2.2.2.2
  have hin7 : ∀ w ∈ u_ws RX7 TX7 31, w ∈ wsX7_about := by decide +kernel
  have wf0 := wf
  obtain ⟨w_txt, hL, w_cnt, w_per, w_glo, w_now, w_act, w_rng, w_slo, w_see, w_sa⟩ := wf
  have rm0 := rm
  obtain ⟨⟨t_n, t_l⟩, ⟨⟨p_p, p_g⟩, p_r, g_r⟩, pgn, ⟨a_n, a_r⟩, k_r, ⟨s_n, s_r⟩, sd⟩ := rm
  have r_hw : ∀ q : Int, 0 ≤ q ∧ q < M 18 5 → -2147483648 ≤ M 24 (5 * q + 4) ∧ M 24 (5 * q + 4) < 2147483648 := fun q hq => by
    have h1 : M 24 (5 * q + 4) = A 34 q := (PG_0 pgn q (by omega)).2
    have h2 := WF_hw w_now (by omega) q (by omega)
    omega
  have pg2 : M 24 20 = A 32 2 := by have := pgn.2; rw [Int.zero_add] at this; exact this
  have ewb : wBn (M 24) (A 3 7).toNat = wB (A 34) := wB_eq pgn w_now w_cnt.2
  refine lv_aload_n hx hb dX7_about_0 rfl (lv_at hl 0 rfl) ?_
  refine lv_iconst (v := iI 0) hx hb dX7_about_1 rfl ?_
  refine r_put C hI 18 (by decide) rfl rfl tyX7 tyX7_ok nmX7 hin7 0 (by decide) (fn := "thrown") (fd := "I") (index := 50) (by decide +kernel) ⟨rfl, rfl, rfl⟩ rfl (z := 0) rfl rfl (Nat.le_of_ble_eq_true rfl) rfl dX7_about_2 (fun H locs hI => ?_)
  refine lv_iconst (v := iI 0) hx hb dX7_about_5 rfl ?_
  refine lv_istore_n (lv' := [(2, .int (iI 0)), (0, .ref (gA g 18)), (1, .int (iI v))]) hx hb dX7_about_6 rfl hl (by decide) rfl (fun ls hl => ?_)
  refine lv_iconst (v := iI 0) hx hb dX7_about_7 rfl ?_
  refine lv_istore_n (lv' := [(3, .int (iI 0)), (2, .int (iI 0)), (0, .ref (gA g 18)), (1, .int (iI v))]) hx hb dX7_about_8 rfl hl (by decide) rfl (fun ls hl => ?_)
  have lp9 : ∀ (n9 : Nat) (kk : Int) (ww : Int) (jj : Nat), (kk = (jj : Int) ∧ (jj : Int) ≤ M 18 5) → (ww = wBn (M 24) jj) → (M 18 5).toNat - jj < n9 → ∀ (H : Heap) (locs : List Loc), HI g s H locs (mset M 18 0 0) → ∀ ls : Array Slot, lv_has ls 4 [(3, .int (iI kk)), (2, .int (iI ww)), (0, .ref (gA g 18)), (1, .int (iI v))] → W p l e ({ frames := 1, cells := 0, slots := 0, locals := 22 } : Room) s m ([.ref (gA g 18), .int (iI v)] : List Value).toArray below meth c H locs 0 0 (MQ below (QV g (pE (fun z u => z = zAbt A v ∧ QC M u ∧ RM (A) u))) ([.ref (gA g 18), .int (iI v)] : List Value).toArray s 0 0 (AA g)) (F0 m 9 ls []) := by
    intro n9
    induction n9 with
    | zero => intro kk ww jj h1 h2 hn9; exact absurd hn9 (Nat.not_lt_zero _)
    | succ n9 ih9 =>
      intro kk ww jj h1 h2 hn9 H locs hI ls hl
      have r_hwk := r_hw kk
      refine lv_iload_n hx hb dX7_about_9 rfl (lv_at hl 0 rfl) ?_
      refine lv_aload_n hx hb dX7_about_10 rfl (lv_at hl 2 rfl) ?_
      refine r_get C hI 18 (by decide) rfl rfl hin7 5 (by decide) (fn := "gloves") (fd := "I") (index := 61) (by decide +kernel) ⟨rfl, rfl, rfl⟩ (v := .int (iI (M 18 5))) rfl dX7_about_11 ?_
      refine r_eqI (z2 := M 18 5) (by first | rfl | (repeat first | rw [mset_s, rw1_s] | rw [mset_s, rw1_n _ _ (by omega)] | rw [mset_n _ _ _ (by decide)])) ?_
      refine r_icmp_ge hx hb (tgt := 45) (by omega) (by omega) dX7_about_14 (by decide) (fun c_1 => ?_) (fun c_1 => ?_)
      · refine lv_iload_n hx hb dX7_about_45 rfl (lv_at hl 3 rfl) ?_
        refine r_tsw hx hb (by omega) dX7_about_46 (by decide) (fun j hj c_2 => ?_) (fun c_2 => ?_)
        · match j, hj with
          | 0, _ =>
            have c_2 : v = 0 := c_2
            refine W.eq (g2 := F0 m 88 ls []) rfl ?_
            refine lv_aload_n hx hb dX7_about_88 rfl (lv_at hl 2 rfl) ?_
            refine r_get C hI 18 (by decide) rfl rfl hin7 4 (by decide) (fn := "people") (fd := "I") (index := 54) (by decide +kernel) ⟨rfl, rfl, rfl⟩ (v := .int (iI (M 18 4))) rfl dX7_about_89 ?_
            refine r_eqI (z2 := M 18 4) (by first | rfl | (repeat first | rw [mset_s, rw1_s] | rw [mset_s, rw1_n _ _ (by omega)] | rw [mset_n _ _ _ (by decide)])) ?_
            refine r_iret C hr hlk hI ?_ dX7_about_92
            exact ⟨_, rfl, (show (fun z u => z = zAbt A v ∧ QC M u ∧ RM (A) u) (M 18 4) (mset M 18 0 0) from by exact ⟨(by unfold zAbt; (repeat' split) <;> first | rfl | omega), (by exact RO rm0)⟩)⟩
          | 1, _ =>
            have c_2 : v = 1 := c_2
            refine W.eq (g2 := F0 m 93 ls []) rfl ?_
            refine lv_aload_n hx hb dX7_about_93 rfl (lv_at hl 2 rfl) ?_
            refine r_get C hI 18 (by decide) rfl rfl hin7 5 (by decide) (fn := "gloves") (fd := "I") (index := 61) (by decide +kernel) ⟨rfl, rfl, rfl⟩ (v := .int (iI (M 18 5))) rfl dX7_about_94 ?_
            refine r_eqI (z2 := M 18 5) (by first | rfl | (repeat first | rw [mset_s, rw1_s] | rw [mset_s, rw1_n _ _ (by omega)] | rw [mset_n _ _ _ (by decide)])) ?_
            refine r_iret C hr hlk hI ?_ dX7_about_97
            exact ⟨_, rfl, (show (fun z u => z = zAbt A v ∧ QC M u ∧ RM (A) u) (M 18 5) (mset M 18 0 0) from by exact ⟨(by unfold zAbt; (repeat' split) <;> first | rfl | omega), (by exact RO rm0)⟩)⟩
          | 2, _ =>
            have c_2 : v = 2 := c_2
            refine W.eq (g2 := F0 m 98 ls []) rfl ?_
            refine lv_aload_n hx hb dX7_about_98 rfl (lv_at hl 2 rfl) ?_
            refine r_get C hI 18 (by decide) rfl rfl hin7 12 (by decide) (fn := "page") (fd := "[I") (index := 25) (by decide +kernel) ⟨rfl, rfl, rfl⟩ (v := .ref (gA g 24)) rfl dX7_about_99 ?_
            refine lv_bipush (v := iI 20) hx hb dX7_about_102 (by decide +kernel) ?_
            refine r_ald C hI 24 (by decide) rfl (by omega) (by decide) dX7_about_104 ?_
            refine r_eqI (z2 := M 24 20) (by first | rfl | (repeat first | rw [mset_s, rw1_s] | rw [mset_s, rw1_n _ _ (by omega)] | rw [mset_n _ _ _ (by decide)])) ?_
            refine r_iret C hr hlk hI ?_ dX7_about_105
            exact ⟨_, rfl, (show (fun z u => z = zAbt A v ∧ QC M u ∧ RM (A) u) (M 24 20) (mset M 18 0 0) from by exact ⟨(by unfold zAbt; rw [if_neg (by omega), if_neg (by omega), if_pos (by omega)]; exact pg2), (by exact RO rm0)⟩)⟩
          | 3, _ =>
            have c_2 : v = 3 := c_2
            refine W.eq (g2 := F0 m 106 ls []) rfl ?_
            refine lv_iload_n hx hb dX7_about_106 rfl (lv_at hl 1 rfl) ?_
            refine r_iret C hr hlk hI ?_ dX7_about_107
            exact ⟨_, rfl, (show (fun z u => z = zAbt A v ∧ QC M u ∧ RM (A) u) ww (mset M 18 0 0) from by exact ⟨(by unfold zAbt; rw [if_neg (by omega), if_neg (by omega), if_neg (by omega), if_pos (by omega), h2, ← ewb, ← p_g, show (M 18 5).toNat = jj from by omega]), (by exact RO rm0)⟩)⟩
          | 4, _ =>
            have c_2 : v = 4 := c_2
            refine W.eq (g2 := F0 m 108 ls []) rfl ?_
            refine lv_aload_n hx hb dX7_about_108 rfl (lv_at hl 2 rfl) ?_
            refine r_get C hI 18 (by decide) rfl rfl hin7 15 (by decide) (fn := "acts") (fd := "I") (index := 94) (by decide +kernel) ⟨rfl, rfl, rfl⟩ (v := .int (iI (M 18 15))) rfl dX7_about_109 ?_
            refine r_eqI (z2 := M 18 15) (by first | rfl | (repeat first | rw [mset_s, rw1_s] | rw [mset_s, rw1_n _ _ (by omega)] | rw [mset_n _ _ _ (by decide)])) ?_
            refine r_iret C hr hlk hI ?_ dX7_about_112
            exact ⟨_, rfl, (show (fun z u => z = zAbt A v ∧ QC M u ∧ RM (A) u) (M 18 15) (mset M 18 0 0) from by exact ⟨(by unfold zAbt; (repeat' split) <;> first | rfl | omega), (by exact RO rm0)⟩)⟩
          | 5, _ =>
            have c_2 : v = 5 := c_2
            refine W.eq (g2 := F0 m 113 ls []) rfl ?_
            refine lv_aload_n hx hb dX7_about_113 rfl (lv_at hl 2 rfl) ?_
            refine r_get C hI 18 (by decide) rfl rfl hin7 18 (by decide) (fn := "seen") (fd := "I") (index := 113) (by decide +kernel) ⟨rfl, rfl, rfl⟩ (v := .int (iI (M 18 18))) rfl dX7_about_114 ?_
            refine r_eqI (z2 := M 18 18) (by first | rfl | (repeat first | rw [mset_s, rw1_s] | rw [mset_s, rw1_n _ _ (by omega)] | rw [mset_n _ _ _ (by decide)])) ?_
            refine r_iret C hr hlk hI ?_ dX7_about_117
            exact ⟨_, rfl, (show (fun z u => z = zAbt A v ∧ QC M u ∧ RM (A) u) (M 18 18) (mset M 18 0 0) from by exact ⟨(by unfold zAbt; (repeat' split) <;> first | rfl | omega), (by exact RO rm0)⟩)⟩
          | 6, _ =>
            have c_2 : v = 6 := c_2
            refine W.eq (g2 := F0 m 118 ls []) rfl ?_
            refine lv_aload_n hx hb dX7_about_118 rfl (lv_at hl 2 rfl) ?_
            refine r_get C hI 18 (by decide) rfl rfl hin7 2 (by decide) (fn := "textSize") (fd := "I") (index := 66) (by decide +kernel) ⟨rfl, rfl, rfl⟩ (v := .int (iI (M 18 2))) rfl dX7_about_119 ?_
            refine r_eqI (z2 := M 18 2) (by first | rfl | (repeat first | rw [mset_s, rw1_s] | rw [mset_s, rw1_n _ _ (by omega)] | rw [mset_n _ _ _ (by decide)])) ?_
            refine r_iret C hr hlk hI ?_ dX7_about_122
            exact ⟨_, rfl, (show (fun z u => z = zAbt A v ∧ QC M u ∧ RM (A) u) (M 18 2) (mset M 18 0 0) from by exact ⟨(by unfold zAbt; (repeat' split) <;> first | rfl | omega), (by exact RO rm0)⟩)⟩
        · refine W.eq (g2 := F0 m 123 ls []) rfl ?_
          refine lv_bipush (v := iI (-2)) hx hb dX7_about_123 (by decide +kernel) ?_
          refine r_iret C hr hlk hI ?_ dX7_about_125
          exact ⟨_, rfl, (show (fun z u => z = zAbt A v ∧ QC M u ∧ RM (A) u) (-2) (mset M 18 0 0) from by exact ⟨(by unfold zAbt; (repeat' split) <;> first | rfl | omega), (by exact RO rm0)⟩)⟩
      · refine lv_iload_n hx hb dX7_about_17 rfl (lv_at hl 1 rfl) ?_
        refine lv_aload_n hx hb dX7_about_18 rfl (lv_at hl 2 rfl) ?_
        refine lv_aload_n hx hb dX7_about_19 rfl (lv_at hl 2 rfl) ?_
        refine r_get C hI 18 (by decide) rfl rfl hin7 12 (by decide) (fn := "page") (fd := "[I") (index := 25) (by decide +kernel) ⟨rfl, rfl, rfl⟩ (v := .ref (gA g 24)) rfl dX7_about_20 ?_
        refine lv_iload_n hx hb dX7_about_23 rfl (lv_at hl 0 rfl) ?_
        refine r_iv C hI (As := [.ref (gA g 24), .int (iI kk)]) (rest := [.int (iI ww)]) (c_X7_isWorn_24 l g (mset M 18 0 0) kk (by omega) (show -2147483648 ≤ (M 24 (5 * kk + 4)) ∧ (M 24 (5 * kk + 4)) < 2147483648 from by omega)) (cwV 2 hts gX7_about_X7_isWorn rfl rfl rfl (by decide +kernel) ⟨Nat.le_of_ble_eq_true rfl, Nat.le_of_ble_eq_true rfl⟩) (by decide) rfl rfl rfl hl.1 rfl (Nat.le_of_ble_eq_true rfl) dX7_about_24 ⟨Nat.zero_le _, Nat.zero_le _⟩ (k_I (fun H locs hI => ?_))
        refine r_eqI (z2 := bI (¬ (M 24 (5 * kk + 4)) = -9)) rfl ?_
        refine r_b_eq hx hb (tgt := 36) dX7_about_27 (by decide) (fun c_3 => ?_) (fun c_3 => ?_)
        · refine lv_iconst (v := iI 0) hx hb dX7_about_36 rfl ?_
          refine r_ior hx hb (by exact ⟨by rw [h2]; exact wBn_b _ _, by first | decide | (unfold shlI; exact Int.mul_nonneg (by decide) (Int.pow_nonneg (by decide)))⟩) dX7_about_37 ?_
          refine lv_istore_n (lv' := [(2, .int (iI (orI ww 0))), (3, .int (iI kk)), (0, .ref (gA g 18)), (1, .int (iI v))]) hx hb dX7_about_38 rfl hl (by decide) rfl (fun ls hl => ?_)
          refine lv_iinc (v := iI (kk + 1)) (lv' := [(3, .int (iI (kk + 1))), (2, .int (iI (orI ww 0))), (0, .ref (gA g 18)), (1, .int (iI v))]) hx hb dX7_about_39 hl (k := 1) rfl (iI_add _ _) (by decide) rfl (fun ls hl => ?_)
          refine lv_goto (tgt := 9) hx hb dX7_about_42 (by decide) ?_
          exact ih9 (kk + 1) (orI ww 0) (jj + 1) (by omega) (by (rw [h2]; simp only [wBn, ← h1.1]; first | (rw [if_neg (by assumption)]; done) | (rw [if_pos (by omega)]; done))) (by omega) _ _ hI ls (lv_sub hl [0, 1, 2, 3] rfl)
        · refine lv_iconst (v := iI 1) hx hb dX7_about_30 rfl ?_
          refine lv_iload_n hx hb dX7_about_31 rfl (lv_at hl 0 rfl) ?_
          refine r_ishl hx hb (by omega) dX7_about_32 ?_
          refine lv_goto (tgt := 37) hx hb dX7_about_33 (by decide) ?_
          refine r_ior hx hb (by exact ⟨by rw [h2]; exact wBn_b _ _, by first | decide | (unfold shlI; exact Int.mul_nonneg (by decide) (Int.pow_nonneg (by decide)))⟩) dX7_about_37 ?_
          refine lv_istore_n (lv' := [(2, .int (iI (orI ww (shlI 1 kk)))), (3, .int (iI kk)), (0, .ref (gA g 18)), (1, .int (iI v))]) hx hb dX7_about_38 rfl hl (by decide) rfl (fun ls hl => ?_)
          refine lv_iinc (v := iI (kk + 1)) (lv' := [(3, .int (iI (kk + 1))), (2, .int (iI (orI ww (shlI 1 kk)))), (0, .ref (gA g 18)), (1, .int (iI v))]) hx hb dX7_about_39 hl (k := 1) rfl (iI_add _ _) (by decide) rfl (fun ls hl => ?_)
          refine lv_goto (tgt := 9) hx hb dX7_about_42 (by decide) ?_
          exact ih9 (kk + 1) (orI ww (shlI 1 kk)) (jj + 1) (by omega) (by (rw [h2]; simp only [wBn, ← h1.1]; first | (rw [if_neg (by assumption)]; done) | (rw [if_pos (by omega)]; done))) (by omega) _ _ hI ls (lv_sub hl [0, 1, 2, 3] rfl)
  exact lp9 _ 0 0 0 (by omega) (by rfl) (Nat.lt_succ_self _) _ _ hI ls (lv_sub hl [0, 1, 2, 3] rfl)
set_option maxHeartbeats 4000000 in
set_option maxRecDepth 100000 in
theorem c_X7_day (l : Launch) (g : GT) (M : Mem) (A : Mem) (wf : WF A) (rm : RM A M) : Ctr l g yX7_day wsX7_day ({ frames := 2, cells := 0, slots := 0, locals := 46 } : Room) [.ref (gA g 18)] M (pE (fun z u => z = zDay A  ∧ QC M u ∧ RM (gDay A ) u)) := by
  refine Ctr.mk (cc := cX7_day) (maxL := 3) (ret := some .int) (lv := [(0, .ref (gA g 18))]) (by decide) rfl (Nat.le_of_ble_eq_true rfl) rfl ?_
  intro p e s m below meth c C hr hlk hI ls hl
  have C : CallFix p m c cX7_day 3 s ([.ref (gA g 18)] : List Value).toArray wsX7_day RX7 := C
  have hx := C.1
  have hb := C.2.1
  have hts := C.2.2.2.2
  have hin7 : ∀ w ∈ u_ws RX7 TX7 31, w ∈ wsX7_day := by decide +kernel
  have wf0 := wf
  obtain ⟨w_txt, hL, w_cnt, w_per, w_glo, w_now, w_act, w_rng, w_slo, w_see, w_sa⟩ := wf
  have rm0 := rm
  obtain ⟨⟨t_n, t_l⟩, ⟨⟨p_p, p_g⟩, p_r, g_r⟩, pgn, ⟨a_n, a_r⟩, k_r, ⟨s_n, s_r⟩, sd⟩ := rm
  refine lv_aload_n hx hb dX7_day_0 rfl (lv_at hl 0 rfl) ?_
  refine lv_iconst (v := iI 0) hx hb dX7_day_1 rfl ?_
  refine r_put C hI 18 (by decide) rfl rfl tyX7 tyX7_ok nmX7 hin7 0 (by decide) (fn := "thrown") (fd := "I") (index := 50) (by decide +kernel) ⟨rfl, rfl, rfl⟩ rfl (z := 0) rfl rfl (Nat.le_of_ble_eq_true rfl) rfl dX7_day_2 (fun H locs hI => ?_)
  refine lv_aload_n hx hb dX7_day_5 rfl (lv_at hl 0 rfl) ?_
  refine r_iv C hI (As := []) (rest := []) (c_X7_note l g (mset M 18 0 0) (show 0 ≤ (M 18 15) ∧ (M 18 15) ≤ 14 from by omega)) (cwV 0 hts gX7_day_X7_note rfl rfl rfl (by decide +kernel) ⟨Nat.le_of_ble_eq_true rfl, Nat.le_of_ble_eq_true rfl⟩) (by decide) rfl rfl rfl hl.1 rfl (Nat.le_of_ble_eq_true rfl) dX7_day_6 ⟨Nat.zero_le _, Nat.zero_le _⟩ (k_X (fun M_1 H locs q_1 hI => ?_))
  have n_c : ∀ c : Nat, c ≠ 18 → c ≠ 26 → M_1 c = M c := fun c h1 h2 => by rw [q_1, noM_n h1 h2, mset_n _ _ _ h1]
  have n18 : ∀ q : Int, q ≠ 15 → q ≠ 0 → M_1 18 q = M 18 q := fun q h1 h2 => by rw [q_1, noM_18 h1, mset_s, rw1_n _ _ h2]
  have n20 : ∀ q : Int, M_1 20 (3 * q) = A 4 q := fun q => by rw [n_c 20 (by decide) (by decide)]; exact (p_r q).1
  have n21 : ∀ q : Int, M_1 21 (3 * q) = A 7 q := fun q => by rw [n_c 21 (by decide) (by decide)]; exact (g_r q).1
  have n21b : ∀ q : Int, M_1 21 (3 * q + 1) = A 8 q := fun q => by rw [n_c 21 (by decide) (by decide)]; exact (g_r q).2.1
  have n24 : M_1 24 = M 24 := n_c 24 (by decide) (by decide)
  have rn := RM_note wf0 (RO rm0).2
  rw [← q_1] at rn
  have rq := QC.trans (RO rm0).1 rn.2
  have ea : ∀ c : Nat, c ≠ 15 → c < 38 → aAdd A c = A c := fun c h1 h2 => aAdd_n h1 h2
  have ea37 : aAdd A 3 7 = A 3 7 := by rw [ea 3 (by decide) (by decide)]
  refine lv_iconst (v := iI 0) hx hb dX7_day_9 rfl ?_
  refine lv_istore_n (lv' := [(1, .int (iI 0)), (0, .ref (gA g 18))]) hx hb dX7_day_10 rfl hl (by decide) rfl (fun ls hl => ?_)
  refine lv_iconst (v := iI 0) hx hb dX7_day_11 rfl ?_
  refine lv_istore_n (lv' := [(2, .int (iI 0)), (1, .int (iI 0)), (0, .ref (gA g 18))]) hx hb dX7_day_12 rfl hl (by decide) rfl (fun ls hl => ?_)
  have lp13 : ∀ (n13 : Nat) (kk : Int) (cc : Int) (ND : Mem) (jj : Nat), (kk = (jj : Int) ∧ (jj : Int) ≤ A 3 7) → (RM (dyM (aAdd A) jj) ND) → (QC M ND) → (cc = dyC (aAdd A) jj) → (A 3 7).toNat - jj < n13 → ∀ (H : Heap) (locs : List Loc), HI g s H locs ND → ∀ ls : Array Slot, lv_has ls 3 [(2, .int (iI kk)), (1, .int (iI cc)), (0, .ref (gA g 18))] → W p l e ({ frames := 2, cells := 0, slots := 0, locals := 46 } : Room) s m ([.ref (gA g 18)] : List Value).toArray below meth c H locs 0 0 (MQ below (QV g (pE (fun z u => z = zDay A  ∧ QC M u ∧ RM (gDay A ) u))) ([.ref (gA g 18)] : List Value).toArray s 0 0 (AA g)) (F0 m 13 ls []) := by
    intro n13
    induction n13 with
    | zero => intro kk cc ND jj h1 rj qj cj hn13; exact absurd hn13 (Nat.not_lt_zero _)
    | succ n13 ih13 =>
      intro kk cc ND jj h1 rj qj cj hn13 H locs hI ls hl
      have k9 : dyM (aAdd A) jj 3 7 = A 3 7 := by rw [dyM_n _ (by decide) (by decide)]; exact ea37
      have k10 : ND 18 5 = A 3 7 := by rw [rj.2.1.1.2, k9]
      have eu := dyM_u (aAdd A) jj kk (by omega)
      rw [ea 33 (by decide) (by decide), ea 34 (by decide) (by decide)] at eu
      have k5 : kk < A 3 7 → ND 24 (5 * kk + 4) = dyM (aAdd A) jj 34 kk := fun q => (PG_0 rj.2.2.1 kk (by rw [k9]; omega)).2
      have k6 : kk < A 3 7 → KG (dyM (aAdd A) jj 33 kk) (ND 24) (5 * kk) := fun q => (PG_0 rj.2.2.1 kk (by rw [k9]; omega)).1
      have k7 : ND 21 (3 * kk) = A 7 kk := by rw [(rj.2.1.2.2 kk).1, dyM_n _ (by decide) (by decide), ea 7 (by decide) (by decide)]
      have k8 : ∀ q : Int, ND 20 (3 * q) = A 4 q := fun q => by rw [(rj.2.1.2.1 q).1, dyM_n _ (by decide) (by decide), ea 4 (by decide) (by decide)]
      have eu1 := eu.1
      have eu2 := eu.2
      have w_gk := w_glo kk
      have w_nk : 0 ≤ kk ∧ kk < 4 → A 34 kk = -9 ∨ (0 ≤ A 34 kk ∧ A 34 kk < A 3 6 ∧ kk < A 3 7) := fun q => (w_now.1 kk q).2.1
      have w_kk : 0 ≤ kk ∧ kk < A 3 7 → KOK (dyM (aAdd A) jj 33 kk) (A 7 kk) := fun q => by rw [eu1]; exact (w_now.1 kk (by omega)).2.2 q.2
      have w_pk := w_per (A 34 kk)
      refine lv_iload_n hx hb dX7_day_13 rfl (lv_at hl 0 rfl) ?_
      refine lv_aload_n hx hb dX7_day_14 rfl (lv_at hl 2 rfl) ?_
      refine r_get C hI 18 (by decide) rfl rfl hin7 5 (by decide) (fn := "gloves") (fd := "I") (index := 61) (by decide +kernel) ⟨rfl, rfl, rfl⟩ (v := .int (iI (ND 18 5))) rfl dX7_day_15 ?_
      refine r_icmp_ge hx hb (tgt := 51) (by omega) (by omega) dX7_day_18 (by decide) (fun c_1 => ?_) (fun c_1 => ?_)
      · refine lv_aload_n hx hb dX7_day_51 rfl (lv_at hl 2 rfl) ?_
        refine r_get C hI 18 (by decide) rfl rfl hin7 12 (by decide) (fn := "page") (fd := "[I") (index := 25) (by decide +kernel) ⟨rfl, rfl, rfl⟩ (v := .ref (gA g 24)) rfl dX7_day_52 ?_
        refine lv_bipush (v := iI 20) hx hb dX7_day_55 (by decide +kernel) ?_
        refine lv_dup2_11 hx hb dX7_day_57 rfl rfl ?_
        refine r_ald C hI 24 (by decide) rfl (by omega) (by decide) dX7_day_58 ?_
        refine lv_iconst (v := iI 1) hx hb dX7_day_59 rfl ?_
        refine r_iadd hx hb dX7_day_60 ?_
        refine r_ast C hI 24 (by decide) (fun _ => rfl) (by omega) (by decide) dX7_day_61 (fun H locs hI => ?_)
        refine lv_iload_n hx hb dX7_day_62 rfl (lv_at hl 1 rfl) ?_
        refine r_iret C hr hlk hI ?_ dX7_day_63
        exact ⟨_, rfl, (show (fun z u => z = zDay A  ∧ QC M u ∧ RM (gDay A ) u) cc (mset ND 24 20 ((ND 24 20) + 1)) from by exact ⟨(by unfold zDay; rw [cj, show (A 3 7).toNat = jj from by omega]), (by unfold gDay; rw [show (A 3 7).toNat = jj from by omega]; have rd := RM_day rj (by rw [k9]; exact w_cnt.2.2); exact ⟨QC.trans qj rd.1, rd.2⟩)⟩)⟩
      · refine lv_aload_n hx hb dX7_day_21 rfl (lv_at hl 2 rfl) ?_
        refine lv_aload_n hx hb dX7_day_22 rfl (lv_at hl 2 rfl) ?_
        refine r_get C hI 18 (by decide) rfl rfl hin7 12 (by decide) (fn := "page") (fd := "[I") (index := 25) (by decide +kernel) ⟨rfl, rfl, rfl⟩ (v := .ref (gA g 24)) rfl dX7_day_23 ?_
        refine lv_iload_n hx hb dX7_day_26 rfl (lv_at hl 0 rfl) ?_
        refine r_iv C hI (As := [.ref (gA g 24), .int (iI kk)]) (rest := []) (c_X7_isWorn_24 l g ND kk (by omega) (show -2147483648 ≤ (ND 24 (5 * kk + 4)) ∧ (ND 24 (5 * kk + 4)) < 2147483648 from by rw [k5 (by omega)]; omega)) (cwV 2 hts gX7_day_X7_isWorn rfl rfl rfl (by decide +kernel) ⟨Nat.le_of_ble_eq_true rfl, Nat.le_of_ble_eq_true rfl⟩) (by decide) rfl rfl rfl hl.1 rfl (Nat.le_of_ble_eq_true rfl) dX7_day_27 ⟨Nat.zero_le _, Nat.zero_le _⟩ (k_I (fun H locs hI => ?_))
        refine r_b_eq hx hb (tgt := 45) dX7_day_30 (by decide) (fun c_2 => ?_) (fun c_2 => ?_)
        · refine lv_iinc (v := iI (kk + 1)) (lv' := [(2, .int (iI (kk + 1))), (1, .int (iI cc)), (0, .ref (gA g 18))]) hx hb dX7_day_45 hl (k := 0) rfl (iI_add _ _) (by decide) rfl (fun ls hl => ?_)
          refine lv_goto (tgt := 13) hx hb dX7_day_48 (by decide) ?_
          exact ih13 (kk + 1) cc ND (jj + 1) (by omega) (by first | (rw [dyM_on _ _ (by rw [← h1.1, ← k5 (by omega)]; omega)]; exact rj) | (rw [dyM_off _ _ (by rw [← h1.1, ← k5 (by omega)]; assumption), ← h1.1]; exact n_go.2)) (by first | exact qj | exact QC.trans qj n_go.1) (by (rw [cj]; simp only [dyC, ← h1.1]; rw [← k5 (by omega)]; first | (rw [if_pos (by omega)]; done) | (rw [if_neg (by assumption)]; done))) (by omega) _ _ hI ls (lv_sub hl [0, 1, 2] rfl)
        · refine lv_aload_n hx hb dX7_day_33 rfl (lv_at hl 2 rfl) ?_
          refine lv_aload_n hx hb dX7_day_34 rfl (lv_at hl 2 rfl) ?_
          refine r_get C hI 18 (by decide) rfl rfl hin7 12 (by decide) (fn := "page") (fd := "[I") (index := 25) (by decide +kernel) ⟨rfl, rfl, rfl⟩ (v := .ref (gA g 24)) rfl dX7_day_35 ?_
          refine lv_iload_n hx hb dX7_day_38 rfl (lv_at hl 0 rfl) ?_
          refine r_iv C hI (As := [.ref (gA g 24), .int (iI kk)]) (rest := []) (c_X7_goOff l g ND kk (dyM (aAdd A) jj 33 kk) (by omega) (show KOK (dyM (aAdd A) jj 33 kk) (ND 21 (3 * kk)) from by rw [k7]; exact w_kk (by omega)) (show 1 ≤ (ND 21 (3 * kk)) ∧ (ND 21 (3 * kk)) ≤ 3 from by rw [k7]; omega) (show 0 ≤ (ND 24 (5 * kk + 4)) ∧ (ND 24 (5 * kk + 4)) < 5 from by rw [k5 (by omega)]; omega) (show 1 ≤ (ND 20 (3 * (ND 24 (5 * kk + 4)))) ∧ (ND 20 (3 * (ND 24 (5 * kk + 4)))) ≤ 7 from by rw [k5 (by omega), k8, eu2]; omega) (k6 (by omega))) (cwV 2 hts gX7_day_X7_goOff rfl rfl rfl (by decide +kernel) ⟨Nat.le_of_ble_eq_true rfl, Nat.le_of_ble_eq_true rfl⟩) (by decide) rfl rfl rfl hl.1 rfl (Nat.le_of_ble_eq_true rfl) dX7_day_39 ⟨Nat.zero_le _, Nat.zero_le _⟩ (k_X (fun M_2 H locs q_2 hI => ?_))
          have n_go := @RM_off (dyM (aAdd A) jj) ND M_2 kk rj (by rw [k9]; exact w_cnt.2) (by rw [k9]; omega) q_2
          refine lv_iinc (v := iI (cc + 1)) (lv' := [(1, .int (iI (cc + 1))), (2, .int (iI kk)), (0, .ref (gA g 18))]) hx hb dX7_day_42 hl (k := 1) rfl (iI_add _ _) (by decide) rfl (fun ls hl => ?_)
          refine lv_iinc (v := iI (kk + 1)) (lv' := [(2, .int (iI (kk + 1))), (1, .int (iI (cc + 1))), (0, .ref (gA g 18))]) hx hb dX7_day_45 hl (k := 1) rfl (iI_add _ _) (by decide) rfl (fun ls hl => ?_)
          refine lv_goto (tgt := 13) hx hb dX7_day_48 (by decide) ?_
          exact ih13 (kk + 1) (cc + 1) M_2 (jj + 1) (by omega) (by first | (rw [dyM_on _ _ (by rw [← h1.1, ← k5 (by omega)]; omega)]; exact rj) | (rw [dyM_off _ _ (by rw [← h1.1, ← k5 (by omega)]; assumption), ← h1.1]; exact n_go.2)) (by first | exact qj | exact QC.trans qj n_go.1) (by (rw [cj]; simp only [dyC, ← h1.1]; rw [← k5 (by omega)]; first | (rw [if_pos (by omega)]; done) | (rw [if_neg (by assumption)]; done))) (by omega) _ _ hI ls (lv_sub hl [0, 1, 2] rfl)
  exact lp13 _ 0 0 M_1 0 (by omega) (by exact rn.1) (by exact rq) (by rfl) (Nat.lt_succ_self _) _ _ hI ls (lv_sub hl [0, 1, 2] rfl)
