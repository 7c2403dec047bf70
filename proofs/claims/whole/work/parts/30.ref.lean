
/-! THE REFERENCE: words of its rows -/
/-- a page holds k's figures from place b on -/
def KG (k : Int) (r : Int → Int) (b : Int) : Prop := r b = figs k ∧ (1 ≤ k → r (b + 1) = fstO k) ∧ (10 ≤ k → r (b + 2) = (if k < 100 then k % 10 else k / 10 % 10)) ∧ (100 ≤ k → r (b + 3) = k % 10)
theorem figs_b (k : Int) : 0 ≤ figs k ∧ figs k ≤ 3 := by unfold figs; (repeat' split) <;> omega
theorem KG_b {k b : Int} {r : Int → Int} (h : KG k r b) : 0 ≤ r b ∧ r b ≤ 3 := by rw [h.1]; exact figs_b k
theorem KG_0 {k b : Int} {r : Int → Int} (h : KG k r b) (hk : 0 ≤ k ∧ k < 1000) : (r b = 0 → k = 0) ∧ (¬ r b = 0 → 1 ≤ k) := by
  rw [h.1]; unfold figs; (repeat' split) <;> omega
theorem KG_1 {k b : Int} {r : Int → Int} (h : KG k r b) (hk : 0 ≤ k ∧ k < 1000) (h0 : ¬ r b = 0) : r (b + r b) = k % 10 := by
  obtain ⟨h1, h2, h3, h4⟩ := h
  rw [h1] at h0 ⊢
  unfold figs at h0 ⊢
  unfold fstO at h2
  by_cases e0 : k ≤ 0
  · rw [if_pos e0] at h0; exact absurd rfl h0
  · rw [if_neg e0]
    by_cases e1 : k < 10
    · rw [if_pos e1, h2 (by omega), if_neg (by omega), if_neg (by omega)]; omega
    · rw [if_neg e1]
      by_cases e2 : k < 100
      · rw [if_pos e2, h3 (by omega), if_pos e2]
      · rw [if_neg e2, h4 (by omega)]
theorem KG_f {k b : Int} {r : Int → Int} (h : KG k r b) (hk : 0 ≤ k ∧ k < 1000) : (if r b = 0 then 0 else r (b + 1)) = fstO k := by
  have h0 := KG_0 h hk
  split
  · rw [h0.1 (by assumption)]; rfl
  · exact h.2.1 (h0.2 (by assumption))
/-- a page's place b, a row of four places and their wearer, behind one more doing -/
def KD (C : Nat) (b k d rm : Int) (M u : Mem) : Prop := (∀ c, c ≠ C → u c = M c) ∧ KG (behO k d rm) (u C) b ∧ (∀ j : Int, ¬ (b ≤ j ∧ j < b + 4) → u C j = M C j)
def shM (M : Mem) (C : Nat) (b k : Int) : Mem := fun c => if c = C then (fun j => if b + 1 ≤ j ∧ j < b + k then M C (j + 1) else M C j) else M c
theorem shM_0 (M : Mem) (C : Nat) (b : Int) : M = shM M C b 1 := by
  funext c j
  unfold shM
  by_cases hc : c = C
  · subst hc
    rw [if_pos rfl, if_neg (by omega)]
  · rw [if_neg hc]
theorem shM_b (M : Mem) (C : Nat) (b k : Int) : shM M C b k C b = M C b := by
  unfold shM
  rw [if_pos rfl, if_neg (by omega)]
theorem shM_s (M : Mem) (C : Nat) (b k : Int) (h : 1 ≤ k) : mset (shM M C b k) C (b + k) (shM M C b k C (b + k + 1)) = shM M C b (k + 1) := by
  funext c j
  by_cases hc : c = C
  · subst hc
    rw [mset_s]
    unfold rw1 shM
    simp only [if_true]
    by_cases hj : j = b + k
    · subst hj
      rw [if_pos rfl, if_neg (by omega), if_pos (by omega)]
    · rw [if_neg hj]
      by_cases h1 : b + 1 ≤ j ∧ j < b + k
      · rw [if_pos h1, if_pos (by omega)]
      · rw [if_neg h1, if_neg (by omega)]
  · rw [mset_n _ _ _ hc]
    simp only [shM, if_neg hc]
theorem kd_full {M N : Mem} {C : Nat} {b k d rm kk : Int} (hN : N = shM M C b kk) (hkk : kk = M C b) (hk : KOK k rm) (hr : 1 ≤ rm ∧ rm ≤ 3) (hd : 1 ≤ d ∧ d ≤ 7) (hg : KG k (M C) b) (hf : M C b = rm) : KD C b k d rm M (mset (mset (mset N C b (N C b - 1)) C b (N C b - 1 + 1)) C (b + (N C b - 1 + 1)) d) := by
  have e : N C b = rm := by rw [hN, shM_b, hf]
  rw [e, show rm - 1 + 1 = rm by omega]
  have hkk2 : kk = rm := by omega
  subst hkk2
  have U : ∀ j : Int, mset (mset (mset N C b (kk - 1)) C b kk) C (b + kk) d C j = if j = b + kk then d else if j = b then kk else if b + 1 ≤ j ∧ j < b + kk then M C (j + 1) else M C j := by
    intro j
    rw [mset_s]; unfold rw1
    split
    · rfl
    · rw [mset_s]; unfold rw1
      split
      · rfl
      · rw [mset_s]; unfold rw1
        rw [if_neg (by assumption), hN]
        unfold shM
        rw [if_pos rfl]
  obtain ⟨u, hu⟩ : ∃ u, u = mset (mset (mset N C b (kk - 1)) C b kk) C (b + kk) d := ⟨_, rfl⟩
  rw [← hu] at U ⊢
  refine ⟨fun c hc => ?_, ?_, fun j hj => ?_⟩
  · rw [hu, mset_n _ _ _ hc, mset_n _ _ _ hc, mset_n _ _ _ hc, hN]
    simp only [shM, if_neg hc]
  · have u0 := U b
    have u1 := U (b + 1)
    have u2 := U (b + 2)
    have u3 := U (b + 3)
    obtain ⟨g1, g2, g3, g4⟩ := hg
    rw [if_neg (by omega), if_pos rfl] at u0
    rw [show b + 1 + 1 = b + 2 by omega] at u1
    rw [show b + 2 + 1 = b + 3 by omega] at u2
    rw [hf] at g1
    unfold figs at g1
    unfold KOK at hk
    obtain rfl | rfl | rfl : kk = 1 ∨ kk = 2 ∨ kk = 3 := by omega
    · rw [if_pos rfl] at u1
      have e1 : behO k d 1 = d := by unfold behO; rw [if_pos (by decide)]
      rw [e1]
      refine ⟨?_, fun _ => ?_, fun h => by omega, fun h => by omega⟩
      · rw [u0]; unfold figs; (repeat' split) <;> omega
      · rw [u1]; unfold fstO; (repeat' split) <;> omega
    · have k2 : 10 ≤ k ∧ k < 100 := by (repeat' split at g1) <;> omega
      rw [if_neg (by omega), if_neg (by omega), if_pos (by omega), g3 (by omega), if_pos k2.2] at u1
      rw [if_pos rfl] at u2
      have e1 : behO k d 2 = k % 10 * 10 + d := by unfold behO; rw [if_neg (by decide), if_pos rfl]
      rw [e1]
      refine ⟨?_, fun _ => ?_, fun _ => ?_, fun h => by omega⟩
      · rw [u0]; unfold figs; (repeat' split) <;> omega
      · rw [u1]; unfold fstO; (repeat' split) <;> omega
      · rw [u2]; (repeat' split) <;> omega
    · have k2 : 100 ≤ k ∧ k < 1000 := by (repeat' split at g1) <;> omega
      rw [if_neg (by omega), if_neg (by omega), if_pos (by omega), g3 (by omega), if_neg (by omega)] at u1
      rw [if_neg (by omega), if_neg (by omega), if_pos (by omega), g4 (by omega)] at u2
      rw [if_pos rfl] at u3
      have e1 : behO k d 3 = k % 100 * 10 + d := by unfold behO; rw [if_neg (by decide), if_neg (by decide)]
      rw [e1]
      refine ⟨?_, fun _ => ?_, fun _ => ?_, fun _ => ?_⟩
      · rw [u0]; unfold figs; (repeat' split) <;> omega
      · rw [u1]; unfold fstO; (repeat' split) <;> omega
      · rw [u2]; (repeat' split) <;> omega
      · rw [u3]; omega
  · rw [U, if_neg (by omega), if_neg (by omega), if_neg (by omega)]
theorem kd_more {M : Mem} {C : Nat} {b k d rm : Int} (hk : KOK k rm) (hr : 1 ≤ rm ∧ rm ≤ 3) (hd : 1 ≤ d ∧ d ≤ 7) (hg : KG k (M C) b) (hf : ¬ M C b = rm) : KD C b k d rm M (mset (mset M C b (M C b + 1)) C (b + (M C b + 1)) d) := by
  have hb := KG_b hg
  have hb2 : M C b ≤ 2 := by
    have h1 := hg.1
    unfold KOK at hk
    unfold figs at h1
    (repeat' split at h1) <;> omega
  have U : ∀ j : Int, mset (mset M C b (M C b + 1)) C (b + (M C b + 1)) d C j = if j = b + (M C b + 1) then d else if j = b then M C b + 1 else M C j := by
    intro j
    rw [mset_s]; unfold rw1
    split
    · rfl
    · rw [mset_s]; rfl
  obtain ⟨u, hu⟩ : ∃ u, u = mset (mset M C b (M C b + 1)) C (b + (M C b + 1)) d := ⟨_, rfl⟩
  rw [← hu] at U ⊢
  refine ⟨fun c hc => ?_, ?_, fun j hj => ?_⟩
  · rw [hu, mset_n _ _ _ hc, mset_n _ _ _ hc]
  · have u0 := U b
    have u1 := U (b + 1)
    have u2 := U (b + 2)
    have u3 := U (b + 3)
    obtain ⟨g1, g2, g3, g4⟩ := hg
    rw [if_neg (by omega), if_pos rfl] at u0
    rw [g1] at u0 u1 u2 u3 hf
    unfold KOK at hk
    unfold fstO at g2
    have hk3 : k = 0 ∨ (1 ≤ k ∧ k ≤ 7) ∨ (10 ≤ k ∧ k < 100) := by
      unfold figs at hf
      (repeat' split at hf) <;> omega
    rcases hk3 with k1 | k1 | k1
    · have f1 : figs k = 0 := by rw [k1]; rfl
      rw [f1] at u0 u1 u2 u3 hf
      rw [if_pos (by omega)] at u1
      have e1 : behO k d rm = d := by rw [k1]; unfold behO; (repeat' split) <;> omega
      rw [e1]
      refine ⟨?_, fun _ => ?_, fun h => by omega, fun h => by omega⟩
      · rw [u0]; unfold figs; (repeat' split) <;> omega
      · rw [u1]; unfold fstO; (repeat' split) <;> omega
    · have f1 : figs k = 1 := by unfold figs; (repeat' split) <;> omega
      rw [f1] at u0 u1 u2 u3 hf
      rw [if_neg (by omega), if_neg (by omega), g2 (by omega), if_neg (by omega), if_neg (by omega)] at u1
      rw [if_pos (by omega)] at u2
      have e1 : behO k d rm = k * 10 + d := by unfold behO; (repeat' split) <;> omega
      rw [e1]
      refine ⟨?_, fun _ => ?_, fun _ => ?_, fun h => by omega⟩
      · rw [u0]; unfold figs; (repeat' split) <;> omega
      · rw [u1]; unfold fstO; (repeat' split) <;> omega
      · rw [u2]; (repeat' split) <;> omega
    · have f1 : figs k = 2 := by unfold figs; (repeat' split) <;> omega
      rw [f1] at u0 u1 u2 u3 hf
      rw [if_neg (by omega), if_neg (by omega), g2 (by omega), if_neg (by omega), if_pos (by omega)] at u1
      rw [if_neg (by omega), if_neg (by omega), g3 (by omega), if_pos k1.2] at u2
      rw [if_pos (by omega)] at u3
      have e1 : behO k d rm = k * 10 + d := by unfold behO; (repeat' split) <;> omega
      rw [e1]
      refine ⟨?_, fun _ => ?_, fun _ => ?_, fun _ => ?_⟩
      · rw [u0]; unfold figs; (repeat' split) <;> omega
      · rw [u1]; unfold fstO; (repeat' split) <;> omega
      · rw [u2]; (repeat' split) <;> omega
      · rw [u3]; omega
  · rw [U, if_neg (by omega), if_neg (by omega)]
/-- the last one of n gloves that w wears -/
def weN (r : Int → Int) (w : Int) : Nat → Int
  | 0 => -9
  | n + 1 => if r (5 * (n : Int) + 4) = w then (n : Int) else weN r w n
theorem weN_b (r : Int → Int) (w : Int) : ∀ n : Nat, weN r w n = -9 ∨ (0 ≤ weN r w n ∧ weN r w n < n)
  | 0 => Or.inl rfl
  | n + 1 => by
    have := weN_b r w n
    unfold weN
    split <;> omega
/-- n places of cell i from s on stand in cell j from d on -/
def cpA (M : Mem) (i : Nat) (si : Int) (j : Nat) (dj n : Int) : Mem := fun c => if c = j then (fun q => if dj ≤ q ∧ q < dj + n then M i (si + (q - dj)) else M j q) else M c
theorem cpA_0 (M : Mem) (i : Nat) (si : Int) (j : Nat) (dj : Int) : M = cpA M i si j dj 0 := by
  funext c q
  unfold cpA
  by_cases hc : c = j
  · subst hc
    rw [if_pos rfl, if_neg (by omega)]
  · rw [if_neg hc]
theorem cpA_n {M : Mem} {i : Nat} {si : Int} {j : Nat} {dj n : Int} {c : Nat} (h : c ≠ j) : cpA M i si j dj n c = M c := by
  unfold cpA; rw [if_neg h]
theorem cpA_s {M : Mem} {i : Nat} {si : Int} {j : Nat} {dj n : Int} (hn : 0 ≤ n) (h : i ≠ j ∨ dj ≤ si) : mset (cpA M i si j dj n) j (dj + n) (cpA M i si j dj n i (si + n)) = cpA M i si j dj (n + 1) := by
  have e : cpA M i si j dj n i (si + n) = M i (si + n) := by
    unfold cpA
    by_cases hc : i = j
    · subst hc
      rw [if_pos rfl, if_neg (by omega)]
    · rw [if_neg hc]
  rw [e]
  funext c q
  by_cases hc : c = j
  · subst hc
    rw [mset_s]
    unfold rw1 cpA
    simp only [if_true]
    by_cases hj : q = dj + n
    · subst hj
      rw [if_pos rfl, if_pos (by omega), show si + (dj + n - dj) = si + n by omega]
    · rw [if_neg hj]
      by_cases h1 : dj ≤ q ∧ q < dj + n
      · rw [if_pos h1, if_pos (by omega)]
      · rw [if_neg h1, if_neg (by omega)]
  · rw [mset_n _ _ _ hc]
    simp only [cpA, if_neg hc]
theorem cpA_at {M : Mem} {i : Nat} {si : Int} {j : Nat} {dj n q : Int} (h : dj ≤ q ∧ q < dj + n) : cpA M i si j dj n j q = M i (si + (q - dj)) := by
  unfold cpA; rw [if_pos rfl, if_pos h]
theorem cpA_off {M : Mem} {i : Nat} {si : Int} {j : Nat} {dj n q : Int} (h : ¬ (dj ≤ q ∧ q < dj + n)) : cpA M i si j dj n j q = M j q := by
  unfold cpA; rw [if_pos rfl, if_neg h]
def noM (M : Mem) : Mem := if M 18 15 = 14 then mset (cpA (mset (cpA M 26 21 26 0 273) 18 15 (M 18 15 - 1)) 24 0 26 (21 * (M 18 15 - 1)) 21) 18 15 (M 18 15 - 1 + 1) else mset (cpA M 24 0 26 (21 * M 18 15) 21) 18 15 (M 18 15 + 1)
set_option maxHeartbeats 4000000 in
set_option maxRecDepth 100000 in
theorem c_X7_in (l : Launch) (g : GT) (M : Mem) (v : Int) (a : Int) (b : Int) (hv : -2147483648 ≤ v ∧ v < 2147483648) (ha : -2147483648 ≤ a ∧ a < 2147483648) (hb2 : -2147483648 ≤ b ∧ b < 2147483648) : Ctr l g yX7_in wsX7_in ({ frames := 0, cells := 0, slots := 0, locals := 0 } : Room) [.long (iL v), .long (iL a), .long (iL b)] M (pI (bI (a ≤ v ∧ v ≤ b)) M) := by
  refine Ctr.mk (cc := cX7_in) (maxL := 6) (ret := some .boolean) (lv := [(0, .long (iL v)), (2, .long (iL a)), (4, .long (iL b))]) (by decide) rfl (Nat.le_of_ble_eq_true rfl) rfl ?_
  intro p e s m below meth c C hr hlk hI ls hl
  have C : CallFix p m c cX7_in 6 s ([.long (iL v), .long (iL a), .long (iL b)] : List Value).toArray wsX7_in RX7 := C
  have hx := C.1
  have hb := C.2.1
  have hts := C.2.2.2.2
  refine lv_lload_n hx hb dX7_in_0 rfl (lv_at hl 0 rfl) ?_
  refine lv_lload_n hx hb dX7_in_1 rfl (lv_at hl 1 rfl) ?_
  refine r_lc_lt hx hb (tgt := 17) (by omega) (by omega) dX7_in_2 dX7_in_3 (by decide) (fun c_1 => ?_) (fun c_1 => ?_)
  · refine lv_iconst (v := iI 0) hx hb dX7_in_17 rfl ?_
    refine r_zret C hr hlk hI (by decide +kernel) ?_ dX7_in_18
    exact ⟨congrArg (fun q => some (Value.int (iI q))) (bI_f (by first | assumption | omega)).symm, rfl⟩
  · refine lv_lload_n hx hb dX7_in_6 rfl (lv_at hl 0 rfl) ?_
    refine lv_lload hx hb dX7_in_7 (lv_at hl 2 rfl) ?_
    refine r_lc_gt hx hb (tgt := 17) (by omega) (by omega) dX7_in_9 dX7_in_10 (by decide) (fun c_2 => ?_) (fun c_2 => ?_)
    · refine lv_iconst (v := iI 0) hx hb dX7_in_17 rfl ?_
      refine r_zret C hr hlk hI (by decide +kernel) ?_ dX7_in_18
      exact ⟨congrArg (fun q => some (Value.int (iI q))) (bI_f (by first | assumption | omega)).symm, rfl⟩
    · refine lv_iconst (v := iI 1) hx hb dX7_in_13 rfl ?_
      refine lv_goto (tgt := 18) hx hb dX7_in_14 (by decide) ?_
      refine r_zret C hr hlk hI (by decide +kernel) ?_ dX7_in_18
      exact ⟨congrArg (fun q => some (Value.int (iI q))) (bI_t (by first | assumption | omega)).symm, rfl⟩
set_option maxHeartbeats 4000000 in
set_option maxRecDepth 100000 in
theorem c_X7_noPerson (l : Launch) (g : GT) (M : Mem) (x : Int) (hx : -2147483648 ≤ x ∧ x < 2147483648) (hP : 0 ≤ M 18 4 ∧ M 18 4 ≤ 5) : Ctr l g yX7_noPerson wsX7_noPerson ({ frames := 1, cells := 0, slots := 0, locals := 25 } : Room) [.ref (gA g 18), .int (iI x)] M (pI (bI (¬ (0 ≤ x ∧ x ≤ M 18 4 - 1))) M) := by
  refine Ctr.mk (cc := cX7_noPerson) (maxL := 2) (ret := some .boolean) (lv := [(0, .ref (gA g 18)), (1, .int (iI x))]) (by decide) rfl (Nat.le_of_ble_eq_true rfl) rfl ?_
  intro p e s m below meth c C hr hlk hI ls hl
  have C : CallFix p m c cX7_noPerson 2 s ([.ref (gA g 18), .int (iI x)] : List Value).toArray wsX7_noPerson RX7 := C
  have hx := C.1
  have hb := C.2.1
  have hts := C.2.2.2.2
  have hin7 : ∀ w ∈ u_ws RX7 TX7 31, w ∈ wsX7_noPerson := by decide +kernel
  refine lv_iload_n hx hb dX7_noPerson_0 rfl (lv_at hl 1 rfl) ?_
  refine r_i2l hx hb (by omega) dX7_noPerson_1 ?_
  refine lv_lconst (v := iL 0) hx hb dX7_noPerson_2 (by decide +kernel) ?_
  refine lv_aload_n hx hb dX7_noPerson_3 rfl (lv_at hl 0 rfl) ?_
  refine r_get C hI 18 (by decide) rfl rfl hin7 4 (by decide) (fn := "people") (fd := "I") (index := 54) (by decide +kernel) ⟨rfl, rfl, rfl⟩ (v := .int (iI (M 18 4))) rfl dX7_noPerson_4 ?_
  refine lv_iconst (v := iI 1) hx hb dX7_noPerson_7 rfl ?_
  refine r_isub hx hb dX7_noPerson_8 ?_
  refine r_i2l hx hb (by omega) dX7_noPerson_9 ?_
  refine r_is C hI (As := [.long (iL x), .long (iL 0), .long (iL ((M 18 4) - 1))]) (rest := []) (c_X7_in l g M x 0 ((M 18 4) - 1) (by omega) (by omega) (by omega)) (va_cwS 3 hts gX7_noPerson_X7_in rfl rfl rfl (by decide +kernel) ⟨Nat.le_of_ble_eq_true rfl, Nat.le_of_ble_eq_true rfl⟩) rfl hl.1 rfl (Nat.le_of_ble_eq_true rfl) dX7_noPerson_10 ⟨Nat.zero_le _, Nat.zero_le _⟩ (k_I (fun H locs hI => ?_))
  refine r_b_ne hx hb (tgt := 20) dX7_noPerson_13 (by decide) (fun c_1 => ?_) (fun c_1 => ?_)
  · refine lv_iconst (v := iI 0) hx hb dX7_noPerson_20 rfl ?_
    refine r_zret C hr hlk hI (by decide +kernel) ?_ dX7_noPerson_21
    exact ⟨congrArg (fun q => some (Value.int (iI q))) (bI_f (by first | assumption | omega)).symm, rfl⟩
  · refine lv_iconst (v := iI 1) hx hb dX7_noPerson_16 rfl ?_
    refine lv_goto (tgt := 21) hx hb dX7_noPerson_17 (by decide) ?_
    refine r_zret C hr hlk hI (by decide +kernel) ?_ dX7_noPerson_21
    exact ⟨congrArg (fun q => some (Value.int (iI q))) (bI_t (by first | assumption | omega)).symm, rfl⟩
set_option maxHeartbeats 4000000 in
set_option maxRecDepth 100000 in
theorem c_X7_noGlove (l : Launch) (g : GT) (M : Mem) (x : Int) (hx : -2147483648 ≤ x ∧ x < 2147483648) (hP : 0 ≤ M 18 5 ∧ M 18 5 ≤ 4) : Ctr l g yX7_noGlove wsX7_noGlove ({ frames := 1, cells := 0, slots := 0, locals := 25 } : Room) [.ref (gA g 18), .int (iI x)] M (pI (bI (¬ (0 ≤ x ∧ x ≤ M 18 5 - 1))) M) := by
  refine Ctr.mk (cc := cX7_noGlove) (maxL := 2) (ret := some .boolean) (lv := [(0, .ref (gA g 18)), (1, .int (iI x))]) (by decide) rfl (Nat.le_of_ble_eq_true rfl) rfl ?_
  intro p e s m below meth c C hr hlk hI ls hl
  have C : CallFix p m c cX7_noGlove 2 s ([.ref (gA g 18), .int (iI x)] : List Value).toArray wsX7_noGlove RX7 := C
  have hx := C.1
  have hb := C.2.1
  have hts := C.2.2.2.2
  have hin7 : ∀ w ∈ u_ws RX7 TX7 31, w ∈ wsX7_noGlove := by decide +kernel
  refine lv_iload_n hx hb dX7_noGlove_0 rfl (lv_at hl 1 rfl) ?_
  refine r_i2l hx hb (by omega) dX7_noGlove_1 ?_
  refine lv_lconst (v := iL 0) hx hb dX7_noGlove_2 (by decide +kernel) ?_
  refine lv_aload_n hx hb dX7_noGlove_3 rfl (lv_at hl 0 rfl) ?_
  refine r_get C hI 18 (by decide) rfl rfl hin7 5 (by decide) (fn := "gloves") (fd := "I") (index := 61) (by decide +kernel) ⟨rfl, rfl, rfl⟩ (v := .int (iI (M 18 5))) rfl dX7_noGlove_4 ?_
  refine lv_iconst (v := iI 1) hx hb dX7_noGlove_7 rfl ?_
  refine r_isub hx hb dX7_noGlove_8 ?_
  refine r_i2l hx hb (by omega) dX7_noGlove_9 ?_
  refine r_is C hI (As := [.long (iL x), .long (iL 0), .long (iL ((M 18 5) - 1))]) (rest := []) (c_X7_in l g M x 0 ((M 18 5) - 1) (by omega) (by omega) (by omega)) (va_cwS 3 hts gX7_noGlove_X7_in rfl rfl rfl (by decide +kernel) ⟨Nat.le_of_ble_eq_true rfl, Nat.le_of_ble_eq_true rfl⟩) rfl hl.1 rfl (Nat.le_of_ble_eq_true rfl) dX7_noGlove_10 ⟨Nat.zero_le _, Nat.zero_le _⟩ (k_I (fun H locs hI => ?_))
  refine r_b_ne hx hb (tgt := 20) dX7_noGlove_13 (by decide) (fun c_1 => ?_) (fun c_1 => ?_)
  · refine lv_iconst (v := iI 0) hx hb dX7_noGlove_20 rfl ?_
    refine r_zret C hr hlk hI (by decide +kernel) ?_ dX7_noGlove_21
    exact ⟨congrArg (fun q => some (Value.int (iI q))) (bI_f (by first | assumption | omega)).symm, rfl⟩
  · refine lv_iconst (v := iI 1) hx hb dX7_noGlove_16 rfl ?_
    refine lv_goto (tgt := 21) hx hb dX7_noGlove_17 (by decide) ?_
    refine r_zret C hr hlk hI (by decide +kernel) ?_ dX7_noGlove_21
    exact ⟨congrArg (fun q => some (Value.int (iI q))) (bI_t (by first | assumption | omega)).symm, rfl⟩
set_option maxHeartbeats 4000000 in
set_option maxRecDepth 100000 in
theorem c_X7_isWorn_24 (l : Launch) (g : GT) (M : Mem) (x : Int) (hx : 0 ≤ x ∧ x < 4) (hw : -2147483648 ≤ M 24 (5 * x + 4) ∧ M 24 (5 * x + 4) < 2147483648) : Ctr l g yX7_isWorn wsX7_isWorn ({ frames := 0, cells := 0, slots := 0, locals := 0 } : Room) [.ref (gA g 18), .ref (gA g 24), .int (iI x)] M (pI (bI (¬ M 24 (5 * x + 4) = -9)) M) := by
  refine Ctr.mk (cc := cX7_isWorn) (maxL := 3) (ret := some .boolean) (lv := [(0, .ref (gA g 18)), (1, .ref (gA g 24)), (2, .int (iI x))]) (by decide) rfl (Nat.le_of_ble_eq_true rfl) rfl ?_
  intro p e s m below meth c C hr hlk hI ls hl
  have C : CallFix p m c cX7_isWorn 3 s ([.ref (gA g 18), .ref (gA g 24), .int (iI x)] : List Value).toArray wsX7_isWorn RX7 := C
  have hx := C.1
  have hb := C.2.1
  have hts := C.2.2.2.2
  refine lv_aload_n hx hb dX7_isWorn_0 rfl (lv_at hl 1 rfl) ?_
  refine lv_iconst (v := iI 5) hx hb dX7_isWorn_1 rfl ?_
  refine lv_iload_n hx hb dX7_isWorn_2 rfl (lv_at hl 2 rfl) ?_
  refine r_imul hx hb dX7_isWorn_3 ?_
  refine lv_iconst (v := iI 4) hx hb dX7_isWorn_4 rfl ?_
  refine r_iadd hx hb dX7_isWorn_5 ?_
  refine r_ald C hI 24 (by decide) rfl (by omega) (by decide) dX7_isWorn_6 ?_
  refine lv_bipush (v := iI (-9)) hx hb dX7_isWorn_7 (by decide +kernel) ?_
  refine r_icmp_eq hx hb (tgt := 16) (by omega) (by decide) dX7_isWorn_9 (by decide) (fun c_1 => ?_) (fun c_1 => ?_)
  · refine lv_iconst (v := iI 0) hx hb dX7_isWorn_16 rfl ?_
    refine r_zret C hr hlk hI (by decide +kernel) ?_ dX7_isWorn_17
    exact ⟨congrArg (fun q => some (Value.int (iI q))) (bI_f (by first | assumption | omega)).symm, rfl⟩
  · refine lv_iconst (v := iI 1) hx hb dX7_isWorn_12 rfl ?_
    refine lv_goto (tgt := 17) hx hb dX7_isWorn_13 (by decide) ?_
    refine r_zret C hr hlk hI (by decide +kernel) ?_ dX7_isWorn_17
    exact ⟨congrArg (fun q => some (Value.int (iI q))) (bI_t (by first | assumption | omega)).symm, rfl⟩
set_option maxHeartbeats 4000000 in
set_option maxRecDepth 100000 in
theorem c_X7_wears_24 (l : Launch) (g : GT) (M : Mem) (w : Int) (hw : -2147483648 ≤ w ∧ w < 2147483648) (hP : 0 ≤ M 18 5 ∧ M 18 5 ≤ 4) (hW : ∀ q : Int, 0 ≤ q ∧ q < M 18 5 → -2147483648 ≤ M 24 (5 * q + 4) ∧ M 24 (5 * q + 4) < 2147483648) : Ctr l g yX7_wears wsX7_wears ({ frames := 0, cells := 0, slots := 0, locals := 0 } : Room) [.ref (gA g 18), .ref (gA g 24), .int (iI w)] M (pI (weN (M 24) w (M 18 5).toNat) M) := by
  refine Ctr.mk (cc := cX7_wears) (maxL := 5) (ret := some .int) (lv := [(0, .ref (gA g 18)), (1, .ref (gA g 24)), (2, .int (iI w))]) (by decide) rfl (Nat.le_of_ble_eq_true rfl) rfl ?_
  intro p e s m below meth c C hr hlk hI ls hl
  have C : CallFix p m c cX7_wears 5 s ([.ref (gA g 18), .ref (gA g 24), .int (iI w)] : List Value).toArray wsX7_wears RX7 := C
  have hx := C.1
  have hb := C.2.1
  have hts := C.2.2.2.2
  have hin7 : ∀ w ∈ u_ws RX7 TX7 31, w ∈ wsX7_wears := by decide +kernel
  refine lv_bipush (v := iI (-9)) hx hb dX7_wears_0 (by decide +kernel) ?_
  refine lv_istore_n (lv' := [(3, .int (iI (-9))), (0, .ref (gA g 18)), (1, .ref (gA g 24)), (2, .int (iI w))]) hx hb dX7_wears_2 rfl hl (by decide) rfl (fun ls hl => ?_)
  refine lv_iconst (v := iI 0) hx hb dX7_wears_3 rfl ?_
  refine lv_istore (lv' := [(4, .int (iI 0)), (3, .int (iI (-9))), (0, .ref (gA g 18)), (1, .ref (gA g 24)), (2, .int (iI w))]) hx hb dX7_wears_4 hl (by decide) rfl (fun ls hl => ?_)
  have lp6 : ∀ (n6 : Nat) (y : Int) (fd : Int) (jj : Nat), (y = (jj : Int) ∧ (jj : Int) ≤ M 18 5) → (fd = weN (M 24) w jj) → (M 18 5).toNat - jj < n6 → ∀ (H : Heap) (locs : List Loc), HI g s H locs M → ∀ ls : Array Slot, lv_has ls 5 [(4, .int (iI y)), (3, .int (iI fd)), (0, .ref (gA g 18)), (1, .ref (gA g 24)), (2, .int (iI w))] → W p l e ({ frames := 0, cells := 0, slots := 0, locals := 0 } : Room) s m ([.ref (gA g 18), .ref (gA g 24), .int (iI w)] : List Value).toArray below meth c H locs 0 0 (MQ below (QV g (pI (weN (M 24) w (M 18 5).toNat) M)) ([.ref (gA g 18), .ref (gA g 24), .int (iI w)] : List Value).toArray s 0 0 (AA g)) (F0 m 6 ls []) := by
    intro n6
    induction n6 with
    | zero => intro y fd jj h1 h2 hn6; exact absurd hn6 (Nat.not_lt_zero _)
    | succ n6 ih6 =>
      intro y fd jj h1 h2 hn6 H locs hI ls hl
      have hWy := hW y
      refine lv_iload hx hb dX7_wears_6 (lv_at hl 0 rfl) ?_
      refine lv_aload_n hx hb dX7_wears_8 rfl (lv_at hl 2 rfl) ?_
      refine r_get C hI 18 (by decide) rfl rfl hin7 5 (by decide) (fn := "gloves") (fd := "I") (index := 61) (by decide +kernel) ⟨rfl, rfl, rfl⟩ (v := .int (iI (M 18 5))) rfl dX7_wears_9 ?_
      refine r_icmp_ge hx hb (tgt := 40) (by omega) (by omega) dX7_wears_12 (by decide) (fun c_1 => ?_) (fun c_1 => ?_)
      · refine lv_iload_n hx hb dX7_wears_40 rfl (lv_at hl 1 rfl) ?_
        refine r_iret C hr hlk hI ?_ dX7_wears_41
        exact ⟨congrArg (fun q => some (Value.int (iI q))) (show fd = weN (M 24) w (M 18 5).toNat from by (rw [show (M 18 5).toNat = jj from by omega]; exact h2)), rfl⟩
      · refine lv_aload_n hx hb dX7_wears_15 rfl (lv_at hl 3 rfl) ?_
        refine lv_iconst (v := iI 5) hx hb dX7_wears_16 rfl ?_
        refine lv_iload hx hb dX7_wears_17 (lv_at hl 0 rfl) ?_
        refine r_imul hx hb dX7_wears_19 ?_
        refine lv_iconst (v := iI 4) hx hb dX7_wears_20 rfl ?_
        refine r_iadd hx hb dX7_wears_21 ?_
        refine r_ald C hI 24 (by decide) rfl (by omega) (by decide) dX7_wears_22 ?_
        refine lv_iload_n hx hb dX7_wears_23 rfl (lv_at hl 4 rfl) ?_
        refine r_icmp_ne hx hb (tgt := 32) (by omega) (by omega) dX7_wears_24 (by decide) (fun c_2 => ?_) (fun c_2 => ?_)
        · refine lv_iload_n hx hb dX7_wears_32 rfl (lv_at hl 1 rfl) ?_
          refine lv_istore_n (lv' := [(3, .int (iI fd)), (4, .int (iI y)), (0, .ref (gA g 18)), (1, .ref (gA g 24)), (2, .int (iI w))]) hx hb dX7_wears_33 rfl hl (by decide) rfl (fun ls hl => ?_)
          refine lv_iinc (v := iI (y + 1)) (lv' := [(4, .int (iI (y + 1))), (3, .int (iI fd)), (0, .ref (gA g 18)), (1, .ref (gA g 24)), (2, .int (iI w))]) hx hb dX7_wears_34 hl (k := 1) rfl (iI_add _ _) (by decide) rfl (fun ls hl => ?_)
          refine lv_goto (tgt := 6) hx hb dX7_wears_37 (by decide) ?_
          exact ih6 (y + 1) fd (jj + 1) (by omega) (by (simp only [weN, ← h1.1]; first | rw [if_pos (by assumption)] | (rw [if_neg (by assumption)]; exact h2))) (by omega) _ _ hI ls (lv_sub hl [0, 1, 2, 3, 4] rfl)
        · refine lv_iload hx hb dX7_wears_27 (lv_at hl 0 rfl) ?_
          refine lv_goto (tgt := 33) hx hb dX7_wears_29 (by decide) ?_
          refine lv_istore_n (lv' := [(3, .int (iI y)), (4, .int (iI y)), (0, .ref (gA g 18)), (1, .ref (gA g 24)), (2, .int (iI w))]) hx hb dX7_wears_33 rfl hl (by decide) rfl (fun ls hl => ?_)
          refine lv_iinc (v := iI (y + 1)) (lv' := [(4, .int (iI (y + 1))), (3, .int (iI y)), (0, .ref (gA g 18)), (1, .ref (gA g 24)), (2, .int (iI w))]) hx hb dX7_wears_34 hl (k := 1) rfl (iI_add _ _) (by decide) rfl (fun ls hl => ?_)
          refine lv_goto (tgt := 6) hx hb dX7_wears_37 (by decide) ?_
          exact ih6 (y + 1) y (jj + 1) (by omega) (by (simp only [weN, ← h1.1]; first | rw [if_pos (by assumption)] | (rw [if_neg (by assumption)]; exact h2))) (by omega) _ _ hI ls (lv_sub hl [0, 1, 2, 3, 4] rfl)
  exact lp6 _ 0 (-9) 0 (by omega) (by rfl) (Nat.lt_succ_self _) _ _ hI ls (lv_sub hl [0, 1, 2, 3, 4] rfl)
set_option maxHeartbeats 4000000 in
set_option maxRecDepth 100000 in
theorem c_X7_lastOf_24 (l : Launch) (g : GT) (M : Mem) (x : Int) (k : Int) (hx : 0 ≤ x ∧ x < 4) (hk : 0 ≤ k ∧ k < 1000) (hg : KG k (M 24) (5 * x)) : Ctr l g yX7_lastOf wsX7_lastOf ({ frames := 0, cells := 0, slots := 0, locals := 0 } : Room) [.ref (gA g 24), .int (iI x)] M (pI (k % 10) M) := by
  refine Ctr.mk (cc := cX7_lastOf) (maxL := 3) (ret := some .int) (lv := [(0, .ref (gA g 24)), (1, .int (iI x))]) (by decide) rfl (Nat.le_of_ble_eq_true rfl) rfl ?_
  intro p e s m below meth c C hr hlk hI ls hl
  have C : CallFix p m c cX7_lastOf 3 s ([.ref (gA g 24), .int (iI x)] : List Value).toArray wsX7_lastOf RX7 := C
  have hx := C.1
  have hb := C.2.1
  have hts := C.2.2.2.2
  have g0 := KG_0 hg hk
  have g1 := KG_1 hg hk
  have gb := KG_b hg
  refine lv_aload_n hx hb dX7_lastOf_0 rfl (lv_at hl 0 rfl) ?_
  refine lv_iconst (v := iI 5) hx hb dX7_lastOf_1 rfl ?_
  refine lv_iload_n hx hb dX7_lastOf_2 rfl (lv_at hl 1 rfl) ?_
  refine r_imul hx hb dX7_lastOf_3 ?_
  refine r_ald C hI 24 (by decide) rfl (by omega) (by decide) dX7_lastOf_4 ?_
  refine lv_istore_n (lv' := [(2, .int (iI (M 24 (5 * x)))), (0, .ref (gA g 24)), (1, .int (iI x))]) hx hb dX7_lastOf_5 rfl hl (by decide) rfl (fun ls hl => ?_)
  refine lv_iload_n hx hb dX7_lastOf_6 rfl (lv_at hl 0 rfl) ?_
  refine r_if_ne hx hb (tgt := 14) (by omega) dX7_lastOf_7 (by decide) (fun c_1 => ?_) (fun c_1 => ?_)
  · refine lv_aload_n hx hb dX7_lastOf_14 rfl (lv_at hl 1 rfl) ?_
    refine lv_iconst (v := iI 5) hx hb dX7_lastOf_15 rfl ?_
    refine lv_iload_n hx hb dX7_lastOf_16 rfl (lv_at hl 2 rfl) ?_
    refine r_imul hx hb dX7_lastOf_17 ?_
    refine lv_iload_n hx hb dX7_lastOf_18 rfl (lv_at hl 0 rfl) ?_
    refine r_iadd hx hb dX7_lastOf_19 ?_
    refine r_ald C hI 24 (by decide) rfl (by omega) (by decide) dX7_lastOf_20 ?_
    refine r_iret C hr hlk hI ?_ dX7_lastOf_21
    exact ⟨congrArg (fun q => some (Value.int (iI q))) (show M 24 ((5 * x) + (M 24 (5 * x))) = k % 10 from by first | exact g1 (by assumption) | (have := g0.1 (by assumption); omega)), rfl⟩
  · refine lv_iconst (v := iI 0) hx hb dX7_lastOf_10 rfl ?_
    refine lv_goto (tgt := 21) hx hb dX7_lastOf_11 (by decide) ?_
    refine r_iret C hr hlk hI ?_ dX7_lastOf_21
    exact ⟨congrArg (fun q => some (Value.int (iI q))) (show 0 = k % 10 from by first | exact g1 (by assumption) | (have := g0.1 (by assumption); omega)), rfl⟩
set_option maxHeartbeats 4000000 in
set_option maxRecDepth 100000 in
theorem c_X7_doesOn_24 (l : Launch) (g : GT) (M : Mem) (x : Int) (w : Int) (k : Int) (hx : 0 ≤ x ∧ x < 4) (hw : 0 ≤ w ∧ w < 5) (hk : 0 ≤ k ∧ k < 1000) (hg : KG k (M 24) (5 * x)) (hK : -2147483648 ≤ M 21 (3 * x + 1) ∧ M 21 (3 * x + 1) < 2147483648) (hO : -2147483648 ≤ M 20 (3 * w) ∧ M 20 (3 * w) < 2147483648) : Ctr l g yX7_doesOn wsX7_doesOn ({ frames := 1, cells := 0, slots := 0, locals := 22 } : Room) [.ref (gA g 18), .ref (gA g 24), .int (iI x), .int (iI w)] M (pI (repO (M 21 (3 * x + 1)) k (M 20 (3 * w))) M) := by
  refine Ctr.mk (cc := cX7_doesOn) (maxL := 5) (ret := some .int) (lv := [(0, .ref (gA g 18)), (1, .ref (gA g 24)), (2, .int (iI x)), (3, .int (iI w))]) (by decide) rfl (Nat.le_of_ble_eq_true rfl) rfl ?_
  intro p e s m below meth c C hr hlk hI ls hl
  have C : CallFix p m c cX7_doesOn 5 s ([.ref (gA g 18), .ref (gA g 24), .int (iI x), .int (iI w)] : List Value).toArray wsX7_doesOn RX7 := C
  have hx := C.1
  have hb := C.2.1
  have hts := C.2.2.2.2
  have hin7 : ∀ w ∈ u_ws RX7 TX7 31, w ∈ wsX7_doesOn := by decide +kernel
  have g0 := KG_0 hg hk
  have gf := KG_f hg hk
  have gb := KG_b hg
  refine lv_aload_n hx hb dX7_doesOn_0 rfl (lv_at hl 1 rfl) ?_
  refine lv_iload_n hx hb dX7_doesOn_1 rfl (lv_at hl 2 rfl) ?_
  refine r_is C hI (As := [.ref (gA g 24), .int (iI x)]) (rest := []) (c_X7_lastOf_24 l g M x k (by omega) (by omega) (show KG k (M 24) (5 * x) from by assumption)) (va_cwS 2 hts gX7_doesOn_X7_lastOf rfl rfl rfl (by decide +kernel) ⟨Nat.le_of_ble_eq_true rfl, Nat.le_of_ble_eq_true rfl⟩) rfl hl.1 rfl (Nat.le_of_ble_eq_true rfl) dX7_doesOn_2 ⟨Nat.zero_le _, Nat.zero_le _⟩ (k_I (fun H locs hI => ?_))
  refine lv_istore (lv' := [(4, .int (iI (k % 10))), (0, .ref (gA g 18)), (1, .ref (gA g 24)), (2, .int (iI x)), (3, .int (iI w))]) hx hb dX7_doesOn_5 hl (by decide) rfl (fun ls hl => ?_)
  refine lv_aload_n hx hb dX7_doesOn_7 rfl (lv_at hl 1 rfl) ?_
  refine r_get C hI 18 (by decide) rfl rfl hin7 7 (by decide) (fn := "glove") (fd := "[I") (index := 16) (by decide +kernel) ⟨rfl, rfl, rfl⟩ (v := .ref (gA g 21)) rfl dX7_doesOn_8 ?_
  refine lv_iconst (v := iI 3) hx hb dX7_doesOn_11 rfl ?_
  refine lv_iload_n hx hb dX7_doesOn_12 rfl (lv_at hl 3 rfl) ?_
  refine r_imul hx hb dX7_doesOn_13 ?_
  refine lv_iconst (v := iI 1) hx hb dX7_doesOn_14 rfl ?_
  refine r_iadd hx hb dX7_doesOn_15 ?_
  refine r_ald C hI 21 (by decide) rfl (by omega) (by decide) dX7_doesOn_16 ?_
  refine r_tsw hx hb (by omega) dX7_doesOn_17 (by decide) (fun j hj c_1 => ?_) (fun c_1 => ?_)
  · match j, hj with
    | 0, _ =>
      have c_1 : M 21 ((3 * x) + 1) = 1 := c_1
      refine W.eq (g2 := F0 m 44 ls []) rfl ?_
      refine lv_iload hx hb dX7_doesOn_44 (lv_at hl 0 rfl) ?_
      refine lv_iconst (v := iI 4) hx hb dX7_doesOn_46 rfl ?_
      refine r_icmp_le hx hb (tgt := 57) (by omega) (by decide) dX7_doesOn_47 (by decide) (fun c_2 => ?_) (fun c_2 => ?_)
      · refine lv_iload hx hb dX7_doesOn_57 (lv_at hl 0 rfl) ?_
        refine r_iret C hr hlk hI ?_ dX7_doesOn_59
        exact ⟨congrArg (fun q => some (Value.int (iI q))) (show k % 10 = repO (M 21 (3 * x + 1)) k (M 20 (3 * w)) from by unfold repO; first | (rw [if_neg (by omega), if_pos (by assumption), ← gf]; first | rw [if_pos (by assumption)] | rw [if_neg (by assumption)]) | ((repeat' split) <;> omega)), rfl⟩
      · refine lv_iload hx hb dX7_doesOn_50 (lv_at hl 0 rfl) ?_
        refine lv_iconst (v := iI 4) hx hb dX7_doesOn_52 rfl ?_
        refine r_isub hx hb dX7_doesOn_53 ?_
        refine lv_goto (tgt := 59) hx hb dX7_doesOn_54 (by decide) ?_
        refine r_iret C hr hlk hI ?_ dX7_doesOn_59
        exact ⟨congrArg (fun q => some (Value.int (iI q))) (show (k % 10) - 4 = repO (M 21 (3 * x + 1)) k (M 20 (3 * w)) from by unfold repO; first | (rw [if_neg (by omega), if_pos (by assumption), ← gf]; first | rw [if_pos (by assumption)] | rw [if_neg (by assumption)]) | ((repeat' split) <;> omega)), rfl⟩
    | 1, _ =>
      have c_1 : M 21 ((3 * x) + 1) = 2 := c_1
      refine W.eq (g2 := F0 m 60 ls []) rfl ?_
      refine lv_aload_n hx hb dX7_doesOn_60 rfl (lv_at hl 2 rfl) ?_
      refine lv_iconst (v := iI 5) hx hb dX7_doesOn_61 rfl ?_
      refine lv_iload_n hx hb dX7_doesOn_62 rfl (lv_at hl 3 rfl) ?_
      refine r_imul hx hb dX7_doesOn_63 ?_
      refine r_ald C hI 24 (by decide) rfl (by omega) (by decide) dX7_doesOn_64 ?_
      refine r_if_ne hx hb (tgt := 72) (by omega) dX7_doesOn_65 (by decide) (fun c_3 => ?_) (fun c_3 => ?_)
      · refine lv_aload_n hx hb dX7_doesOn_72 rfl (lv_at hl 2 rfl) ?_
        refine lv_iconst (v := iI 5) hx hb dX7_doesOn_73 rfl ?_
        refine lv_iload_n hx hb dX7_doesOn_74 rfl (lv_at hl 3 rfl) ?_
        refine r_imul hx hb dX7_doesOn_75 ?_
        refine lv_iconst (v := iI 1) hx hb dX7_doesOn_76 rfl ?_
        refine r_iadd hx hb dX7_doesOn_77 ?_
        refine r_ald C hI 24 (by decide) rfl (by omega) (by decide) dX7_doesOn_78 ?_
        refine r_iret C hr hlk hI ?_ dX7_doesOn_79
        exact ⟨congrArg (fun q => some (Value.int (iI q))) (show M 24 ((5 * x) + 1) = repO (M 21 (3 * x + 1)) k (M 20 (3 * w)) from by unfold repO; first | (rw [if_neg (by omega), if_pos (by assumption), ← gf]; first | rw [if_pos (by assumption)] | rw [if_neg (by assumption)]) | ((repeat' split) <;> omega)), rfl⟩
      · refine lv_iconst (v := iI 0) hx hb dX7_doesOn_68 rfl ?_
        refine lv_goto (tgt := 79) hx hb dX7_doesOn_69 (by decide) ?_
        refine r_iret C hr hlk hI ?_ dX7_doesOn_79
        exact ⟨congrArg (fun q => some (Value.int (iI q))) (show 0 = repO (M 21 (3 * x + 1)) k (M 20 (3 * w)) from by unfold repO; first | (rw [if_neg (by omega), if_pos (by assumption), ← gf]; first | rw [if_pos (by assumption)] | rw [if_neg (by assumption)]) | ((repeat' split) <;> omega)), rfl⟩
    | 2, _ =>
      have c_1 : M 21 ((3 * x) + 1) = 3 := c_1
      refine W.eq (g2 := F0 m 80 ls []) rfl ?_
      refine lv_iload hx hb dX7_doesOn_80 (lv_at hl 0 rfl) ?_
      refine lv_aload_n hx hb dX7_doesOn_82 rfl (lv_at hl 1 rfl) ?_
      refine r_get C hI 18 (by decide) rfl rfl hin7 6 (by decide) (fn := "person") (fd := "[I") (index := 13) (by decide +kernel) ⟨rfl, rfl, rfl⟩ (v := .ref (gA g 20)) rfl dX7_doesOn_83 ?_
      refine lv_iconst (v := iI 3) hx hb dX7_doesOn_86 rfl ?_
      refine lv_iload_n hx hb dX7_doesOn_87 rfl (lv_at hl 4 rfl) ?_
      refine r_imul hx hb dX7_doesOn_88 ?_
      refine r_ald C hI 20 (by decide) rfl (by omega) (by decide) dX7_doesOn_89 ?_
      refine r_icmp_ne hx hb (tgt := 97) (by omega) (by omega) dX7_doesOn_90 (by decide) (fun c_4 => ?_) (fun c_4 => ?_)
      · refine lv_iload hx hb dX7_doesOn_97 (lv_at hl 0 rfl) ?_
        refine r_iret C hr hlk hI ?_ dX7_doesOn_99
        exact ⟨congrArg (fun q => some (Value.int (iI q))) (show k % 10 = repO (M 21 (3 * x + 1)) k (M 20 (3 * w)) from by unfold repO; first | (rw [if_neg (by omega), if_pos (by assumption), ← gf]; first | rw [if_pos (by assumption)] | rw [if_neg (by assumption)]) | ((repeat' split) <;> omega)), rfl⟩
      · refine lv_iconst (v := iI 0) hx hb dX7_doesOn_93 rfl ?_
        refine lv_goto (tgt := 99) hx hb dX7_doesOn_94 (by decide) ?_
        refine r_iret C hr hlk hI ?_ dX7_doesOn_99
        exact ⟨congrArg (fun q => some (Value.int (iI q))) (show 0 = repO (M 21 (3 * x + 1)) k (M 20 (3 * w)) from by unfold repO; first | (rw [if_neg (by omega), if_pos (by assumption), ← gf]; first | rw [if_pos (by assumption)] | rw [if_neg (by assumption)]) | ((repeat' split) <;> omega)), rfl⟩
  · refine W.eq (g2 := F0 m 100 ls []) rfl ?_
    refine lv_iload hx hb dX7_doesOn_100 (lv_at hl 0 rfl) ?_
    refine r_iret C hr hlk hI ?_ dX7_doesOn_102
    exact ⟨congrArg (fun q => some (Value.int (iI q))) (show k % 10 = repO (M 21 (3 * x + 1)) k (M 20 (3 * w)) from by unfold repO; first | (rw [if_neg (by omega), if_pos (by assumption), ← gf]; first | rw [if_pos (by assumption)] | rw [if_neg (by assumption)]) | ((repeat' split) <;> omega)), rfl⟩
set_option maxHeartbeats 4000000 in
set_option maxRecDepth 100000 in
theorem c_X7_keepDoing_24 (l : Launch) (g : GT) (M : Mem) (x : Int) (d : Int) (k : Int) (hx : 0 ≤ x ∧ x < 4) (hk : KOK k (M 21 (3 * x))) (hrm : 1 ≤ M 21 (3 * x) ∧ M 21 (3 * x) ≤ 3) (hd : 1 ≤ d ∧ d ≤ 7) (hg : KG k (M 24) (5 * x)) : Ctr l g yX7_keepDoing wsX7_keepDoing ({ frames := 0, cells := 0, slots := 0, locals := 0 } : Room) [.ref (gA g 18), .ref (gA g 24), .int (iI x), .int (iI d)] M (pX (fun u => KD 24 (5 * x) k d (M 21 (3 * x)) M u)) := by
  refine Ctr.mk (cc := cX7_keepDoing) (maxL := 5) (ret := none) (lv := [(0, .ref (gA g 18)), (1, .ref (gA g 24)), (2, .int (iI x)), (3, .int (iI d))]) (by decide) rfl (Nat.le_of_ble_eq_true rfl) rfl ?_
  intro p e s m below meth c C hr hlk hI ls hl
  have C : CallFix p m c cX7_keepDoing 5 s ([.ref (gA g 18), .ref (gA g 24), .int (iI x), .int (iI d)] : List Value).toArray wsX7_keepDoing RX7 := C
  have hx := C.1
  have hb := C.2.1
  have hts := C.2.2.2.2
  have hin7 : ∀ w ∈ u_ws RX7 TX7 31, w ∈ wsX7_keepDoing := by decide +kernel
  have gb := KG_b hg
  refine lv_aload_n hx hb dX7_keepDoing_0 rfl (lv_at hl 1 rfl) ?_
  refine lv_iconst (v := iI 5) hx hb dX7_keepDoing_1 rfl ?_
  refine lv_iload_n hx hb dX7_keepDoing_2 rfl (lv_at hl 2 rfl) ?_
  refine r_imul hx hb dX7_keepDoing_3 ?_
  refine r_ald C hI 24 (by decide) rfl (by omega) (by decide) dX7_keepDoing_4 ?_
  refine lv_aload_n hx hb dX7_keepDoing_5 rfl (lv_at hl 0 rfl) ?_
  refine r_get C hI 18 (by decide) rfl rfl hin7 7 (by decide) (fn := "glove") (fd := "[I") (index := 16) (by decide +kernel) ⟨rfl, rfl, rfl⟩ (v := .ref (gA g 21)) rfl dX7_keepDoing_6 ?_
  refine lv_iconst (v := iI 3) hx hb dX7_keepDoing_9 rfl ?_
  refine lv_iload_n hx hb dX7_keepDoing_10 rfl (lv_at hl 2 rfl) ?_
  refine r_imul hx hb dX7_keepDoing_11 ?_
  refine r_ald C hI 21 (by decide) rfl (by omega) (by decide) dX7_keepDoing_12 ?_
  refine r_icmp_ne hx hb (tgt := 62) (by omega) (by omega) dX7_keepDoing_13 (by decide) (fun c_1 => ?_) (fun c_1 => ?_)
  · refine lv_aload_n hx hb dX7_keepDoing_62 rfl (lv_at hl 1 rfl) ?_
    refine lv_iconst (v := iI 5) hx hb dX7_keepDoing_63 rfl ?_
    refine lv_iload_n hx hb dX7_keepDoing_64 rfl (lv_at hl 2 rfl) ?_
    refine r_imul hx hb dX7_keepDoing_65 ?_
    refine lv_dup2_11 hx hb dX7_keepDoing_66 rfl rfl ?_
    refine r_ald C hI 24 (by decide) rfl (by omega) (by decide) dX7_keepDoing_67 ?_
    refine lv_iconst (v := iI 1) hx hb dX7_keepDoing_68 rfl ?_
    refine r_iadd hx hb dX7_keepDoing_69 ?_
    refine r_ast C hI 24 (by decide) (fun _ => rfl) (by omega) (by decide) dX7_keepDoing_70 (fun H locs hI => ?_)
    refine lv_aload_n hx hb dX7_keepDoing_71 rfl (lv_at hl 1 rfl) ?_
    refine lv_iconst (v := iI 5) hx hb dX7_keepDoing_72 rfl ?_
    refine lv_iload_n hx hb dX7_keepDoing_73 rfl (lv_at hl 2 rfl) ?_
    refine r_imul hx hb dX7_keepDoing_74 ?_
    refine lv_aload_n hx hb dX7_keepDoing_75 rfl (lv_at hl 1 rfl) ?_
    refine lv_iconst (v := iI 5) hx hb dX7_keepDoing_76 rfl ?_
    refine lv_iload_n hx hb dX7_keepDoing_77 rfl (lv_at hl 2 rfl) ?_
    refine r_imul hx hb dX7_keepDoing_78 ?_
    refine r_ald C hI 24 (by decide) rfl (by omega) (by decide) dX7_keepDoing_79 ?_
    refine r_eqI (z2 := (M 24 (5 * x)) + 1) (by first | rfl | (repeat first | rw [mset_s, rw1_s] | rw [mset_s, rw1_n _ _ (by omega)] | rw [mset_n _ _ _ (by decide)])) ?_
    refine r_iadd hx hb dX7_keepDoing_80 ?_
    refine lv_iload_n hx hb dX7_keepDoing_81 rfl (lv_at hl 3 rfl) ?_
    refine r_ast C hI 24 (by decide) (fun _ => rfl) (by omega) (by decide) dX7_keepDoing_82 (fun H locs hI => ?_)
    refine r_vret C hr hlk hI ?_ dX7_keepDoing_83
    exact ⟨rfl, (show (fun u => KD 24 (5 * x) k d (M 21 (3 * x)) M u) (mset (mset M 24 (5 * x) ((M 24 (5 * x)) + 1)) 24 ((5 * x) + ((M 24 (5 * x)) + 1)) d) from by first | exact kd_full h2 (by omega) hk hrm hd hg (by omega) | exact kd_more hk hrm hd hg (by omega))⟩
  · refine lv_iconst (v := iI 1) hx hb dX7_keepDoing_16 rfl ?_
    refine lv_istore (lv' := [(4, .int (iI 1)), (0, .ref (gA g 18)), (1, .ref (gA g 24)), (2, .int (iI x)), (3, .int (iI d))]) hx hb dX7_keepDoing_17 hl (by decide) rfl (fun ls hl => ?_)
    have lp19 : ∀ (n19 : Nat) (kk : Int) (N : Mem), (1 ≤ kk ∧ kk ≤ M 21 (3 * x)) → (N = shM M 24 (5 * x) kk) → (M 21 (3 * x) - kk).toNat < n19 → ∀ (H : Heap) (locs : List Loc), HI g s H locs N → ∀ ls : Array Slot, lv_has ls 5 [(4, .int (iI kk)), (0, .ref (gA g 18)), (1, .ref (gA g 24)), (2, .int (iI x)), (3, .int (iI d))] → W p l e ({ frames := 0, cells := 0, slots := 0, locals := 0 } : Room) s m ([.ref (gA g 18), .ref (gA g 24), .int (iI x), .int (iI d)] : List Value).toArray below meth c H locs 0 0 (MQ below (QV g (pX (fun u => KD 24 (5 * x) k d (M 21 (3 * x)) M u))) ([.ref (gA g 18), .ref (gA g 24), .int (iI x), .int (iI d)] : List Value).toArray s 0 0 (AA g)) (F0 m 19 ls []) := by
      intro n19
      induction n19 with
      | zero => intro kk N h1 h2 hn19; exact absurd hn19 (Nat.not_lt_zero _)
      | succ n19 ih19 =>
        intro kk N h1 h2 hn19 H locs hI ls hl
        have eN0 : N 24 (5 * x) = M 24 (5 * x) := by rw [h2, shM_b]
        refine lv_iload hx hb dX7_keepDoing_19 (lv_at hl 0 rfl) ?_
        refine lv_aload_n hx hb dX7_keepDoing_21 rfl (lv_at hl 2 rfl) ?_
        refine lv_iconst (v := iI 5) hx hb dX7_keepDoing_22 rfl ?_
        refine lv_iload_n hx hb dX7_keepDoing_23 rfl (lv_at hl 3 rfl) ?_
        refine r_imul hx hb dX7_keepDoing_24 ?_
        refine r_ald C hI 24 (by decide) rfl (by omega) (by decide) dX7_keepDoing_25 ?_
        refine r_icmp_ge hx hb (tgt := 53) (by omega) (by omega) dX7_keepDoing_26 (by decide) (fun c_2 => ?_) (fun c_2 => ?_)
        · refine lv_aload_n hx hb dX7_keepDoing_53 rfl (lv_at hl 2 rfl) ?_
          refine lv_iconst (v := iI 5) hx hb dX7_keepDoing_54 rfl ?_
          refine lv_iload_n hx hb dX7_keepDoing_55 rfl (lv_at hl 3 rfl) ?_
          refine r_imul hx hb dX7_keepDoing_56 ?_
          refine lv_dup2_11 hx hb dX7_keepDoing_57 rfl rfl ?_
          refine r_ald C hI 24 (by decide) rfl (by omega) (by decide) dX7_keepDoing_58 ?_
          refine lv_iconst (v := iI 1) hx hb dX7_keepDoing_59 rfl ?_
          refine r_isub hx hb dX7_keepDoing_60 ?_
          refine r_ast C hI 24 (by decide) (fun _ => rfl) (by omega) (by decide) dX7_keepDoing_61 (fun H locs hI => ?_)
          refine lv_aload_n hx hb dX7_keepDoing_62 rfl (lv_at hl 2 rfl) ?_
          refine lv_iconst (v := iI 5) hx hb dX7_keepDoing_63 rfl ?_
          refine lv_iload_n hx hb dX7_keepDoing_64 rfl (lv_at hl 3 rfl) ?_
          refine r_imul hx hb dX7_keepDoing_65 ?_
          refine lv_dup2_11 hx hb dX7_keepDoing_66 rfl rfl ?_
          refine r_ald C hI 24 (by decide) rfl (by omega) (by decide) dX7_keepDoing_67 ?_
          refine r_eqI (z2 := (N 24 (5 * x)) - 1) (by first | rfl | (repeat first | rw [mset_s, rw1_s] | rw [mset_s, rw1_n _ _ (by omega)] | rw [mset_n _ _ _ (by decide)])) ?_
          refine lv_iconst (v := iI 1) hx hb dX7_keepDoing_68 rfl ?_
          refine r_iadd hx hb dX7_keepDoing_69 ?_
          refine r_ast C hI 24 (by decide) (fun _ => rfl) (by omega) (by decide) dX7_keepDoing_70 (fun H locs hI => ?_)
          refine lv_aload_n hx hb dX7_keepDoing_71 rfl (lv_at hl 2 rfl) ?_
          refine lv_iconst (v := iI 5) hx hb dX7_keepDoing_72 rfl ?_
          refine lv_iload_n hx hb dX7_keepDoing_73 rfl (lv_at hl 3 rfl) ?_
          refine r_imul hx hb dX7_keepDoing_74 ?_
          refine lv_aload_n hx hb dX7_keepDoing_75 rfl (lv_at hl 2 rfl) ?_
          refine lv_iconst (v := iI 5) hx hb dX7_keepDoing_76 rfl ?_
          refine lv_iload_n hx hb dX7_keepDoing_77 rfl (lv_at hl 3 rfl) ?_
          refine r_imul hx hb dX7_keepDoing_78 ?_
          refine r_ald C hI 24 (by decide) rfl (by omega) (by decide) dX7_keepDoing_79 ?_
          refine r_eqI (z2 := ((N 24 (5 * x)) - 1) + 1) (by first | rfl | (repeat first | rw [mset_s, rw1_s] | rw [mset_s, rw1_n _ _ (by omega)] | rw [mset_n _ _ _ (by decide)])) ?_
          refine r_iadd hx hb dX7_keepDoing_80 ?_
          refine lv_iload_n hx hb dX7_keepDoing_81 rfl (lv_at hl 4 rfl) ?_
          refine r_ast C hI 24 (by decide) (fun _ => rfl) (by omega) (by decide) dX7_keepDoing_82 (fun H locs hI => ?_)
          refine r_vret C hr hlk hI ?_ dX7_keepDoing_83
          exact ⟨rfl, (show (fun u => KD 24 (5 * x) k d (M 21 (3 * x)) M u) (mset (mset (mset N 24 (5 * x) ((N 24 (5 * x)) - 1)) 24 (5 * x) (((N 24 (5 * x)) - 1) + 1)) 24 ((5 * x) + (((N 24 (5 * x)) - 1) + 1)) d) from by first | exact kd_full h2 (by omega) hk hrm hd hg (by omega) | exact kd_more hk hrm hd hg (by omega))⟩
        · refine lv_aload_n hx hb dX7_keepDoing_29 rfl (lv_at hl 2 rfl) ?_
          refine lv_iconst (v := iI 5) hx hb dX7_keepDoing_30 rfl ?_
          refine lv_iload_n hx hb dX7_keepDoing_31 rfl (lv_at hl 3 rfl) ?_
          refine r_imul hx hb dX7_keepDoing_32 ?_
          refine lv_iload hx hb dX7_keepDoing_33 (lv_at hl 0 rfl) ?_
          refine r_iadd hx hb dX7_keepDoing_35 ?_
          refine lv_aload_n hx hb dX7_keepDoing_36 rfl (lv_at hl 2 rfl) ?_
          refine lv_iconst (v := iI 5) hx hb dX7_keepDoing_37 rfl ?_
          refine lv_iload_n hx hb dX7_keepDoing_38 rfl (lv_at hl 3 rfl) ?_
          refine r_imul hx hb dX7_keepDoing_39 ?_
          refine lv_iload hx hb dX7_keepDoing_40 (lv_at hl 0 rfl) ?_
          refine r_iadd hx hb dX7_keepDoing_42 ?_
          refine lv_iconst (v := iI 1) hx hb dX7_keepDoing_43 rfl ?_
          refine r_iadd hx hb dX7_keepDoing_44 ?_
          refine r_ald C hI 24 (by decide) rfl (by omega) (by decide) dX7_keepDoing_45 ?_
          refine r_ast C hI 24 (by decide) (fun _ => rfl) (by omega) (by decide) dX7_keepDoing_46 (fun H locs hI => ?_)
          refine lv_iinc (v := iI (kk + 1)) (lv' := [(4, .int (iI (kk + 1))), (0, .ref (gA g 18)), (1, .ref (gA g 24)), (2, .int (iI x)), (3, .int (iI d))]) hx hb dX7_keepDoing_47 hl (k := 0) rfl (iI_add _ _) (by decide) rfl (fun ls hl => ?_)
          refine lv_goto (tgt := 19) hx hb dX7_keepDoing_50 (by decide) ?_
          exact ih19 (kk + 1) (mset N 24 ((5 * x) + kk) (N 24 (((5 * x) + kk) + 1))) (by omega) (by (rw [h2]; exact shM_s _ _ _ _ h1.1)) (by omega) _ _ hI ls (lv_sub hl [0, 1, 2, 3, 4] rfl)
    exact lp19 _ 1 M (by omega) (by exact shM_0 _ _ _) (Nat.lt_succ_self _) _ _ hI ls (lv_sub hl [0, 1, 2, 3, 4] rfl)
set_option maxHeartbeats 4000000 in
set_option maxRecDepth 100000 in
theorem c_X7_isWorn_25 (l : Launch) (g : GT) (M : Mem) (x : Int) (hx : 0 ≤ x ∧ x < 4) (hw : -2147483648 ≤ M 25 (5 * x + 4) ∧ M 25 (5 * x + 4) < 2147483648) : Ctr l g yX7_isWorn wsX7_isWorn ({ frames := 0, cells := 0, slots := 0, locals := 0 } : Room) [.ref (gA g 18), .ref (gA g 25), .int (iI x)] M (pI (bI (¬ M 25 (5 * x + 4) = -9)) M) := by
  refine Ctr.mk (cc := cX7_isWorn) (maxL := 3) (ret := some .boolean) (lv := [(0, .ref (gA g 18)), (1, .ref (gA g 25)), (2, .int (iI x))]) (by decide) rfl (Nat.le_of_ble_eq_true rfl) rfl ?_
  intro p e s m below meth c C hr hlk hI ls hl
  have C : CallFix p m c cX7_isWorn 3 s ([.ref (gA g 18), .ref (gA g 25), .int (iI x)] : List Value).toArray wsX7_isWorn RX7 := C
  have hx := C.1
  have hb := C.2.1
  have hts := C.2.2.2.2
  refine lv_aload_n hx hb dX7_isWorn_0 rfl (lv_at hl 1 rfl) ?_
  refine lv_iconst (v := iI 5) hx hb dX7_isWorn_1 rfl ?_
  refine lv_iload_n hx hb dX7_isWorn_2 rfl (lv_at hl 2 rfl) ?_
  refine r_imul hx hb dX7_isWorn_3 ?_
  refine lv_iconst (v := iI 4) hx hb dX7_isWorn_4 rfl ?_
  refine r_iadd hx hb dX7_isWorn_5 ?_
  refine r_ald C hI 25 (by decide) rfl (by omega) (by decide) dX7_isWorn_6 ?_
  refine lv_bipush (v := iI (-9)) hx hb dX7_isWorn_7 (by decide +kernel) ?_
  refine r_icmp_eq hx hb (tgt := 16) (by omega) (by decide) dX7_isWorn_9 (by decide) (fun c_1 => ?_) (fun c_1 => ?_)
  · refine lv_iconst (v := iI 0) hx hb dX7_isWorn_16 rfl ?_
    refine r_zret C hr hlk hI (by decide +kernel) ?_ dX7_isWorn_17
    exact ⟨congrArg (fun q => some (Value.int (iI q))) (bI_f (by first | assumption | omega)).symm, rfl⟩
  · refine lv_iconst (v := iI 1) hx hb dX7_isWorn_12 rfl ?_
    refine lv_goto (tgt := 17) hx hb dX7_isWorn_13 (by decide) ?_
    refine r_zret C hr hlk hI (by decide +kernel) ?_ dX7_isWorn_17
    exact ⟨congrArg (fun q => some (Value.int (iI q))) (bI_t (by first | assumption | omega)).symm, rfl⟩
set_option maxHeartbeats 4000000 in
set_option maxRecDepth 100000 in
theorem c_X7_wears_25 (l : Launch) (g : GT) (M : Mem) (w : Int) (hw : -2147483648 ≤ w ∧ w < 2147483648) (hP : 0 ≤ M 18 5 ∧ M 18 5 ≤ 4) (hW : ∀ q : Int, 0 ≤ q ∧ q < M 18 5 → -2147483648 ≤ M 25 (5 * q + 4) ∧ M 25 (5 * q + 4) < 2147483648) : Ctr l g yX7_wears wsX7_wears ({ frames := 0, cells := 0, slots := 0, locals := 0 } : Room) [.ref (gA g 18), .ref (gA g 25), .int (iI w)] M (pI (weN (M 25) w (M 18 5).toNat) M) := by
  refine Ctr.mk (cc := cX7_wears) (maxL := 5) (ret := some .int) (lv := [(0, .ref (gA g 18)), (1, .ref (gA g 25)), (2, .int (iI w))]) (by decide) rfl (Nat.le_of_ble_eq_true rfl) rfl ?_
  intro p e s m below meth c C hr hlk hI ls hl
  have C : CallFix p m c cX7_wears 5 s ([.ref (gA g 18), .ref (gA g 25), .int (iI w)] : List Value).toArray wsX7_wears RX7 := C
  have hx := C.1
  have hb := C.2.1
  have hts := C.2.2.2.2
  have hin7 : ∀ w ∈ u_ws RX7 TX7 31, w ∈ wsX7_wears := by decide +kernel
  refine lv_bipush (v := iI (-9)) hx hb dX7_wears_0 (by decide +kernel) ?_
  refine lv_istore_n (lv' := [(3, .int (iI (-9))), (0, .ref (gA g 18)), (1, .ref (gA g 25)), (2, .int (iI w))]) hx hb dX7_wears_2 rfl hl (by decide) rfl (fun ls hl => ?_)
  refine lv_iconst (v := iI 0) hx hb dX7_wears_3 rfl ?_
  refine lv_istore (lv' := [(4, .int (iI 0)), (3, .int (iI (-9))), (0, .ref (gA g 18)), (1, .ref (gA g 25)), (2, .int (iI w))]) hx hb dX7_wears_4 hl (by decide) rfl (fun ls hl => ?_)
  have lp6 : ∀ (n6 : Nat) (y : Int) (fd : Int) (jj : Nat), (y = (jj : Int) ∧ (jj : Int) ≤ M 18 5) → (fd = weN (M 25) w jj) → (M 18 5).toNat - jj < n6 → ∀ (H : Heap) (locs : List Loc), HI g s H locs M → ∀ ls : Array Slot, lv_has ls 5 [(4, .int (iI y)), (3, .int (iI fd)), (0, .ref (gA g 18)), (1, .ref (gA g 25)), (2, .int (iI w))] → W p l e ({ frames := 0, cells := 0, slots := 0, locals := 0 } : Room) s m ([.ref (gA g 18), .ref (gA g 25), .int (iI w)] : List Value).toArray below meth c H locs 0 0 (MQ below (QV g (pI (weN (M 25) w (M 18 5).toNat) M)) ([.ref (gA g 18), .ref (gA g 25), .int (iI w)] : List Value).toArray s 0 0 (AA g)) (F0 m 6 ls []) := by
    intro n6
    induction n6 with
    | zero => intro y fd jj h1 h2 hn6; exact absurd hn6 (Nat.not_lt_zero _)
    | succ n6 ih6 =>
      intro y fd jj h1 h2 hn6 H locs hI ls hl
      have hWy := hW y
      refine lv_iload hx hb dX7_wears_6 (lv_at hl 0 rfl) ?_
      refine lv_aload_n hx hb dX7_wears_8 rfl (lv_at hl 2 rfl) ?_
      refine r_get C hI 18 (by decide) rfl rfl hin7 5 (by decide) (fn := "gloves") (fd := "I") (index := 61) (by decide +kernel) ⟨rfl, rfl, rfl⟩ (v := .int (iI (M 18 5))) rfl dX7_wears_9 ?_
      refine r_icmp_ge hx hb (tgt := 40) (by omega) (by omega) dX7_wears_12 (by decide) (fun c_1 => ?_) (fun c_1 => ?_)
      · refine lv_iload_n hx hb dX7_wears_40 rfl (lv_at hl 1 rfl) ?_
        refine r_iret C hr hlk hI ?_ dX7_wears_41
        exact ⟨congrArg (fun q => some (Value.int (iI q))) (show fd = weN (M 25) w (M 18 5).toNat from by (rw [show (M 18 5).toNat = jj from by omega]; exact h2)), rfl⟩
      · refine lv_aload_n hx hb dX7_wears_15 rfl (lv_at hl 3 rfl) ?_
        refine lv_iconst (v := iI 5) hx hb dX7_wears_16 rfl ?_
        refine lv_iload hx hb dX7_wears_17 (lv_at hl 0 rfl) ?_
        refine r_imul hx hb dX7_wears_19 ?_
        refine lv_iconst (v := iI 4) hx hb dX7_wears_20 rfl ?_
        refine r_iadd hx hb dX7_wears_21 ?_
        refine r_ald C hI 25 (by decide) rfl (by omega) (by decide) dX7_wears_22 ?_
        refine lv_iload_n hx hb dX7_wears_23 rfl (lv_at hl 4 rfl) ?_
        refine r_icmp_ne hx hb (tgt := 32) (by omega) (by omega) dX7_wears_24 (by decide) (fun c_2 => ?_) (fun c_2 => ?_)
        · refine lv_iload_n hx hb dX7_wears_32 rfl (lv_at hl 1 rfl) ?_
          refine lv_istore_n (lv' := [(3, .int (iI fd)), (4, .int (iI y)), (0, .ref (gA g 18)), (1, .ref (gA g 25)), (2, .int (iI w))]) hx hb dX7_wears_33 rfl hl (by decide) rfl (fun ls hl => ?_)
          refine lv_iinc (v := iI (y + 1)) (lv' := [(4, .int (iI (y + 1))), (3, .int (iI fd)), (0, .ref (gA g 18)), (1, .ref (gA g 25)), (2, .int (iI w))]) hx hb dX7_wears_34 hl (k := 1) rfl (iI_add _ _) (by decide) rfl (fun ls hl => ?_)
          refine lv_goto (tgt := 6) hx hb dX7_wears_37 (by decide) ?_
          exact ih6 (y + 1) fd (jj + 1) (by omega) (by (simp only [weN, ← h1.1]; first | rw [if_pos (by assumption)] | (rw [if_neg (by assumption)]; exact h2))) (by omega) _ _ hI ls (lv_sub hl [0, 1, 2, 3, 4] rfl)
        · refine lv_iload hx hb dX7_wears_27 (lv_at hl 0 rfl) ?_
          refine lv_goto (tgt := 33) hx hb dX7_wears_29 (by decide) ?_
          refine lv_istore_n (lv' := [(3, .int (iI y)), (4, .int (iI y)), (0, .ref (gA g 18)), (1, .ref (gA g 25)), (2, .int (iI w))]) hx hb dX7_wears_33 rfl hl (by decide) rfl (fun ls hl => ?_)
          refine lv_iinc (v := iI (y + 1)) (lv' := [(4, .int (iI (y + 1))), (3, .int (iI y)), (0, .ref (gA g 18)), (1, .ref (gA g 25)), (2, .int (iI w))]) hx hb dX7_wears_34 hl (k := 1) rfl (iI_add _ _) (by decide) rfl (fun ls hl => ?_)
          refine lv_goto (tgt := 6) hx hb dX7_wears_37 (by decide) ?_
          exact ih6 (y + 1) y (jj + 1) (by omega) (by (simp only [weN, ← h1.1]; first | rw [if_pos (by assumption)] | (rw [if_neg (by assumption)]; exact h2))) (by omega) _ _ hI ls (lv_sub hl [0, 1, 2, 3, 4] rfl)
  exact lp6 _ 0 (-9) 0 (by omega) (by rfl) (Nat.lt_succ_self _) _ _ hI ls (lv_sub hl [0, 1, 2, 3, 4] rfl)
set_option maxHeartbeats 4000000 in
set_option maxRecDepth 100000 in
theorem c_X7_lastOf_25 (l : Launch) (g : GT) (M : Mem) (x : Int) (k : Int) (hx : 0 ≤ x ∧ x < 4) (hk : 0 ≤ k ∧ k < 1000) (hg : KG k (M 25) (5 * x)) : Ctr l g yX7_lastOf wsX7_lastOf ({ frames := 0, cells := 0, slots := 0, locals := 0 } : Room) [.ref (gA g 25), .int (iI x)] M (pI (k % 10) M) := by
  refine Ctr.mk (cc := cX7_lastOf) (maxL := 3) (ret := some .int) (lv := [(0, .ref (gA g 25)), (1, .int (iI x))]) (by decide) rfl (Nat.le_of_ble_eq_true rfl) rfl ?_
  intro p e s m below meth c C hr hlk hI ls hl
  have C : CallFix p m c cX7_lastOf 3 s ([.ref (gA g 25), .int (iI x)] : List Value).toArray wsX7_lastOf RX7 := C
  have hx := C.1
  have hb := C.2.1
  have hts := C.2.2.2.2
  have g0 := KG_0 hg hk
  have g1 := KG_1 hg hk
  have gb := KG_b hg
  refine lv_aload_n hx hb dX7_lastOf_0 rfl (lv_at hl 0 rfl) ?_
  refine lv_iconst (v := iI 5) hx hb dX7_lastOf_1 rfl ?_
  refine lv_iload_n hx hb dX7_lastOf_2 rfl (lv_at hl 1 rfl) ?_
  refine r_imul hx hb dX7_lastOf_3 ?_
  refine r_ald C hI 25 (by decide) rfl (by omega) (by decide) dX7_lastOf_4 ?_
  refine lv_istore_n (lv' := [(2, .int (iI (M 25 (5 * x)))), (0, .ref (gA g 25)), (1, .int (iI x))]) hx hb dX7_lastOf_5 rfl hl (by decide) rfl (fun ls hl => ?_)
  refine lv_iload_n hx hb dX7_lastOf_6 rfl (lv_at hl 0 rfl) ?_
  refine r_if_ne hx hb (tgt := 14) (by omega) dX7_lastOf_7 (by decide) (fun c_1 => ?_) (fun c_1 => ?_)
  · refine lv_aload_n hx hb dX7_lastOf_14 rfl (lv_at hl 1 rfl) ?_
    refine lv_iconst (v := iI 5) hx hb dX7_lastOf_15 rfl ?_
    refine lv_iload_n hx hb dX7_lastOf_16 rfl (lv_at hl 2 rfl) ?_
    refine r_imul hx hb dX7_lastOf_17 ?_
    refine lv_iload_n hx hb dX7_lastOf_18 rfl (lv_at hl 0 rfl) ?_
    refine r_iadd hx hb dX7_lastOf_19 ?_
    refine r_ald C hI 25 (by decide) rfl (by omega) (by decide) dX7_lastOf_20 ?_
    refine r_iret C hr hlk hI ?_ dX7_lastOf_21
    exact ⟨congrArg (fun q => some (Value.int (iI q))) (show M 25 ((5 * x) + (M 25 (5 * x))) = k % 10 from by first | exact g1 (by assumption) | (have := g0.1 (by assumption); omega)), rfl⟩
  · refine lv_iconst (v := iI 0) hx hb dX7_lastOf_10 rfl ?_
    refine lv_goto (tgt := 21) hx hb dX7_lastOf_11 (by decide) ?_
    refine r_iret C hr hlk hI ?_ dX7_lastOf_21
    exact ⟨congrArg (fun q => some (Value.int (iI q))) (show 0 = k % 10 from by first | exact g1 (by assumption) | (have := g0.1 (by assumption); omega)), rfl⟩
set_option maxHeartbeats 4000000 in
set_option maxRecDepth 100000 in
theorem c_X7_doesOn_25 (l : Launch) (g : GT) (M : Mem) (x : Int) (w : Int) (k : Int) (hx : 0 ≤ x ∧ x < 4) (hw : 0 ≤ w ∧ w < 5) (hk : 0 ≤ k ∧ k < 1000) (hg : KG k (M 25) (5 * x)) (hK : -2147483648 ≤ M 21 (3 * x + 1) ∧ M 21 (3 * x + 1) < 2147483648) (hO : -2147483648 ≤ M 20 (3 * w) ∧ M 20 (3 * w) < 2147483648) : Ctr l g yX7_doesOn wsX7_doesOn ({ frames := 1, cells := 0, slots := 0, locals := 22 } : Room) [.ref (gA g 18), .ref (gA g 25), .int (iI x), .int (iI w)] M (pI (repO (M 21 (3 * x + 1)) k (M 20 (3 * w))) M) := by
  refine Ctr.mk (cc := cX7_doesOn) (maxL := 5) (ret := some .int) (lv := [(0, .ref (gA g 18)), (1, .ref (gA g 25)), (2, .int (iI x)), (3, .int (iI w))]) (by decide) rfl (Nat.le_of_ble_eq_true rfl) rfl ?_
  intro p e s m below meth c C hr hlk hI ls hl
  have C : CallFix p m c cX7_doesOn 5 s ([.ref (gA g 18), .ref (gA g 25), .int (iI x), .int (iI w)] : List Value).toArray wsX7_doesOn RX7 := C
  have hx := C.1
  have hb := C.2.1
  have hts := C.2.2.2.2
  have hin7 : ∀ w ∈ u_ws RX7 TX7 31, w ∈ wsX7_doesOn := by decide +kernel
  have g0 := KG_0 hg hk
  have gf := KG_f hg hk
  have gb := KG_b hg
  refine lv_aload_n hx hb dX7_doesOn_0 rfl (lv_at hl 1 rfl) ?_
  refine lv_iload_n hx hb dX7_doesOn_1 rfl (lv_at hl 2 rfl) ?_
  refine r_is C hI (As := [.ref (gA g 25), .int (iI x)]) (rest := []) (c_X7_lastOf_25 l g M x k (by omega) (by omega) (show KG k (M 25) (5 * x) from by assumption)) (va_cwS 2 hts gX7_doesOn_X7_lastOf rfl rfl rfl (by decide +kernel) ⟨Nat.le_of_ble_eq_true rfl, Nat.le_of_ble_eq_true rfl⟩) rfl hl.1 rfl (Nat.le_of_ble_eq_true rfl) dX7_doesOn_2 ⟨Nat.zero_le _, Nat.zero_le _⟩ (k_I (fun H locs hI => ?_))
  refine lv_istore (lv' := [(4, .int (iI (k % 10))), (0, .ref (gA g 18)), (1, .ref (gA g 25)), (2, .int (iI x)), (3, .int (iI w))]) hx hb dX7_doesOn_5 hl (by decide) rfl (fun ls hl => ?_)
  refine lv_aload_n hx hb dX7_doesOn_7 rfl (lv_at hl 1 rfl) ?_
  refine r_get C hI 18 (by decide) rfl rfl hin7 7 (by decide) (fn := "glove") (fd := "[I") (index := 16) (by decide +kernel) ⟨rfl, rfl, rfl⟩ (v := .ref (gA g 21)) rfl dX7_doesOn_8 ?_
  refine lv_iconst (v := iI 3) hx hb dX7_doesOn_11 rfl ?_
  refine lv_iload_n hx hb dX7_doesOn_12 rfl (lv_at hl 3 rfl) ?_
  refine r_imul hx hb dX7_doesOn_13 ?_
  refine lv_iconst (v := iI 1) hx hb dX7_doesOn_14 rfl ?_
  refine r_iadd hx hb dX7_doesOn_15 ?_
  refine r_ald C hI 21 (by decide) rfl (by omega) (by decide) dX7_doesOn_16 ?_
  refine r_tsw hx hb (by omega) dX7_doesOn_17 (by decide) (fun j hj c_1 => ?_) (fun c_1 => ?_)
  · match j, hj with
    | 0, _ =>
      have c_1 : M 21 ((3 * x) + 1) = 1 := c_1
      refine W.eq (g2 := F0 m 44 ls []) rfl ?_
      refine lv_iload hx hb dX7_doesOn_44 (lv_at hl 0 rfl) ?_
      refine lv_iconst (v := iI 4) hx hb dX7_doesOn_46 rfl ?_
      refine r_icmp_le hx hb (tgt := 57) (by omega) (by decide) dX7_doesOn_47 (by decide) (fun c_2 => ?_) (fun c_2 => ?_)
      · refine lv_iload hx hb dX7_doesOn_57 (lv_at hl 0 rfl) ?_
        refine r_iret C hr hlk hI ?_ dX7_doesOn_59
        exact ⟨congrArg (fun q => some (Value.int (iI q))) (show k % 10 = repO (M 21 (3 * x + 1)) k (M 20 (3 * w)) from by unfold repO; first | (rw [if_neg (by omega), if_pos (by assumption), ← gf]; first | rw [if_pos (by assumption)] | rw [if_neg (by assumption)]) | ((repeat' split) <;> omega)), rfl⟩
      · refine lv_iload hx hb dX7_doesOn_50 (lv_at hl 0 rfl) ?_
        refine lv_iconst (v := iI 4) hx hb dX7_doesOn_52 rfl ?_
        refine r_isub hx hb dX7_doesOn_53 ?_
        refine lv_goto (tgt := 59) hx hb dX7_doesOn_54 (by decide) ?_
        refine r_iret C hr hlk hI ?_ dX7_doesOn_59
        exact ⟨congrArg (fun q => some (Value.int (iI q))) (show (k % 10) - 4 = repO (M 21 (3 * x + 1)) k (M 20 (3 * w)) from by unfold repO; first | (rw [if_neg (by omega), if_pos (by assumption), ← gf]; first | rw [if_pos (by assumption)] | rw [if_neg (by assumption)]) | ((repeat' split) <;> omega)), rfl⟩
    | 1, _ =>
      have c_1 : M 21 ((3 * x) + 1) = 2 := c_1
      refine W.eq (g2 := F0 m 60 ls []) rfl ?_
      refine lv_aload_n hx hb dX7_doesOn_60 rfl (lv_at hl 2 rfl) ?_
      refine lv_iconst (v := iI 5) hx hb dX7_doesOn_61 rfl ?_
      refine lv_iload_n hx hb dX7_doesOn_62 rfl (lv_at hl 3 rfl) ?_
      refine r_imul hx hb dX7_doesOn_63 ?_
      refine r_ald C hI 25 (by decide) rfl (by omega) (by decide) dX7_doesOn_64 ?_
      refine r_if_ne hx hb (tgt := 72) (by omega) dX7_doesOn_65 (by decide) (fun c_3 => ?_) (fun c_3 => ?_)
      · refine lv_aload_n hx hb dX7_doesOn_72 rfl (lv_at hl 2 rfl) ?_
        refine lv_iconst (v := iI 5) hx hb dX7_doesOn_73 rfl ?_
        refine lv_iload_n hx hb dX7_doesOn_74 rfl (lv_at hl 3 rfl) ?_
        refine r_imul hx hb dX7_doesOn_75 ?_
        refine lv_iconst (v := iI 1) hx hb dX7_doesOn_76 rfl ?_
        refine r_iadd hx hb dX7_doesOn_77 ?_
        refine r_ald C hI 25 (by decide) rfl (by omega) (by decide) dX7_doesOn_78 ?_
        refine r_iret C hr hlk hI ?_ dX7_doesOn_79
        exact ⟨congrArg (fun q => some (Value.int (iI q))) (show M 25 ((5 * x) + 1) = repO (M 21 (3 * x + 1)) k (M 20 (3 * w)) from by unfold repO; first | (rw [if_neg (by omega), if_pos (by assumption), ← gf]; first | rw [if_pos (by assumption)] | rw [if_neg (by assumption)]) | ((repeat' split) <;> omega)), rfl⟩
      · refine lv_iconst (v := iI 0) hx hb dX7_doesOn_68 rfl ?_
        refine lv_goto (tgt := 79) hx hb dX7_doesOn_69 (by decide) ?_
        refine r_iret C hr hlk hI ?_ dX7_doesOn_79
        exact ⟨congrArg (fun q => some (Value.int (iI q))) (show 0 = repO (M 21 (3 * x + 1)) k (M 20 (3 * w)) from by unfold repO; first | (rw [if_neg (by omega), if_pos (by assumption), ← gf]; first | rw [if_pos (by assumption)] | rw [if_neg (by assumption)]) | ((repeat' split) <;> omega)), rfl⟩
    | 2, _ =>
      have c_1 : M 21 ((3 * x) + 1) = 3 := c_1
      refine W.eq (g2 := F0 m 80 ls []) rfl ?_
      refine lv_iload hx hb dX7_doesOn_80 (lv_at hl 0 rfl) ?_
      refine lv_aload_n hx hb dX7_doesOn_82 rfl (lv_at hl 1 rfl) ?_
      refine r_get C hI 18 (by decide) rfl rfl hin7 6 (by decide) (fn := "person") (fd := "[I") (index := 13) (by decide +kernel) ⟨rfl, rfl, rfl⟩ (v := .ref (gA g 20)) rfl dX7_doesOn_83 ?_
      refine lv_iconst (v := iI 3) hx hb dX7_doesOn_86 rfl ?_
      refine lv_iload_n hx hb dX7_doesOn_87 rfl (lv_at hl 4 rfl) ?_
      refine r_imul hx hb dX7_doesOn_88 ?_
      refine r_ald C hI 20 (by decide) rfl (by omega) (by decide) dX7_doesOn_89 ?_
      refine r_icmp_ne hx hb (tgt := 97) (by omega) (by omega) dX7_doesOn_90 (by decide) (fun c_4 => ?_) (fun c_4 => ?_)
      · refine lv_iload hx hb dX7_doesOn_97 (lv_at hl 0 rfl) ?_
        refine r_iret C hr hlk hI ?_ dX7_doesOn_99
        exact ⟨congrArg (fun q => some (Value.int (iI q))) (show k % 10 = repO (M 21 (3 * x + 1)) k (M 20 (3 * w)) from by unfold repO; first | (rw [if_neg (by omega), if_pos (by assumption), ← gf]; first | rw [if_pos (by assumption)] | rw [if_neg (by assumption)]) | ((repeat' split) <;> omega)), rfl⟩
      · refine lv_iconst (v := iI 0) hx hb dX7_doesOn_93 rfl ?_
        refine lv_goto (tgt := 99) hx hb dX7_doesOn_94 (by decide) ?_
        refine r_iret C hr hlk hI ?_ dX7_doesOn_99
        exact ⟨congrArg (fun q => some (Value.int (iI q))) (show 0 = repO (M 21 (3 * x + 1)) k (M 20 (3 * w)) from by unfold repO; first | (rw [if_neg (by omega), if_pos (by assumption), ← gf]; first | rw [if_pos (by assumption)] | rw [if_neg (by assumption)]) | ((repeat' split) <;> omega)), rfl⟩
  · refine W.eq (g2 := F0 m 100 ls []) rfl ?_
    refine lv_iload hx hb dX7_doesOn_100 (lv_at hl 0 rfl) ?_
    refine r_iret C hr hlk hI ?_ dX7_doesOn_102
    exact ⟨congrArg (fun q => some (Value.int (iI q))) (show k % 10 = repO (M 21 (3 * x + 1)) k (M 20 (3 * w)) from by unfold repO; first | (rw [if_neg (by omega), if_pos (by assumption), ← gf]; first | rw [if_pos (by assumption)] | rw [if_neg (by assumption)]) | ((repeat' split) <;> omega)), rfl⟩
set_option maxHeartbeats 4000000 in
set_option maxRecDepth 100000 in
theorem c_X7_keepDoing_25 (l : Launch) (g : GT) (M : Mem) (x : Int) (d : Int) (k : Int) (hx : 0 ≤ x ∧ x < 4) (hk : KOK k (M 21 (3 * x))) (hrm : 1 ≤ M 21 (3 * x) ∧ M 21 (3 * x) ≤ 3) (hd : 1 ≤ d ∧ d ≤ 7) (hg : KG k (M 25) (5 * x)) : Ctr l g yX7_keepDoing wsX7_keepDoing ({ frames := 0, cells := 0, slots := 0, locals := 0 } : Room) [.ref (gA g 18), .ref (gA g 25), .int (iI x), .int (iI d)] M (pX (fun u => KD 25 (5 * x) k d (M 21 (3 * x)) M u)) := by
  refine Ctr.mk (cc := cX7_keepDoing) (maxL := 5) (ret := none) (lv := [(0, .ref (gA g 18)), (1, .ref (gA g 25)), (2, .int (iI x)), (3, .int (iI d))]) (by decide) rfl (Nat.le_of_ble_eq_true rfl) rfl ?_
  intro p e s m below meth c C hr hlk hI ls hl
  have C : CallFix p m c cX7_keepDoing 5 s ([.ref (gA g 18), .ref (gA g 25), .int (iI x), .int (iI d)] : List Value).toArray wsX7_keepDoing RX7 := C
  have hx := C.1
  have hb := C.2.1
  have hts := C.2.2.2.2
  have hin7 : ∀ w ∈ u_ws RX7 TX7 31, w ∈ wsX7_keepDoing := by decide +kernel
  have gb := KG_b hg
  refine lv_aload_n hx hb dX7_keepDoing_0 rfl (lv_at hl 1 rfl) ?_
  refine lv_iconst (v := iI 5) hx hb dX7_keepDoing_1 rfl ?_
  refine lv_iload_n hx hb dX7_keepDoing_2 rfl (lv_at hl 2 rfl) ?_
  refine r_imul hx hb dX7_keepDoing_3 ?_
  refine r_ald C hI 25 (by decide) rfl (by omega) (by decide) dX7_keepDoing_4 ?_
  refine lv_aload_n hx hb dX7_keepDoing_5 rfl (lv_at hl 0 rfl) ?_
  refine r_get C hI 18 (by decide) rfl rfl hin7 7 (by decide) (fn := "glove") (fd := "[I") (index := 16) (by decide +kernel) ⟨rfl, rfl, rfl⟩ (v := .ref (gA g 21)) rfl dX7_keepDoing_6 ?_
  refine lv_iconst (v := iI 3) hx hb dX7_keepDoing_9 rfl ?_
  refine lv_iload_n hx hb dX7_keepDoing_10 rfl (lv_at hl 2 rfl) ?_
  refine r_imul hx hb dX7_keepDoing_11 ?_
  refine r_ald C hI 21 (by decide) rfl (by omega) (by decide) dX7_keepDoing_12 ?_
  refine r_icmp_ne hx hb (tgt := 62) (by omega) (by omega) dX7_keepDoing_13 (by decide) (fun c_1 => ?_) (fun c_1 => ?_)
  · refine lv_aload_n hx hb dX7_keepDoing_62 rfl (lv_at hl 1 rfl) ?_
    refine lv_iconst (v := iI 5) hx hb dX7_keepDoing_63 rfl ?_
    refine lv_iload_n hx hb dX7_keepDoing_64 rfl (lv_at hl 2 rfl) ?_
    refine r_imul hx hb dX7_keepDoing_65 ?_
    refine lv_dup2_11 hx hb dX7_keepDoing_66 rfl rfl ?_
    refine r_ald C hI 25 (by decide) rfl (by omega) (by decide) dX7_keepDoing_67 ?_
    refine lv_iconst (v := iI 1) hx hb dX7_keepDoing_68 rfl ?_
    refine r_iadd hx hb dX7_keepDoing_69 ?_
    refine r_ast C hI 25 (by decide) (fun _ => rfl) (by omega) (by decide) dX7_keepDoing_70 (fun H locs hI => ?_)
    refine lv_aload_n hx hb dX7_keepDoing_71 rfl (lv_at hl 1 rfl) ?_
    refine lv_iconst (v := iI 5) hx hb dX7_keepDoing_72 rfl ?_
    refine lv_iload_n hx hb dX7_keepDoing_73 rfl (lv_at hl 2 rfl) ?_
    refine r_imul hx hb dX7_keepDoing_74 ?_
    refine lv_aload_n hx hb dX7_keepDoing_75 rfl (lv_at hl 1 rfl) ?_
    refine lv_iconst (v := iI 5) hx hb dX7_keepDoing_76 rfl ?_
    refine lv_iload_n hx hb dX7_keepDoing_77 rfl (lv_at hl 2 rfl) ?_
    refine r_imul hx hb dX7_keepDoing_78 ?_
    refine r_ald C hI 25 (by decide) rfl (by omega) (by decide) dX7_keepDoing_79 ?_
    refine r_eqI (z2 := (M 25 (5 * x)) + 1) (by first | rfl | (repeat first | rw [mset_s, rw1_s] | rw [mset_s, rw1_n _ _ (by omega)] | rw [mset_n _ _ _ (by decide)])) ?_
    refine r_iadd hx hb dX7_keepDoing_80 ?_
    refine lv_iload_n hx hb dX7_keepDoing_81 rfl (lv_at hl 3 rfl) ?_
    refine r_ast C hI 25 (by decide) (fun _ => rfl) (by omega) (by decide) dX7_keepDoing_82 (fun H locs hI => ?_)
    refine r_vret C hr hlk hI ?_ dX7_keepDoing_83
    exact ⟨rfl, (show (fun u => KD 25 (5 * x) k d (M 21 (3 * x)) M u) (mset (mset M 25 (5 * x) ((M 25 (5 * x)) + 1)) 25 ((5 * x) + ((M 25 (5 * x)) + 1)) d) from by first | exact kd_full h2 (by omega) hk hrm hd hg (by omega) | exact kd_more hk hrm hd hg (by omega))⟩
  · refine lv_iconst (v := iI 1) hx hb dX7_keepDoing_16 rfl ?_
    refine lv_istore (lv' := [(4, .int (iI 1)), (0, .ref (gA g 18)), (1, .ref (gA g 25)), (2, .int (iI x)), (3, .int (iI d))]) hx hb dX7_keepDoing_17 hl (by decide) rfl (fun ls hl => ?_)
    have lp19 : ∀ (n19 : Nat) (kk : Int) (N : Mem), (1 ≤ kk ∧ kk ≤ M 21 (3 * x)) → (N = shM M 25 (5 * x) kk) → (M 21 (3 * x) - kk).toNat < n19 → ∀ (H : Heap) (locs : List Loc), HI g s H locs N → ∀ ls : Array Slot, lv_has ls 5 [(4, .int (iI kk)), (0, .ref (gA g 18)), (1, .ref (gA g 25)), (2, .int (iI x)), (3, .int (iI d))] → W p l e ({ frames := 0, cells := 0, slots := 0, locals := 0 } : Room) s m ([.ref (gA g 18), .ref (gA g 25), .int (iI x), .int (iI d)] : List Value).toArray below meth c H locs 0 0 (MQ below (QV g (pX (fun u => KD 25 (5 * x) k d (M 21 (3 * x)) M u))) ([.ref (gA g 18), .ref (gA g 25), .int (iI x), .int (iI d)] : List Value).toArray s 0 0 (AA g)) (F0 m 19 ls []) := by
      intro n19
      induction n19 with
      | zero => intro kk N h1 h2 hn19; exact absurd hn19 (Nat.not_lt_zero _)
      | succ n19 ih19 =>
        intro kk N h1 h2 hn19 H locs hI ls hl
        have eN0 : N 25 (5 * x) = M 25 (5 * x) := by rw [h2, shM_b]
        refine lv_iload hx hb dX7_keepDoing_19 (lv_at hl 0 rfl) ?_
        refine lv_aload_n hx hb dX7_keepDoing_21 rfl (lv_at hl 2 rfl) ?_
        refine lv_iconst (v := iI 5) hx hb dX7_keepDoing_22 rfl ?_
        refine lv_iload_n hx hb dX7_keepDoing_23 rfl (lv_at hl 3 rfl) ?_
        refine r_imul hx hb dX7_keepDoing_24 ?_
        refine r_ald C hI 25 (by decide) rfl (by omega) (by decide) dX7_keepDoing_25 ?_
        refine r_icmp_ge hx hb (tgt := 53) (by omega) (by omega) dX7_keepDoing_26 (by decide) (fun c_2 => ?_) (fun c_2 => ?_)
        · refine lv_aload_n hx hb dX7_keepDoing_53 rfl (lv_at hl 2 rfl) ?_
          refine lv_iconst (v := iI 5) hx hb dX7_keepDoing_54 rfl ?_
          refine lv_iload_n hx hb dX7_keepDoing_55 rfl (lv_at hl 3 rfl) ?_
          refine r_imul hx hb dX7_keepDoing_56 ?_
          refine lv_dup2_11 hx hb dX7_keepDoing_57 rfl rfl ?_
          refine r_ald C hI 25 (by decide) rfl (by omega) (by decide) dX7_keepDoing_58 ?_
          refine lv_iconst (v := iI 1) hx hb dX7_keepDoing_59 rfl ?_
          refine r_isub hx hb dX7_keepDoing_60 ?_
          refine r_ast C hI 25 (by decide) (fun _ => rfl) (by omega) (by decide) dX7_keepDoing_61 (fun H locs hI => ?_)
          refine lv_aload_n hx hb dX7_keepDoing_62 rfl (lv_at hl 2 rfl) ?_
          refine lv_iconst (v := iI 5) hx hb dX7_keepDoing_63 rfl ?_
          refine lv_iload_n hx hb dX7_keepDoing_64 rfl (lv_at hl 3 rfl) ?_
          refine r_imul hx hb dX7_keepDoing_65 ?_
          refine lv_dup2_11 hx hb dX7_keepDoing_66 rfl rfl ?_
          refine r_ald C hI 25 (by decide) rfl (by omega) (by decide) dX7_keepDoing_67 ?_
          refine r_eqI (z2 := (N 25 (5 * x)) - 1) (by first | rfl | (repeat first | rw [mset_s, rw1_s] | rw [mset_s, rw1_n _ _ (by omega)] | rw [mset_n _ _ _ (by decide)])) ?_
          refine lv_iconst (v := iI 1) hx hb dX7_keepDoing_68 rfl ?_
          refine r_iadd hx hb dX7_keepDoing_69 ?_
          refine r_ast C hI 25 (by decide) (fun _ => rfl) (by omega) (by decide) dX7_keepDoing_70 (fun H locs hI => ?_)
          refine lv_aload_n hx hb dX7_keepDoing_71 rfl (lv_at hl 2 rfl) ?_
          refine lv_iconst (v := iI 5) hx hb dX7_keepDoing_72 rfl ?_
          refine lv_iload_n hx hb dX7_keepDoing_73 rfl (lv_at hl 3 rfl) ?_
          refine r_imul hx hb dX7_keepDoing_74 ?_
          refine lv_aload_n hx hb dX7_keepDoing_75 rfl (lv_at hl 2 rfl) ?_
          refine lv_iconst (v := iI 5) hx hb dX7_keepDoing_76 rfl ?_
          refine lv_iload_n hx hb dX7_keepDoing_77 rfl (lv_at hl 3 rfl) ?_
          refine r_imul hx hb dX7_keepDoing_78 ?_
          refine r_ald C hI 25 (by decide) rfl (by omega) (by decide) dX7_keepDoing_79 ?_
          refine r_eqI (z2 := ((N 25 (5 * x)) - 1) + 1) (by first | rfl | (repeat first | rw [mset_s, rw1_s] | rw [mset_s, rw1_n _ _ (by omega)] | rw [mset_n _ _ _ (by decide)])) ?_
          refine r_iadd hx hb dX7_keepDoing_80 ?_
          refine lv_iload_n hx hb dX7_keepDoing_81 rfl (lv_at hl 4 rfl) ?_
          refine r_ast C hI 25 (by decide) (fun _ => rfl) (by omega) (by decide) dX7_keepDoing_82 (fun H locs hI => ?_)
          refine r_vret C hr hlk hI ?_ dX7_keepDoing_83
          exact ⟨rfl, (show (fun u => KD 25 (5 * x) k d (M 21 (3 * x)) M u) (mset (mset (mset N 25 (5 * x) ((N 25 (5 * x)) - 1)) 25 (5 * x) (((N 25 (5 * x)) - 1) + 1)) 25 ((5 * x) + (((N 25 (5 * x)) - 1) + 1)) d) from by first | exact kd_full h2 (by omega) hk hrm hd hg (by omega) | exact kd_more hk hrm hd hg (by omega))⟩
        · refine lv_aload_n hx hb dX7_keepDoing_29 rfl (lv_at hl 2 rfl) ?_
          refine lv_iconst (v := iI 5) hx hb dX7_keepDoing_30 rfl ?_
          refine lv_iload_n hx hb dX7_keepDoing_31 rfl (lv_at hl 3 rfl) ?_
          refine r_imul hx hb dX7_keepDoing_32 ?_
          refine lv_iload hx hb dX7_keepDoing_33 (lv_at hl 0 rfl) ?_
          refine r_iadd hx hb dX7_keepDoing_35 ?_
          refine lv_aload_n hx hb dX7_keepDoing_36 rfl (lv_at hl 2 rfl) ?_
          refine lv_iconst (v := iI 5) hx hb dX7_keepDoing_37 rfl ?_
          refine lv_iload_n hx hb dX7_keepDoing_38 rfl (lv_at hl 3 rfl) ?_
          refine r_imul hx hb dX7_keepDoing_39 ?_
          refine lv_iload hx hb dX7_keepDoing_40 (lv_at hl 0 rfl) ?_
          refine r_iadd hx hb dX7_keepDoing_42 ?_
          refine lv_iconst (v := iI 1) hx hb dX7_keepDoing_43 rfl ?_
          refine r_iadd hx hb dX7_keepDoing_44 ?_
          refine r_ald C hI 25 (by decide) rfl (by omega) (by decide) dX7_keepDoing_45 ?_
          refine r_ast C hI 25 (by decide) (fun _ => rfl) (by omega) (by decide) dX7_keepDoing_46 (fun H locs hI => ?_)
          refine lv_iinc (v := iI (kk + 1)) (lv' := [(4, .int (iI (kk + 1))), (0, .ref (gA g 18)), (1, .ref (gA g 25)), (2, .int (iI x)), (3, .int (iI d))]) hx hb dX7_keepDoing_47 hl (k := 0) rfl (iI_add _ _) (by decide) rfl (fun ls hl => ?_)
          refine lv_goto (tgt := 19) hx hb dX7_keepDoing_50 (by decide) ?_
          exact ih19 (kk + 1) (mset N 25 ((5 * x) + kk) (N 25 (((5 * x) + kk) + 1))) (by omega) (by (rw [h2]; exact shM_s _ _ _ _ h1.1)) (by omega) _ _ hI ls (lv_sub hl [0, 1, 2, 3, 4] rfl)
    exact lp19 _ 1 M (by omega) (by exact shM_0 _ _ _) (Nat.lt_succ_self _) _ _ hI ls (lv_sub hl [0, 1, 2, 3, 4] rfl)
set_option maxHeartbeats 4000000 in
set_option maxRecDepth 100000 in
theorem c_X7_begin (l : Launch) (g : GT) (M : Mem) : Ctr l g yX7_begin wsX7_begin ({ frames := 0, cells := 0, slots := 0, locals := 0 } : Room) [.ref (gA g 18)] M (pX (fun u => u = cpA M 24 0 25 0 21)) := by
  refine Ctr.mk (cc := cX7_begin) (maxL := 2) (ret := none) (lv := [(0, .ref (gA g 18))]) (by decide) rfl (Nat.le_of_ble_eq_true rfl) rfl ?_
  intro p e s m below meth c C hr hlk hI ls hl
  have C : CallFix p m c cX7_begin 2 s ([.ref (gA g 18)] : List Value).toArray wsX7_begin RX7 := C
  have hx := C.1
  have hb := C.2.1
  have hts := C.2.2.2.2
  have hin7 : ∀ w ∈ u_ws RX7 TX7 31, w ∈ wsX7_begin := by decide +kernel
  refine lv_iconst (v := iI 0) hx hb dX7_begin_0 rfl ?_
  refine lv_istore_n (lv' := [(1, .int (iI 0)), (0, .ref (gA g 18))]) hx hb dX7_begin_1 rfl hl (by decide) rfl (fun ls hl => ?_)
  have lp2 : ∀ (n2 : Nat) (kk : Int) (N : Mem), (0 ≤ kk ∧ kk ≤ 21) → (N = cpA M 24 0 25 0 kk) → (21 - kk).toNat < n2 → ∀ (H : Heap) (locs : List Loc), HI g s H locs N → ∀ ls : Array Slot, lv_has ls 2 [(1, .int (iI kk)), (0, .ref (gA g 18))] → W p l e ({ frames := 0, cells := 0, slots := 0, locals := 0 } : Room) s m ([.ref (gA g 18)] : List Value).toArray below meth c H locs 0 0 (MQ below (QV g (pX (fun u => u = cpA M 24 0 25 0 21))) ([.ref (gA g 18)] : List Value).toArray s 0 0 (AA g)) (F0 m 2 ls []) := by
    intro n2
    induction n2 with
    | zero => intro kk N h1 h2 hn2; exact absurd hn2 (Nat.not_lt_zero _)
    | succ n2 ih2 =>
      intro kk N h1 h2 hn2 H locs hI ls hl
      refine lv_iload_n hx hb dX7_begin_2 rfl (lv_at hl 0 rfl) ?_
      refine lv_bipush (v := iI 21) hx hb dX7_begin_3 (by decide +kernel) ?_
      refine r_icmp_ge hx hb (tgt := 26) (by omega) (by decide) dX7_begin_5 (by decide) (fun c_1 => ?_) (fun c_1 => ?_)
      · refine r_vret C hr hlk hI ?_ dX7_begin_26
        exact ⟨rfl, (show (fun u => u = cpA M 24 0 25 0 21) N from by (rw [h2, show kk = 21 from by omega]))⟩
      · refine lv_aload_n hx hb dX7_begin_8 rfl (lv_at hl 1 rfl) ?_
        refine r_get C hI 18 (by decide) rfl rfl hin7 13 (by decide) (fn := "trial") (fd := "[I") (index := 28) (by decide +kernel) ⟨rfl, rfl, rfl⟩ (v := .ref (gA g 25)) rfl dX7_begin_9 ?_
        refine lv_iload_n hx hb dX7_begin_12 rfl (lv_at hl 0 rfl) ?_
        refine lv_aload_n hx hb dX7_begin_13 rfl (lv_at hl 1 rfl) ?_
        refine r_get C hI 18 (by decide) rfl rfl hin7 12 (by decide) (fn := "page") (fd := "[I") (index := 25) (by decide +kernel) ⟨rfl, rfl, rfl⟩ (v := .ref (gA g 24)) rfl dX7_begin_14 ?_
        refine lv_iload_n hx hb dX7_begin_17 rfl (lv_at hl 0 rfl) ?_
        refine r_ald C hI 24 (by decide) rfl (by omega) (by decide) dX7_begin_18 ?_
        refine r_ast C hI 25 (by decide) (fun _ => rfl) (by omega) (by decide) dX7_begin_19 (fun H locs hI => ?_)
        refine lv_iinc (v := iI (kk + 1)) (lv' := [(1, .int (iI (kk + 1))), (0, .ref (gA g 18))]) hx hb dX7_begin_20 hl (k := 0) rfl (iI_add _ _) (by decide) rfl (fun ls hl => ?_)
        refine lv_goto (tgt := 2) hx hb dX7_begin_23 (by decide) ?_
        exact ih2 (kk + 1) (mset N 25 kk (N 24 kk)) (by omega) (by (have h3 := @cpA_s M 24 0 25 0 kk h1.1 (Or.inl (by decide))); rw [Int.zero_add, ← h2] at h3; exact h3) (by omega) _ _ hI ls (lv_sub hl [0, 1] rfl)
  exact lp2 _ 0 M (by omega) (by exact cpA_0 _ _ _ _ _) (Nat.lt_succ_self _) _ _ hI ls (lv_sub hl [0, 1] rfl)
set_option maxHeartbeats 4000000 in
set_option maxRecDepth 100000 in
theorem c_X7_power (l : Launch) (g : GT) (M : Mem) (a : Int) (n : Int) (hn : 0 ≤ n ∧ n < 100) : Ctr l g yX7_power wsX7_power ({ frames := 0, cells := 0, slots := 0, locals := 0 } : Room) [.int (iI a), .int (iI n)] M (pI (pwN a (Int.toNat n)) M) := by
  refine Ctr.mk (cc := cX7_power) (maxL := 4) (ret := some .int) (lv := [(0, .int (iI a)), (1, .int (iI n))]) (by decide) rfl (Nat.le_of_ble_eq_true rfl) rfl ?_
  intro p e s m below meth c C hr hlk hI ls hl
  have C : CallFix p m c cX7_power 4 s ([.int (iI a), .int (iI n)] : List Value).toArray wsX7_power RX7 := C
  have hx := C.1
  have hb := C.2.1
  have hts := C.2.2.2.2
  refine lv_iconst (v := iI 1) hx hb dX7_power_0 rfl ?_
  refine lv_istore_n (lv' := [(2, .int (iI 1)), (0, .int (iI a)), (1, .int (iI n))]) hx hb dX7_power_1 rfl hl (by decide) rfl (fun ls hl => ?_)
  refine lv_iconst (v := iI 0) hx hb dX7_power_2 rfl ?_
  refine lv_istore_n (lv' := [(3, .int (iI 0)), (2, .int (iI 1)), (0, .int (iI a)), (1, .int (iI n))]) hx hb dX7_power_3 rfl hl (by decide) rfl (fun ls hl => ?_)
  have lp4 : ∀ (n4 : Nat) (kk : Int) (al : Int) (jj : Nat), (kk = (jj : Int) ∧ (jj : Int) ≤ n) → (al = pwN a jj) → n.toNat - jj < n4 → ∀ (H : Heap) (locs : List Loc), HI g s H locs M → ∀ ls : Array Slot, lv_has ls 4 [(3, .int (iI kk)), (2, .int (iI al)), (0, .int (iI a)), (1, .int (iI n))] → W p l e ({ frames := 0, cells := 0, slots := 0, locals := 0 } : Room) s m ([.int (iI a), .int (iI n)] : List Value).toArray below meth c H locs 0 0 (MQ below (QV g (pI (pwN a (Int.toNat n)) M)) ([.int (iI a), .int (iI n)] : List Value).toArray s 0 0 (AA g)) (F0 m 4 ls []) := by
    intro n4
    induction n4 with
    | zero => intro kk al jj h1 h2 hn4; exact absurd hn4 (Nat.not_lt_zero _)
    | succ n4 ih4 =>
      intro kk al jj h1 h2 hn4 H locs hI ls hl
      refine lv_iload_n hx hb dX7_power_4 rfl (lv_at hl 0 rfl) ?_
      refine lv_iload_n hx hb dX7_power_5 rfl (lv_at hl 3 rfl) ?_
      refine r_icmp_ge hx hb (tgt := 19) (by omega) (by omega) dX7_power_6 (by decide) (fun c_1 => ?_) (fun c_1 => ?_)
      · refine lv_iload_n hx hb dX7_power_19 rfl (lv_at hl 1 rfl) ?_
        refine r_iret C hr hlk hI ?_ dX7_power_20
        exact ⟨congrArg (fun q => some (Value.int (iI q))) (show al = pwN a (Int.toNat n) from by (rw [h2, show n.toNat = jj from by omega])), rfl⟩
      · refine lv_iload_n hx hb dX7_power_9 rfl (lv_at hl 1 rfl) ?_
        refine lv_iload_n hx hb dX7_power_10 rfl (lv_at hl 2 rfl) ?_
        refine r_imul hx hb dX7_power_11 ?_
        refine lv_istore_n (lv' := [(2, .int (iI (al * a))), (3, .int (iI kk)), (0, .int (iI a)), (1, .int (iI n))]) hx hb dX7_power_12 rfl hl (by decide) rfl (fun ls hl => ?_)
        refine lv_iinc (v := iI (kk + 1)) (lv' := [(3, .int (iI (kk + 1))), (2, .int (iI (al * a))), (0, .int (iI a)), (1, .int (iI n))]) hx hb dX7_power_13 hl (k := 1) rfl (iI_add _ _) (by decide) rfl (fun ls hl => ?_)
        refine lv_goto (tgt := 4) hx hb dX7_power_16 (by decide) ?_
        exact ih4 (kk + 1) (al * a) (jj + 1) (by omega) (by (rw [h2]; rfl)) (by omega) _ _ hI ls (lv_sub hl [0, 1, 2, 3] rfl)
  exact lp4 _ 0 1 0 (by omega) (by rfl) (Nat.lt_succ_self _) _ _ hI ls (lv_sub hl [0, 1, 2, 3] rfl)
set_option maxHeartbeats 4000000 in
set_option maxRecDepth 100000 in
theorem c_X7_note (l : Launch) (g : GT) (M : Mem) (ha : 0 ≤ M 18 15 ∧ M 18 15 ≤ 14) : Ctr l g yX7_note wsX7_note ({ frames := 0, cells := 0, slots := 0, locals := 0 } : Room) [.ref (gA g 18)] M (pX (fun u => u = noM M)) := by
  refine Ctr.mk (cc := cX7_note) (maxL := 2) (ret := none) (lv := [(0, .ref (gA g 18))]) (by decide) rfl (Nat.le_of_ble_eq_true rfl) rfl ?_
  intro p e s m below meth c C hr hlk hI ls hl
  have C : CallFix p m c cX7_note 2 s ([.ref (gA g 18)] : List Value).toArray wsX7_note RX7 := C
  have hx := C.1
  have hb := C.2.1
  have hts := C.2.2.2.2
  have hin7 : ∀ w ∈ u_ws RX7 TX7 31, w ∈ wsX7_note := by decide +kernel
  refine lv_aload_n hx hb dX7_note_0 rfl (lv_at hl 0 rfl) ?_
  refine r_get C hI 18 (by decide) rfl rfl hin7 15 (by decide) (fn := "acts") (fd := "I") (index := 94) (by decide +kernel) ⟨rfl, rfl, rfl⟩ (v := .int (iI (M 18 15))) rfl dX7_note_1 ?_
  refine lv_bipush (v := iI 14) hx hb dX7_note_4 (by decide +kernel) ?_
  refine r_icmp_ne hx hb (tgt := 49) (by omega) (by decide) dX7_note_6 (by decide) (fun c_1 => ?_) (fun c_1 => ?_)
  · refine lv_iconst (v := iI 0) hx hb dX7_note_49 rfl ?_
    refine lv_istore_n (lv' := [(1, .int (iI 0)), (0, .ref (gA g 18))]) hx hb dX7_note_50 rfl hl (by decide) rfl (fun ls hl => ?_)
    have lp51 : ∀ (n51 : Nat) (k2 : Int) (N2 : Mem) (M2 : Mem), (0 ≤ k2 ∧ k2 ≤ 21) → (N2 = cpA M2 24 0 26 (21 * M2 18 15) k2) → ((M 18 15 = 14 ∧ M2 = mset (cpA M 26 21 26 0 273) 18 15 (M 18 15 - 1)) ∨ (¬ M 18 15 = 14 ∧ M2 = M)) → (0 ≤ M2 18 15 ∧ M2 18 15 < 14) → (21 - k2).toNat < n51 → ∀ (H : Heap) (locs : List Loc), HI g s H locs N2 → ∀ ls : Array Slot, lv_has ls 2 [(1, .int (iI k2)), (0, .ref (gA g 18))] → W p l e ({ frames := 0, cells := 0, slots := 0, locals := 0 } : Room) s m ([.ref (gA g 18)] : List Value).toArray below meth c H locs 0 0 (MQ below (QV g (pX (fun u => u = noM M))) ([.ref (gA g 18)] : List Value).toArray s 0 0 (AA g)) (F0 m 51 ls []) := by
      intro n51
      induction n51 with
      | zero => intro k2 N2 M2 k1 k3 k4 k5 hn51; exact absurd hn51 (Nat.not_lt_zero _)
      | succ n51 ih51 =>
        intro k2 N2 M2 k1 k3 k4 k5 hn51 H locs hI ls hl
        have eN2 : N2 18 15 = M2 18 15 := by rw [k3]; rfl
        refine lv_iload_n hx hb dX7_note_51 rfl (lv_at hl 0 rfl) ?_
        refine lv_bipush (v := iI 21) hx hb dX7_note_52 (by decide +kernel) ?_
        refine r_icmp_ge hx hb (tgt := 83) (by omega) (by decide) dX7_note_54 (by decide) (fun c_2 => ?_) (fun c_2 => ?_)
        · refine lv_aload_n hx hb dX7_note_83 rfl (lv_at hl 1 rfl) ?_
          refine lv_dup hx hb dX7_note_84 rfl ?_
          refine r_get C hI 18 (by decide) rfl rfl hin7 15 (by decide) (fn := "acts") (fd := "I") (index := 94) (by decide +kernel) ⟨rfl, rfl, rfl⟩ (v := .int (iI (N2 18 15))) rfl dX7_note_85 ?_
          refine lv_iconst (v := iI 1) hx hb dX7_note_88 rfl ?_
          refine r_iadd hx hb dX7_note_89 ?_
          refine r_put C hI 18 (by decide) rfl rfl tyX7 tyX7_ok nmX7 hin7 15 (by decide) (fn := "acts") (fd := "I") (index := 94) (by decide +kernel) ⟨rfl, rfl, rfl⟩ rfl (z := (N2 18 15) + 1) rfl rfl (Nat.le_of_ble_eq_true rfl) rfl dX7_note_90 (fun H locs hI => ?_)
          refine r_vret C hr hlk hI ?_ dX7_note_93
          exact ⟨rfl, (show (fun u => u = noM M) (mset N2 18 15 ((N2 18 15) + 1)) from by (rw [eN2, k3, show k2 = 21 from by omega]); unfold noM; rcases k4 with ⟨q1, q2⟩ | ⟨q1, q2⟩ <;> first | (rw [if_pos q1, q2]; done) | (rw [if_neg q1, q2]; done) | (rw [if_pos q1, q2]; rfl) | (rw [if_neg q1, q2]; rfl))⟩
        · refine lv_aload_n hx hb dX7_note_57 rfl (lv_at hl 1 rfl) ?_
          refine r_get C hI 18 (by decide) rfl rfl hin7 14 (by decide) (fn := "book") (fd := "[I") (index := 31) (by decide +kernel) ⟨rfl, rfl, rfl⟩ (v := .ref (gA g 26)) rfl dX7_note_58 ?_
          refine lv_bipush (v := iI 21) hx hb dX7_note_61 (by decide +kernel) ?_
          refine lv_aload_n hx hb dX7_note_63 rfl (lv_at hl 1 rfl) ?_
          refine r_get C hI 18 (by decide) rfl rfl hin7 15 (by decide) (fn := "acts") (fd := "I") (index := 94) (by decide +kernel) ⟨rfl, rfl, rfl⟩ (v := .int (iI (N2 18 15))) rfl dX7_note_64 ?_
          refine r_imul hx hb dX7_note_67 ?_
          refine lv_iload_n hx hb dX7_note_68 rfl (lv_at hl 0 rfl) ?_
          refine r_iadd hx hb dX7_note_69 ?_
          refine lv_aload_n hx hb dX7_note_70 rfl (lv_at hl 1 rfl) ?_
          refine r_get C hI 18 (by decide) rfl rfl hin7 12 (by decide) (fn := "page") (fd := "[I") (index := 25) (by decide +kernel) ⟨rfl, rfl, rfl⟩ (v := .ref (gA g 24)) rfl dX7_note_71 ?_
          refine lv_iload_n hx hb dX7_note_74 rfl (lv_at hl 0 rfl) ?_
          refine r_ald C hI 24 (by decide) rfl (by omega) (by decide) dX7_note_75 ?_
          refine r_ast C hI 26 (by decide) (fun _ => rfl) (by omega) (by decide) dX7_note_76 (fun H locs hI => ?_)
          refine lv_iinc (v := iI (k2 + 1)) (lv' := [(1, .int (iI (k2 + 1))), (0, .ref (gA g 18))]) hx hb dX7_note_77 hl (k := 0) rfl (iI_add _ _) (by decide) rfl (fun ls hl => ?_)
          refine lv_goto (tgt := 51) hx hb dX7_note_80 (by decide) ?_
          exact ih51 (k2 + 1) (mset N2 26 ((21 * (N2 18 15)) + k2) (N2 24 k2)) M2 (by omega) (by (have h4 := @cpA_s M2 24 0 26 (21 * M2 18 15) k2 k1.1 (Or.inl (by decide))); rw [Int.zero_add, ← k3] at h4; rw [eN2]; exact h4) (by exact k4) (by exact k5) (by omega) _ _ hI ls (lv_sub hl [0, 1] rfl)
    exact lp51 _ 0 M M (by omega) (by exact cpA_0 _ _ _ _ _) (by first | exact Or.inr ⟨by assumption, rfl⟩ | (refine Or.inl ⟨by omega, ?_⟩; rw [eN18, h2, show kk = 273 from by omega])) (by first | omega | (show 0 ≤ N 18 15 - 1 ∧ N 18 15 - 1 < 14; omega)) (Nat.lt_succ_self _) _ _ hI ls (lv_sub hl [0, 1] rfl)
  · refine lv_iconst (v := iI 0) hx hb dX7_note_9 rfl ?_
    refine lv_istore_n (lv' := [(1, .int (iI 0)), (0, .ref (gA g 18))]) hx hb dX7_note_10 rfl hl (by decide) rfl (fun ls hl => ?_)
    have lp11 : ∀ (n11 : Nat) (kk : Int) (N : Mem), (0 ≤ kk ∧ kk ≤ 273) → (N = cpA M 26 21 26 0 kk) → (273 - kk).toNat < n11 → ∀ (H : Heap) (locs : List Loc), HI g s H locs N → ∀ ls : Array Slot, lv_has ls 2 [(1, .int (iI kk)), (0, .ref (gA g 18))] → W p l e ({ frames := 0, cells := 0, slots := 0, locals := 0 } : Room) s m ([.ref (gA g 18)] : List Value).toArray below meth c H locs 0 0 (MQ below (QV g (pX (fun u => u = noM M))) ([.ref (gA g 18)] : List Value).toArray s 0 0 (AA g)) (F0 m 11 ls []) := by
      intro n11
      induction n11 with
      | zero => intro kk N h1 h2 hn11; exact absurd hn11 (Nat.not_lt_zero _)
      | succ n11 ih11 =>
        intro kk N h1 h2 hn11 H locs hI ls hl
        have eN18 : N 18 15 = M 18 15 := by rw [h2]; rfl
        refine lv_iload_n hx hb dX7_note_11 rfl (lv_at hl 0 rfl) ?_
        refine lv_sipush (v := iI 273) hx hb dX7_note_12 (by decide +kernel) ?_
        refine r_icmp_ge hx hb (tgt := 39) (by omega) (by decide) dX7_note_15 (by decide) (fun c_3 => ?_) (fun c_3 => ?_)
        · refine lv_aload_n hx hb dX7_note_39 rfl (lv_at hl 1 rfl) ?_
          refine lv_dup hx hb dX7_note_40 rfl ?_
          refine r_get C hI 18 (by decide) rfl rfl hin7 15 (by decide) (fn := "acts") (fd := "I") (index := 94) (by decide +kernel) ⟨rfl, rfl, rfl⟩ (v := .int (iI (N 18 15))) rfl dX7_note_41 ?_
          refine lv_iconst (v := iI 1) hx hb dX7_note_44 rfl ?_
          refine r_isub hx hb dX7_note_45 ?_
          refine r_put C hI 18 (by decide) rfl rfl tyX7 tyX7_ok nmX7 hin7 15 (by decide) (fn := "acts") (fd := "I") (index := 94) (by decide +kernel) ⟨rfl, rfl, rfl⟩ rfl (z := (N 18 15) - 1) rfl rfl (Nat.le_of_ble_eq_true rfl) rfl dX7_note_46 (fun H locs hI => ?_)
          refine lv_iconst (v := iI 0) hx hb dX7_note_49 rfl ?_
          refine lv_istore_n (lv' := [(1, .int (iI 0)), (0, .ref (gA g 18))]) hx hb dX7_note_50 rfl hl (by decide) rfl (fun ls hl => ?_)
          have lp51 : ∀ (n51 : Nat) (k2 : Int) (N2 : Mem) (M2 : Mem), (0 ≤ k2 ∧ k2 ≤ 21) → (N2 = cpA M2 24 0 26 (21 * M2 18 15) k2) → ((M 18 15 = 14 ∧ M2 = mset (cpA M 26 21 26 0 273) 18 15 (M 18 15 - 1)) ∨ (¬ M 18 15 = 14 ∧ M2 = M)) → (0 ≤ M2 18 15 ∧ M2 18 15 < 14) → (21 - k2).toNat < n51 → ∀ (H : Heap) (locs : List Loc), HI g s H locs N2 → ∀ ls : Array Slot, lv_has ls 2 [(1, .int (iI k2)), (0, .ref (gA g 18))] → W p l e ({ frames := 0, cells := 0, slots := 0, locals := 0 } : Room) s m ([.ref (gA g 18)] : List Value).toArray below meth c H locs 0 0 (MQ below (QV g (pX (fun u => u = noM M))) ([.ref (gA g 18)] : List Value).toArray s 0 0 (AA g)) (F0 m 51 ls []) := by
            intro n51
            induction n51 with
            | zero => intro k2 N2 M2 k1 k3 k4 k5 hn51; exact absurd hn51 (Nat.not_lt_zero _)
            | succ n51 ih51 =>
              intro k2 N2 M2 k1 k3 k4 k5 hn51 H locs hI ls hl
              have eN2 : N2 18 15 = M2 18 15 := by rw [k3]; rfl
              refine lv_iload_n hx hb dX7_note_51 rfl (lv_at hl 0 rfl) ?_
              refine lv_bipush (v := iI 21) hx hb dX7_note_52 (by decide +kernel) ?_
              refine r_icmp_ge hx hb (tgt := 83) (by omega) (by decide) dX7_note_54 (by decide) (fun c_4 => ?_) (fun c_4 => ?_)
              · refine lv_aload_n hx hb dX7_note_83 rfl (lv_at hl 1 rfl) ?_
                refine lv_dup hx hb dX7_note_84 rfl ?_
                refine r_get C hI 18 (by decide) rfl rfl hin7 15 (by decide) (fn := "acts") (fd := "I") (index := 94) (by decide +kernel) ⟨rfl, rfl, rfl⟩ (v := .int (iI (N2 18 15))) rfl dX7_note_85 ?_
                refine lv_iconst (v := iI 1) hx hb dX7_note_88 rfl ?_
                refine r_iadd hx hb dX7_note_89 ?_
                refine r_put C hI 18 (by decide) rfl rfl tyX7 tyX7_ok nmX7 hin7 15 (by decide) (fn := "acts") (fd := "I") (index := 94) (by decide +kernel) ⟨rfl, rfl, rfl⟩ rfl (z := (N2 18 15) + 1) rfl rfl (Nat.le_of_ble_eq_true rfl) rfl dX7_note_90 (fun H locs hI => ?_)
                refine r_vret C hr hlk hI ?_ dX7_note_93
                exact ⟨rfl, (show (fun u => u = noM M) (mset N2 18 15 ((N2 18 15) + 1)) from by (rw [eN2, k3, show k2 = 21 from by omega]); unfold noM; rcases k4 with ⟨q1, q2⟩ | ⟨q1, q2⟩ <;> first | (rw [if_pos q1, q2]; done) | (rw [if_neg q1, q2]; done) | (rw [if_pos q1, q2]; rfl) | (rw [if_neg q1, q2]; rfl))⟩
              · refine lv_aload_n hx hb dX7_note_57 rfl (lv_at hl 1 rfl) ?_
                refine r_get C hI 18 (by decide) rfl rfl hin7 14 (by decide) (fn := "book") (fd := "[I") (index := 31) (by decide +kernel) ⟨rfl, rfl, rfl⟩ (v := .ref (gA g 26)) rfl dX7_note_58 ?_
                refine lv_bipush (v := iI 21) hx hb dX7_note_61 (by decide +kernel) ?_
                refine lv_aload_n hx hb dX7_note_63 rfl (lv_at hl 1 rfl) ?_
                refine r_get C hI 18 (by decide) rfl rfl hin7 15 (by decide) (fn := "acts") (fd := "I") (index := 94) (by decide +kernel) ⟨rfl, rfl, rfl⟩ (v := .int (iI (N2 18 15))) rfl dX7_note_64 ?_
                refine r_imul hx hb dX7_note_67 ?_
                refine lv_iload_n hx hb dX7_note_68 rfl (lv_at hl 0 rfl) ?_
                refine r_iadd hx hb dX7_note_69 ?_
                refine lv_aload_n hx hb dX7_note_70 rfl (lv_at hl 1 rfl) ?_
                refine r_get C hI 18 (by decide) rfl rfl hin7 12 (by decide) (fn := "page") (fd := "[I") (index := 25) (by decide +kernel) ⟨rfl, rfl, rfl⟩ (v := .ref (gA g 24)) rfl dX7_note_71 ?_
                refine lv_iload_n hx hb dX7_note_74 rfl (lv_at hl 0 rfl) ?_
                refine r_ald C hI 24 (by decide) rfl (by omega) (by decide) dX7_note_75 ?_
                refine r_ast C hI 26 (by decide) (fun _ => rfl) (by omega) (by decide) dX7_note_76 (fun H locs hI => ?_)
                refine lv_iinc (v := iI (k2 + 1)) (lv' := [(1, .int (iI (k2 + 1))), (0, .ref (gA g 18))]) hx hb dX7_note_77 hl (k := 0) rfl (iI_add _ _) (by decide) rfl (fun ls hl => ?_)
                refine lv_goto (tgt := 51) hx hb dX7_note_80 (by decide) ?_
                exact ih51 (k2 + 1) (mset N2 26 ((21 * (N2 18 15)) + k2) (N2 24 k2)) M2 (by omega) (by (have h4 := @cpA_s M2 24 0 26 (21 * M2 18 15) k2 k1.1 (Or.inl (by decide))); rw [Int.zero_add, ← k3] at h4; rw [eN2]; exact h4) (by exact k4) (by exact k5) (by omega) _ _ hI ls (lv_sub hl [0, 1] rfl)
          exact lp51 _ 0 (mset N 18 15 ((N 18 15) - 1)) (mset N 18 15 ((N 18 15) - 1)) (by omega) (by exact cpA_0 _ _ _ _ _) (by first | exact Or.inr ⟨by assumption, rfl⟩ | (refine Or.inl ⟨by omega, ?_⟩; rw [eN18, h2, show kk = 273 from by omega])) (by first | omega | (show 0 ≤ N 18 15 - 1 ∧ N 18 15 - 1 < 14; omega)) (Nat.lt_succ_self _) _ _ hI ls (lv_sub hl [0, 1] rfl)
        · refine lv_aload_n hx hb dX7_note_18 rfl (lv_at hl 1 rfl) ?_
          refine r_get C hI 18 (by decide) rfl rfl hin7 14 (by decide) (fn := "book") (fd := "[I") (index := 31) (by decide +kernel) ⟨rfl, rfl, rfl⟩ (v := .ref (gA g 26)) rfl dX7_note_19 ?_
          refine lv_iload_n hx hb dX7_note_22 rfl (lv_at hl 0 rfl) ?_
          refine lv_aload_n hx hb dX7_note_23 rfl (lv_at hl 1 rfl) ?_
          refine r_get C hI 18 (by decide) rfl rfl hin7 14 (by decide) (fn := "book") (fd := "[I") (index := 31) (by decide +kernel) ⟨rfl, rfl, rfl⟩ (v := .ref (gA g 26)) rfl dX7_note_24 ?_
          refine lv_iload_n hx hb dX7_note_27 rfl (lv_at hl 0 rfl) ?_
          refine lv_bipush (v := iI 21) hx hb dX7_note_28 (by decide +kernel) ?_
          refine r_iadd hx hb dX7_note_30 ?_
          refine r_ald C hI 26 (by decide) rfl (by omega) (by decide) dX7_note_31 ?_
          refine r_ast C hI 26 (by decide) (fun _ => rfl) (by omega) (by decide) dX7_note_32 (fun H locs hI => ?_)
          refine lv_iinc (v := iI (kk + 1)) (lv' := [(1, .int (iI (kk + 1))), (0, .ref (gA g 18))]) hx hb dX7_note_33 hl (k := 0) rfl (iI_add _ _) (by decide) rfl (fun ls hl => ?_)
          refine lv_goto (tgt := 11) hx hb dX7_note_36 (by decide) ?_
          exact ih11 (kk + 1) (mset N 26 kk (N 26 (kk + 21))) (by omega) (by (have h3 := @cpA_s M 26 21 26 0 kk h1.1 (Or.inr (by decide))); rw [Int.zero_add, ← h2, Int.add_comm 21 kk] at h3; exact h3) (by omega) _ _ hI ls (lv_sub hl [0, 1] rfl)
    exact lp11 _ 0 M (by omega) (by exact cpA_0 _ _ _ _ _) (Nat.lt_succ_self _) _ _ hI ls (lv_sub hl [0, 1] rfl)
