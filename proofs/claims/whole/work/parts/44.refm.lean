
/-! A DESK is made anew -/
theorem RM_rd {A M u : Mem} (r : RM A M) (h : ∀ c : Nat, c ≠ 18 → c ≠ 22 → c ≠ 23 → u c = M c) (h18 : ∀ q : Int, q ≠ 0 → q ≠ 3 → q ≠ 8 → q ≠ 9 → u 18 q = M 18 q) : QC M u ∧ RM A u := by
  refine ⟨fun c hc => h c (by omega) (by omega) (by omega), ?_⟩
  have g : ∀ c : Nat, 18 < c → c ≠ 22 → c ≠ 23 → u c = M c := fun c a b d => h c (by omega) b d
  unfold RM RT RP RA RK RS at r ⊢
  rw [h18 2 (by decide) (by decide) (by decide) (by decide), h18 4 (by decide) (by decide) (by decide) (by decide), h18 5 (by decide) (by decide) (by decide) (by decide), h18 15 (by decide) (by decide) (by decide) (by decide), h18 18 (by decide) (by decide) (by decide) (by decide), h18 22 (by decide) (by decide) (by decide) (by decide), g 19 (by decide) (by decide) (by decide), g 20 (by decide) (by decide) (by decide), g 21 (by decide) (by decide) (by decide), g 24 (by decide) (by decide) (by decide), g 26 (by decide) (by decide) (by decide), g 27 (by decide) (by decide) (by decide), g 28 (by decide) (by decide) (by decide), g 29 (by decide) (by decide) (by decide), g 30 (by decide) (by decide) (by decide), g 31 (by decide) (by decide) (by decide)]
  exact r
theorem adP_n {M : Mem} {t : Int} {c : Nat} (h : c < 3 ∨ 6 < c) : adP M t c = M c := by
  unfold adP
  rw [mset_n _ _ _ (by omega), mset_n _ _ _ (by omega), mset_n _ _ _ (by omega), mset_n _ _ _ (by omega)]
theorem adG_n {M : Mem} {t : Int} {c : Nat} (h : c < 3 ∨ c = 4 ∨ c = 5 ∨ c = 6 ∨ 9 < c) : adG M t c = M c := by
  unfold adG
  rw [mset_n _ _ _ (by omega), mset_n _ _ _ (by omega), mset_n _ _ _ (by omega), mset_n _ _ _ (by omega)]
theorem rdM_n {M : Mem} {c : Nat} (h : c < 3 ∨ 9 < c) : ∀ j : Nat, rdM M j c = M c
  | 0 => by
    show mset (mset M 3 6 0) 3 7 0 c = M c
    rw [mset_n _ _ _ (by omega), mset_n _ _ _ (by omega)]
  | j + 1 => by
    show (if M 2 (1 + 4 * (j : Int)) = 80 then adP (rdM M j) (1 + 4 * (j : Int)) else adG (rdM M j) (1 + 4 * (j : Int))) c = M c
    split
    · rw [adP_n (by omega), rdM_n h j]
    · rw [adG_n (by omega), rdM_n h j]
theorem rdM_s (M : Mem) (j : Nat) : rdM M (j + 1) = if M 2 (1 + 4 * (j : Int)) = 80 then adP (rdM M j) (1 + 4 * (j : Int)) else adG (rdM M j) (1 + 4 * (j : Int)) := rfl
theorem adP_3 (M : Mem) (t : Int) : adP M t 3 6 = M 3 6 + 1 ∧ adP M t 3 7 = M 3 7 := ⟨rfl, rfl⟩
theorem adG_3 (M : Mem) (t : Int) : adG M t 3 6 = M 3 6 ∧ adG M t 3 7 = M 3 7 + 1 := ⟨rfl, rfl⟩
theorem rdM_0 (M : Mem) : ∀ j : Nat, 0 ≤ rdM M j 3 6 ∧ 0 ≤ rdM M j 3 7
  | 0 => ⟨by show (0 : Int) ≤ 0; decide, by show (0 : Int) ≤ 0; decide⟩
  | j + 1 => by
    have ih := rdM_0 M j
    have e1 := adP_3 (rdM M j) (1 + 4 * (j : Int))
    have e2 := adG_3 (rdM M j) (1 + 4 * (j : Int))
    rw [rdM_s]
    split <;> omega
/-- what is beyond the people and the gloves told is as it was -/
theorem rdM_o (M : Mem) : ∀ (j : Nat) (q : Int), (¬ (0 ≤ q ∧ q < rdM M j 3 6) → rdM M j 4 q = M 4 q ∧ rdM M j 5 q = M 5 q ∧ rdM M j 6 q = M 6 q) ∧ (¬ (0 ≤ q ∧ q < rdM M j 3 7) → rdM M j 7 q = M 7 q ∧ rdM M j 8 q = M 8 q ∧ rdM M j 9 q = M 9 q)
  | 0, q => ⟨fun _ => ⟨rfl, rfl, rfl⟩, fun _ => ⟨rfl, rfl, rfl⟩⟩
  | j + 1, q => by
    obtain ⟨i1, i2⟩ := rdM_o M j q
    have e0 := rdM_0 M j
    have e1 := adP_3 (rdM M j) (1 + 4 * (j : Int))
    have e2 := adG_3 (rdM M j) (1 + 4 * (j : Int))
    rw [rdM_s]
    split
    · rw [e1.1, e1.2, adP_n (c := 7) (by omega), adP_n (c := 8) (by omega), adP_n (c := 9) (by omega)]
      refine ⟨fun h => ?_, i2⟩
      obtain ⟨k1, k2, k3⟩ := i1 (by omega)
      have hq : q ≠ rdM M j 3 6 := by omega
      refine ⟨?_, ?_, ?_⟩
      · show rw1 (rdM M j 4) (rdM M j 3 6) _ q = _
        rw [rw1_n _ _ hq]; exact k1
      · show rw1 (rdM M j 5) (rdM M j 3 6) _ q = _
        rw [rw1_n _ _ hq]; exact k2
      · show rw1 (rdM M j 6) (rdM M j 3 6) _ q = _
        rw [rw1_n _ _ hq]; exact k3
    · rw [e2.1, e2.2, adG_n (c := 4) (by omega), adG_n (c := 5) (by omega), adG_n (c := 6) (by omega)]
      refine ⟨i1, fun h => ?_⟩
      obtain ⟨k1, k2, k3⟩ := i2 (by omega)
      have hq : q ≠ rdM M j 3 7 := by omega
      refine ⟨?_, ?_, ?_⟩
      · show rw1 (rdM M j 7) (rdM M j 3 7) _ q = _
        rw [rw1_n _ _ hq]; exact k1
      · show rw1 (rdM M j 8) (rdM M j 3 7) _ q = _
        rw [rw1_n _ _ hq]; exact k2
      · show rw1 (rdM M j 9) (rdM M j 3 7) _ q = _
        rw [rw1_n _ _ hq]; exact k3
theorem stt_n {M : Mem} {c : Nat} (h : c < 32 ∨ 34 < c) : sttM M 32 c = M c := by
  unfold sttM
  rw [mset_n _ _ _ (by omega), mset_n _ _ _ (by omega), mset_n _ _ _ (by omega), mset_n _ _ _ (by omega), mset_n _ _ _ (by omega), mset_n _ _ _ (by omega), mset_n _ _ _ (by omega), mset_n _ _ _ (by omega), mset_n _ _ _ (by omega)]
theorem stt_m {M : Mem} {q : Int} (h : 0 ≤ q ∧ q < 4) : sttM M 32 33 q = tldO M q ∧ sttM M 32 34 q = -9 := by
  obtain rfl | rfl | rfl | rfl : q = 0 ∨ q = 1 ∨ q = 2 ∨ q = 3 := by omega
  all_goals exact ⟨rfl, rfl⟩
theorem dsk_n {A : Mem} {c : Nat} (h : c < 3 ∨ 9 < c) (h1 : c ≠ 15) (h2 : ¬ (32 ≤ c ∧ c ≤ 34)) (h3 : c ≠ 80 ∧ c ≠ 83) : dskM A c = A c := by
  unfold dskM
  rw [mset_n _ _ _ h3.2, mset_n _ _ _ h3.1, mset_n _ _ _ h1, stt_n (by omega), rdM_n h]
theorem dsk_d {A : Mem} {c : Nat} (h : 3 ≤ c ∧ c ≤ 9) : dskM A c = rdM A (nParts A) c := by
  unfold dskM
  rw [mset_n _ _ _ (by omega), mset_n _ _ _ (by omega), mset_n _ _ _ (by omega), stt_n (by omega)]
theorem dsk_m {A : Mem} {q : Int} (h : 0 ≤ q ∧ q < 4) : dskM A 33 q = tldO (rdM A (nParts A)) q ∧ dskM A 34 q = -9 := by
  have e := @stt_m (rdM A (nParts A)) q h
  unfold dskM
  rw [mset_n _ _ _ (by decide), mset_n _ _ _ (by decide), mset_n _ _ _ (by decide), mset_n _ _ _ (by decide), mset_n _ _ _ (by decide), mset_n _ _ _ (by decide)]
  exact e
theorem dsk_o (A : Mem) : dskM A 32 2 = 0 ∧ dskM A 15 2 = 0 ∧ dskM A 80 3 = 0 ∧ dskM A 83 3 = 0 := ⟨rfl, rfl, rfl, rfl⟩
theorem KG_told {k b : Int} {r : Int → Int} (hk : 0 ≤ k ∧ k ≤ 7) (h1 : r b = if k = 0 then 0 else 1) (h2 : r (b + 1) = k) : KG k r b := by
  refine ⟨?_, fun h => ?_, fun h => by omega, fun h => by omega⟩
  · rw [h1]; unfold figs; (repeat' split) <;> omega
  · rw [h2]; unfold fstO; (repeat' split) <;> omega
theorem RM_dsk {A M u : Mem} (r : RM A M) (hG : rdM A (nParts A) 3 7 ≤ 4) (hC : ∀ c : Nat, (c < 18 ∨ c = 19 ∨ (26 ≤ c ∧ c ≠ 28)) → u c = M c) (h18 : ∀ q : Int, q = 2 ∨ q = 18 ∨ q = 22 → u 18 q = M 18 q) (h4 : u 18 4 = rdM A (nParts A) 3 6) (h5 : u 18 5 = rdM A (nParts A) 3 7) (h15 : u 18 15 = 0)
    (hp : ∀ q : Int, u 20 (3 * q) = rdM A (nParts A) 4 q ∧ u 20 (3 * q + 1) = rdM A (nParts A) 5 q ∧ u 20 (3 * q + 2) = rdM A (nParts A) 6 q) (hg : ∀ q : Int, u 21 (3 * q) = rdM A (nParts A) 7 q ∧ u 21 (3 * q + 1) = rdM A (nParts A) 8 q ∧ u 21 (3 * q + 2) = rdM A (nParts A) 9 q)
    (hk : ∀ q : Int, 0 ≤ q ∧ q < rdM A (nParts A) 3 7 → KG (rdM A (nParts A) 9 q) (u 24) (5 * q) ∧ u 24 (5 * q + 4) = -9) (hd : u 24 20 = 0) (hs : ∀ v : Int, 0 ≤ v ∧ v < 2 → u 28 v = 0) : QC M u ∧ RM (dskM A) u := by
  obtain ⟨r1, r2, r3, ⟨r4, r5⟩, r6, r7, r8⟩ := r
  obtain ⟨o1, o2, o3, o4⟩ := dsk_o A
  refine ⟨fun c hc => hC c (by omega), ?_, ⟨⟨by rw [dsk_d (by decide)]; exact h4, by rw [dsk_d (by decide)]; exact h5⟩, fun q => ?_, fun q => ?_⟩, ⟨fun q hq => ?_, ?_⟩, ⟨?_, fun k hk2 => ?_⟩, fun v hv => ?_, ?_, ?_⟩
  · unfold RT at r1 ⊢
    rw [dsk_n (c := 1) (by decide) (by decide) (by decide) (by decide), dsk_n (c := 2) (by decide) (by decide) (by decide) (by decide), h18 2 (by decide), hC 19 (by decide)]; exact r1
  · rw [dsk_d (c := 4) (by decide), dsk_d (c := 5) (by decide), dsk_d (c := 6) (by decide)]; exact hp q
  · rw [dsk_d (c := 7) (by decide), dsk_d (c := 8) (by decide), dsk_d (c := 9) (by decide)]; exact hg q
  · rw [dsk_d (by decide)] at hq
    rw [Int.zero_add]
    show KG (dskM A 33 q) (u 24) (5 * q) ∧ u 24 (5 * q + 4) = dskM A 34 q
    obtain ⟨e1, e2⟩ := @dsk_m A q (by omega)
    rw [e1, e2]
    have et : tldO (rdM A (nParts A)) q = rdM A (nParts A) 9 q := by unfold tldO; rw [if_pos hq.2]
    rw [et]
    exact hk q hq
  · rw [Int.zero_add, o1]; exact hd
  · rw [o2]; exact h15
  · rw [o2] at hk2; omega
  · have e : dskM A (sltO v) 3 = 0 := by
      rcases (sltO_b hv).2 with e | e
      · rw [e]; exact o3
      · rw [e]; exact o4
    rw [e]
    exact ⟨hs v hv, fun q => absurd q (by decide)⟩
  · unfold RS at r7 ⊢
    rw [dsk_n (c := 10) (by decide) (by decide) (by decide) (by decide), dsk_n (c := 11) (by decide) (by decide) (by decide) (by decide), dsk_n (c := 12) (by decide) (by decide) (by decide) (by decide), dsk_n (c := 13) (by decide) (by decide) (by decide) (by decide), h18 18 (by decide), hC 29 (by decide), hC 30 (by decide), hC 31 (by decide)]; exact r7
  · rw [dsk_n (c := 0) (by decide) (by decide) (by decide) (by decide), h18 22 (by decide)]; exact r8
/-- n places of a row are 0 -/
def zfA (M : Mem) (C : Nat) (n : Int) : Mem := fun c => if c = C then (fun q => if 0 ≤ q ∧ q < n then 0 else M C q) else M c
theorem zfA_0 (M : Mem) (C : Nat) : M = zfA M C 0 := by
  funext c q
  unfold zfA
  by_cases hc : c = C
  · subst hc
    rw [if_pos rfl, if_neg (by omega)]
  · rw [if_neg hc]
theorem zfA_n {M : Mem} {C c : Nat} {n : Int} (h : c ≠ C) : zfA M C n c = M c := by unfold zfA; rw [if_neg h]
theorem zfA_at {M : Mem} {C : Nat} {n q : Int} (h : 0 ≤ q ∧ q < n) : zfA M C n C q = 0 := by unfold zfA; rw [if_pos rfl, if_pos h]
theorem zfA_s {M : Mem} {C : Nat} {n : Int} (hn : 0 ≤ n) : mset (zfA M C n) C n 0 = zfA M C (n + 1) := by
  funext c q
  by_cases hc : c = C
  · subst hc
    rw [mset_s]
    unfold rw1 zfA
    simp only [if_true]
    by_cases hq : q = n
    · rw [if_pos hq, if_pos (by omega)]
    · rw [if_neg hq]
      by_cases h1 : 0 ≤ q ∧ q < n
      · rw [if_pos h1, if_pos (by omega)]
      · rw [if_neg h1, if_neg (by omega)]
  · rw [mset_n _ _ _ hc, zfA_n hc, zfA_n hc]
theorem adP_r (M : Mem) (t : Int) : adP M t 4 = rw1 (M 4) (M 3 6) (M 2 (t + 1) - 48) ∧ adP M t 5 = rw1 (M 5) (M 3 6) (M 2 (t + 2) - 48) ∧ adP M t 6 = rw1 (M 6) (M 3 6) (M 2 (t + 3) - 48) := ⟨rfl, rfl, rfl⟩
theorem adG_r (M : Mem) (t : Int) : adG M t 7 = rw1 (M 7) (M 3 7) (M 2 (t + 1) - 48) ∧ adG M t 8 = rw1 (M 8) (M 3 7) (M 2 (t + 2) - 48) ∧ adG M t 9 = rw1 (M 9) (M 3 7) (M 2 (t + 3) - 48) := ⟨rfl, rfl, rfl⟩
theorem rdM_ok {A : Mem} : ∀ j : Nat, (∀ t : Int, 0 ≤ t ∧ t < 1 + 4 * (j : Int) → fitB (A 2) t = true) → (∀ q : Int, 0 ≤ q ∧ q < rdM A j 3 6 → (1 ≤ rdM A j 4 q ∧ rdM A j 4 q ≤ 7) ∧ (1 ≤ rdM A j 5 q ∧ rdM A j 5 q ≤ 7) ∧ (0 ≤ rdM A j 6 q ∧ rdM A j 6 q ≤ 9)) ∧ (∀ q : Int, 0 ≤ q ∧ q < rdM A j 3 7 → (1 ≤ rdM A j 7 q ∧ rdM A j 7 q ≤ 3) ∧ (0 ≤ rdM A j 8 q ∧ rdM A j 8 q ≤ 3) ∧ (0 ≤ rdM A j 9 q ∧ rdM A j 9 q ≤ 7))
  | 0, _ => ⟨fun q hq => absurd (show q < 0 from hq.2) (by omega), fun q hq => absurd (show q < 0 from hq.2) (by omega)⟩
  | j + 1, h => by
    obtain ⟨i1, i2⟩ := rdM_ok j (fun t ht => h t (by omega))
    have hp := fit_part (h (1 + 4 * (j : Int)) (by omega))
    have e2 := (rdM_1 A j).2
    obtain ⟨p4, p5, p6⟩ := adP_r (rdM A j) (1 + 4 * (j : Int))
    obtain ⟨l7, l8, l9⟩ := adG_r (rdM A j) (1 + 4 * (j : Int))
    have e3 := adP_3 (rdM A j) (1 + 4 * (j : Int))
    have e4 := adG_3 (rdM A j) (1 + 4 * (j : Int))
    rw [e2] at p4 p5 p6 l7 l8 l9
    rw [rdM_s]
    by_cases c : A 2 (1 + 4 * (j : Int)) = 80
    · rw [if_pos c, e3.1, e3.2, p4, p5, p6, adP_n (c := 7) (by omega), adP_n (c := 8) (by omega), adP_n (c := 9) (by omega)]
      refine ⟨fun q hq => ?_, i2⟩
      by_cases cq : q = rdM A j 3 6
      · rw [cq, rw1_s, rw1_s, rw1_s]
        have f1 : 1 ≤ A 2 (1 + 4 * (j : Int) + 1) - 48 ∧ A 2 (1 + 4 * (j : Int) + 1) - 48 ≤ 7 := (fit_P (i := 1) ⟨by omega, by omega⟩ c (by decide)).mp (h _ (by omega))
        have f2 : 1 ≤ A 2 (1 + 4 * (j : Int) + 2) - 48 ∧ A 2 (1 + 4 * (j : Int) + 2) - 48 ≤ 7 := (fit_P (i := 2) ⟨by omega, by omega⟩ c (by decide)).mp (h _ (by omega))
        have f3 : 0 ≤ A 2 (1 + 4 * (j : Int) + 3) - 48 ∧ A 2 (1 + 4 * (j : Int) + 3) - 48 ≤ 9 := (fit_P (i := 3) ⟨by omega, by omega⟩ c (by decide)).mp (h _ (by omega))
        exact ⟨f1, f2, f3⟩
      · rw [rw1_n _ _ cq, rw1_n _ _ cq, rw1_n _ _ cq]
        exact i1 q (by omega)
    · have c2 : A 2 (1 + 4 * (j : Int)) = 76 := by omega
      rw [if_neg c, e4.1, e4.2, l7, l8, l9, adG_n (c := 4) (by omega), adG_n (c := 5) (by omega), adG_n (c := 6) (by omega)]
      refine ⟨i1, fun q hq => ?_⟩
      by_cases cq : q = rdM A j 3 7
      · rw [cq, rw1_s, rw1_s, rw1_s]
        have f1 : 1 ≤ A 2 (1 + 4 * (j : Int) + 1) - 48 ∧ A 2 (1 + 4 * (j : Int) + 1) - 48 ≤ 3 := (fit_L (i := 1) ⟨by omega, by omega⟩ c2 (by decide)).mp (h _ (by omega))
        have f2 : 0 ≤ A 2 (1 + 4 * (j : Int) + 2) - 48 ∧ A 2 (1 + 4 * (j : Int) + 2) - 48 ≤ 3 := (fit_L (i := 2) ⟨by omega, by omega⟩ c2 (by decide)).mp (h _ (by omega))
        have f3 : 0 ≤ A 2 (1 + 4 * (j : Int) + 3) - 48 ∧ A 2 (1 + 4 * (j : Int) + 3) - 48 ≤ 7 := (fit_L (i := 3) ⟨by omega, by omega⟩ c2 (by decide)).mp (h _ (by omega))
        exact ⟨f1, f2, f3⟩
      · rw [rw1_n _ _ cq, rw1_n _ _ cq, rw1_n _ _ cq]
        exact i2 q (by omega)
theorem cp_rows (M : Mem) (P q : Int) : (0 ≤ q ∧ q < P → cpA M 22 0 20 0 (3 * P) 20 (3 * q) = M 22 (3 * q) ∧ cpA M 22 0 20 0 (3 * P) 20 (3 * q + 1) = M 22 (3 * q + 1) ∧ cpA M 22 0 20 0 (3 * P) 20 (3 * q + 2) = M 22 (3 * q + 2)) ∧ (¬ (0 ≤ q ∧ q < P) → cpA M 22 0 20 0 (3 * P) 20 (3 * q) = M 20 (3 * q) ∧ cpA M 22 0 20 0 (3 * P) 20 (3 * q + 1) = M 20 (3 * q + 1) ∧ cpA M 22 0 20 0 (3 * P) 20 (3 * q + 2) = M 20 (3 * q + 2)) := by
  refine ⟨fun h => ?_, fun h => ?_⟩
  · rw [cpA_at (by omega), cpA_at (by omega), cpA_at (by omega), show 0 + (3 * q - 0) = 3 * q by omega, show 0 + (3 * q + 1 - 0) = 3 * q + 1 by omega, show 0 + (3 * q + 2 - 0) = 3 * q + 2 by omega]
    exact ⟨rfl, rfl, rfl⟩
  · rw [cpA_off (by omega), cpA_off (by omega), cpA_off (by omega)]
    exact ⟨rfl, rfl, rfl⟩
theorem gl_21 (N : Mem) (gg a b c e : Int) : (mset (mset (mset (mset (mset (mset N 21 (3 * gg + 0) a) 21 (3 * gg + 1) b) 21 (3 * gg + 2) c) 24 (5 * gg) e) 24 (5 * gg + 1) c) 24 (5 * gg + 4) (-9)) 21 = rw1 (rw1 (rw1 (N 21) (3 * gg + 0) a) (3 * gg + 1) b) (3 * gg + 2) c := rfl
theorem gl_24 (N : Mem) (gg a b c e : Int) : (mset (mset (mset (mset (mset (mset N 21 (3 * gg + 0) a) 21 (3 * gg + 1) b) 21 (3 * gg + 2) c) 24 (5 * gg) e) 24 (5 * gg + 1) c) 24 (5 * gg + 4) (-9)) 24 = rw1 (rw1 (rw1 (N 24) (5 * gg) e) (5 * gg + 1) c) (5 * gg + 4) (-9) := rfl
theorem gl_C {N N2 : Mem} {gg a b c e : Int} (h : ∀ i : Nat, i ≠ 21 → i ≠ 24 → N i = N2 i) : ∀ i : Nat, i ≠ 21 → i ≠ 24 → (mset (mset (mset (mset (mset (mset N 21 (3 * gg + 0) a) 21 (3 * gg + 1) b) 21 (3 * gg + 2) c) 24 (5 * gg) e) 24 (5 * gg + 1) c) 24 (5 * gg + 4) (-9)) i = N2 i := fun i x y => by
  rw [mset_n _ _ _ y, mset_n _ _ _ y, mset_n _ _ _ y, mset_n _ _ _ x, mset_n _ _ _ x, mset_n _ _ _ x]
  exact h i x y
theorem gl_A {N : Mem} {gg a b c e : Int} {d7 d8 d9 : Int → Int} (ha : N 23 (3 * gg) = d7 gg ∧ N 23 (3 * gg + 1) = d8 gg ∧ N 23 (3 * gg + 2) = d9 gg) (ea : a = N 23 (3 * gg + 0)) (eb : b = N 23 (3 * gg + 1)) (ec : c = N 23 (3 * gg + 2)) (h : ∀ q : Int, 0 ≤ q ∧ q < gg → N 21 (3 * q) = d7 q ∧ N 21 (3 * q + 1) = d8 q ∧ N 21 (3 * q + 2) = d9 q) : ∀ q : Int, 0 ≤ q ∧ q < gg + 1 → (mset (mset (mset (mset (mset (mset N 21 (3 * gg + 0) a) 21 (3 * gg + 1) b) 21 (3 * gg + 2) c) 24 (5 * gg) e) 24 (5 * gg + 1) c) 24 (5 * gg + 4) (-9)) 21 (3 * q) = d7 q ∧ (mset (mset (mset (mset (mset (mset N 21 (3 * gg + 0) a) 21 (3 * gg + 1) b) 21 (3 * gg + 2) c) 24 (5 * gg) e) 24 (5 * gg + 1) c) 24 (5 * gg + 4) (-9)) 21 (3 * q + 1) = d8 q ∧ (mset (mset (mset (mset (mset (mset N 21 (3 * gg + 0) a) 21 (3 * gg + 1) b) 21 (3 * gg + 2) c) 24 (5 * gg) e) 24 (5 * gg + 1) c) 24 (5 * gg + 4) (-9)) 21 (3 * q + 2) = d9 q := by
  intro q hq
  rw [gl_21]
  rw [Int.add_zero] at ea ⊢
  rw [ha.1] at ea
  rw [ha.2.1] at eb
  rw [ha.2.2] at ec
  by_cases e1 : q = gg
  · subst e1
    refine ⟨?_, ?_, ?_⟩
    · rw [rw1_n _ _ (by omega), rw1_n _ _ (by omega), rw1_s, ea]
    · rw [rw1_n _ _ (by omega), rw1_s, eb]
    · rw [rw1_s, ec]
  · rw [rw1_n _ _ (by omega), rw1_n _ _ (by omega), rw1_n _ _ (by omega), rw1_n _ _ (by omega), rw1_n _ _ (by omega), rw1_n _ _ (by omega), rw1_n _ _ (by omega), rw1_n _ _ (by omega), rw1_n _ _ (by omega)]
    exact h q (by omega)
theorem gl_B {N : Mem} {gg a b c e : Int} {d7 d8 d9 : Int → Int} (hg : 0 ≤ gg) (h : ∀ q : Int, ¬ (0 ≤ q ∧ q < gg) → N 21 (3 * q) = d7 q ∧ N 21 (3 * q + 1) = d8 q ∧ N 21 (3 * q + 2) = d9 q) : ∀ q : Int, ¬ (0 ≤ q ∧ q < gg + 1) → (mset (mset (mset (mset (mset (mset N 21 (3 * gg + 0) a) 21 (3 * gg + 1) b) 21 (3 * gg + 2) c) 24 (5 * gg) e) 24 (5 * gg + 1) c) 24 (5 * gg + 4) (-9)) 21 (3 * q) = d7 q ∧ (mset (mset (mset (mset (mset (mset N 21 (3 * gg + 0) a) 21 (3 * gg + 1) b) 21 (3 * gg + 2) c) 24 (5 * gg) e) 24 (5 * gg + 1) c) 24 (5 * gg + 4) (-9)) 21 (3 * q + 1) = d8 q ∧ (mset (mset (mset (mset (mset (mset N 21 (3 * gg + 0) a) 21 (3 * gg + 1) b) 21 (3 * gg + 2) c) 24 (5 * gg) e) 24 (5 * gg + 1) c) 24 (5 * gg + 4) (-9)) 21 (3 * q + 2) = d9 q := by
  intro q hq
  rw [gl_21]
  rw [rw1_n _ _ (by omega), rw1_n _ _ (by omega), rw1_n _ _ (by omega), rw1_n _ _ (by omega), rw1_n _ _ (by omega), rw1_n _ _ (by omega), rw1_n _ _ (by omega), rw1_n _ _ (by omega), rw1_n _ _ (by omega)]
  exact h q (by omega)
theorem gl_K {N : Mem} {gg a b c e : Int} {d9 : Int → Int} (hc : c = d9 gg) (hc7 : 0 ≤ d9 gg ∧ d9 gg ≤ 7) (he : e = if c = 0 then 0 else 1) (h : ∀ q : Int, 0 ≤ q ∧ q < gg → KG (d9 q) (N 24) (5 * q) ∧ N 24 (5 * q + 4) = -9) : ∀ q : Int, 0 ≤ q ∧ q < gg + 1 → KG (d9 q) ((mset (mset (mset (mset (mset (mset N 21 (3 * gg + 0) a) 21 (3 * gg + 1) b) 21 (3 * gg + 2) c) 24 (5 * gg) e) 24 (5 * gg + 1) c) 24 (5 * gg + 4) (-9)) 24) (5 * q) ∧ (mset (mset (mset (mset (mset (mset N 21 (3 * gg + 0) a) 21 (3 * gg + 1) b) 21 (3 * gg + 2) c) 24 (5 * gg) e) 24 (5 * gg + 1) c) 24 (5 * gg + 4) (-9)) 24 (5 * q + 4) = -9 := by
  intro q hq
  rw [gl_24]
  by_cases e1 : q = gg
  · subst e1
    refine ⟨KG_told hc7 ?_ ?_, rw1_s _ _ _⟩
    · rw [rw1_n _ _ (by omega), rw1_n _ _ (by omega), rw1_s, he, hc]
    · rw [rw1_n _ _ (by omega), rw1_s, hc]
  · obtain ⟨h1, h2⟩ := h q (by omega)
    refine ⟨KG_of h1 (fun j hj => ?_), ?_⟩
    · rw [rw1_n _ _ (by omega), rw1_n _ _ (by omega), rw1_n _ _ (by omega)]
    · rw [rw1_n _ _ (by omega), rw1_n _ _ (by omega), rw1_n _ _ (by omega)]; exact h2
theorem gl_Z {N : Mem} {gg a b c e : Int} (hg : 0 ≤ gg) (h : ∀ j : Int, 5 * gg ≤ j ∧ j < 21 → N 24 j = 0) : ∀ j : Int, 5 * (gg + 1) ≤ j ∧ j < 21 → (mset (mset (mset (mset (mset (mset N 21 (3 * gg + 0) a) 21 (3 * gg + 1) b) 21 (3 * gg + 2) c) 24 (5 * gg) e) 24 (5 * gg + 1) c) 24 (5 * gg + 4) (-9)) 24 j = 0 := by
  intro j hj
  rw [gl_24, rw1_n _ _ (by omega), rw1_n _ _ (by omega), rw1_n _ _ (by omega)]
  exact h j (by omega)
theorem dk_P {A M M1 M2 : Mem} {n : Nat} (q : Int) (rr : ∀ q : Int, 0 ≤ q ∧ q < rdM A n 3 6 → M1 22 (3 * q) = rdM A n 4 q ∧ M1 22 (3 * q + 1) = rdM A n 5 q ∧ M1 22 (3 * q + 2) = rdM A n 6 q) (m : M2 22 = M1 22) (o : M2 20 = M 20) (p : ∀ q : Int, M 20 (3 * q) = A 4 q ∧ M 20 (3 * q + 1) = A 5 q ∧ M 20 (3 * q + 2) = A 6 q) : cpA M2 22 0 20 0 (3 * rdM A n 3 6) 20 (3 * q) = rdM A n 4 q ∧ cpA M2 22 0 20 0 (3 * rdM A n 3 6) 20 (3 * q + 1) = rdM A n 5 q ∧ cpA M2 22 0 20 0 (3 * rdM A n 3 6) 20 (3 * q + 2) = rdM A n 6 q := by
  have e := cp_rows M2 (rdM A n 3 6) q
  by_cases c : 0 ≤ q ∧ q < rdM A n 3 6
  · obtain ⟨e1, e2, e3⟩ := e.1 c
    rw [e1, e2, e3, m]
    exact rr q c
  · obtain ⟨e1, e2, e3⟩ := e.2 c
    obtain ⟨o1, o2, o3⟩ := (rdM_o A n q).1 c
    rw [e1, e2, e3, o, o1, o2, o3]
    exact p q
theorem dk_G {A N : Mem} {n : Nat} (q : Int) (a : ∀ q : Int, 0 ≤ q ∧ q < rdM A n 3 7 → N 21 (3 * q) = rdM A n 7 q ∧ N 21 (3 * q + 1) = rdM A n 8 q ∧ N 21 (3 * q + 2) = rdM A n 9 q) (b : ∀ q : Int, ¬ (0 ≤ q ∧ q < rdM A n 3 7) → N 21 (3 * q) = A 7 q ∧ N 21 (3 * q + 1) = A 8 q ∧ N 21 (3 * q + 2) = A 9 q) : N 21 (3 * q) = rdM A n 7 q ∧ N 21 (3 * q + 1) = rdM A n 8 q ∧ N 21 (3 * q + 2) = rdM A n 9 q := by
  by_cases c : 0 ≤ q ∧ q < rdM A n 3 7
  · exact a q c
  · obtain ⟨o1, o2, o3⟩ := (rdM_o A n q).2 c
    rw [o1, o2, o3]
    exact b q c
set_option maxHeartbeats 4000000 in
set_option maxRecDepth 100000 in
theorem c_X7_fault (l : Launch) (g : GT) (M : Mem) (A : Mem) (wf : WF A) (rm : RM A M) : Ctr l g yX7_fault wsX7_fault ({ frames := 5, cells := 0, slots := 0, locals := 110 } : Room) [.ref (gA g 18)] M (pE (fun z u => z = fltO A ∧ QC M u ∧ RM A u)) := by
  refine Ctr.mk (cc := cX7_fault) (maxL := 1) (ret := some .int) (lv := [(0, .ref (gA g 18))]) (by decide) rfl (Nat.le_of_ble_eq_true rfl) rfl ?_
  intro p e s m below meth c C hr hlk hI ls hl
  have C : CallFix p m c cX7_fault 1 s ([.ref (gA g 18)] : List Value).toArray wsX7_fault RX7 := C
  have hx := C.1
  have hb := C.2.1
  have hts := C.2.2.2.2
  have hin7 : ∀ w ∈ u_ws RX7 TX7 31, w ∈ wsX7_fault := by decide +kernel
  have rt1 : RT A (mset M 18 0 0) := (RO rm).2.1
  refine lv_aload_n hx hb dX7_fault_0 rfl (lv_at hl 0 rfl) ?_
  refine lv_iconst (v := iI 0) hx hb dX7_fault_1 rfl ?_
  refine r_put C hI 18 (by decide) rfl rfl tyX7 tyX7_ok nmX7 hin7 0 (by decide) (fn := "thrown") (fd := "I") (index := 50) (by decide +kernel) ⟨rfl, rfl, rfl⟩ rfl (z := 0) rfl rfl (Nat.le_of_ble_eq_true rfl) rfl dX7_fault_2 (fun H locs hI => ?_)
  refine lv_aload_n hx hb dX7_fault_5 rfl (lv_at hl 0 rfl) ?_
  refine r_iv C hI (As := []) (rest := []) (c_X7_readDesk l g (mset M 18 0 0) A wf rt1) (cwV 0 hts gX7_fault_X7_readDesk rfl rfl rfl (by decide +kernel) ⟨Nat.le_of_ble_eq_true rfl, Nat.le_of_ble_eq_true rfl⟩) (by decide) rfl rfl rfl hl.1 rfl (Nat.le_of_ble_eq_true rfl) dX7_fault_6 ⟨Nat.zero_le _, Nat.zero_le _⟩ (k_E (fun z_1 M_1 H locs q_1 hI => ?_))
  refine r_iret C hr hlk hI ?_ dX7_fault_9
  exact ⟨_, rfl, (show (fun z u => z = fltO A ∧ QC M u ∧ RM A u) z_1 M_1 from by exact ⟨q_1.1, RM_rd rm (fun c a b d => (q_1.2.1 c a b d).trans (mset_n _ _ _ a)) (fun q a b d e => (q_1.2.2.1 q b d e).trans (by rw [mset_s, rw1_n _ _ a]))⟩)⟩
set_option maxHeartbeats 4000000 in
set_option maxRecDepth 100000 in
theorem c_X7_desk (l : Launch) (g : GT) (M : Mem) (A : Mem) (wf : WF A) (rm : RM A M) : Ctr l g yX7_desk wsX7_desk ({ frames := 5, cells := 0, slots := 0, locals := 110 } : Room) [.ref (gA g 18)] M (pE (fun z u => z = zDsk A ∧ QC M u ∧ RM (gDsk A) u)) := by
  refine Ctr.mk (cc := cX7_desk) (maxL := 3) (ret := some .int) (lv := [(0, .ref (gA g 18))]) (by decide) rfl (Nat.le_of_ble_eq_true rfl) rfl ?_
  intro p e s m below meth c C hr hlk hI ls hl
  have C : CallFix p m c cX7_desk 3 s ([.ref (gA g 18)] : List Value).toArray wsX7_desk RX7 := C
  have hx := C.1
  have hb := C.2.1
  have hts := C.2.2.2.2
  have hin7 : ∀ w ∈ u_ws RX7 TX7 31, w ∈ wsX7_desk := by decide +kernel
  have wf0 := wf
  obtain ⟨w_txt, hL, w_cnt, w_per, w_glo, w_now, w_act, w_rng, w_slo, w_see, w_sa⟩ := wf
  have rm0 := rm
  obtain ⟨⟨t_n, t_l⟩, ⟨⟨p_p, p_g⟩, p_r, g_r⟩, pgn, ⟨a_n, a_r⟩, k_r, ⟨s_n, s_r⟩, sd⟩ := rm
  have rt1 : RT A (mset M 18 0 0) := (RO rm0).2.1
  have ffb := ffO_b (A 2) (A 1 1).toNat 0 (by decide)
  have ffe : fltO A = ffO (A 2) (A 1 1).toNat 0 := rfl
  refine lv_aload_n hx hb dX7_desk_0 rfl (lv_at hl 0 rfl) ?_
  refine lv_iconst (v := iI 0) hx hb dX7_desk_1 rfl ?_
  refine r_put C hI 18 (by decide) rfl rfl tyX7 tyX7_ok nmX7 hin7 0 (by decide) (fn := "thrown") (fd := "I") (index := 50) (by decide +kernel) ⟨rfl, rfl, rfl⟩ rfl (z := 0) rfl rfl (Nat.le_of_ble_eq_true rfl) rfl dX7_desk_2 (fun H locs hI => ?_)
  refine lv_aload_n hx hb dX7_desk_5 rfl (lv_at hl 0 rfl) ?_
  refine r_iv C hI (As := []) (rest := []) (c_X7_readDesk l g (mset M 18 0 0) A wf0 rt1) (cwV 0 hts gX7_desk_X7_readDesk rfl rfl rfl (by decide +kernel) ⟨Nat.le_of_ble_eq_true rfl, Nat.le_of_ble_eq_true rfl⟩) (by decide) rfl rfl rfl hl.1 rfl (Nat.le_of_ble_eq_true rfl) dX7_desk_6 ⟨Nat.zero_le _, Nat.zero_le _⟩ (k_E (fun z_1 M_1 H locs q_1 hI => ?_))
  have zb := q_1.1
  rw [ffe] at zb
  refine lv_bipush (v := iI (-9)) hx hb dX7_desk_9 (by decide +kernel) ?_
  refine r_icmp_eq hx hb (tgt := 17) (by omega) (by decide) dX7_desk_11 (by decide) (fun c_1 => ?_) (fun c_1 => ?_)
  · refine lv_aload_n hx hb dX7_desk_17 rfl (lv_at hl 0 rfl) ?_
    refine lv_aload_n hx hb dX7_desk_18 rfl (lv_at hl 0 rfl) ?_
    refine r_get C hI 18 (by decide) rfl rfl hin7 8 (by decide) (fn := "readPeople") (fd := "I") (index := 76) (by decide +kernel) ⟨rfl, rfl, rfl⟩ (v := .int (iI (M_1 18 8))) rfl dX7_desk_19 ?_
    refine r_put C hI 18 (by decide) rfl rfl tyX7 tyX7_ok nmX7 hin7 4 (by decide) (fn := "people") (fd := "I") (index := 54) (by decide +kernel) ⟨rfl, rfl, rfl⟩ rfl (z := M_1 18 8) rfl rfl (Nat.le_of_ble_eq_true rfl) rfl dX7_desk_22 (fun H locs hI => ?_)
    refine lv_aload_n hx hb dX7_desk_25 rfl (lv_at hl 0 rfl) ?_
    refine lv_aload_n hx hb dX7_desk_26 rfl (lv_at hl 0 rfl) ?_
    refine r_get C hI 18 (by decide) rfl rfl hin7 9 (by decide) (fn := "readGloves") (fd := "I") (index := 79) (by decide +kernel) ⟨rfl, rfl, rfl⟩ (v := .int (iI (M_1 18 9))) rfl dX7_desk_27 ?_
    refine r_eqI (z2 := M_1 18 9) (by first | rfl | (repeat first | rw [mset_s, rw1_s] | rw [mset_s, rw1_n _ _ (by omega)] | rw [mset_n _ _ _ (by decide)])) ?_
    refine r_put C hI 18 (by decide) rfl rfl tyX7 tyX7_ok nmX7 hin7 5 (by decide) (fn := "gloves") (fd := "I") (index := 61) (by decide +kernel) ⟨rfl, rfl, rfl⟩ rfl (z := M_1 18 9) rfl rfl (Nat.le_of_ble_eq_true rfl) rfl dX7_desk_30 (fun H locs hI => ?_)
    obtain ⟨M2, hM2⟩ : ∃ M2, M2 = mset (mset M_1 18 4 (M_1 18 8)) 18 5 (M_1 18 9) := ⟨_, rfl⟩
    have f9 : fltO A = -9 := by rw [← q_1.1]; omega
    have rr := q_1.2.2.2 (by omega)
    obtain ⟨⟨rr1, rr2⟩, rr3, rr4⟩ := rr
    have ffk := ffO_ok (r := A 2) (A 1 1).toNat 0 (by decide) f9
    have hq9 : A 1 1 = 1 + 4 * (nParts A : Int) ∧ nParts A < 10 := by unfold nParts; omega
    have fk : ∀ t : Int, 0 ≤ t ∧ t < 1 + 4 * (nParts A : Int) → fitB (A 2) t = true := fun t ht => ffk.1 t (by omega)
    have hd3 := rdM_3 A (nParts A) (fun i hi => (fit_part (fk (1 + 4 * (i : Int)) (by omega))).imp And.left And.left)
    have hd0 := rdM_0 A (nParts A)
    have hdc := cnt_le (nParts A) fk
    have okk := rdM_ok (nParts A) fk
    rw [← hd3.1, ← hd3.2] at hdc
    have m4 : M2 18 4 = rdM A (nParts A) 3 6 := by rw [hM2, mset_s, rw1_n _ _ (by decide), mset_s, rw1_s]; exact rr1
    have m5 : M2 18 5 = rdM A (nParts A) 3 7 := by rw [hM2, mset_s, rw1_s]; exact rr2
    have mC : ∀ c : Nat, c ≠ 18 → M2 c = M_1 c := fun c hc => by rw [hM2, mset_n _ _ _ hc, mset_n _ _ _ hc]
    have oC : ∀ c : Nat, c ≠ 18 → c ≠ 22 → c ≠ 23 → M2 c = M c := fun c a b d => by rw [mC c a, q_1.2.1 c a b d, mset_n _ _ _ a]
    have oQ : ∀ q : Int, q = 2 ∨ q = 18 ∨ q = 22 → M2 18 q = M 18 q := fun q hq => by rw [hM2, mset_s, rw1_n _ _ (by omega), mset_s, rw1_n _ _ (by omega), q_1.2.2.1 q (by omega) (by omega) (by omega), mset_s, rw1_n _ _ (by omega)]
    have o9 := rdM_o A (nParts A)
    refine lv_iconst (v := iI 0) hx hb dX7_desk_33 rfl ?_
    refine lv_istore_n (lv' := [(1, .int (iI 0)), (0, .ref (gA g 18))]) hx hb dX7_desk_34 rfl hl (by decide) rfl (fun ls hl => ?_)
    have lp35 : ∀ (n35 : Nat) (kk : Int) (N1 : Mem), (0 ≤ kk ∧ kk ≤ 3 * rdM A (nParts A) 3 6) → (N1 = cpA M2 22 0 20 0 kk) → (3 * rdM A (nParts A) 3 6 - kk).toNat < n35 → ∀ (H : Heap) (locs : List Loc), HI g s H locs N1 → ∀ ls : Array Slot, lv_has ls 3 [(1, .int (iI kk)), (0, .ref (gA g 18))] → W p l e ({ frames := 5, cells := 0, slots := 0, locals := 110 } : Room) s m ([.ref (gA g 18)] : List Value).toArray below meth c H locs 0 0 (MQ below (QV g (pE (fun z u => z = zDsk A ∧ QC M u ∧ RM (gDsk A) u))) ([.ref (gA g 18)] : List Value).toArray s 0 0 (AA g)) (F0 m 35 ls []) := by
      intro n35
      induction n35 with
      | zero => intro kk N1 h1 h2 hn35; exact absurd hn35 (Nat.not_lt_zero _)
      | succ n35 ih35 =>
        intro kk N1 h1 h2 hn35 H locs hI ls hl
        have e18 : ∀ q : Int, N1 18 q = M2 18 q := fun q => by rw [h2, cpA_n (by decide)]
        have e4 := e18 4
        have e5 := e18 5
        refine lv_iload_n hx hb dX7_desk_35 rfl (lv_at hl 0 rfl) ?_
        refine lv_iconst (v := iI 3) hx hb dX7_desk_36 rfl ?_
        refine lv_aload_n hx hb dX7_desk_37 rfl (lv_at hl 1 rfl) ?_
        refine r_get C hI 18 (by decide) rfl rfl hin7 4 (by decide) (fn := "people") (fd := "I") (index := 54) (by decide +kernel) ⟨rfl, rfl, rfl⟩ (v := .int (iI (N1 18 4))) rfl dX7_desk_38 ?_
        refine r_imul hx hb dX7_desk_41 ?_
        refine r_icmp_ge hx hb (tgt := 63) (by omega) (by omega) dX7_desk_42 (by decide) (fun c_2 => ?_) (fun c_2 => ?_)
        · refine lv_iconst (v := iI 0) hx hb dX7_desk_63 rfl ?_
          refine lv_istore_n (lv' := [(1, .int (iI 0)), (0, .ref (gA g 18))]) hx hb dX7_desk_64 rfl hl (by decide) rfl (fun ls hl => ?_)
          have lp65 : ∀ (n65 : Nat) (k2 : Int) (N2 : Mem), (0 ≤ k2 ∧ k2 ≤ 21) → (N2 = zfA N1 24 k2) → (21 - k2).toNat < n65 → ∀ (H : Heap) (locs : List Loc), HI g s H locs N2 → ∀ ls : Array Slot, lv_has ls 3 [(1, .int (iI k2)), (0, .ref (gA g 18))] → W p l e ({ frames := 5, cells := 0, slots := 0, locals := 110 } : Room) s m ([.ref (gA g 18)] : List Value).toArray below meth c H locs 0 0 (MQ below (QV g (pE (fun z u => z = zDsk A ∧ QC M u ∧ RM (gDsk A) u))) ([.ref (gA g 18)] : List Value).toArray s 0 0 (AA g)) (F0 m 65 ls []) := by
            intro n65
            induction n65 with
            | zero => intro k2 N2 i1 i2 hn65; exact absurd hn65 (Nat.not_lt_zero _)
            | succ n65 ih65 =>
              intro k2 N2 i1 i2 hn65 H locs hI ls hl
              refine lv_iload_n hx hb dX7_desk_65 rfl (lv_at hl 0 rfl) ?_
              refine lv_bipush (v := iI 21) hx hb dX7_desk_66 (by decide +kernel) ?_
              refine r_icmp_ge hx hb (tgt := 84) (by omega) (by decide) dX7_desk_68 (by decide) (fun c_3 => ?_) (fun c_3 => ?_)
              · refine lv_iconst (v := iI 0) hx hb dX7_desk_84 rfl ?_
                refine lv_istore_n (lv' := [(1, .int (iI 0)), (0, .ref (gA g 18))]) hx hb dX7_desk_85 rfl hl (by decide) rfl (fun ls hl => ?_)
                have lp86 : ∀ (n86 : Nat) (gg : Int) (N3 : Mem), (0 ≤ gg ∧ gg ≤ rdM A (nParts A) 3 7) → (∀ c : Nat, c ≠ 21 → c ≠ 24 → N3 c = N2 c) → (∀ q : Int, 0 ≤ q ∧ q < gg → N3 21 (3 * q) = rdM A (nParts A) 7 q ∧ N3 21 (3 * q + 1) = rdM A (nParts A) 8 q ∧ N3 21 (3 * q + 2) = rdM A (nParts A) 9 q) → (∀ q : Int, ¬ (0 ≤ q ∧ q < gg) → N3 21 (3 * q) = A 7 q ∧ N3 21 (3 * q + 1) = A 8 q ∧ N3 21 (3 * q + 2) = A 9 q) → (∀ q : Int, 0 ≤ q ∧ q < gg → KG (rdM A (nParts A) 9 q) (N3 24) (5 * q) ∧ N3 24 (5 * q + 4) = -9) → (∀ j : Int, 5 * gg ≤ j ∧ j < 21 → N3 24 j = 0) → (rdM A (nParts A) 3 7 - gg).toNat < n86 → ∀ (H : Heap) (locs : List Loc), HI g s H locs N3 → ∀ ls : Array Slot, lv_has ls 3 [(1, .int (iI gg)), (0, .ref (gA g 18))] → W p l e ({ frames := 5, cells := 0, slots := 0, locals := 110 } : Room) s m ([.ref (gA g 18)] : List Value).toArray below meth c H locs 0 0 (MQ below (QV g (pE (fun z u => z = zDsk A ∧ QC M u ∧ RM (gDsk A) u))) ([.ref (gA g 18)] : List Value).toArray s 0 0 (AA g)) (F0 m 86 ls []) := by
                  intro n86
                  induction n86 with
                  | zero => intro gg N3 j1 jC jA jB jK jZ hn86; exact absurd hn86 (Nat.not_lt_zero _)
                  | succ n86 ih86 =>
                    intro gg N3 j1 jC jA jB jK jZ hn86 H locs hI ls hl
                    have n18 : ∀ q : Int, N3 18 q = M2 18 q := fun q => by rw [jC 18 (by decide) (by decide), i2, zfA_n (by decide)]; exact e18 q
                    have n4 := n18 4
                    have n5 := n18 5
                    have n23 : N3 23 = M_1 23 := by rw [jC 23 (by decide) (by decide), i2, zfA_n (by decide), h2, cpA_n (by decide)]; exact mC 23 (by decide)
                    have r23 := fun hg : gg < rdM A (nParts A) 3 7 => rr4 gg ⟨j1.1, hg⟩
                    rw [← n23] at r23
                    refine lv_iload_n hx hb dX7_desk_86 rfl (lv_at hl 0 rfl) ?_
                    refine lv_aload_n hx hb dX7_desk_87 rfl (lv_at hl 1 rfl) ?_
                    refine r_get C hI 18 (by decide) rfl rfl hin7 5 (by decide) (fn := "gloves") (fd := "I") (index := 61) (by decide +kernel) ⟨rfl, rfl, rfl⟩ (v := .int (iI (N3 18 5))) rfl dX7_desk_88 ?_
                    refine r_icmp_ge hx hb (tgt := 191) (by omega) (by omega) dX7_desk_91 (by decide) (fun c_4 => ?_) (fun c_4 => ?_)
                    · refine lv_aload_n hx hb dX7_desk_191 rfl (lv_at hl 1 rfl) ?_
                      refine lv_iconst (v := iI 0) hx hb dX7_desk_192 rfl ?_
                      refine r_put C hI 18 (by decide) rfl rfl tyX7 tyX7_ok nmX7 hin7 15 (by decide) (fn := "acts") (fd := "I") (index := 94) (by decide +kernel) ⟨rfl, rfl, rfl⟩ rfl (z := 0) rfl rfl (Nat.le_of_ble_eq_true rfl) rfl dX7_desk_193 (fun H locs hI => ?_)
                      refine lv_aload_n hx hb dX7_desk_196 rfl (lv_at hl 1 rfl) ?_
                      refine r_get C hI 18 (by decide) rfl rfl hin7 17 (by decide) (fn := "isKept") (fd := "[Z") (index := 37) (by decide +kernel) ⟨rfl, rfl, rfl⟩ (v := .ref (gA g 28)) rfl dX7_desk_197 ?_
                      refine lv_iconst (v := iI 0) hx hb dX7_desk_200 rfl ?_
                      refine lv_iconst (v := iI 0) hx hb dX7_desk_201 rfl ?_
                      refine r_zst C hI 28 (by decide) (fun _ => rfl) (by omega) (by decide) (by decide +kernel) (by decide +kernel) dX7_desk_202 (fun H locs hI => ?_)
                      refine lv_aload_n hx hb dX7_desk_203 rfl (lv_at hl 1 rfl) ?_
                      refine r_get C hI 18 (by decide) rfl rfl hin7 17 (by decide) (fn := "isKept") (fd := "[Z") (index := 37) (by decide +kernel) ⟨rfl, rfl, rfl⟩ (v := .ref (gA g 28)) rfl dX7_desk_204 ?_
                      refine lv_iconst (v := iI 1) hx hb dX7_desk_207 rfl ?_
                      refine lv_iconst (v := iI 0) hx hb dX7_desk_208 rfl ?_
                      refine r_zst C hI 28 (by decide) (fun _ => rfl) (by omega) (by decide) (by decide +kernel) (by decide +kernel) dX7_desk_209 (fun H locs hI => ?_)
                      refine lv_bipush (v := iI 10) hx hb dX7_desk_210 (by decide +kernel) ?_
                      refine lv_aload_n hx hb dX7_desk_212 rfl (lv_at hl 1 rfl) ?_
                      refine r_get C hI 18 (by decide) rfl rfl hin7 4 (by decide) (fn := "people") (fd := "I") (index := 54) (by decide +kernel) ⟨rfl, rfl, rfl⟩ (v := .int (iI (N3 18 4))) rfl dX7_desk_213 ?_
                      refine r_eqI (z2 := N3 18 4) (by first | rfl | (repeat first | rw [mset_s, rw1_s] | rw [mset_s, rw1_n _ _ (by omega)] | rw [mset_n _ _ _ (by decide)])) ?_
                      refine r_imul hx hb dX7_desk_216 ?_
                      refine lv_aload_n hx hb dX7_desk_217 rfl (lv_at hl 1 rfl) ?_
                      refine r_get C hI 18 (by decide) rfl rfl hin7 5 (by decide) (fn := "gloves") (fd := "I") (index := 61) (by decide +kernel) ⟨rfl, rfl, rfl⟩ (v := .int (iI (N3 18 5))) rfl dX7_desk_218 ?_
                      refine r_eqI (z2 := N3 18 5) (by first | rfl | (repeat first | rw [mset_s, rw1_s] | rw [mset_s, rw1_n _ _ (by omega)] | rw [mset_n _ _ _ (by decide)])) ?_
                      refine r_iadd hx hb dX7_desk_221 ?_
                      refine r_iret C hr hlk hI ?_ dX7_desk_222
                      exact ⟨_, rfl, (show (fun z u => z = zDsk A ∧ QC M u ∧ RM (gDsk A) u) ((10 * (N3 18 4)) + (N3 18 5)) (mset (mset (mset N3 18 15 0) 28 0 0) 28 1 0) from by (have eg : gg = rdM A (nParts A) 3 7 := by omega); (have ek : kk = 3 * rdM A (nParts A) 3 6 := by omega); rw [eg] at jA jB jK jZ; rw [ek] at h2; refine ⟨by (unfold zDsk; rw [if_pos f9, n4, n5, m4, m5]), ?_⟩; unfold gDsk; rw [if_pos f9]; exact RM_dsk rm0 (by omega) (fun c hc => by (rw [mset_n _ _ _ (by omega), mset_n _ _ _ (by omega), mset_n _ _ _ (by omega), jC c (by omega) (by omega), i2, zfA_n (by omega), h2, cpA_n (by omega)]; exact oC c (by omega) (by omega) (by omega))) (fun q hq => by (rw [mset_n _ _ _ (by decide), mset_n _ _ _ (by decide), mset_s, rw1_n _ _ (by omega), n18 q]; exact oQ q hq)) (by (rw [mset_n _ _ _ (by decide), mset_n _ _ _ (by decide), mset_s, rw1_n _ _ (by decide), n4, m4])) (by (rw [mset_n _ _ _ (by decide), mset_n _ _ _ (by decide), mset_s, rw1_n _ _ (by decide), n5, m5])) (by (rw [mset_n _ _ _ (by decide), mset_n _ _ _ (by decide), mset_s, rw1_s])) (fun q => by (rw [mset_n _ _ _ (by decide), mset_n _ _ _ (by decide), mset_n _ _ _ (by decide), jC 20 (by decide) (by decide), i2, zfA_n (by decide), h2]; exact dk_P q rr3 (mC 22 (by decide)) (oC 20 (by decide) (by decide) (by decide)) p_r)) (fun q => by (rw [mset_n _ _ _ (by decide), mset_n _ _ _ (by decide), mset_n _ _ _ (by decide)]; exact dk_G q jA jB)) (fun q hq => by (rw [mset_n _ _ _ (by decide), mset_n _ _ _ (by decide), mset_n _ _ _ (by decide)]; exact jK q hq)) (by (rw [mset_n _ _ _ (by decide), mset_n _ _ _ (by decide), mset_n _ _ _ (by decide)]; exact jZ 20 (by omega))) (fun v hv => by ((obtain rfl | rfl : v = 0 ∨ v = 1 := by omega) <;> rfl)))⟩
                    · refine lv_iconst (v := iI 0) hx hb dX7_desk_94 rfl ?_
                      refine lv_istore_n (lv' := [(2, .int (iI 0)), (1, .int (iI gg)), (0, .ref (gA g 18))]) hx hb dX7_desk_95 rfl hl (by decide) rfl (fun ls hl => ?_)
                      refine lv_iload_n hx hb dX7_desk_96 rfl (lv_at hl 0 rfl) ?_
                      refine lv_iconst (v := iI 3) hx hb dX7_desk_97 rfl ?_
                      refine r_icmp_ge hx hb (tgt := 127) (by decide) (by decide) dX7_desk_98 (by decide) (fun c => absurd c (by decide)) (fun c_5 => ?_)
                      refine lv_aload_n hx hb dX7_desk_101 rfl (lv_at hl 2 rfl) ?_
                      refine r_get C hI 18 (by decide) rfl rfl hin7 7 (by decide) (fn := "glove") (fd := "[I") (index := 16) (by decide +kernel) ⟨rfl, rfl, rfl⟩ (v := .ref (gA g 21)) rfl dX7_desk_102 ?_
                      refine lv_iconst (v := iI 3) hx hb dX7_desk_105 rfl ?_
                      refine lv_iload_n hx hb dX7_desk_106 rfl (lv_at hl 1 rfl) ?_
                      refine r_imul hx hb dX7_desk_107 ?_
                      refine lv_iload_n hx hb dX7_desk_108 rfl (lv_at hl 0 rfl) ?_
                      refine r_iadd hx hb dX7_desk_109 ?_
                      refine lv_aload_n hx hb dX7_desk_110 rfl (lv_at hl 2 rfl) ?_
                      refine r_get C hI 18 (by decide) rfl rfl hin7 11 (by decide) (fn := "readGlove") (fd := "[I") (index := 22) (by decide +kernel) ⟨rfl, rfl, rfl⟩ (v := .ref (gA g 23)) rfl dX7_desk_111 ?_
                      refine lv_iconst (v := iI 3) hx hb dX7_desk_114 rfl ?_
                      refine lv_iload_n hx hb dX7_desk_115 rfl (lv_at hl 1 rfl) ?_
                      refine r_imul hx hb dX7_desk_116 ?_
                      refine lv_iload_n hx hb dX7_desk_117 rfl (lv_at hl 0 rfl) ?_
                      refine r_iadd hx hb dX7_desk_118 ?_
                      refine r_ald C hI 23 (by decide) rfl (by omega) (by decide) dX7_desk_119 ?_
                      refine r_ast C hI 21 (by decide) (fun _ => rfl) (by omega) (by decide) dX7_desk_120 (fun H locs hI => ?_)
                      refine lv_iinc (v := iI (1)) (lv' := [(2, .int (iI 1)), (1, .int (iI gg)), (0, .ref (gA g 18))]) hx hb dX7_desk_121 hl (k := 0) rfl (iI_add _ _) (by decide) rfl (fun ls hl => ?_)
                      refine lv_goto (tgt := 96) hx hb dX7_desk_124 (by decide) ?_
                      refine lv_iload_n hx hb dX7_desk_96 rfl (lv_at hl 0 rfl) ?_
                      refine lv_iconst (v := iI 3) hx hb dX7_desk_97 rfl ?_
                      refine r_icmp_ge hx hb (tgt := 127) (by decide) (by decide) dX7_desk_98 (by decide) (fun c => absurd c (by decide)) (fun c_6 => ?_)
                      refine lv_aload_n hx hb dX7_desk_101 rfl (lv_at hl 2 rfl) ?_
                      refine r_get C hI 18 (by decide) rfl rfl hin7 7 (by decide) (fn := "glove") (fd := "[I") (index := 16) (by decide +kernel) ⟨rfl, rfl, rfl⟩ (v := .ref (gA g 21)) rfl dX7_desk_102 ?_
                      refine lv_iconst (v := iI 3) hx hb dX7_desk_105 rfl ?_
                      refine lv_iload_n hx hb dX7_desk_106 rfl (lv_at hl 1 rfl) ?_
                      refine r_imul hx hb dX7_desk_107 ?_
                      refine lv_iload_n hx hb dX7_desk_108 rfl (lv_at hl 0 rfl) ?_
                      refine r_iadd hx hb dX7_desk_109 ?_
                      refine lv_aload_n hx hb dX7_desk_110 rfl (lv_at hl 2 rfl) ?_
                      refine r_get C hI 18 (by decide) rfl rfl hin7 11 (by decide) (fn := "readGlove") (fd := "[I") (index := 22) (by decide +kernel) ⟨rfl, rfl, rfl⟩ (v := .ref (gA g 23)) rfl dX7_desk_111 ?_
                      refine lv_iconst (v := iI 3) hx hb dX7_desk_114 rfl ?_
                      refine lv_iload_n hx hb dX7_desk_115 rfl (lv_at hl 1 rfl) ?_
                      refine r_imul hx hb dX7_desk_116 ?_
                      refine lv_iload_n hx hb dX7_desk_117 rfl (lv_at hl 0 rfl) ?_
                      refine r_iadd hx hb dX7_desk_118 ?_
                      refine r_ald C hI 23 (by decide) rfl (by omega) (by decide) dX7_desk_119 ?_
                      refine r_eqI (z2 := N3 23 ((3 * gg) + 1)) (by first | rfl | (repeat first | rw [mset_s, rw1_s] | rw [mset_s, rw1_n _ _ (by omega)] | rw [mset_n _ _ _ (by decide)])) ?_
                      refine r_ast C hI 21 (by decide) (fun _ => rfl) (by omega) (by decide) dX7_desk_120 (fun H locs hI => ?_)
                      refine lv_iinc (v := iI (2)) (lv' := [(2, .int (iI 2)), (1, .int (iI gg)), (0, .ref (gA g 18))]) hx hb dX7_desk_121 hl (k := 0) rfl (iI_add _ _) (by decide) rfl (fun ls hl => ?_)
                      refine lv_goto (tgt := 96) hx hb dX7_desk_124 (by decide) ?_
                      refine lv_iload_n hx hb dX7_desk_96 rfl (lv_at hl 0 rfl) ?_
                      refine lv_iconst (v := iI 3) hx hb dX7_desk_97 rfl ?_
                      refine r_icmp_ge hx hb (tgt := 127) (by decide) (by decide) dX7_desk_98 (by decide) (fun c => absurd c (by decide)) (fun c_7 => ?_)
                      refine lv_aload_n hx hb dX7_desk_101 rfl (lv_at hl 2 rfl) ?_
                      refine r_get C hI 18 (by decide) rfl rfl hin7 7 (by decide) (fn := "glove") (fd := "[I") (index := 16) (by decide +kernel) ⟨rfl, rfl, rfl⟩ (v := .ref (gA g 21)) rfl dX7_desk_102 ?_
                      refine lv_iconst (v := iI 3) hx hb dX7_desk_105 rfl ?_
                      refine lv_iload_n hx hb dX7_desk_106 rfl (lv_at hl 1 rfl) ?_
                      refine r_imul hx hb dX7_desk_107 ?_
                      refine lv_iload_n hx hb dX7_desk_108 rfl (lv_at hl 0 rfl) ?_
                      refine r_iadd hx hb dX7_desk_109 ?_
                      refine lv_aload_n hx hb dX7_desk_110 rfl (lv_at hl 2 rfl) ?_
                      refine r_get C hI 18 (by decide) rfl rfl hin7 11 (by decide) (fn := "readGlove") (fd := "[I") (index := 22) (by decide +kernel) ⟨rfl, rfl, rfl⟩ (v := .ref (gA g 23)) rfl dX7_desk_111 ?_
                      refine lv_iconst (v := iI 3) hx hb dX7_desk_114 rfl ?_
                      refine lv_iload_n hx hb dX7_desk_115 rfl (lv_at hl 1 rfl) ?_
                      refine r_imul hx hb dX7_desk_116 ?_
                      refine lv_iload_n hx hb dX7_desk_117 rfl (lv_at hl 0 rfl) ?_
                      refine r_iadd hx hb dX7_desk_118 ?_
                      refine r_ald C hI 23 (by decide) rfl (by omega) (by decide) dX7_desk_119 ?_
                      refine r_eqI (z2 := N3 23 ((3 * gg) + 2)) (by first | rfl | (repeat first | rw [mset_s, rw1_s] | rw [mset_s, rw1_n _ _ (by omega)] | rw [mset_n _ _ _ (by decide)])) ?_
                      refine r_ast C hI 21 (by decide) (fun _ => rfl) (by omega) (by decide) dX7_desk_120 (fun H locs hI => ?_)
                      refine lv_iinc (v := iI (3)) (lv' := [(2, .int (iI 3)), (1, .int (iI gg)), (0, .ref (gA g 18))]) hx hb dX7_desk_121 hl (k := 0) rfl (iI_add _ _) (by decide) rfl (fun ls hl => ?_)
                      refine lv_goto (tgt := 96) hx hb dX7_desk_124 (by decide) ?_
                      refine lv_iload_n hx hb dX7_desk_96 rfl (lv_at hl 0 rfl) ?_
                      refine lv_iconst (v := iI 3) hx hb dX7_desk_97 rfl ?_
                      refine r_icmp_ge hx hb (tgt := 127) (by decide) (by decide) dX7_desk_98 (by decide) (fun c_8 => ?_) (fun c => absurd c (by decide))
                      refine lv_aload_n hx hb dX7_desk_127 rfl (lv_at hl 2 rfl) ?_
                      refine r_get C hI 18 (by decide) rfl rfl hin7 12 (by decide) (fn := "page") (fd := "[I") (index := 25) (by decide +kernel) ⟨rfl, rfl, rfl⟩ (v := .ref (gA g 24)) rfl dX7_desk_128 ?_
                      refine lv_iconst (v := iI 5) hx hb dX7_desk_131 rfl ?_
                      refine lv_iload_n hx hb dX7_desk_132 rfl (lv_at hl 1 rfl) ?_
                      refine r_imul hx hb dX7_desk_133 ?_
                      refine lv_aload_n hx hb dX7_desk_134 rfl (lv_at hl 2 rfl) ?_
                      refine r_get C hI 18 (by decide) rfl rfl hin7 7 (by decide) (fn := "glove") (fd := "[I") (index := 16) (by decide +kernel) ⟨rfl, rfl, rfl⟩ (v := .ref (gA g 21)) rfl dX7_desk_135 ?_
                      refine lv_iconst (v := iI 3) hx hb dX7_desk_138 rfl ?_
                      refine lv_iload_n hx hb dX7_desk_139 rfl (lv_at hl 1 rfl) ?_
                      refine r_imul hx hb dX7_desk_140 ?_
                      refine lv_iconst (v := iI 2) hx hb dX7_desk_141 rfl ?_
                      refine r_iadd hx hb dX7_desk_142 ?_
                      refine r_ald C hI 21 (by decide) rfl (by omega) (by decide) dX7_desk_143 ?_
                      refine r_eqI (z2 := N3 23 ((3 * gg) + 2)) (by first | rfl | (repeat first | rw [mset_s, rw1_s] | rw [mset_s, rw1_n _ _ (by omega)] | rw [mset_n _ _ _ (by decide)])) ?_
                      have r9 := (r23 (by omega)).2.2
                      have ob9 := (okk.2 gg ⟨j1.1, by omega⟩).2.2
                      refine r_if_ne hx hb (tgt := 151) (by omega) dX7_desk_144 (by decide) (fun c_9 => ?_) (fun c_9 => ?_)
                      · refine lv_iconst (v := iI 1) hx hb dX7_desk_151 rfl ?_
                        refine r_ast C hI 24 (by decide) (fun _ => rfl) (by omega) (by decide) dX7_desk_152 (fun H locs hI => ?_)
                        refine lv_aload_n hx hb dX7_desk_153 rfl (lv_at hl 2 rfl) ?_
                        refine r_get C hI 18 (by decide) rfl rfl hin7 12 (by decide) (fn := "page") (fd := "[I") (index := 25) (by decide +kernel) ⟨rfl, rfl, rfl⟩ (v := .ref (gA g 24)) rfl dX7_desk_154 ?_
                        refine lv_iconst (v := iI 5) hx hb dX7_desk_157 rfl ?_
                        refine lv_iload_n hx hb dX7_desk_158 rfl (lv_at hl 1 rfl) ?_
                        refine r_imul hx hb dX7_desk_159 ?_
                        refine lv_iconst (v := iI 1) hx hb dX7_desk_160 rfl ?_
                        refine r_iadd hx hb dX7_desk_161 ?_
                        refine lv_aload_n hx hb dX7_desk_162 rfl (lv_at hl 2 rfl) ?_
                        refine r_get C hI 18 (by decide) rfl rfl hin7 7 (by decide) (fn := "glove") (fd := "[I") (index := 16) (by decide +kernel) ⟨rfl, rfl, rfl⟩ (v := .ref (gA g 21)) rfl dX7_desk_163 ?_
                        refine lv_iconst (v := iI 3) hx hb dX7_desk_166 rfl ?_
                        refine lv_iload_n hx hb dX7_desk_167 rfl (lv_at hl 1 rfl) ?_
                        refine r_imul hx hb dX7_desk_168 ?_
                        refine lv_iconst (v := iI 2) hx hb dX7_desk_169 rfl ?_
                        refine r_iadd hx hb dX7_desk_170 ?_
                        refine r_ald C hI 21 (by decide) rfl (by omega) (by decide) dX7_desk_171 ?_
                        refine r_eqI (z2 := N3 23 ((3 * gg) + 2)) (by first | rfl | (repeat first | rw [mset_s, rw1_s] | rw [mset_s, rw1_n _ _ (by omega)] | rw [mset_n _ _ _ (by decide)])) ?_
                        refine r_ast C hI 24 (by decide) (fun _ => rfl) (by omega) (by decide) dX7_desk_172 (fun H locs hI => ?_)
                        refine lv_aload_n hx hb dX7_desk_173 rfl (lv_at hl 2 rfl) ?_
                        refine r_get C hI 18 (by decide) rfl rfl hin7 12 (by decide) (fn := "page") (fd := "[I") (index := 25) (by decide +kernel) ⟨rfl, rfl, rfl⟩ (v := .ref (gA g 24)) rfl dX7_desk_174 ?_
                        refine lv_iconst (v := iI 5) hx hb dX7_desk_177 rfl ?_
                        refine lv_iload_n hx hb dX7_desk_178 rfl (lv_at hl 1 rfl) ?_
                        refine r_imul hx hb dX7_desk_179 ?_
                        refine lv_iconst (v := iI 4) hx hb dX7_desk_180 rfl ?_
                        refine r_iadd hx hb dX7_desk_181 ?_
                        refine lv_bipush (v := iI (-9)) hx hb dX7_desk_182 (by decide +kernel) ?_
                        refine r_ast C hI 24 (by decide) (fun _ => rfl) (by omega) (by decide) dX7_desk_184 (fun H locs hI => ?_)
                        refine lv_iinc (v := iI (gg + 1)) (lv' := [(1, .int (iI (gg + 1))), (2, .int (iI 3)), (0, .ref (gA g 18))]) hx hb dX7_desk_185 hl (k := 1) rfl (iI_add _ _) (by decide) rfl (fun ls hl => ?_)
                        refine lv_goto (tgt := 86) hx hb dX7_desk_188 (by decide) ?_
                        exact ih86 (gg + 1) (mset (mset (mset (mset (mset (mset N3 21 ((3 * gg) + 0) (N3 23 ((3 * gg) + 0))) 21 ((3 * gg) + 1) (N3 23 ((3 * gg) + 1))) 21 ((3 * gg) + 2) (N3 23 ((3 * gg) + 2))) 24 (5 * gg) 1) 24 ((5 * gg) + 1) (N3 23 ((3 * gg) + 2))) 24 ((5 * gg) + 4) (-9)) (by omega) (by exact gl_C jC) (by exact gl_A (r23 (by omega)) rfl rfl rfl jA) (by exact gl_B j1.1 jB) (by exact gl_K (r23 (by omega)).2.2 (okk.2 gg ⟨j1.1, by omega⟩).2.2 (by first | rw [if_pos (by omega)] | rw [if_neg (by omega)]) jK) (by exact gl_Z j1.1 jZ) (by omega) _ _ hI ls (lv_sub hl [0, 2] rfl)
                      · refine lv_iconst (v := iI 0) hx hb dX7_desk_147 rfl ?_
                        refine lv_goto (tgt := 152) hx hb dX7_desk_148 (by decide) ?_
                        refine r_ast C hI 24 (by decide) (fun _ => rfl) (by omega) (by decide) dX7_desk_152 (fun H locs hI => ?_)
                        refine lv_aload_n hx hb dX7_desk_153 rfl (lv_at hl 2 rfl) ?_
                        refine r_get C hI 18 (by decide) rfl rfl hin7 12 (by decide) (fn := "page") (fd := "[I") (index := 25) (by decide +kernel) ⟨rfl, rfl, rfl⟩ (v := .ref (gA g 24)) rfl dX7_desk_154 ?_
                        refine lv_iconst (v := iI 5) hx hb dX7_desk_157 rfl ?_
                        refine lv_iload_n hx hb dX7_desk_158 rfl (lv_at hl 1 rfl) ?_
                        refine r_imul hx hb dX7_desk_159 ?_
                        refine lv_iconst (v := iI 1) hx hb dX7_desk_160 rfl ?_
                        refine r_iadd hx hb dX7_desk_161 ?_
                        refine lv_aload_n hx hb dX7_desk_162 rfl (lv_at hl 2 rfl) ?_
                        refine r_get C hI 18 (by decide) rfl rfl hin7 7 (by decide) (fn := "glove") (fd := "[I") (index := 16) (by decide +kernel) ⟨rfl, rfl, rfl⟩ (v := .ref (gA g 21)) rfl dX7_desk_163 ?_
                        refine lv_iconst (v := iI 3) hx hb dX7_desk_166 rfl ?_
                        refine lv_iload_n hx hb dX7_desk_167 rfl (lv_at hl 1 rfl) ?_
                        refine r_imul hx hb dX7_desk_168 ?_
                        refine lv_iconst (v := iI 2) hx hb dX7_desk_169 rfl ?_
                        refine r_iadd hx hb dX7_desk_170 ?_
                        refine r_ald C hI 21 (by decide) rfl (by omega) (by decide) dX7_desk_171 ?_
                        refine r_eqI (z2 := N3 23 ((3 * gg) + 2)) (by first | rfl | (repeat first | rw [mset_s, rw1_s] | rw [mset_s, rw1_n _ _ (by omega)] | rw [mset_n _ _ _ (by decide)])) ?_
                        refine r_ast C hI 24 (by decide) (fun _ => rfl) (by omega) (by decide) dX7_desk_172 (fun H locs hI => ?_)
                        refine lv_aload_n hx hb dX7_desk_173 rfl (lv_at hl 2 rfl) ?_
                        refine r_get C hI 18 (by decide) rfl rfl hin7 12 (by decide) (fn := "page") (fd := "[I") (index := 25) (by decide +kernel) ⟨rfl, rfl, rfl⟩ (v := .ref (gA g 24)) rfl dX7_desk_174 ?_
                        refine lv_iconst (v := iI 5) hx hb dX7_desk_177 rfl ?_
                        refine lv_iload_n hx hb dX7_desk_178 rfl (lv_at hl 1 rfl) ?_
                        refine r_imul hx hb dX7_desk_179 ?_
                        refine lv_iconst (v := iI 4) hx hb dX7_desk_180 rfl ?_
                        refine r_iadd hx hb dX7_desk_181 ?_
                        refine lv_bipush (v := iI (-9)) hx hb dX7_desk_182 (by decide +kernel) ?_
                        refine r_ast C hI 24 (by decide) (fun _ => rfl) (by omega) (by decide) dX7_desk_184 (fun H locs hI => ?_)
                        refine lv_iinc (v := iI (gg + 1)) (lv' := [(1, .int (iI (gg + 1))), (2, .int (iI 3)), (0, .ref (gA g 18))]) hx hb dX7_desk_185 hl (k := 1) rfl (iI_add _ _) (by decide) rfl (fun ls hl => ?_)
                        refine lv_goto (tgt := 86) hx hb dX7_desk_188 (by decide) ?_
                        exact ih86 (gg + 1) (mset (mset (mset (mset (mset (mset N3 21 ((3 * gg) + 0) (N3 23 ((3 * gg) + 0))) 21 ((3 * gg) + 1) (N3 23 ((3 * gg) + 1))) 21 ((3 * gg) + 2) (N3 23 ((3 * gg) + 2))) 24 (5 * gg) 0) 24 ((5 * gg) + 1) (N3 23 ((3 * gg) + 2))) 24 ((5 * gg) + 4) (-9)) (by omega) (by exact gl_C jC) (by exact gl_A (r23 (by omega)) rfl rfl rfl jA) (by exact gl_B j1.1 jB) (by exact gl_K (r23 (by omega)).2.2 (okk.2 gg ⟨j1.1, by omega⟩).2.2 (by first | rw [if_pos (by omega)] | rw [if_neg (by omega)]) jK) (by exact gl_Z j1.1 jZ) (by omega) _ _ hI ls (lv_sub hl [0, 2] rfl)
                exact lp86 _ 0 N2 (by omega) (by exact fun _ _ _ => rfl) (by exact fun q hq => absurd hq (by omega)) (by exact fun q _ => by (rw [i2, zfA_n (by decide), h2, cpA_n (by decide), oC 21 (by decide) (by decide) (by decide)]; exact g_r q)) (by exact fun q hq => absurd hq (by omega)) (by exact fun j hj => by (rw [i2]; exact zfA_at (by omega))) (Nat.lt_succ_self _) _ _ hI ls (lv_sub hl [0, 1] rfl)
              · refine lv_aload_n hx hb dX7_desk_71 rfl (lv_at hl 1 rfl) ?_
                refine r_get C hI 18 (by decide) rfl rfl hin7 12 (by decide) (fn := "page") (fd := "[I") (index := 25) (by decide +kernel) ⟨rfl, rfl, rfl⟩ (v := .ref (gA g 24)) rfl dX7_desk_72 ?_
                refine lv_iload_n hx hb dX7_desk_75 rfl (lv_at hl 0 rfl) ?_
                refine lv_iconst (v := iI 0) hx hb dX7_desk_76 rfl ?_
                refine r_ast C hI 24 (by decide) (fun _ => rfl) (by omega) (by decide) dX7_desk_77 (fun H locs hI => ?_)
                refine lv_iinc (v := iI (k2 + 1)) (lv' := [(1, .int (iI (k2 + 1))), (0, .ref (gA g 18))]) hx hb dX7_desk_78 hl (k := 0) rfl (iI_add _ _) (by decide) rfl (fun ls hl => ?_)
                refine lv_goto (tgt := 65) hx hb dX7_desk_81 (by decide) ?_
                exact ih65 (k2 + 1) (mset N2 24 k2 0) (by omega) (by (rw [i2]; exact zfA_s i1.1)) (by omega) _ _ hI ls (lv_sub hl [0, 1] rfl)
          exact lp65 _ 0 N1 (by omega) (by exact zfA_0 _ _) (Nat.lt_succ_self _) _ _ hI ls (lv_sub hl [0, 1] rfl)
        · refine lv_aload_n hx hb dX7_desk_45 rfl (lv_at hl 1 rfl) ?_
          refine r_get C hI 18 (by decide) rfl rfl hin7 6 (by decide) (fn := "person") (fd := "[I") (index := 13) (by decide +kernel) ⟨rfl, rfl, rfl⟩ (v := .ref (gA g 20)) rfl dX7_desk_46 ?_
          refine lv_iload_n hx hb dX7_desk_49 rfl (lv_at hl 0 rfl) ?_
          refine lv_aload_n hx hb dX7_desk_50 rfl (lv_at hl 1 rfl) ?_
          refine r_get C hI 18 (by decide) rfl rfl hin7 10 (by decide) (fn := "readPerson") (fd := "[I") (index := 19) (by decide +kernel) ⟨rfl, rfl, rfl⟩ (v := .ref (gA g 22)) rfl dX7_desk_51 ?_
          refine lv_iload_n hx hb dX7_desk_54 rfl (lv_at hl 0 rfl) ?_
          refine r_ald C hI 22 (by decide) rfl (by omega) (by decide) dX7_desk_55 ?_
          refine r_ast C hI 20 (by decide) (fun _ => rfl) (by omega) (by decide) dX7_desk_56 (fun H locs hI => ?_)
          refine lv_iinc (v := iI (kk + 1)) (lv' := [(1, .int (iI (kk + 1))), (0, .ref (gA g 18))]) hx hb dX7_desk_57 hl (k := 0) rfl (iI_add _ _) (by decide) rfl (fun ls hl => ?_)
          refine lv_goto (tgt := 35) hx hb dX7_desk_60 (by decide) ?_
          exact ih35 (kk + 1) (mset N1 20 kk (N1 22 kk)) (by omega) (by (have h4 := @cpA_s M2 22 0 20 0 kk h1.1 (Or.inl (by decide))); rw [Int.zero_add, ← h2] at h4; exact h4) (by omega) _ _ hI ls (lv_sub hl [0, 1] rfl)
    exact lp35 _ 0 (mset (mset M_1 18 4 (M_1 18 8)) 18 5 (M_1 18 9)) (by omega) (by (rw [← hM2]; exact cpA_0 _ _ _ _ _)) (Nat.lt_succ_self _) _ _ hI ls (lv_sub hl [0, 1] rfl)
  · refine lv_bipush (v := iI (-3)) hx hb dX7_desk_14 (by decide +kernel) ?_
    refine r_iret C hr hlk hI ?_ dX7_desk_16
    exact ⟨_, rfl, (show (fun z u => z = zDsk A ∧ QC M u ∧ RM (gDsk A) u) (-3) M_1 from by exact ⟨by (unfold zDsk; rw [if_neg (by omega)]), by (unfold gDsk; rw [if_neg (by omega)]; exact RM_rd rm0 (fun c a b d => (q_1.2.1 c a b d).trans (mset_n _ _ _ a)) (fun q a b d e => (q_1.2.2.1 q b d e).trans (by rw [mset_s, rw1_n _ _ a])))⟩)⟩
