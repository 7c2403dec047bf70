
/-! WHAT HOLDS between calls is kept -/
theorem VM_eq {A B : Mem} {o : Nat} (h : VM A o) (h3 : B 3 = A 3) (h7 : B 7 = A 7) (h1 : B (o + 1) = A (o + 1)) (h2 : B (o + 2) = A (o + 2)) : VM B o :=
  VM_of h h3 h7 (fun q _ => by rw [h1, h2]; exact ⟨rfl, rfl⟩)
/-- nothing but what is now, and what nobody reads, has changed -/
theorem WF_fr {A B : Mem} (wf : WF A) (hc : ∀ c : Nat, ((1 ≤ c ∧ c ≤ 13) ∨ c = 15 ∨ (38 ≤ c ∧ c < 86)) → B c = A c) (hN : VM B 32) : WF B := by
  obtain ⟨w_txt, hL, w_cnt, w_per, w_glo, w_now, w_act, w_rng, ⟨s0, s1⟩, w_see, w_sa⟩ := wf
  have e3 := hc 3 (by decide)
  have e7 := hc 7 (by decide)
  have e15 := hc 15 (by decide)
  have mv : ∀ o : Nat, (37 ≤ o ∧ o + 2 < 86) → VM A o → VM B o := fun o ho h => VM_eq h e3 e7 (hc _ (by omega)) (hc _ (by omega))
  have er : ∀ k : Int, ringO B k = ringO A k := fun k => by unfold ringO; rw [e15]
  refine ⟨?_, ?_, ?_, ?_, ?_, hN, ?_, fun k hk => ?_, ⟨?_, ?_⟩, ?_, ?_⟩
  · rw [hc 1 (by decide)]; exact w_txt
  · rw [hc 2 (by decide)]; exact hL
  · rw [e3]; exact w_cnt
  · rw [e3, hc 4 (by decide), hc 5 (by decide), hc 6 (by decide)]; exact w_per
  · rw [e3, e7, hc 8 (by decide), hc 9 (by decide)]; exact w_glo
  · rw [e15]; exact w_act
  · rw [e15] at hk
    rw [er]
    have hb := ringO_b A k
    exact mv _ (by omega) (w_rng k hk)
  · rw [hc 80 (by decide)]
    exact s0.imp id (fun h => ⟨h.1, mv 80 (by decide) h.2⟩)
  · rw [hc 83 (by decide)]
    exact s1.imp id (fun h => ⟨h.1, mv 83 (by decide) h.2⟩)
  · rw [hc 10 (by decide)]; exact w_see
  · rw [hc 10 (by decide), hc 11 (by decide), hc 12 (by decide), hc 13 (by decide)]; exact w_sa
theorem WF_g {A B : Mem} (wf : WF A) (hc : ∀ c : Nat, ((3 ≤ c ∧ c ≤ 9) ∨ c = 15 ∨ (32 ≤ c ∧ c ≤ 34) ∨ (38 ≤ c ∧ c < 86)) → B c = A c) (h1 : 0 ≤ B 1 1 ∧ B 1 1 ≤ 40) (h2 : ∀ j : Int, 0 ≤ B 2 j ∧ B 2 j ≤ 255) (h10 : 0 ≤ B 10 3 ∧ B 10 3 ≤ 4) (hs : ∀ k : Int, 0 ≤ k ∧ k < B 10 3 → (0 ≤ B 11 k ∧ B 11 k < 4) ∧ (0 ≤ B 12 k ∧ B 12 k < 5) ∧ (0 ≤ B 13 k ∧ B 13 k ≤ 7)) : WF B := by
  obtain ⟨w_txt, hL, w_cnt, w_per, w_glo, w_now, w_act, w_rng, ⟨s0, s1⟩, w_see, w_sa⟩ := wf
  have e3 := hc 3 (by decide)
  have e7 := hc 7 (by decide)
  have e15 := hc 15 (by decide)
  have mv : ∀ o : Nat, (37 ≤ o ∧ o + 2 < 86) → VM A o → VM B o := fun o ho h => VM_eq h e3 e7 (hc _ (by omega)) (hc _ (by omega))
  have er : ∀ k : Int, ringO B k = ringO A k := fun k => by unfold ringO; rw [e15]
  refine ⟨h1, h2, ?_, ?_, ?_, VM_eq w_now e3 e7 (hc _ (by decide)) (hc _ (by decide)), ?_, fun k hk => ?_, ⟨?_, ?_⟩, h10, hs⟩
  · rw [e3]; exact w_cnt
  · rw [e3, hc 4 (by decide), hc 5 (by decide), hc 6 (by decide)]; exact w_per
  · rw [e3, e7, hc 8 (by decide), hc 9 (by decide)]; exact w_glo
  · rw [e15]; exact w_act
  · rw [e15] at hk
    rw [er]
    have hb := ringO_b A k
    exact mv _ (by omega) (w_rng k hk)
  · rw [hc 80 (by decide)]
    exact s0.imp id (fun h => ⟨h.1, mv 80 (by decide) h.2⟩)
  · rw [hc 83 (by decide)]
    exact s1.imp id (fun h => ⟨h.1, mv 83 (by decide) h.2⟩)
theorem VM_cp {A : Mem} {f o : Nat} (h : VM A f) (ho : 9 < o) : VM (cpM A f o) o := VM_of h (cpM_n (by omega)) (cpM_n (by omega)) (fun q hq => @cpM_o1 A f o q hq)
theorem WF_note {A : Mem} (wf : WF A) : WF (aAdd A) := by
  have wf0 := wf
  obtain ⟨w_txt, hL, w_cnt, w_per, w_glo, w_now, ⟨w_a1, w_a2⟩, w_rng, ⟨s0, s1⟩, w_see, w_sa⟩ := wf
  have ea : ∀ c : Nat, c ≠ 15 → c < 38 → aAdd A c = A c := fun c h1 h2 => aAdd_n h1 h2
  have e3 := ea 3 (by decide) (by decide)
  have e7 := ea 7 (by decide) (by decide)
  have hb := ringO_b A (A 15 2)
  have hb77 : ringO A (A 15 2) ≤ 77 := by unfold ringO; omega
  have mv : ∀ o : Nat, (o + 2 < ringO A (A 15 2) ∨ ringO A (A 15 2) + 2 < o) → o ≠ 14 ∧ o ≠ 13 → VM A o → VM (aAdd A) o := fun o ho ho2 h => VM_eq h e3 e7 (aAdd_g (by omega) (by omega)) (aAdd_g (by omega) (by omega))
  refine ⟨?_, ?_, ?_, ?_, ?_, VM_eq w_now e3 e7 (ea _ (by decide) (by decide)) (ea _ (by decide) (by decide)), ?_, ?_, ⟨?_, ?_⟩, ?_, ?_⟩
  · rw [ea 1 (by decide) (by decide)]; exact w_txt
  · rw [ea 2 (by decide) (by decide)]; exact hL
  · rw [e3]; exact w_cnt
  · rw [e3, ea 4 (by decide) (by decide), ea 5 (by decide) (by decide), ea 6 (by decide) (by decide)]; exact w_per
  · rw [e3, e7, ea 8 (by decide) (by decide), ea 9 (by decide) (by decide)]; exact w_glo
  · unfold aAdd
    split
    · rw [mset_s, rw1_n _ _ (by decide), rw1_s, cpM_n (by omega)]; omega
    · rw [mset_s, rw1_s, rw1_n _ _ (by decide), cpM_n (by omega)]; omega
  · intro k hk
    by_cases h : A 15 2 < 14
    · have eA : aAdd A = mset (cpM A 32 (ringO A (A 15 2))) 15 2 (A 15 2 + 1) := by unfold aAdd; rw [if_pos h]
      have e1 : aAdd A 15 1 = A 15 1 := by rw [eA, mset_s, rw1_n _ _ (by decide), cpM_n (by omega)]
      have e2 : aAdd A 15 2 = A 15 2 + 1 := by rw [eA, mset_s, rw1_s]
      have er : ringO (aAdd A) k = ringO A k := by unfold ringO; rw [e1]
      rw [e2] at hk
      rw [er]
      by_cases ek : k = A 15 2
      · subst ek
        refine VM_eq (VM_cp (o := ringO A (A 15 2)) w_now (by omega)) ?_ ?_ ?_ ?_
        · rw [e3, cpM_n (by omega)]
        · rw [e7, cpM_n (by omega)]
        · rw [eA, mset_n _ _ _ (by omega)]
        · rw [eA, mset_n _ _ _ (by omega)]
      · have hne := ringO_ne A w_a1 (j := k) (k := A 15 2) (by omega) h
        have hbk := ringO_b A k
        exact mv _ (by omega) (by omega) (w_rng k (by omega))
    · have h14 : A 15 2 = 14 := by omega
      have eA : aAdd A = mset (cpM A 32 (ringO A (A 15 2))) 15 1 ((A 15 1 + 1) % 14) := by unfold aAdd; rw [if_neg h]
      have e1 : aAdd A 15 1 = (A 15 1 + 1) % 14 := by rw [eA, mset_s, rw1_s]
      have e2 : aAdd A 15 2 = A 15 2 := by rw [eA, mset_s, rw1_n _ _ (by decide), cpM_n (by omega)]
      rw [e2, h14] at hk
      have er : ringO (aAdd A) k = ringO A (k + 1) := by unfold ringO; rw [e1]; omega
      have e0 : ringO A (A 15 2) = ringO A 0 := by unfold ringO; omega
      rw [er]
      by_cases ek : k = 13
      · subst ek
        rw [show (13 : Int) + 1 = A 15 2 by omega]
        refine VM_eq (VM_cp (o := ringO A (A 15 2)) w_now (by omega)) ?_ ?_ ?_ ?_
        · rw [e3, cpM_n (by omega)]
        · rw [e7, cpM_n (by omega)]
        · rw [eA, mset_n _ _ _ (by omega)]
        · rw [eA, mset_n _ _ _ (by omega)]
      · have hne := ringO_ne A w_a1 (j := 0) (k := k + 1) (by omega) (by omega)
        rw [← e0] at hne
        have hbk := ringO_b A (k + 1)
        exact mv _ (by omega) (by omega) (w_rng (k + 1) (by omega))
  · rw [aAdd_g (c := 80) (by omega) (by omega)]
    exact s0.imp id (fun h => ⟨h.1, mv 80 (by omega) (by decide) h.2⟩)
  · rw [aAdd_g (c := 83) (by omega) (by omega)]
    exact s1.imp id (fun h => ⟨h.1, mv 83 (by omega) (by decide) h.2⟩)
  · rw [ea 10 (by decide) (by decide)]; exact w_see
  · rw [ea 10 (by decide) (by decide), ea 11 (by decide) (by decide), ea 12 (by decide) (by decide), ea 13 (by decide) (by decide)]; exact w_sa
/-- a change of what is now, behind a note -/
theorem WF_nw {A B : Mem} (wf : WF A) (hB : ∀ c : Nat, c ≠ 32 → c ≠ 33 → c ≠ 34 → B c = A c) (hN : VM B 32) : WF B := WF_fr wf (fun c hc => hB c (by omega) (by omega) (by omega)) hN
theorem WF_now32 {A : Mem} (wf : WF A) : VM A 32 := wf.2.2.2.2.2.1
theorem WF_wr {A : Mem} {v : Int} (wf : WF A) : WF (gWr A v) := by
  unfold gWr
  split
  · exact wf
  · split
    · exact wf
    · rename_i h1 h2
      have w_txt := wf.1
      have hL := wf.2.1
      refine WF_g wf (fun c hc => by rw [mset_n _ _ _ (by omega), mset_n _ _ _ (by omega)]) ?_ (fun j => ?_) wf.2.2.2.2.2.2.2.2.2.1 wf.2.2.2.2.2.2.2.2.2.2
      · rw [mset_s, rw1_s]; omega
      · rw [mset_n _ _ _ (by decide), mset_s]
        unfold rw1
        split
        · omega
        · exact hL j
theorem WF_wp {A : Mem} (wf : WF A) : WF (mset A 1 1 0) := by
  refine WF_g wf (fun c hc => mset_n _ _ _ (by omega)) ?_ wf.2.1 wf.2.2.2.2.2.2.2.2.2.1 wf.2.2.2.2.2.2.2.2.2.2
  rw [mset_s, rw1_s]; decide
theorem WF_sd {A : Mem} {v : Int} (wf : WF A) : WF (mset A 0 8 v) := WF_fr wf (fun c hc => mset_n _ _ _ (by omega)) (VM_eq (WF_now32 wf) (mset_n _ _ _ (by decide)) (mset_n _ _ _ (by decide)) (mset_n _ _ _ (by decide)) (mset_n _ _ _ (by decide)))
/-- one wearer changed -/
theorem VM_w {A B : Mem} {x w : Int} (h : VM A 32) (h3 : B 3 = A 3) (h7 : B 7 = A 7) (h1 : B 33 = A 33) (h2 : B 34 = rw1 (A 34) x w) (hw : w = -9 ∨ (0 ≤ w ∧ w < A 3 6 ∧ x < A 3 7)) (hd : w = -9 ∨ ∀ q : Int, 0 ≤ q ∧ q < 4 → ¬ A 34 q = w) : VM B 32 := by
  obtain ⟨v1, v2⟩ := h
  have v1' : ∀ q : Int, 0 ≤ q ∧ q < 4 → (0 ≤ A 33 q ∧ A 33 q < 1000) ∧ (A 34 q = -9 ∨ (0 ≤ A 34 q ∧ A 34 q < A 3 6 ∧ q < A 3 7)) ∧ (q < A 3 7 → KOK (A 33 q) (A 7 q)) := v1
  have v2' : ∀ q r : Int, (0 ≤ q ∧ q < 4) → (0 ≤ r ∧ r < 4) → A 34 q = A 34 r → A 34 q = -9 ∨ q = r := v2
  have k1 : ∀ q : Int, 0 ≤ q ∧ q < 4 → (0 ≤ B 33 q ∧ B 33 q < 1000) ∧ (B 34 q = -9 ∨ (0 ≤ B 34 q ∧ B 34 q < B 3 6 ∧ q < B 3 7)) ∧ (q < B 3 7 → KOK (B 33 q) (B 7 q)) := by
    intro q hq
    rw [h1, h2, h3, h7]
    refine ⟨(v1' q hq).1, ?_, (v1' q hq).2.2⟩
    by_cases e : q = x
    · rw [e, rw1_s]; exact hw
    · rw [rw1_n _ _ e]; exact (v1' q hq).2.1
  have k2 : ∀ q r : Int, (0 ≤ q ∧ q < 4) → (0 ≤ r ∧ r < 4) → B 34 q = B 34 r → B 34 q = -9 ∨ q = r := by
    intro q r hq hr
    rw [h2]
    by_cases e : q = x
    · subst e
      rw [rw1_s]
      by_cases e2 : r = q
      · exact fun _ => Or.inr e2.symm
      · rw [rw1_n _ _ e2]
        exact fun h => hd.imp id (fun d => absurd h.symm (d r hr))
    · rw [rw1_n _ _ e]
      by_cases e2 : r = x
      · subst e2
        rw [rw1_s]
        exact fun h => hd.elim (fun d => Or.inl (h.trans d)) (fun d => absurd h (d q hq))
      · rw [rw1_n _ _ e2]
        exact v2' q r hq hr
  exact ⟨k1, k2⟩
theorem gOn_no {r : Int → Int} {y : Int} (h : gOn r y = -9) : ∀ q : Int, 0 ≤ q ∧ q < 4 → ¬ r q = y := by
  intro q hq e
  unfold gOn at h
  obtain rfl | rfl | rfl | rfl : q = 0 ∨ q = 1 ∨ q = 2 ∨ q = 3 := by omega
  all_goals ((repeat' split at h) <;> first | exact absurd h (by decide) | exact absurd e (by assumption))
theorem WF_we {A : Mem} {x y : Int} (wf : WF A) : WF (gWea A x y) := by
  unfold gWea
  split
  · exact wf
  · split
    · exact wf
    · rename_i h1 h2
      have hN := WF_note wf
      have hG := wf.2.2.1
      have hg : gOn (A 34) y = -9 := by omega
      have e34 : aAdd A 34 = A 34 := aAdd_n (by decide) (by decide)
      have e3 : aAdd A 3 = A 3 := aAdd_n (by decide) (by decide)
      refine WF_nw hN (fun c _ _ h => mset_n _ _ _ h) (VM_w (A := aAdd A) (x := x) (w := y) (WF_now32 hN) (mset_n _ _ _ (by decide)) (mset_n _ _ _ (by decide)) (mset_n _ _ _ (by decide)) (mset_s _ _ _ _) (Or.inr ?_) (Or.inr ?_))
      · rw [e3]; omega
      · rw [e34]; exact gOn_no hg
theorem VM_ld {A : Mem} {x : Int} (wf : VM A 32) (hG : A 3 7 ≤ 4) (hx : 0 ≤ x ∧ x < A 3 7) (hp : ∀ q : Int, 0 ≤ q ∧ q < A 3 6 → 1 ≤ A 4 q ∧ A 4 q ≤ 7) (hr : 1 ≤ A 7 x ∧ A 7 x ≤ 3) (hw : ¬ A 34 x = -9) : VM (ldM A x) 32 := by
  have v : (0 ≤ A 33 x ∧ A 33 x < 1000) ∧ (A 34 x = -9 ∨ (0 ≤ A 34 x ∧ A 34 x < A 3 6 ∧ x < A 3 7)) ∧ (x < A 3 7 → KOK (A 33 x) (A 7 x)) := wf.1 x (by omega)
  have w := v.2.1.resolve_left hw
  have k := KOK_beh (v.2.2 hx.2) hr (hp (A 34 x) ⟨w.1, w.2.1⟩)
  have v1 : VM (mset A 33 x (behO (A 33 x) (A 4 (A 34 x)) (A 7 x))) 32 := VM_k (x := x) wf (by omega) (mset_n _ _ _ (by decide)) (mset_n _ _ _ (by decide)) (mset_s _ _ _ _) (mset_n _ _ _ (by decide)) k
  exact VM_w (x := x) (w := -9) v1 (mset_n _ _ _ (by decide)) (mset_n _ _ _ (by decide)) (mset_n _ _ _ (by decide)) (mset_s _ _ _ _) (Or.inl rfl) (Or.inl rfl)
theorem ldM_n {A : Mem} {x : Int} {c : Nat} (h1 : c ≠ 33) (h2 : c ≠ 34) : ldM A x c = A c := by
  unfold ldM
  rw [mset_n _ _ _ h2, mset_n _ _ _ h1]
theorem WF_ld {A : Mem} {x : Int} (wf : WF A) (hx : 0 ≤ x ∧ x < A 3 7) (hw : ¬ A 34 x = -9) : WF (ldM A x) :=
  WF_nw wf (fun c _ h1 h2 => ldM_n h1 h2) (VM_ld (WF_now32 wf) wf.2.2.1.2.2 hx (fun q hq => (wf.2.2.2.1 q hq).1) (wf.2.2.2.2.1 x hx).1 hw)
theorem WF_ta {A : Mem} {x : Int} (wf : WF A) : WF (gTak A x) := by
  unfold gTak
  split
  · exact wf
  · split
    · exact wf
    · rename_i h1 h2
      have e34 : aAdd A 34 = A 34 := aAdd_n (by decide) (by decide)
      have e3 : aAdd A 3 = A 3 := aAdd_n (by decide) (by decide)
      exact WF_ld (WF_note wf) (by rw [e3]; omega) (by rw [e34]; exact h2)
theorem WF_ws {A : Mem} {x : Int} (wf : WF A) : WF (gWsh A x) := by
  unfold gWsh
  split
  · exact wf
  · split
    · exact wf
    · rename_i h1 h2
      have hN := WF_note wf
      have hG := wf.2.2.1
      have e33 : aAdd A 33 = A 33 := aAdd_n (by decide) (by decide)
      have e7 : aAdd A 7 = A 7 := aAdd_n (by decide) (by decide)
      have k : KOK (A 33 x) (A 7 x) := ((WF_now32 wf).1 x (by omega)).2.2 (by omega)
      refine WF_nw hN (fun c _ h _ => mset_n _ _ _ h) (VM_k (A := aAdd A) (x := x) (k := A 33 x / 10) (WF_now32 hN) (by omega) (mset_n _ _ _ (by decide)) (mset_n _ _ _ (by decide)) (mset_s _ _ _ _) (mset_n _ _ _ (by decide)) ?_)
      rw [e7]
      exact KOK_wash k
theorem WF_dyM {A : Mem} (wf : WF A) : ∀ n : Nat, (n : Int) ≤ A 3 7 → WF (dyM A n)
  | 0, _ => wf
  | n + 1, h => by
    have ih := WF_dyM wf n (by omega)
    unfold dyM
    split
    · exact ih
    · rename_i h2
      exact WF_ld ih (by rw [dyM_n A (by decide) (by decide)]; omega) h2
theorem WF_da {A : Mem} (wf : WF A) : WF (gDay A) := by
  have hN := WF_note wf
  have e3 : aAdd A 3 = A 3 := aAdd_n (by decide) (by decide)
  have hG := wf.2.2.1
  have hD := WF_dyM hN (A 3 7).toNat (by rw [e3]; omega)
  unfold gDay
  exact WF_nw hD (fun c h _ _ => mset_n _ _ _ h) (VM_eq (WF_now32 hD) (mset_n _ _ _ (by decide)) (mset_n _ _ _ (by decide)) (mset_n _ _ _ (by decide)) (mset_n _ _ _ (by decide)))
theorem WF_cp {A : Mem} {f : Nat} (wf : WF A) (hf : VM A f) (h2 : f ≠ 32) : WF (cpM A f 32) := WF_nw wf (fun c h1 h2 h3 => cpM_n (by omega)) (VM_cp hf (by decide))
/-- fewer acts -/
theorem WF_ac {A : Mem} {n : Int} (wf : WF A) (hn : 0 ≤ n ∧ n ≤ A 15 2) : WF (mset A 15 2 n) := by
  obtain ⟨w_txt, hL, w_cnt, w_per, w_glo, w_now, ⟨w_a1, w_a2⟩, w_rng, w_slo, w_see, w_sa⟩ := wf
  have er : ∀ k : Int, ringO (mset A 15 2 n) k = ringO A k := fun k => by unfold ringO; rw [mset_s, rw1_n _ _ (by decide)]
  refine ⟨w_txt, hL, w_cnt, w_per, w_glo, w_now, ?_, fun k hk => ?_, w_slo, w_see, w_sa⟩
  · rw [mset_s, rw1_n _ _ (by decide), rw1_s]; omega
  · rw [mset_s, rw1_s] at hk
    rw [er]
    have hb := ringO_b A k
    exact VM_eq (w_rng k (by omega)) (mset_n _ _ _ (by decide)) (mset_n _ _ _ (by decide)) (mset_n _ _ _ (by omega)) (mset_n _ _ _ (by omega))
theorem WF_un {A : Mem} (wf : WF A) : WF (gUnd A) := by
  unfold gUnd
  split
  · exact wf
  · rename_i h
    have ha := wf.2.2.2.2.2.2.1
    have hb := ringO_b A (A 15 2 - 1)
    have hr := wf.2.2.2.2.2.2.2.1 (A 15 2 - 1) (by omega)
    unfold aBack
    refine WF_cp (WF_ac wf (by omega)) ?_ (by omega)
    exact VM_eq hr (mset_n _ _ _ (by decide)) (mset_n _ _ _ (by decide)) (mset_n _ _ _ (by omega)) (mset_n _ _ _ (by omega))
theorem WF_us {A : Mem} (wf : WF A) : WF (gUns A) := by
  unfold gUns
  refine WF_g wf (fun c hc => mset_n _ _ _ (by omega)) wf.1 wf.2.1 ?_ (fun k hk => ?_)
  · rw [mset_s, rw1_s]; decide
  · rw [mset_s, rw1_s] at hk; omega
theorem WF_se {A : Mem} {x y dd : Int} (wf : WF A) : WF (gSee A x y dd) := by
  unfold gSee
  split
  · exact wf
  · split
    · exact wf
    · split
      · exact wf
      · rename_i h1 h2 h3
        have w_cnt := wf.2.2.1
        have w_see := wf.2.2.2.2.2.2.2.2.2.1
        have w_sa := wf.2.2.2.2.2.2.2.2.2.2
        refine WF_g wf (fun c hc => by rw [mset_n _ _ _ (by omega), mset_n _ _ _ (by omega), mset_n _ _ _ (by omega), mset_n _ _ _ (by omega)]) wf.1 wf.2.1 ?_ (fun k hk => ?_)
        · rw [mset_s, rw1_s]; omega
        · rw [mset_s, rw1_s] at hk
          show (0 ≤ rw1 (A 11) (A 10 3) x k ∧ rw1 (A 11) (A 10 3) x k < 4) ∧ (0 ≤ rw1 (A 12) (A 10 3) y k ∧ rw1 (A 12) (A 10 3) y k < 5) ∧ (0 ≤ rw1 (A 13) (A 10 3) dd k ∧ rw1 (A 13) (A 10 3) dd k ≤ 7)
          by_cases e : k = A 10 3
          · rw [e, rw1_s, rw1_s, rw1_s]; omega
          · rw [rw1_n _ _ e, rw1_n _ _ e, rw1_n _ _ e]
            exact w_sa k (by omega)
theorem WF_wk {A : Mem} {v : Int} (wf : WF A) : WF (gWek A v) := by
  unfold gWek
  split
  · exact wf
  · have e : ∀ c : Nat, c ≠ 0 → ¬ (35 ≤ c ∧ c < 38) → wkM (cpM A 32 35) v.toNat c = A c := fun c h1 h2 => by rw [wkM_n _ (by omega) h1, cpM_n (by omega)]
    exact WF_fr wf (fun c hc => e c (by omega) (by omega)) (VM_eq (WF_now32 wf) (e _ (by decide) (by decide)) (e _ (by decide) (by decide)) (e _ (by decide) (by decide)) (e _ (by decide) (by decide)))
theorem WF_ke {A : Mem} {v : Int} (wf : WF A) : WF (gKee A v) := by
  unfold gKee
  split
  · exact wf
  · rename_i h
    have hv := (sltO_b (v := v) (by omega)).2
    obtain ⟨w_txt, hL, w_cnt, w_per, w_glo, w_now, w_act, w_rng, ⟨s0, s1⟩, w_see, w_sa⟩ := wf
    have e : ∀ c : Nat, c < 80 → cpM A 32 (sltO v) c = A c := fun c hc => cpM_n (by omega)
    have mv : ∀ o : Nat, (o + 2 < sltO v ∨ sltO v + 2 < o) → VM A o → VM (cpM A 32 (sltO v)) o := fun o ho h => VM_eq h (e 3 (by decide)) (e 7 (by decide)) (cpM_n (by omega)) (cpM_n (by omega))
    have er : ∀ k : Int, ringO (cpM A 32 (sltO v)) k = ringO A k := fun k => by unfold ringO; rw [e 15 (by decide)]
    have hcp : VM (cpM A 32 (sltO v)) (sltO v) := VM_cp w_now (by omega)
    have h31 : cpM A 32 (sltO v) (sltO v) 3 = 1 := cpM_o2.2
    refine ⟨?_, ?_, ?_, ?_, ?_, mv 32 (by omega) w_now, ?_, fun k hk => ?_, ⟨?_, ?_⟩, ?_, ?_⟩
    · rw [e 1 (by decide)]; exact w_txt
    · rw [e 2 (by decide)]; exact hL
    · rw [e 3 (by decide)]; exact w_cnt
    · rw [e 3 (by decide), e 4 (by decide), e 5 (by decide), e 6 (by decide)]; exact w_per
    · rw [e 3 (by decide), e 7 (by decide), e 8 (by decide), e 9 (by decide)]; exact w_glo
    · rw [e 15 (by decide)]; exact w_act
    · rw [e 15 (by decide)] at hk
      rw [er]
      have hb := ringO_b A k
      have hb77 : ringO A k ≤ 77 := by unfold ringO; omega
      exact mv _ (by omega) (w_rng k hk)
    · rcases hv with hv | hv
      · rw [hv] at hcp h31 ⊢; exact Or.inr ⟨h31, hcp⟩
      · rw [cpM_n (c := 80) (by omega)]
        exact s0.imp id (fun h => ⟨h.1, mv 80 (by omega) h.2⟩)
    · rcases hv with hv | hv
      · rw [cpM_n (c := 83) (by omega)]
        exact s1.imp id (fun h => ⟨h.1, mv 83 (by omega) h.2⟩)
      · rw [hv] at hcp h31 ⊢; exact Or.inr ⟨h31, hcp⟩
    · rw [e 10 (by decide)]; exact w_see
    · rw [e 10 (by decide), e 11 (by decide), e 12 (by decide), e 13 (by decide)]; exact w_sa
theorem WF_ag {A : Mem} {v : Int} (wf : WF A) : WF (gAga A v) := by
  unfold gAga
  split
  · exact wf
  · split
    · exact wf
    · rename_i h h2
      have hv := (sltO_b (v := v) (by omega)).2
      have hs := wf.2.2.2.2.2.2.2.2.1
      have h3 : A (sltO v) 3 = 1 := Decidable.not_not.mp h2
      have hV : VM A (sltO v) := by
        rcases hv with hv | hv
        · rw [hv] at h3 ⊢
          exact (hs.1.resolve_left (by omega)).2
        · rw [hv] at h3 ⊢
          exact (hs.2.resolve_left (by omega)).2
      have hw := WF_cp wf hV (by omega)
      have ha := hw.2.2.2.2.2.2.1
      exact WF_ac hw (by omega)
theorem WF_de {A : Mem} (wf : WF A) : WF (gDsk A) := by
  unfold gDsk
  split
  · rename_i f9
    obtain ⟨w_txt, hL, w_cnt, w_per, w_glo, w_now, w_act, w_rng, w_slo, w_see, w_sa⟩ := wf
    have ffk := ffO_ok (r := A 2) (A 1 1).toNat 0 (by decide) f9
    have hq9 : A 1 1 = 1 + 4 * (nParts A : Int) ∧ nParts A < 10 := by unfold nParts; omega
    have fk : ∀ t : Int, 0 ≤ t ∧ t < 1 + 4 * (nParts A : Int) → fitB (A 2) t = true := fun t ht => ffk.1 t (by omega)
    have hd3 := rdM_3 A (nParts A) (fun i hi => (fit_part (fk (1 + 4 * (i : Int)) (by omega))).imp And.left And.left)
    have hd0 := rdM_0 A (nParts A)
    have hdc := cnt_le (nParts A) fk
    have okk := rdM_ok (nParts A) fk
    rw [← hd3.1, ← hd3.2] at hdc
    obtain ⟨o1, o2, o3, o4⟩ := dsk_o A
    have d : ∀ c : Nat, 3 ≤ c ∧ c ≤ 9 → dskM A c = rdM A (nParts A) c := fun c h => dsk_d h
    have e15 : dskM A 15 1 = A 15 1 := by
      unfold dskM
      rw [mset_n _ _ _ (by decide), mset_n _ _ _ (by decide), mset_s, rw1_n _ _ (by decide), stt_n (by decide), rdM_n (by decide)]
    have kk : ∀ q : Int, 0 ≤ q ∧ q < 4 → (0 ≤ tldO (rdM A (nParts A)) q ∧ tldO (rdM A (nParts A)) q ≤ 7) := fun q hq => by
      unfold tldO
      split
      · exact (okk.2 q ⟨hq.1, by assumption⟩).2.2
      · decide
    have v1 : ∀ q : Int, 0 ≤ q ∧ q < 4 → (0 ≤ dskM A 33 q ∧ dskM A 33 q < 1000) ∧ (dskM A 34 q = -9 ∨ (0 ≤ dskM A 34 q ∧ dskM A 34 q < dskM A 3 6 ∧ q < dskM A 3 7)) ∧ (q < dskM A 3 7 → KOK (dskM A 33 q) (dskM A 7 q)) := fun q hq => by
      obtain ⟨e1, e2⟩ := @dsk_m A q hq
      have hk := kk q hq
      rw [e1, e2, d 3 (by decide), d 7 (by decide)]
      refine ⟨by omega, Or.inl rfl, fun h => ?_⟩
      have := (okk.2 q ⟨hq.1, h⟩).1
      unfold KOK
      omega
    have v2 : ∀ q r : Int, (0 ≤ q ∧ q < 4) → (0 ≤ r ∧ r < 4) → dskM A 34 q = dskM A 34 r → dskM A 34 q = -9 ∨ q = r := fun q r hq _ _ => Or.inl (@dsk_m A q hq).2
    refine ⟨?_, ?_, ?_, ?_, ?_, ⟨v1, v2⟩, ?_, fun k hk => ?_, ⟨Or.inl o3, Or.inl o4⟩, ?_, ?_⟩
    · rw [dsk_n (c := 1) (by decide) (by decide) (by decide) (by decide)]; exact w_txt
    · rw [dsk_n (c := 2) (by decide) (by decide) (by decide) (by decide)]; exact hL
    · rw [d 3 (by decide)]; omega
    · rw [d 3 (by decide), d 4 (by decide), d 5 (by decide), d 6 (by decide)]; exact okk.1
    · rw [d 3 (by decide), d 7 (by decide), d 8 (by decide), d 9 (by decide)]; exact okk.2
    · rw [o2, e15]; omega
    · rw [o2] at hk; omega
    · rw [dsk_n (c := 10) (by decide) (by decide) (by decide) (by decide)]; exact w_see
    · rw [dsk_n (c := 10) (by decide) (by decide) (by decide) (by decide), dsk_n (c := 11) (by decide) (by decide) (by decide) (by decide), dsk_n (c := 12) (by decide) (by decide) (by decide) (by decide), dsk_n (c := 13) (by decide) (by decide) (by decide) (by decide)]; exact w_sa
  · exact wf
