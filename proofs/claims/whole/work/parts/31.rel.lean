
/-! HOW the reference's rows stand to the class's cells -/
theorem KG_of {k b b' : Int} {r r' : Int → Int} (h : KG k r b) (hr : ∀ j : Int, 0 ≤ j ∧ j < 4 → r' (b' + j) = r (b + j)) : KG k r' b' := by
  obtain ⟨h1, h2, h3, h4⟩ := h
  have e0 := hr 0 (by decide)
  rw [Int.add_zero, Int.add_zero] at e0
  exact ⟨by rw [e0]; exact h1, fun q => by rw [hr 1 (by decide)]; exact h2 q, fun q => by rw [hr 2 (by decide)]; exact h3 q, fun q => by rw [hr 3 (by decide)]; exact h4 q⟩
/-- the page from b on is the Moment o of the class's memory A -/
def PG (A : Mem) (o : Nat) (r : Int → Int) (b : Int) : Prop := (∀ q : Int, 0 ≤ q ∧ q < A 3 7 → KG (A (o + 1) q) r (b + 5 * q) ∧ r (b + 5 * q + 4) = A (o + 2) q) ∧ r (b + 20) = A o 2
theorem PG_of {A A' : Mem} {o o' : Nat} {r r' : Int → Int} {b b' : Int} (h : PG A o r b) (h3 : A' 3 7 = A 3 7) (hG : A 3 7 ≤ 4) (hk : ∀ q : Int, 0 ≤ q ∧ q < 4 → A' (o' + 1) q = A (o + 1) q ∧ A' (o' + 2) q = A (o + 2) q) (hd : A' o' 2 = A o 2) (hr : ∀ j : Int, 0 ≤ j ∧ j < 21 → r' (b' + j) = r (b + j)) : PG A' o' r' b' := by
  refine ⟨fun q hq => ?_, ?_⟩
  · rw [h3] at hq
    obtain ⟨h1, h2⟩ := h.1 q hq
    obtain ⟨k1, k2⟩ := hk q (by omega)
    rw [k1, k2]
    refine ⟨KG_of h1 (fun j hj => ?_), ?_⟩
    · have := hr (5 * q + j) (by omega)
      rw [Int.add_assoc, Int.add_assoc]; exact this
    · have := hr (5 * q + 4) (by omega)
      rw [Int.add_assoc, this, ← Int.add_assoc]; exact h2
  · rw [hd, hr 20 (by decide)]; exact h.2
theorem PG_0 {A : Mem} {o : Nat} {r : Int → Int} (h : PG A o r 0) (q : Int) (hq : 0 ≤ q ∧ q < A 3 7) : KG (A (o + 1) q) r (5 * q) ∧ r (5 * q + 4) = A (o + 2) q := by
  have h1 := h.1 q hq
  rw [Int.zero_add] at h1
  exact h1
def RT (A M : Mem) : Prop := M 18 2 = A 1 1 ∧ ∀ j : Int, M 19 j = A 2 j
def RP (A M : Mem) : Prop := (M 18 4 = A 3 6 ∧ M 18 5 = A 3 7) ∧ (∀ q : Int, M 20 (3 * q) = A 4 q ∧ M 20 (3 * q + 1) = A 5 q ∧ M 20 (3 * q + 2) = A 6 q) ∧ (∀ q : Int, M 21 (3 * q) = A 7 q ∧ M 21 (3 * q + 1) = A 8 q ∧ M 21 (3 * q + 2) = A 9 q)
def RA (A M : Mem) : Prop := M 18 15 = A 15 2 ∧ ∀ k : Int, 0 ≤ k ∧ k < A 15 2 → PG A (ringO A k) (M 26) (21 * k)
def RK (A M : Mem) : Prop := ∀ v : Int, 0 ≤ v ∧ v < 2 → M 28 v = A (sltO v) 3 ∧ (A (sltO v) 3 = 1 → PG A (sltO v) (M 27) (21 * v))
def RS (A M : Mem) : Prop := M 18 18 = A 10 3 ∧ ∀ k : Int, M 29 k = A 11 k ∧ M 30 k = A 12 k ∧ M 31 k = A 13 k
def RM (A M : Mem) : Prop := RT A M ∧ RP A M ∧ PG A 32 (M 24) 0 ∧ RA A M ∧ RK A M ∧ RS A M ∧ M 18 22 = A 0 8
/-- the class's cells stay -/
def QC (M u : Mem) : Prop := ∀ c : Nat, c < 18 ∨ 31 < c → u c = M c
theorem QC.trans {M N u : Mem} (h : QC M N) (h2 : QC N u) : QC M u := fun c hc => (h2 c hc).trans (h c hc)
theorem QC_m {M : Mem} {i : Nat} {k z : Int} (h : 18 ≤ i ∧ i ≤ 31) : QC M (mset M i k z) := fun c hc => mset_n _ _ _ (by omega)
/-- what the reference's own words need stays -/
def SM (M u : Mem) : Prop := (∀ c : Nat, c ≠ 18 → c ≠ 25 → u c = M c) ∧ u 18 2 = M 18 2 ∧ u 18 4 = M 18 4 ∧ u 18 5 = M 18 5 ∧ u 18 15 = M 18 15 ∧ u 18 18 = M 18 18 ∧ u 18 22 = M 18 22
theorem SM_QC {M u : Mem} (h : SM M u) : QC M u := fun c hc => h.1 c (by omega) (by omega)
theorem SM_RM {A M u : Mem} (h : SM M u) (r : RM A M) : RM A u := by
  obtain ⟨h0, h1, h2, h3, h4, h5, h6⟩ := h
  unfold RM RT RP RA RK RS at r ⊢
  rw [h1, h2, h3, h4, h5, h6, h0 19 (by decide) (by decide), h0 20 (by decide) (by decide), h0 21 (by decide) (by decide), h0 24 (by decide) (by decide), h0 26 (by decide) (by decide), h0 27 (by decide) (by decide), h0 28 (by decide) (by decide), h0 29 (by decide) (by decide), h0 30 (by decide) (by decide), h0 31 (by decide) (by decide)]
  exact r
theorem SM_0 (M : Mem) : SM M (mset M 18 0 0) := ⟨fun c h _ => mset_n _ _ _ h, rfl, rfl, rfl, rfl, rfl, rfl⟩
theorem RO {A M : Mem} (r : RM A M) : QC M (mset M 18 0 0) ∧ RM A (mset M 18 0 0) := ⟨SM_QC (SM_0 M), SM_RM (SM_0 M) r⟩
/-- only what is now has changed -/
theorem RM_now {B B' N N' : Mem} (r : RM B N) (hB : ∀ c : Nat, c ≠ 32 → c ≠ 33 → c ≠ 34 → B' c = B c) (hN : ∀ c : Nat, c ≠ 24 → N' c = N c) (hG : B 3 7 ≤ 4) (h : PG B' 32 (N' 24) 0) : RM B' N' := by
  obtain ⟨r1, r2, r3, ⟨r4, r5⟩, r6, r7, r8⟩ := r
  have ering : ∀ k : Int, ringO B' k = ringO B k := fun k => by unfold ringO; rw [hB 15 (by decide) (by decide) (by decide)]
  refine ⟨?_, ?_, h, ⟨?_, fun k hk => ?_⟩, fun v hv => ?_, ?_, ?_⟩
  · unfold RT at r1 ⊢
    rw [hB 1 (by decide) (by decide) (by decide), hB 2 (by decide) (by decide) (by decide), hN 18 (by decide), hN 19 (by decide)]; exact r1
  · unfold RP at r2 ⊢
    rw [hB 3 (by decide) (by decide) (by decide), hB 4 (by decide) (by decide) (by decide), hB 5 (by decide) (by decide) (by decide), hB 6 (by decide) (by decide) (by decide), hB 7 (by decide) (by decide) (by decide), hB 8 (by decide) (by decide) (by decide), hB 9 (by decide) (by decide) (by decide), hN 18 (by decide), hN 20 (by decide), hN 21 (by decide)]; exact r2
  · rw [hB 15 (by decide) (by decide) (by decide), hN 18 (by decide)]; exact r4
  · rw [hB 15 (by decide) (by decide) (by decide)] at hk
    have hb := ringO_b B k
    rw [ering, hN 26 (by decide)]
    refine PG_of (r5 k hk) (by rw [hB 3 (by decide) (by decide) (by decide)]) hG (fun q _ => ⟨?_, ?_⟩) ?_ (fun _ _ => rfl)
    · rw [hB _ (by omega) (by omega) (by omega)]
    · rw [hB _ (by omega) (by omega) (by omega)]
    · rw [hB _ (by omega) (by omega) (by omega)]
  · have hs := (sltO_b hv).2
    have h6 := r6 v hv
    rw [hN 28 (by decide), hN 27 (by decide), hB (sltO v) (by omega) (by omega) (by omega)]
    refine ⟨h6.1, fun q => PG_of (h6.2 q) (by rw [hB 3 (by decide) (by decide) (by decide)]) hG (fun q _ => ⟨?_, ?_⟩) ?_ (fun _ _ => rfl)⟩
    · rw [hB _ (by omega) (by omega) (by omega)]
    · rw [hB _ (by omega) (by omega) (by omega)]
    · rw [hB _ (by omega) (by omega) (by omega)]
  · unfold RS at r7 ⊢
    rw [hB 10 (by decide) (by decide) (by decide), hB 11 (by decide) (by decide) (by decide), hB 12 (by decide) (by decide) (by decide), hB 13 (by decide) (by decide) (by decide), hN 18 (by decide), hN 29 (by decide), hN 30 (by decide), hN 31 (by decide)]; exact r7
  · rw [hB 0 (by decide) (by decide) (by decide), hN 18 (by decide)]; exact r8
theorem mix4_at {r s : Int → Int} {q : Int} (h : 0 ≤ q ∧ q < 4) : mix4 r s q = r q := by unfold mix4; rw [if_pos h]
theorem cpM_o1 {A : Mem} {f o : Nat} {q : Int} (h : 0 ≤ q ∧ q < 4) : cpM A f o (o + 1) q = A (f + 1) q ∧ cpM A f o (o + 2) q = A (f + 2) q := by
  have e1 : ¬ o + 1 = o := by omega
  have e2 : ¬ o + 2 = o := by omega
  have e3 : ¬ o + 2 = o + 1 := by omega
  constructor
  · show (if o + 1 = o then _ else _ : Int → Int) q = _
    rw [if_neg e1, if_pos rfl, mix4_at h]
  · show (if o + 2 = o then _ else _ : Int → Int) q = _
    rw [if_neg e2, if_neg e3, if_pos rfl, mix4_at h]
theorem cpM_o2 {A : Mem} {f o : Nat} : cpM A f o o 2 = A f 2 ∧ cpM A f o o 3 = 1 := by
  constructor
  · show (if o = o then _ else _ : Int → Int) 2 = _
    rw [if_pos rfl, rw1_n _ _ (by decide), rw1_s]
  · show (if o = o then _ else _ : Int → Int) 3 = _
    rw [if_pos rfl, rw1_s]
theorem noM_n {M : Mem} {c : Nat} (h : c ≠ 18) (h2 : c ≠ 26) : noM M c = M c := by
  unfold noM
  split
  · rw [mset_n _ _ _ h, cpA_n h2, mset_n _ _ _ h, cpA_n h2]
  · rw [mset_n _ _ _ h, cpA_n h2]
theorem noM_18 {M : Mem} {q : Int} (h : q ≠ 15) : noM M 18 q = M 18 q := by
  unfold noM
  split
  · rw [mset_s, rw1_n _ _ h, cpA_n (by decide), mset_s, rw1_n _ _ h, cpA_n (by decide)]
  · rw [mset_s, rw1_n _ _ h, cpA_n (by decide)]
theorem ringO_ne (A : Mem) {j k : Int} (h : 0 ≤ A 15 1 ∧ A 15 1 < 14) (hj : 0 ≤ j ∧ j < k) (hk : k < 14) : ringO A j + 2 < ringO A k ∨ ringO A k + 2 < ringO A j := by unfold ringO; omega
theorem aAdd_g {A : Mem} {c : Nat} (h : c ≠ 15) (h2 : c < ringO A (A 15 2) ∨ ringO A (A 15 2) + 2 < c) : aAdd A c = A c := by
  unfold aAdd
  split
  · rw [mset_n _ _ _ h, cpM_n h2]
  · rw [mset_n _ _ _ h, cpM_n h2]
theorem RM_note {A M : Mem} (wf : WF A) (r : RM A M) : RM (aAdd A) (noM M) ∧ QC M (noM M) := by
  obtain ⟨w_txt, hL, w_cnt, w_per, w_glo, w_now, ⟨w_a1, w_a2⟩, w_rng, w_slo, w_see, w_sa⟩ := wf
  obtain ⟨r1, r2, r3, ⟨r4, r5⟩, r6, r7, r8⟩ := r
  have ea : ∀ c : Nat, c ≠ 15 → c < 38 → aAdd A c = A c := fun c h1 h2 => aAdd_n h1 h2
  have hb := ringO_b A (A 15 2)
  have hb77 : ringO A (A 15 2) ≤ 77 := by unfold ringO; omega
  refine ⟨⟨?_, ?_, ?_, ?_, fun v hv => ?_, ?_, ?_⟩, fun c hc => noM_n (by omega) (by omega)⟩
  · unfold RT at r1 ⊢
    rw [ea 1 (by decide) (by decide), ea 2 (by decide) (by decide), noM_18 (by decide), noM_n (by decide) (by decide)]; exact r1
  · unfold RP at r2 ⊢
    rw [ea 3 (by decide) (by decide), ea 4 (by decide) (by decide), ea 5 (by decide) (by decide), ea 6 (by decide) (by decide), ea 7 (by decide) (by decide), ea 8 (by decide) (by decide), ea 9 (by decide) (by decide), noM_18 (by decide), noM_18 (by decide), noM_n (c := 20) (by decide) (by decide), noM_n (c := 21) (by decide) (by decide)]; exact r2
  · rw [noM_n (c := 24) (by decide) (by decide)]
    refine PG_of r3 (by rw [ea 3 (by decide) (by decide)]) w_cnt.2.2 (fun q _ => ⟨?_, ?_⟩) ?_ (fun _ _ => rfl)
    · rw [ea _ (by decide) (by decide)]
    · rw [ea _ (by decide) (by decide)]
    · rw [ea _ (by decide) (by decide)]
  · have e3 : aAdd A 3 7 = A 3 7 := by rw [ea 3 (by decide) (by decide)]
    by_cases h : A 15 2 < 14
    · have hm : ¬ M 18 15 = 14 := by omega
      have eA : aAdd A = mset (cpM A 32 (ringO A (A 15 2))) 15 2 (A 15 2 + 1) := by unfold aAdd; rw [if_pos h]
      have eM : noM M = mset (cpA M 24 0 26 (21 * M 18 15) 21) 18 15 (M 18 15 + 1) := by unfold noM; rw [if_neg hm]
      have e1 : aAdd A 15 1 = A 15 1 := by rw [eA, mset_s, rw1_n _ _ (by decide), cpM_n (by omega)]
      have e2 : aAdd A 15 2 = A 15 2 + 1 := by rw [eA, mset_s, rw1_s]
      have er : ∀ k : Int, ringO (aAdd A) k = ringO A k := fun k => by unfold ringO; rw [e1]
      have eb : noM M 26 = cpA M 24 0 26 (21 * M 18 15) 21 26 := by rw [eM, mset_n _ _ _ (by decide)]
      refine ⟨?_, fun k hk => ?_⟩
      · rw [e2, eM, mset_s, rw1_s, r4]
      · rw [e2] at hk
        rw [er, eb]
        by_cases ek : k = A 15 2
        · subst ek
          refine PG_of r3 e3 w_cnt.2.2 (fun q hq => ?_) ?_ (fun j hj => ?_)
          · rw [eA, mset_n _ _ _ (by omega), mset_n _ _ _ (by omega)]; exact cpM_o1 hq
          · rw [eA, mset_n _ _ _ (by omega)]; exact cpM_o2.1
          · rw [r4, cpA_at (by omega)]; congr 1; omega
        · have hne := ringO_ne A w_a1 (j := k) (k := A 15 2) (by omega) h
          refine PG_of (r5 k (by omega)) e3 w_cnt.2.2 (fun q hq => ⟨?_, ?_⟩) ?_ (fun j hj => ?_)
          · rw [aAdd_g (by have := ringO_b A k; omega) (by omega)]
          · rw [aAdd_g (by have := ringO_b A k; omega) (by omega)]
          · rw [aAdd_g (by have := ringO_b A k; omega) (by omega)]
          · rw [r4, cpA_off (by omega)]
    · have h14 : A 15 2 = 14 := by omega
      have hm : M 18 15 = 14 := by omega
      have eA : aAdd A = mset (cpM A 32 (ringO A (A 15 2))) 15 1 ((A 15 1 + 1) % 14) := by unfold aAdd; rw [if_neg h]
      have eM : noM M = mset (cpA (mset (cpA M 26 21 26 0 273) 18 15 (M 18 15 - 1)) 24 0 26 (21 * (M 18 15 - 1)) 21) 18 15 (M 18 15 - 1 + 1) := by unfold noM; rw [if_pos hm]
      have e1 : aAdd A 15 1 = (A 15 1 + 1) % 14 := by rw [eA, mset_s, rw1_s]
      have e2 : aAdd A 15 2 = A 15 2 := by rw [eA, mset_s, rw1_n _ _ (by decide), cpM_n (by omega)]
      have er : ∀ k : Int, 0 ≤ k ∧ k < 14 → ringO (aAdd A) k = ringO A (k + 1) := fun k hk => by unfold ringO; rw [e1]; omega
      have e0 : ringO A (A 15 2) = ringO A 0 := by unfold ringO; omega
      have eb : noM M 26 = cpA (mset (cpA M 26 21 26 0 273) 18 15 (M 18 15 - 1)) 24 0 26 (21 * (M 18 15 - 1)) 21 26 := by rw [eM, mset_n _ _ _ (by decide)]
      refine ⟨?_, fun k hk => ?_⟩
      · rw [e2, eM, mset_s, rw1_s]; omega
      · rw [e2, h14] at hk
        rw [er k hk, eb]
        by_cases ek : k = 13
        · subst ek
          rw [show (13 : Int) + 1 = A 15 2 by omega]
          refine PG_of r3 e3 w_cnt.2.2 (fun q hq => ?_) ?_ (fun j hj => ?_)
          · rw [eA, mset_n _ _ _ (by omega), mset_n _ _ _ (by omega)]; exact cpM_o1 hq
          · rw [eA, mset_n _ _ _ (by omega)]; exact cpM_o2.1
          · rw [hm, cpA_at (by omega), mset_n _ _ _ (by decide), cpA_n (by decide)]; congr 1; omega
        · have hne := ringO_ne A w_a1 (j := 0) (k := k + 1) (by omega) (by omega)
          rw [← e0] at hne
          refine PG_of (r5 (k + 1) (by omega)) e3 w_cnt.2.2 (fun q hq => ⟨?_, ?_⟩) ?_ (fun j hj => ?_)
          · rw [aAdd_g (by have := ringO_b A (k + 1); omega) (by omega)]
          · rw [aAdd_g (by have := ringO_b A (k + 1); omega) (by omega)]
          · rw [aAdd_g (by have := ringO_b A (k + 1); omega) (by omega)]
          · rw [hm, cpA_off (by omega), mset_n _ _ _ (by decide), cpA_at (by omega)]; congr 1; omega
  · have hs := (sltO_b hv).2
    have h6 := r6 v hv
    rw [noM_n (c := 28) (by decide) (by decide), noM_n (c := 27) (by decide) (by decide), aAdd_g (c := sltO v) (by omega) (by omega)]
    refine ⟨h6.1, fun q => PG_of (h6.2 q) (by rw [ea 3 (by decide) (by decide)]) w_cnt.2.2 (fun q _ => ⟨?_, ?_⟩) ?_ (fun _ _ => rfl)⟩
    · rw [aAdd_g (by omega) (by omega)]
    · rw [aAdd_g (by omega) (by omega)]
    · rw [aAdd_g (by omega) (by omega)]
  · unfold RS at r7 ⊢
    rw [ea 10 (by decide) (by decide), ea 11 (by decide) (by decide), ea 12 (by decide) (by decide), ea 13 (by decide) (by decide), noM_18 (by decide), noM_n (c := 29) (by decide) (by decide), noM_n (c := 30) (by decide) (by decide), noM_n (c := 31) (by decide) (by decide)]; exact r7
  · rw [ea 0 (by decide) (by decide), noM_18 (by decide)]; exact r8
/-- a glove is taken off -/
def GO (b k d rm : Int) (M u : Mem) : Prop := (∀ c, c ≠ 24 → u c = M c) ∧ KG (behO k d rm) (u 24) b ∧ u 24 (b + 4) = -9 ∧ (∀ j : Int, ¬ (b ≤ j ∧ j < b + 5) → u 24 j = M 24 j)
theorem GO_of {b k d rm : Int} {M u : Mem} (h : KD 24 b k d rm M u) : GO b k d rm M (mset u 24 (b + 4) (-9)) := by
  obtain ⟨h1, h2, h3⟩ := h
  refine ⟨fun c hc => by rw [mset_n _ _ _ hc]; exact h1 c hc, KG_of h2 (fun j hj => ?_), by rw [mset_s, rw1_s], fun j hj => ?_⟩
  · rw [mset_s, rw1_n _ _ (by omega)]
  · rw [mset_s, rw1_n _ _ (by omega)]; exact h3 j (by omega)
set_option maxHeartbeats 4000000 in
set_option maxRecDepth 100000 in
theorem c_X7_goOff (l : Launch) (g : GT) (M : Mem) (x : Int) (k : Int) (hx : 0 ≤ x ∧ x < 4) (hk : KOK k (M 21 (3 * x))) (hrm : 1 ≤ M 21 (3 * x) ∧ M 21 (3 * x) ≤ 3) (hw : 0 ≤ M 24 (5 * x + 4) ∧ M 24 (5 * x + 4) < 5) (hd : 1 ≤ M 20 (3 * M 24 (5 * x + 4)) ∧ M 20 (3 * M 24 (5 * x + 4)) ≤ 7) (hg : KG k (M 24) (5 * x)) : Ctr l g yX7_goOff wsX7_goOff ({ frames := 1, cells := 0, slots := 0, locals := 24 } : Room) [.ref (gA g 18), .ref (gA g 24), .int (iI x)] M (pX (fun u => GO (5 * x) k (M 20 (3 * M 24 (5 * x + 4))) (M 21 (3 * x)) M u)) := by
  refine Ctr.mk (cc := cX7_goOff) (maxL := 3) (ret := none) (lv := [(0, .ref (gA g 18)), (1, .ref (gA g 24)), (2, .int (iI x))]) (by decide) rfl (Nat.le_of_ble_eq_true rfl) rfl ?_
  intro p e s m below meth c C hr hlk hI ls hl
  have C : CallFix p m c cX7_goOff 3 s ([.ref (gA g 18), .ref (gA g 24), .int (iI x)] : List Value).toArray wsX7_goOff RX7 := C
  have hx := C.1
  have hb := C.2.1
  have hts := C.2.2.2.2
  have hin7 : ∀ w ∈ u_ws RX7 TX7 31, w ∈ wsX7_goOff := by decide +kernel
  refine lv_aload_n hx hb dX7_goOff_0 rfl (lv_at hl 0 rfl) ?_
  refine lv_aload_n hx hb dX7_goOff_1 rfl (lv_at hl 1 rfl) ?_
  refine lv_iload_n hx hb dX7_goOff_2 rfl (lv_at hl 2 rfl) ?_
  refine lv_aload_n hx hb dX7_goOff_3 rfl (lv_at hl 0 rfl) ?_
  refine r_get C hI 18 (by decide) rfl rfl hin7 6 (by decide) (fn := "person") (fd := "[I") (index := 13) (by decide +kernel) ⟨rfl, rfl, rfl⟩ (v := .ref (gA g 20)) rfl dX7_goOff_4 ?_
  refine lv_iconst (v := iI 3) hx hb dX7_goOff_7 rfl ?_
  refine lv_aload_n hx hb dX7_goOff_8 rfl (lv_at hl 1 rfl) ?_
  refine lv_iconst (v := iI 5) hx hb dX7_goOff_9 rfl ?_
  refine lv_iload_n hx hb dX7_goOff_10 rfl (lv_at hl 2 rfl) ?_
  refine r_imul hx hb dX7_goOff_11 ?_
  refine lv_iconst (v := iI 4) hx hb dX7_goOff_12 rfl ?_
  refine r_iadd hx hb dX7_goOff_13 ?_
  refine r_ald C hI 24 (by decide) rfl (by omega) (by decide) dX7_goOff_14 ?_
  refine r_imul hx hb dX7_goOff_15 ?_
  refine r_ald C hI 20 (by decide) rfl (by omega) (by decide) dX7_goOff_16 ?_
  refine r_iv C hI (As := [.ref (gA g 24), .int (iI x), .int (iI (M 20 (3 * (M 24 ((5 * x) + 4)))))]) (rest := []) (c_X7_keepDoing_24 l g M x (M 20 (3 * (M 24 ((5 * x) + 4)))) k (by omega) hk (show 1 ≤ (M 21 (3 * x)) ∧ (M 21 (3 * x)) ≤ 3 from by omega) (by omega) (show KG k (M 24) (5 * x) from by assumption)) (cwV 3 hts gX7_goOff_X7_keepDoing rfl rfl rfl (by decide +kernel) ⟨Nat.le_of_ble_eq_true rfl, Nat.le_of_ble_eq_true rfl⟩) (by decide) rfl rfl rfl hl.1 rfl (Nat.le_of_ble_eq_true rfl) dX7_goOff_17 ⟨Nat.zero_le _, Nat.zero_le _⟩ (k_X (fun M_1 H locs q_1 hI => ?_))
  refine lv_aload_n hx hb dX7_goOff_20 rfl (lv_at hl 1 rfl) ?_
  refine lv_iconst (v := iI 5) hx hb dX7_goOff_21 rfl ?_
  refine lv_iload_n hx hb dX7_goOff_22 rfl (lv_at hl 2 rfl) ?_
  refine r_imul hx hb dX7_goOff_23 ?_
  refine lv_iconst (v := iI 4) hx hb dX7_goOff_24 rfl ?_
  refine r_iadd hx hb dX7_goOff_25 ?_
  refine lv_bipush (v := iI (-9)) hx hb dX7_goOff_26 (by decide +kernel) ?_
  refine r_ast C hI 24 (by decide) (fun _ => rfl) (by omega) (by decide) dX7_goOff_28 (fun H locs hI => ?_)
  refine r_vret C hr hlk hI ?_ dX7_goOff_29
  exact ⟨rfl, (show (fun u => GO (5 * x) k (M 20 (3 * M 24 (5 * x + 4))) (M 21 (3 * x)) M u) (mset M_1 24 ((5 * x) + 4) (-9)) from by exact GO_of q_1)⟩
set_option maxHeartbeats 4000000 in
set_option maxRecDepth 100000 in
theorem c_X7_goHand (l : Launch) (g : GT) (M : Mem) (x : Int) (w : Int) (k : Int) (hx : 0 ≤ x ∧ x < 4) (hw : 0 ≤ w ∧ w < 5) (hk : KOK k (M 21 (3 * x))) (hk2 : 0 ≤ k ∧ k < 1000) (hrm : 1 ≤ M 21 (3 * x) ∧ M 21 (3 * x) ≤ 3) (hK : -2147483648 ≤ M 21 (3 * x + 1) ∧ M 21 (3 * x + 1) < 2147483648) (hd : 1 ≤ M 20 (3 * w) ∧ M 20 (3 * w) ≤ 7) (hg : KG k (M 25) (5 * x)) : Ctr l g yX7_goHand wsX7_goHand ({ frames := 2, cells := 0, slots := 0, locals := 46 } : Room) [.ref (gA g 18), .ref (gA g 25), .int (iI x), .int (iI w)] M (pE (fun z u => z = repO (M 21 (3 * x + 1)) k (M 20 (3 * w)) ∧ KD 25 (5 * x) k (M 20 (3 * w)) (M 21 (3 * x)) M u)) := by
  refine Ctr.mk (cc := cX7_goHand) (maxL := 5) (ret := some .int) (lv := [(0, .ref (gA g 18)), (1, .ref (gA g 25)), (2, .int (iI x)), (3, .int (iI w))]) (by decide) rfl (Nat.le_of_ble_eq_true rfl) rfl ?_
  intro p e s m below meth c C hr hlk hI ls hl
  have C : CallFix p m c cX7_goHand 5 s ([.ref (gA g 18), .ref (gA g 25), .int (iI x), .int (iI w)] : List Value).toArray wsX7_goHand RX7 := C
  have hx := C.1
  have hb := C.2.1
  have hts := C.2.2.2.2
  have hin7 : ∀ w ∈ u_ws RX7 TX7 31, w ∈ wsX7_goHand := by decide +kernel
  refine lv_aload_n hx hb dX7_goHand_0 rfl (lv_at hl 0 rfl) ?_
  refine lv_aload_n hx hb dX7_goHand_1 rfl (lv_at hl 1 rfl) ?_
  refine lv_iload_n hx hb dX7_goHand_2 rfl (lv_at hl 2 rfl) ?_
  refine lv_iload_n hx hb dX7_goHand_3 rfl (lv_at hl 3 rfl) ?_
  refine r_iv C hI (As := [.ref (gA g 25), .int (iI x), .int (iI w)]) (rest := []) (c_X7_doesOn_25 l g M x w k (by omega) (by omega) (by omega) hg (show -2147483648 ≤ (M 21 (3 * x + 1)) ∧ (M 21 (3 * x + 1)) < 2147483648 from by omega) (show -2147483648 ≤ (M 20 (3 * w)) ∧ (M 20 (3 * w)) < 2147483648 from by omega)) (cwV 3 hts gX7_goHand_X7_doesOn rfl rfl rfl (by decide +kernel) ⟨Nat.le_of_ble_eq_true rfl, Nat.le_of_ble_eq_true rfl⟩) (by decide) rfl rfl rfl hl.1 rfl (Nat.le_of_ble_eq_true rfl) dX7_goHand_4 ⟨Nat.zero_le _, Nat.zero_le _⟩ (k_I (fun H locs hI => ?_))
  have ff_1 := repO_b (M 21 (3 * x + 1)) k (M 20 (3 * w))
  refine lv_istore (lv' := [(4, .int (iI (repO (M 21 (3 * x + 1)) k (M 20 (3 * w))))), (0, .ref (gA g 18)), (1, .ref (gA g 25)), (2, .int (iI x)), (3, .int (iI w))]) hx hb dX7_goHand_7 hl (by decide) rfl (fun ls hl => ?_)
  refine lv_aload_n hx hb dX7_goHand_9 rfl (lv_at hl 1 rfl) ?_
  refine lv_aload_n hx hb dX7_goHand_10 rfl (lv_at hl 2 rfl) ?_
  refine lv_iload_n hx hb dX7_goHand_11 rfl (lv_at hl 3 rfl) ?_
  refine lv_aload_n hx hb dX7_goHand_12 rfl (lv_at hl 1 rfl) ?_
  refine r_get C hI 18 (by decide) rfl rfl hin7 6 (by decide) (fn := "person") (fd := "[I") (index := 13) (by decide +kernel) ⟨rfl, rfl, rfl⟩ (v := .ref (gA g 20)) rfl dX7_goHand_13 ?_
  refine lv_iconst (v := iI 3) hx hb dX7_goHand_16 rfl ?_
  refine lv_iload_n hx hb dX7_goHand_17 rfl (lv_at hl 4 rfl) ?_
  refine r_imul hx hb dX7_goHand_18 ?_
  refine r_ald C hI 20 (by decide) rfl (by omega) (by decide) dX7_goHand_19 ?_
  refine r_iv C hI (As := [.ref (gA g 25), .int (iI x), .int (iI (M 20 (3 * w)))]) (rest := []) (c_X7_keepDoing_25 l g M x (M 20 (3 * w)) k (by omega) hk (show 1 ≤ (M 21 (3 * x)) ∧ (M 21 (3 * x)) ≤ 3 from by omega) (by omega) hg) (cwV 3 hts gX7_goHand_X7_keepDoing rfl rfl rfl (by decide +kernel) ⟨Nat.le_of_ble_eq_true rfl, Nat.le_of_ble_eq_true rfl⟩) (by decide) rfl rfl rfl hl.1 rfl (Nat.le_of_ble_eq_true rfl) dX7_goHand_20 ⟨Nat.zero_le _, Nat.zero_le _⟩ (k_X (fun M_1 H locs q_1 hI => ?_))
  refine lv_iload hx hb dX7_goHand_23 (lv_at hl 0 rfl) ?_
  refine r_iret C hr hlk hI ?_ dX7_goHand_25
  exact ⟨_, rfl, (show (fun z u => z = repO (M 21 (3 * x + 1)) k (M 20 (3 * w)) ∧ KD 25 (5 * x) k (M 20 (3 * w)) (M 21 (3 * x)) M u) (repO (M 21 (3 * x + 1)) k (M 20 (3 * w))) M_1 from by exact ⟨rfl, q_1⟩)⟩
