
def ohB (r : Int → Int) (v w : Int) : Nat → Bool
  | 0 => false
  | n + 1 => ohB r v w n || (decide (¬ (n : Int) = w) && decide (r (n : Int) = v))
theorem ohB_1 {r : Int → Int} {v w : Int} {n : Nat} (h : ohB r v w n = true) : ohB r v w (n + 1) = true := by simp [ohB, h]
theorem ohB_2 {r : Int → Int} {v w x : Int} {n : Nat} (h : x = (n : Int)) (h1 : ¬ x = w) (h2 : r x = v) : ohB r v w (n + 1) = true := by
  subst h; simp [ohB, h1, h2]
theorem ohB_3 {r : Int → Int} {v w x : Int} {n : Nat} (h0 : ohB r v w n = false) (h : x = (n : Int)) (h1 : x = w ∨ ¬ r x = v) : ohB r v w (n + 1) = false := by
  subst h
  rcases h1 with h1 | h1 <;> simp [ohB, h0, h1]
theorem oh_some {r : Int → Int} {v w : Int} (h : ¬ v = r w) : ∀ n : Nat, ohB r v w n = someB r v n
  | 0 => rfl
  | n + 1 => by
    unfold ohB someB
    rw [oh_some h n]
    by_cases e : (n : Int) = w
    · have : ¬ r (n : Int) = v := by rw [e]; exact fun q => h q.symm
      simp [this]
    · simp [e]
theorem pw10_b {n : Nat} (h : n ≤ 5) : 1 ≤ pwN 10 n ∧ pwN 10 n ≤ 100000 := by
  obtain rfl | rfl | rfl | rfl | rfl | rfl : n = 0 ∨ n = 1 ∨ n = 2 ∨ n = 3 ∨ n = 4 ∨ n = 5 := by omega
  all_goals decide
theorem pwN_p {b : Int} (hb : 1 ≤ b) : ∀ n : Nat, 1 ≤ pwN b n
  | 0 => by simp [pwN]
  | n + 1 => by
    have h := pwN_p hb n
    unfold pwN
    have : 1 * 1 ≤ pwN b n * b := Int.mul_le_mul h hb (by decide) (by omega)
    omega
theorem pwN_d {b : Int} (hb : 1 ≤ b) (r : Int) (n : Nat) : r / pwN b n / b = r / pwN b (n + 1) ∧ r / b / pwN b n = r / pwN b (n + 1) := by
  have h := pwN_p hb n
  constructor
  · rw [Int.ediv_ediv_of_nonneg (by omega)]; rfl
  · rw [Int.ediv_ediv_of_nonneg (by omega), Int.mul_comm]; rfl
def dgB (P row : Int) : Nat → Bool
  | 0 => true
  | n + 1 => dgB P row n && decide (1 ≤ row / pwN 10 n % 10 ∧ row / pwN 10 n % 10 ≤ P)
theorem dgB_1 {P row : Int} {n : Nat} (h : dgB P row n = true) (h2 : 1 ≤ row / pwN 10 n % 10 ∧ row / pwN 10 n % 10 ≤ P) : dgB P row (n + 1) = true := by
  unfold dgB; rw [h, decide_eq_true h2]; rfl
theorem dgB_2 {P row : Int} {n : Nat} (h2 : ¬ (1 ≤ row / pwN 10 n % 10 ∧ row / pwN 10 n % 10 ≤ P)) : dgB P row (n + 1) = false := by
  unfold dgB; rw [decide_eq_false h2, Bool.and_false]
theorem dgB_3 {P row : Int} {n : Nat} (h : dgB P row n = false) : dgB P row (n + 1) = false := by
  unfold dgB; rw [h]; rfl
theorem dgB_lo (P r : Int) : ∀ n : Nat, dgB P r (n + 1) = (decide (1 ≤ r % 10 ∧ r % 10 ≤ P) && dgB P (r / 10) n)
  | 0 => by
    have e : r / pwN 10 0 = r := Int.ediv_one r
    show (true && decide (1 ≤ r / pwN 10 0 % 10 ∧ r / pwN 10 0 % 10 ≤ P)) = _
    rw [e]
    simp [dgB]
  | n + 1 => by
    have e := (pwN_d (b := 10) (by decide) r n).2
    show (dgB P r (n + 1) && decide (1 ≤ r / pwN 10 (n + 1) % 10 ∧ r / pwN 10 (n + 1) % 10 ≤ P)) = (decide (1 ≤ r % 10 ∧ r % 10 ≤ P) && (dgB P (r / 10) n && decide (1 ≤ r / 10 / pwN 10 n % 10 ∧ r / 10 / pwN 10 n % 10 ≤ P)))
    rw [dgB_lo P r n, e, Bool.and_assoc]
theorem irD_dg {P : Int} : ∀ {n : Nat} {r : Int}, 0 ≤ r → (irD P n r = true ↔ r < pwN 10 n ∧ dgB P r n = true)
  | 0, r, h => by
    simp only [irD, decide_eq_true_eq]
    constructor
    · intro q; rw [q]; exact ⟨by decide, rfl⟩
    · intro q
      have : r < 1 := q.1
      omega
  | n + 1, r, h => by
    have ih := irD_dg (P := P) (n := n) (r := r / 10) (by omega)
    have e : r / 10 < pwN 10 n ↔ r < pwN 10 (n + 1) := Int.ediv_lt_iff_lt_mul (by decide)
    simp only [irD, Bool.and_eq_true, decide_eq_true_eq]
    rw [ih, e, dgB_lo, Bool.and_eq_true, decide_eq_true_eq]
    exact ⟨fun q => ⟨q.2.1, q.1, q.2.2⟩, fun q => ⟨q.2.1, q.1, q.2.2⟩⟩
theorem ir_dg {P row : Int} {n : Nat} (h : irO P n row = true) : (0 ≤ row ∧ row < pwN 10 n) ∧ dgB P row n = true := by
  obtain ⟨h0, h1⟩ := irO_E h
  have h2 := (irD_dg h0).mp h1
  exact ⟨⟨h0, h2.1⟩, h2.2⟩
theorem dg_ir {P row : Int} {n : Nat} (h0 : 0 ≤ row) (h1 : row < pwN 10 n) (h2 : dgB P row n = true) : irO P n row = true := irD_O h0 ((irD_dg h0).mpr ⟨h1, h2⟩)
theorem irD_dv {P : Int} : ∀ (b : Nat) {a : Nat} {r : Int}, irD P (a + b) r = true → irD P a (r / pwN 10 b) = true
  | 0, a, r, h => by
    have e : r / pwN 10 0 = r := Int.ediv_one r
    rw [e]; exact h
  | b + 1, a, r, h => by
    have h1 : irD P (a + b + 1) r = true := h
    simp only [irD, Bool.and_eq_true] at h1
    have h2 := irD_dv b h1.2
    rw [(pwN_d (b := 10) (by decide) r b).2] at h2
    exact h2
theorem KOK_b {k r : Int} (h : KOK k r) : 0 ≤ k ∧ k < 1000 := by unfold KOK at h; omega
theorem kpN_K {own : Int → Int} {P rm k : Int} (hk : KOK k rm) (hr : 1 ≤ rm ∧ rm ≤ 3) (hw : ∀ q : Int, 0 ≤ q ∧ q < P → 1 ≤ own q ∧ own q ≤ 7) : ∀ (n : Nat) (row : Int), irD P n row = true → KOK (kpN own rm n row k) rm
  | 0, _, _ => hk
  | n + 1, row, h => by
    simp only [irD, Bool.and_eq_true, decide_eq_true_eq] at h
    have h2 := kpN_K hk hr hw n (row / 10) h.2
    simp only [kpN]
    exact KOK_beh h2 hr (hw _ (by omega))
theorem ir_ok {P P' n row : Int} (hp : P = P') (h : ¬¬ ((1 ≤ n ∧ n ≤ 4) ∧ irO P (Int.toNat n) row = true)) : (1 ≤ n ∧ n ≤ 4) ∧ irO P' (Int.toNat n) row = true := by
  subst hp; exact Decidable.not_not.mp h
theorem ir_ok2 {P P' n row : Int} (h5 : P' ≤ 5) (hp : P = P') (h : ¬¬ ((1 ≤ n ∧ n ≤ 4) ∧ irO P (Int.toNat n) row = true)) : (0 ≤ row ∧ row < 100000) ∧ irD P' (Int.toNat n) row = true := by
  have h1 := ir_ok hp h
  have h2 := irO_E h1.2
  exact ⟨⟨h2.1, irD_L h2.1 (by omega) (by omega) h2.2⟩, h2.2⟩
theorem RM_25 {A M u : Mem} (r : RM A M) (h : ∀ c : Nat, c ≠ 25 → u c = mset M 18 0 0 c) : QC M u ∧ RM A u := by
  have s : SM M u := by
    have s0 := SM_0 M
    unfold SM at s0 ⊢
    rw [h 18 (by decide)]
    exact ⟨fun c h1 h2 => by rw [h c h2]; exact s0.1 c h1 h2, s0.2⟩
  exact ⟨SM_QC s, SM_RM s r⟩
theorem KG_begin {k x : Int} {M : Mem} (h : KG k (M 24) (5 * x)) (hx : 0 ≤ x ∧ x < 4) : KG k (cpA M 24 0 25 0 21 25) (5 * x) :=
  KG_of h (fun j hj => by rw [cpA_at (by omega)]; congr 1; omega)
set_option maxHeartbeats 4000000 in
set_option maxRecDepth 100000 in
theorem c_X7_doesBy (l : Launch) (g : GT) (M : Mem) (x : Int) (n : Int) (row : Int) (A : Mem) (wf : WF A) (rp : RP A M) (hxg : 0 ≤ x ∧ x < A 3 7) (hg : KG (A 33 x) (M 24) (5 * x)) (hn : 1 ≤ n ∧ n ≤ 4) (h0 : 0 ≤ row ∧ row < 100000) (hD : irD (A 3 6) (Int.toNat n) row = true) : Ctr l g yX7_doesBy wsX7_doesBy ({ frames := 3, cells := 0, slots := 0, locals := 70 } : Room) [.ref (gA g 18), .int (iI x), .int (iI n), .int (iI row)] M (pE (fun z u => z = doN (A 4) (A 8 x) (A 7 x) (Int.toNat n) row (A 33 x) ∧ ∀ c : Nat, c ≠ 25 → u c = M c)) := by
  refine Ctr.mk (cc := cX7_doesBy) (maxL := 6) (ret := some .int) (lv := [(0, .ref (gA g 18)), (1, .int (iI x)), (2, .int (iI n)), (3, .int (iI row))]) (by decide) rfl (Nat.le_of_ble_eq_true rfl) rfl ?_
  intro p e s m below meth c C hr hlk hI ls hl
  have C : CallFix p m c cX7_doesBy 6 s ([.ref (gA g 18), .int (iI x), .int (iI n), .int (iI row)] : List Value).toArray wsX7_doesBy RX7 := C
  have hx := C.1
  have hb := C.2.1
  have hts := C.2.2.2.2
  have hin7 : ∀ w ∈ u_ws RX7 TX7 31, w ∈ wsX7_doesBy := by decide +kernel
  have wf0 := wf
  have rp0 := rp
  obtain ⟨w_txt, hL, w_cnt, w_per, w_glo, w_now, w_act, w_rng, w_slo, w_see, w_sa⟩ := wf
  obtain ⟨⟨p_p, p_g⟩, p_r, g_r⟩ := rp
  have w_gx := w_glo x hxg
  have w_k : KOK (A 33 x) (A 7 x) := (w_now.1 x (by omega)).2.2 hxg.2
  have w_own : ∀ q : Int, 0 ≤ q ∧ q < A 3 6 → 1 ≤ A 4 q ∧ A 4 q ≤ 7 := fun q hq => (w_per q hq).1
  refine lv_aload_n hx hb dX7_doesBy_0 rfl (lv_at hl 0 rfl) ?_
  refine r_iv C hI (As := []) (rest := []) (c_X7_begin l g M) (cwV 0 hts gX7_doesBy_X7_begin rfl rfl rfl (by decide +kernel) ⟨Nat.le_of_ble_eq_true rfl, Nat.le_of_ble_eq_true rfl⟩) (by decide) rfl rfl rfl hl.1 rfl (Nat.le_of_ble_eq_true rfl) dX7_doesBy_1 ⟨Nat.zero_le _, Nat.zero_le _⟩ (k_X (fun M_1 H locs q_1 hI => ?_))
  refine lv_iconst (v := iI 0) hx hb dX7_doesBy_4 rfl ?_
  refine lv_istore (lv' := [(4, .int (iI 0)), (0, .ref (gA g 18)), (1, .int (iI x)), (2, .int (iI n)), (3, .int (iI row))]) hx hb dX7_doesBy_5 hl (by decide) rfl (fun ls hl => ?_)
  refine lv_iload_n hx hb dX7_doesBy_7 rfl (lv_at hl 3 rfl) ?_
  refine lv_iconst (v := iI 1) hx hb dX7_doesBy_8 rfl ?_
  refine r_isub hx hb dX7_doesBy_9 ?_
  refine lv_istore (lv' := [(5, .int (iI (n - 1))), (4, .int (iI 0)), (0, .ref (gA g 18)), (1, .int (iI x)), (2, .int (iI n)), (3, .int (iI row))]) hx hb dX7_doesBy_10 hl (by decide) rfl (fun ls hl => ?_)
  have lp12 : ∀ (n12 : Nat) (kk : Int) (vv : Int) (N : Mem) (jj : Nat), (kk = n - 1 - (jj : Int) ∧ (jj : Int) ≤ n) → (∀ c : Nat, c ≠ 25 → N c = M c) → (KG (kpN (A 4) (A 7 x) jj (row / pwN 10 (n.toNat - jj)) (A 33 x)) (N 25) (5 * x)) → (vv = doN (A 4) (A 8 x) (A 7 x) jj (row / pwN 10 (n.toNat - jj)) (A 33 x)) → n.toNat - jj < n12 → ∀ (H : Heap) (locs : List Loc), HI g s H locs N → ∀ ls : Array Slot, lv_has ls 6 [(5, .int (iI kk)), (4, .int (iI vv)), (0, .ref (gA g 18)), (1, .int (iI x)), (2, .int (iI n)), (3, .int (iI row))] → W p l e ({ frames := 3, cells := 0, slots := 0, locals := 70 } : Room) s m ([.ref (gA g 18), .int (iI x), .int (iI n), .int (iI row)] : List Value).toArray below meth c H locs 0 0 (MQ below (QV g (pE (fun z u => z = doN (A 4) (A 8 x) (A 7 x) (Int.toNat n) row (A 33 x) ∧ ∀ c : Nat, c ≠ 25 → u c = M c))) ([.ref (gA g 18), .int (iI x), .int (iI n), .int (iI row)] : List Value).toArray s 0 0 (AA g)) (F0 m 12 ls []) := by
    intro n12
    induction n12 with
    | zero => intro kk vv N jj h1 hN hK hv hn12; exact absurd hn12 (Nat.not_lt_zero _)
    | succ n12 ih12 =>
      intro kk vv N jj h1 hN hK hv hn12 H locs hI ls hl
      have e20 : ∀ q : Int, N 20 (3 * q) = A 4 q := fun q => by rw [hN 20 (by decide)]; exact (p_r q).1
      have e21x : N 21 (3 * x) = A 7 x := by rw [hN 21 (by decide)]; exact (g_r x).1
      have e21b : N 21 (3 * x + 1) = A 8 x := by rw [hN 21 (by decide)]; exact (g_r x).2.1
      have t2 : 0 ≤ kk → row / pwN 10 kk.toNat / 10 = row / pwN 10 (n.toNat - jj) := fun q => by rw [show n.toNat - jj = kk.toNat + 1 by omega]; exact (pwN_d (by decide) row _).1
      have t4 : 0 ≤ kk → 1 ≤ row / pwN 10 kk.toNat % 10 ∧ row / pwN 10 kk.toNat % 10 ≤ A 3 6 := fun q => by
        have h3 := irD_dv (P := A 3 6) kk.toNat (a := jj + 1) (r := row) (by rw [show jj + 1 + kk.toNat = n.toNat by omega]; exact hD)
        simp only [irD, Bool.and_eq_true, decide_eq_true_eq] at h3
        exact h3.1
      have t5 : KOK (kpN (A 4) (A 7 x) jj (row / pwN 10 (n.toNat - jj)) (A 33 x)) (A 7 x) := kpN_K w_k w_gx.1 w_own _ _ (irD_dv (n.toNat - jj) (by rw [show jj + (n.toNat - jj) = n.toNat by omega]; exact hD))
      have t8 := pw10_b (n := kk.toNat) (by omega)
      have t7 : 0 ≤ row / pwN 10 kk.toNat ∧ row / pwN 10 kk.toNat ≤ row := ⟨Int.ediv_nonneg h0.1 (by omega), Int.ediv_le_self _ h0.1⟩
      have t9 := w_per (row / pwN 10 kk.toNat % 10 - 1)
      refine lv_iload hx hb dX7_doesBy_12 (lv_at hl 0 rfl) ?_
      refine r_if_lt hx hb (tgt := 48) (by omega) dX7_doesBy_14 (by decide) (fun c_1 => ?_) (fun c_1 => ?_)
      · refine lv_iload hx hb dX7_doesBy_48 (lv_at hl 1 rfl) ?_
        refine r_iret C hr hlk hI ?_ dX7_doesBy_50
        exact ⟨_, rfl, (show (fun z u => z = doN (A 4) (A 8 x) (A 7 x) (Int.toNat n) row (A 33 x) ∧ ∀ c : Nat, c ≠ 25 → u c = M c) vv N from by exact ⟨by (rw [hv, show jj = n.toNat from by omega, Nat.sub_self]; (have e1 : row / pwN 10 0 = row := Int.ediv_one row); rw [e1]), hN⟩)⟩
      · refine lv_aload_n hx hb dX7_doesBy_17 rfl (lv_at hl 2 rfl) ?_
        refine lv_aload_n hx hb dX7_doesBy_18 rfl (lv_at hl 2 rfl) ?_
        refine r_get C hI 18 (by decide) rfl rfl hin7 13 (by decide) (fn := "trial") (fd := "[I") (index := 28) (by decide +kernel) ⟨rfl, rfl, rfl⟩ (v := .ref (gA g 25)) rfl dX7_doesBy_19 ?_
        refine lv_iload_n hx hb dX7_doesBy_22 rfl (lv_at hl 3 rfl) ?_
        refine lv_iload_n hx hb dX7_doesBy_23 rfl (lv_at hl 5 rfl) ?_
        refine lv_bipush (v := iI 10) hx hb dX7_doesBy_24 (by decide +kernel) ?_
        refine lv_iload hx hb dX7_doesBy_26 (lv_at hl 0 rfl) ?_
        refine r_is C hI (As := [.int (iI 10), .int (iI kk)]) (rest := [.int (iI row), .int (iI x), .ref (gA g 25), .ref (gA g 18)]) (c_X7_power l g N 10 kk (by omega)) (va_cwS 2 hts gX7_doesBy_X7_power rfl rfl rfl (by decide +kernel) ⟨Nat.le_of_ble_eq_true rfl, Nat.le_of_ble_eq_true rfl⟩) rfl hl.1 rfl (Nat.le_of_ble_eq_true rfl) dX7_doesBy_28 ⟨Nat.zero_le _, Nat.zero_le _⟩ (k_I (fun H locs hI => ?_))
        refine r_idiv hx hb (by omega) (by omega) dX7_doesBy_31 ?_
        refine lv_bipush (v := iI 10) hx hb dX7_doesBy_32 (by decide +kernel) ?_
        refine r_irem hx hb (by omega) (by decide) dX7_doesBy_34 ?_
        refine lv_iconst (v := iI 1) hx hb dX7_doesBy_35 rfl ?_
        refine r_isub hx hb dX7_doesBy_36 ?_
        refine r_iv C hI (As := [.ref (gA g 25), .int (iI x), .int (iI (((row / (pwN 10 (Int.toNat kk))) % 10) - 1))]) (rest := []) (c_X7_goHand l g N x (((row / (pwN 10 (Int.toNat kk))) % 10) - 1) (kpN (A 4) (A 7 x) jj (row / pwN 10 (n.toNat - jj)) (A 33 x)) (by omega) (by omega) (show KOK (kpN (A 4) (A 7 x) jj (row / pwN 10 (n.toNat - jj)) (A 33 x)) (N 21 (3 * x)) from by rw [e21x]; exact t5) (KOK_b t5) (show 1 ≤ (N 21 (3 * x)) ∧ (N 21 (3 * x)) ≤ 3 from by omega) (show -2147483648 ≤ (N 21 (3 * x + 1)) ∧ (N 21 (3 * x + 1)) < 2147483648 from by omega) (show 1 ≤ (N 20 (3 * (((row / (pwN 10 (Int.toNat kk))) % 10) - 1))) ∧ (N 20 (3 * (((row / (pwN 10 (Int.toNat kk))) % 10) - 1))) ≤ 7 from by rw [e20]; omega) hK) (cwV 3 hts gX7_doesBy_X7_goHand rfl rfl rfl (by decide +kernel) ⟨Nat.le_of_ble_eq_true rfl, Nat.le_of_ble_eq_true rfl⟩) (by decide) rfl rfl rfl hl.1 rfl (Nat.le_of_ble_eq_true rfl) dX7_doesBy_37 ⟨Nat.zero_le _, Nat.zero_le _⟩ (k_E (fun z_2 M_2 H locs q_2 hI => ?_))
        refine lv_istore (lv' := [(4, .int (iI z_2)), (5, .int (iI kk)), (0, .ref (gA g 18)), (1, .int (iI x)), (2, .int (iI n)), (3, .int (iI row))]) hx hb dX7_doesBy_40 hl (by decide) rfl (fun ls hl => ?_)
        refine lv_iinc (v := iI (kk + (-1))) (lv' := [(5, .int (iI (kk + (-1)))), (4, .int (iI z_2)), (0, .ref (gA g 18)), (1, .int (iI x)), (2, .int (iI n)), (3, .int (iI row))]) hx hb dX7_doesBy_42 hl (k := 1) rfl (iI_add _ _) (by decide) rfl (fun ls hl => ?_)
        refine lv_goto (tgt := 12) hx hb dX7_doesBy_45 (by decide) ?_
        exact ih12 (kk + (-1)) z_2 M_2 (jj + 1) (by omega) (by exact fun c hc => (q_2.2.1 c hc).trans (hN c hc)) (by rw [show n.toNat - (jj + 1) = kk.toNat from by omega]; simp only [kpN]; rw [t2 (by omega)]; (have q2 := q_2.2.2.1); rw [e20, e21x] at q2; exact q2) (by rw [show n.toNat - (jj + 1) = kk.toNat from by omega]; simp only [doN]; rw [t2 (by omega)]; (have q3 := q_2.1); rw [e21b, e20] at q3; exact q3) (by omega) _ _ hI ls (lv_sub hl [0, 1, 2, 3, 4, 5] rfl)
  exact lp12 _ (n - 1) 0 M_1 0 (by omega) (by exact fun c hc => by rw [q_1, cpA_n hc]) (by (show KG (A 33 x) (M_1 25) (5 * x)); rw [q_1]; exact KG_begin hg (by omega)) (by rfl) (Nat.lt_succ_self _) _ _ hI ls (lv_sub hl [0, 1, 2, 3, 4, 5] rfl)
set_option maxHeartbeats 4000000 in
set_option maxRecDepth 100000 in
theorem c_X7_noRow (l : Launch) (g : GT) (M : Mem) (n : Int) (row : Int) (hn : -2147483648 ≤ n ∧ n < 2147483648) (hrw : -2147483648 ≤ row ∧ row < 2147483648) (hP : 0 ≤ M 18 4 ∧ M 18 4 ≤ 5) : Ctr l g yX7_noRow wsX7_noRow ({ frames := 1, cells := 0, slots := 0, locals := 25 } : Room) [.ref (gA g 18), .int (iI n), .int (iI row)] M (pI (bI (¬ ((1 ≤ n ∧ n ≤ 4) ∧ irO (M 18 4) (Int.toNat n) row = true))) M) := by
  refine Ctr.mk (cc := cX7_noRow) (maxL := 5) (ret := some .boolean) (lv := [(0, .ref (gA g 18)), (1, .int (iI n)), (2, .int (iI row))]) (by decide) rfl (Nat.le_of_ble_eq_true rfl) rfl ?_
  intro p e s m below meth c C hr hlk hI ls hl
  have C : CallFix p m c cX7_noRow 5 s ([.ref (gA g 18), .int (iI n), .int (iI row)] : List Value).toArray wsX7_noRow RX7 := C
  have hx := C.1
  have hb := C.2.1
  have hts := C.2.2.2.2
  have hin7 : ∀ w ∈ u_ws RX7 TX7 31, w ∈ wsX7_noRow := by decide +kernel
  have pn := fun q : n ≤ 4 => pw10_b (n := n.toNat) (by omega)
  refine lv_iload_n hx hb dX7_noRow_0 rfl (lv_at hl 1 rfl) ?_
  refine r_i2l hx hb (by omega) dX7_noRow_1 ?_
  refine lv_lconst (v := iL 1) hx hb dX7_noRow_2 (by decide +kernel) ?_
  refine r_ldc2 C (n := 4) (v := (4 : Int64)) (index := 144) (by decide +kernel) (by decide +kernel) dX7_noRow_3 ?_
  refine r_is C hI (As := [.long (iL n), .long (iL 1), .long (iL 4)]) (rest := []) (c_X7_in l g M n 1 4 (by omega) (by omega) (by omega)) (va_cwS 3 hts gX7_noRow_X7_in rfl rfl rfl (by decide +kernel) ⟨Nat.le_of_ble_eq_true rfl, Nat.le_of_ble_eq_true rfl⟩) rfl hl.1 rfl (Nat.le_of_ble_eq_true rfl) dX7_noRow_6 ⟨Nat.zero_le _, Nat.zero_le _⟩ (k_I (fun H locs hI => ?_))
  refine r_b_eq hx hb (tgt := 30) dX7_noRow_9 (by decide) (fun c_1 => ?_) (fun c_1 => ?_)
  · refine lv_iconst (v := iI 1) hx hb dX7_noRow_30 rfl ?_
    refine r_zret C hr hlk hI (by decide +kernel) ?_ dX7_noRow_31
    exact ⟨congrArg (fun q => some (Value.int (iI q))) (bI_t (by first | (intro hh; have h7 := ir_dg hh.2; omega) | (intro hh; have h7 := (ir_dg hh.2).2; rw [show n.toNat = jj from by omega, (h2.elim (fun q => absurd q.1 (by omega)) id).2] at h7; exact absurd h7 (by decide)) | (intro hh; exact hh ⟨by omega, dg_ir (by omega) (by omega) (by rw [show n.toNat = jj from by omega]; exact (h2.elim id (fun q => absurd q.1 (by omega))).2)⟩))).symm, rfl⟩
  · refine lv_iload_n hx hb dX7_noRow_12 rfl (lv_at hl 2 rfl) ?_
    refine r_i2l hx hb (by omega) dX7_noRow_13 ?_
    refine lv_lconst (v := iL 0) hx hb dX7_noRow_14 (by decide +kernel) ?_
    refine lv_bipush (v := iI 10) hx hb dX7_noRow_15 (by decide +kernel) ?_
    refine lv_iload_n hx hb dX7_noRow_17 rfl (lv_at hl 1 rfl) ?_
    refine r_is C hI (As := [.int (iI 10), .int (iI n)]) (rest := [.long (iL 0), .long (iL row)]) (c_X7_power l g M 10 n (by omega)) (va_cwS 2 hts gX7_noRow_X7_power rfl rfl rfl (by decide +kernel) ⟨Nat.le_of_ble_eq_true rfl, Nat.le_of_ble_eq_true rfl⟩) rfl hl.1 rfl (Nat.le_of_ble_eq_true rfl) dX7_noRow_18 ⟨Nat.zero_le _, Nat.zero_le _⟩ (k_I (fun H locs hI => ?_))
    refine lv_iconst (v := iI 1) hx hb dX7_noRow_21 rfl ?_
    refine r_isub hx hb dX7_noRow_22 ?_
    refine r_i2l hx hb (by omega) dX7_noRow_23 ?_
    refine r_is C hI (As := [.long (iL row), .long (iL 0), .long (iL ((pwN 10 (Int.toNat n)) - 1))]) (rest := []) (c_X7_in l g M row 0 ((pwN 10 (Int.toNat n)) - 1) (by omega) (by omega) (by omega)) (va_cwS 3 hts gX7_noRow_X7_in rfl rfl rfl (by decide +kernel) ⟨Nat.le_of_ble_eq_true rfl, Nat.le_of_ble_eq_true rfl⟩) rfl hl.1 rfl (Nat.le_of_ble_eq_true rfl) dX7_noRow_24 ⟨Nat.zero_le _, Nat.zero_le _⟩ (k_I (fun H locs hI => ?_))
    refine r_b_ne hx hb (tgt := 32) dX7_noRow_27 (by decide) (fun c_2 => ?_) (fun c_2 => ?_)
    · refine lv_iconst (v := iI 1) hx hb dX7_noRow_32 rfl ?_
      refine lv_istore_n (lv' := [(3, .int (iI 1)), (0, .ref (gA g 18)), (1, .int (iI n)), (2, .int (iI row))]) hx hb dX7_noRow_33 rfl hl (by decide) rfl (fun ls hl => ?_)
      refine lv_iconst (v := iI 0) hx hb dX7_noRow_34 rfl ?_
      refine lv_istore (lv' := [(4, .int (iI 0)), (3, .int (iI 1)), (0, .ref (gA g 18)), (1, .int (iI n)), (2, .int (iI row))]) hx hb dX7_noRow_35 hl (by decide) rfl (fun ls hl => ?_)
      have lp37 : ∀ (n37 : Nat) (kk : Int) (ii : Int) (jj : Nat), (kk = (jj : Int) ∧ (jj : Int) ≤ n) → ((ii = 1 ∧ dgB (M 18 4) row jj = true) ∨ (ii = 0 ∧ dgB (M 18 4) row jj = false)) → n.toNat - jj < n37 → ∀ (H : Heap) (locs : List Loc), HI g s H locs M → ∀ ls : Array Slot, lv_has ls 5 [(4, .int (iI kk)), (3, .int (iI ii)), (0, .ref (gA g 18)), (1, .int (iI n)), (2, .int (iI row))] → W p l e ({ frames := 1, cells := 0, slots := 0, locals := 25 } : Room) s m ([.ref (gA g 18), .int (iI n), .int (iI row)] : List Value).toArray below meth c H locs 0 0 (MQ below (QV g (pI (bI (¬ ((1 ≤ n ∧ n ≤ 4) ∧ irO (M 18 4) (Int.toNat n) row = true))) M)) ([.ref (gA g 18), .int (iI n), .int (iI row)] : List Value).toArray s 0 0 (AA g)) (F0 m 37 ls []) := by
        intro n37
        induction n37 with
        | zero => intro kk ii jj h1 h2 hn37; exact absurd hn37 (Nat.not_lt_zero _)
        | succ n37 ih37 =>
          intro kk ii jj h1 h2 hn37 H locs hI ls hl
          have tj : kk.toNat = jj := by omega
          have t8 := pw10_b (n := kk.toNat) (by omega)
          have t7 : 0 ≤ row / pwN 10 kk.toNat ∧ row / pwN 10 kk.toNat ≤ row := ⟨Int.ediv_nonneg (by omega) (by omega), Int.ediv_le_self _ (by omega)⟩
          refine lv_iload hx hb dX7_noRow_37 (lv_at hl 0 rfl) ?_
          refine lv_iload_n hx hb dX7_noRow_39 rfl (lv_at hl 3 rfl) ?_
          refine r_icmp_ge hx hb (tgt := 84) (by omega) (by omega) dX7_noRow_40 (by decide) (fun c_3 => ?_) (fun c_3 => ?_)
          · refine lv_iload_n hx hb dX7_noRow_84 rfl (lv_at hl 1 rfl) ?_
            refine r_if_ne hx hb (tgt := 92) (by omega) dX7_noRow_85 (by decide) (fun c_4 => ?_) (fun c_4 => ?_)
            · refine lv_iconst (v := iI 0) hx hb dX7_noRow_92 rfl ?_
              refine r_zret C hr hlk hI (by decide +kernel) ?_ dX7_noRow_93
              exact ⟨congrArg (fun q => some (Value.int (iI q))) (bI_f (by first | (intro hh; have h7 := ir_dg hh.2; omega) | (intro hh; have h7 := (ir_dg hh.2).2; rw [show n.toNat = jj from by omega, (h2.elim (fun q => absurd q.1 (by omega)) id).2] at h7; exact absurd h7 (by decide)) | (intro hh; exact hh ⟨by omega, dg_ir (by omega) (by omega) (by rw [show n.toNat = jj from by omega]; exact (h2.elim id (fun q => absurd q.1 (by omega))).2)⟩))).symm, rfl⟩
            · refine lv_iconst (v := iI 1) hx hb dX7_noRow_88 rfl ?_
              refine lv_goto (tgt := 93) hx hb dX7_noRow_89 (by decide) ?_
              refine r_zret C hr hlk hI (by decide +kernel) ?_ dX7_noRow_93
              exact ⟨congrArg (fun q => some (Value.int (iI q))) (bI_t (by first | (intro hh; have h7 := ir_dg hh.2; omega) | (intro hh; have h7 := (ir_dg hh.2).2; rw [show n.toNat = jj from by omega, (h2.elim (fun q => absurd q.1 (by omega)) id).2] at h7; exact absurd h7 (by decide)) | (intro hh; exact hh ⟨by omega, dg_ir (by omega) (by omega) (by rw [show n.toNat = jj from by omega]; exact (h2.elim id (fun q => absurd q.1 (by omega))).2)⟩))).symm, rfl⟩
          · refine lv_iload_n hx hb dX7_noRow_43 rfl (lv_at hl 1 rfl) ?_
            refine r_if_eq hx hb (tgt := 76) (by omega) dX7_noRow_44 (by decide) (fun c_5 => ?_) (fun c_5 => ?_)
            · refine lv_iconst (v := iI 0) hx hb dX7_noRow_76 rfl ?_
              refine lv_istore_n (lv' := [(3, .int (iI 0)), (4, .int (iI kk)), (0, .ref (gA g 18)), (1, .int (iI n)), (2, .int (iI row))]) hx hb dX7_noRow_77 rfl hl (by decide) rfl (fun ls hl => ?_)
              refine lv_iinc (v := iI (kk + 1)) (lv' := [(4, .int (iI (kk + 1))), (3, .int (iI 0)), (0, .ref (gA g 18)), (1, .int (iI n)), (2, .int (iI row))]) hx hb dX7_noRow_78 hl (k := 1) rfl (iI_add _ _) (by decide) rfl (fun ls hl => ?_)
              refine lv_goto (tgt := 37) hx hb dX7_noRow_81 (by decide) ?_
              exact ih37 (kk + 1) 0 (jj + 1) (by omega) (by first | exact Or.inl ⟨rfl, dgB_1 (h2.elim id (fun q => absurd q.1 (by omega))).2 (by rw [← tj]; assumption)⟩ | exact Or.inr ⟨rfl, dgB_2 (by rw [← tj]; assumption)⟩ | exact Or.inr ⟨rfl, dgB_3 (h2.elim (fun q => absurd q.1 (by omega)) id).2⟩) (by omega) _ _ hI ls (lv_sub hl [0, 1, 2, 3, 4] rfl)
            · refine lv_iload_n hx hb dX7_noRow_47 rfl (lv_at hl 4 rfl) ?_
              refine lv_bipush (v := iI 10) hx hb dX7_noRow_48 (by decide +kernel) ?_
              refine lv_iload hx hb dX7_noRow_50 (lv_at hl 0 rfl) ?_
              refine r_is C hI (As := [.int (iI 10), .int (iI kk)]) (rest := [.int (iI row)]) (c_X7_power l g M 10 kk (by omega)) (va_cwS 2 hts gX7_noRow_X7_power rfl rfl rfl (by decide +kernel) ⟨Nat.le_of_ble_eq_true rfl, Nat.le_of_ble_eq_true rfl⟩) rfl hl.1 rfl (Nat.le_of_ble_eq_true rfl) dX7_noRow_52 ⟨Nat.zero_le _, Nat.zero_le _⟩ (k_I (fun H locs hI => ?_))
              refine r_idiv hx hb (by omega) (by omega) dX7_noRow_55 ?_
              refine lv_bipush (v := iI 10) hx hb dX7_noRow_56 (by decide +kernel) ?_
              refine r_irem hx hb (by omega) (by decide) dX7_noRow_58 ?_
              refine r_i2l hx hb (by omega) dX7_noRow_59 ?_
              refine lv_lconst (v := iL 1) hx hb dX7_noRow_60 (by decide +kernel) ?_
              refine lv_aload_n hx hb dX7_noRow_61 rfl (lv_at hl 2 rfl) ?_
              refine r_get C hI 18 (by decide) rfl rfl hin7 4 (by decide) (fn := "people") (fd := "I") (index := 54) (by decide +kernel) ⟨rfl, rfl, rfl⟩ (v := .int (iI (M 18 4))) rfl dX7_noRow_62 ?_
              refine r_i2l hx hb (by omega) dX7_noRow_65 ?_
              refine r_is C hI (As := [.long (iL ((row / (pwN 10 (Int.toNat kk))) % 10)), .long (iL 1), .long (iL (M 18 4))]) (rest := []) (c_X7_in l g M ((row / (pwN 10 (Int.toNat kk))) % 10) 1 (M 18 4) (by omega) (by omega) (by omega)) (va_cwS 3 hts gX7_noRow_X7_in rfl rfl rfl (by decide +kernel) ⟨Nat.le_of_ble_eq_true rfl, Nat.le_of_ble_eq_true rfl⟩) rfl hl.1 rfl (Nat.le_of_ble_eq_true rfl) dX7_noRow_66 ⟨Nat.zero_le _, Nat.zero_le _⟩ (k_I (fun H locs hI => ?_))
              refine r_b_eq hx hb (tgt := 76) dX7_noRow_69 (by decide) (fun c_6 => ?_) (fun c_6 => ?_)
              · refine lv_iconst (v := iI 0) hx hb dX7_noRow_76 rfl ?_
                refine lv_istore_n (lv' := [(3, .int (iI 0)), (4, .int (iI kk)), (0, .ref (gA g 18)), (1, .int (iI n)), (2, .int (iI row))]) hx hb dX7_noRow_77 rfl hl (by decide) rfl (fun ls hl => ?_)
                refine lv_iinc (v := iI (kk + 1)) (lv' := [(4, .int (iI (kk + 1))), (3, .int (iI 0)), (0, .ref (gA g 18)), (1, .int (iI n)), (2, .int (iI row))]) hx hb dX7_noRow_78 hl (k := 1) rfl (iI_add _ _) (by decide) rfl (fun ls hl => ?_)
                refine lv_goto (tgt := 37) hx hb dX7_noRow_81 (by decide) ?_
                exact ih37 (kk + 1) 0 (jj + 1) (by omega) (by first | exact Or.inl ⟨rfl, dgB_1 (h2.elim id (fun q => absurd q.1 (by omega))).2 (by rw [← tj]; assumption)⟩ | exact Or.inr ⟨rfl, dgB_2 (by rw [← tj]; assumption)⟩ | exact Or.inr ⟨rfl, dgB_3 (h2.elim (fun q => absurd q.1 (by omega)) id).2⟩) (by omega) _ _ hI ls (lv_sub hl [0, 1, 2, 3, 4] rfl)
              · refine lv_iconst (v := iI 1) hx hb dX7_noRow_72 rfl ?_
                refine lv_goto (tgt := 77) hx hb dX7_noRow_73 (by decide) ?_
                refine lv_istore_n (lv' := [(3, .int (iI 1)), (4, .int (iI kk)), (0, .ref (gA g 18)), (1, .int (iI n)), (2, .int (iI row))]) hx hb dX7_noRow_77 rfl hl (by decide) rfl (fun ls hl => ?_)
                refine lv_iinc (v := iI (kk + 1)) (lv' := [(4, .int (iI (kk + 1))), (3, .int (iI 1)), (0, .ref (gA g 18)), (1, .int (iI n)), (2, .int (iI row))]) hx hb dX7_noRow_78 hl (k := 1) rfl (iI_add _ _) (by decide) rfl (fun ls hl => ?_)
                refine lv_goto (tgt := 37) hx hb dX7_noRow_81 (by decide) ?_
                exact ih37 (kk + 1) 1 (jj + 1) (by omega) (by first | exact Or.inl ⟨rfl, dgB_1 (h2.elim id (fun q => absurd q.1 (by omega))).2 (by rw [← tj]; assumption)⟩ | exact Or.inr ⟨rfl, dgB_2 (by rw [← tj]; assumption)⟩ | exact Or.inr ⟨rfl, dgB_3 (h2.elim (fun q => absurd q.1 (by omega)) id).2⟩) (by omega) _ _ hI ls (lv_sub hl [0, 1, 2, 3, 4] rfl)
      exact lp37 _ 0 1 0 (by omega) (by exact Or.inl ⟨rfl, rfl⟩) (Nat.lt_succ_self _) _ _ hI ls (lv_sub hl [0, 1, 2, 3, 4] rfl)
    · refine lv_iconst (v := iI 1) hx hb dX7_noRow_30 rfl ?_
      refine r_zret C hr hlk hI (by decide +kernel) ?_ dX7_noRow_31
      exact ⟨congrArg (fun q => some (Value.int (iI q))) (bI_t (by first | (intro hh; have h7 := ir_dg hh.2; omega) | (intro hh; have h7 := (ir_dg hh.2).2; rw [show n.toNat = jj from by omega, (h2.elim (fun q => absurd q.1 (by omega)) id).2] at h7; exact absurd h7 (by decide)) | (intro hh; exact hh ⟨by omega, dg_ir (by omega) (by omega) (by rw [show n.toNat = jj from by omega]; exact (h2.elim id (fun q => absurd q.1 (by omega))).2)⟩))).symm, rfl⟩
set_option maxHeartbeats 4000000 in
set_option maxRecDepth 100000 in
theorem c_X7_does (l : Launch) (g : GT) (M : Mem) (x : Int) (n : Int) (row : Int) (A : Mem) (wf : WF A) (rm : RM A M) (h_x : -2147483648 ≤ x ∧ x < 2147483648) (h_n : -2147483648 ≤ n ∧ n < 2147483648) (h_row : -2147483648 ≤ row ∧ row < 2147483648) : Ctr l g yX7_does wsX7_does ({ frames := 4, cells := 0, slots := 0, locals := 95 } : Room) [.ref (gA g 18), .int (iI x), .int (iI n), .int (iI row)] M (pE (fun z u => z = zDoe A x n row ∧ QC M u ∧ RM (A) u)) := by
  refine Ctr.mk (cc := cX7_does) (maxL := 4) (ret := some .int) (lv := [(0, .ref (gA g 18)), (1, .int (iI x)), (2, .int (iI n)), (3, .int (iI row))]) (by decide) rfl (Nat.le_of_ble_eq_true rfl) rfl ?_
  intro p e s m below meth c C hr hlk hI ls hl
  have C : CallFix p m c cX7_does 4 s ([.ref (gA g 18), .int (iI x), .int (iI n), .int (iI row)] : List Value).toArray wsX7_does RX7 := C
  have hx := C.1
  have hb := C.2.1
  have hts := C.2.2.2.2
  have hin7 : ∀ w ∈ u_ws RX7 TX7 31, w ∈ wsX7_does := by decide +kernel
  have wf0 := wf
  obtain ⟨w_txt, hL, w_cnt, w_per, w_glo, w_now, w_act, w_rng, w_slo, w_see, w_sa⟩ := wf
  have rm0 := rm
  obtain ⟨⟨t_n, t_l⟩, ⟨⟨p_p, p_g⟩, p_r, g_r⟩, pgn, ⟨a_n, a_r⟩, k_r, ⟨s_n, s_r⟩, sd⟩ := rm
  have w_gx := w_glo x
  have w_nx : 0 ≤ x ∧ x < 4 → (0 ≤ A 33 x ∧ A 33 x < 1000) ∧ (A 34 x = -9 ∨ (0 ≤ A 34 x ∧ A 34 x < A 3 6 ∧ x < A 3 7)) := fun q => ⟨(w_now.1 x q).1, (w_now.1 x q).2.1⟩
  have w_kx : 0 ≤ x ∧ x < A 3 7 → KOK (A 33 x) (A 7 x) := fun q => (w_now.1 x (by omega)).2.2 q.2
  have r_kx : 0 ≤ x ∧ x < A 3 7 → KG (A 33 x) (M 24) (5 * x) := fun q => (PG_0 pgn x q).1
  have r_wx : 0 ≤ x ∧ x < A 3 7 → M 24 (5 * x + 4) = A 34 x := fun q => (PG_0 pgn x q).2
  have g_x := g_r x
  have r_fx : 0 ≤ x ∧ x < A 3 7 → M 24 (5 * x) = figs (A 33 x) := fun q => (PG_0 pgn x q).1.1
  have f_x := figs_b (A 33 x)
  have rp1 : RP A (mset M 18 0 0) := (RO rm0).2.2.1
  refine lv_aload_n hx hb dX7_does_0 rfl (lv_at hl 0 rfl) ?_
  refine lv_iconst (v := iI 0) hx hb dX7_does_1 rfl ?_
  refine r_put C hI 18 (by decide) rfl rfl tyX7 tyX7_ok nmX7 hin7 0 (by decide) (fn := "thrown") (fd := "I") (index := 50) (by decide +kernel) ⟨rfl, rfl, rfl⟩ rfl (z := 0) rfl rfl (Nat.le_of_ble_eq_true rfl) rfl dX7_does_2 (fun H locs hI => ?_)
  refine lv_aload_n hx hb dX7_does_5 rfl (lv_at hl 0 rfl) ?_
  refine lv_iload_n hx hb dX7_does_6 rfl (lv_at hl 1 rfl) ?_
  refine r_iv C hI (As := [.int (iI x)]) (rest := []) (c_X7_noGlove l g (mset M 18 0 0) x (by omega) (show 0 ≤ (M 18 5) ∧ (M 18 5) ≤ 4 from by omega)) (cwV 1 hts gX7_does_X7_noGlove rfl rfl rfl (by decide +kernel) ⟨Nat.le_of_ble_eq_true rfl, Nat.le_of_ble_eq_true rfl⟩) (by decide) rfl rfl rfl hl.1 rfl (Nat.le_of_ble_eq_true rfl) dX7_does_7 ⟨Nat.zero_le _, Nat.zero_le _⟩ (k_I (fun H locs hI => ?_))
  refine r_eqI (z2 := bI (¬ (0 ≤ x ∧ x ≤ (M 18 5) - 1))) rfl ?_
  refine r_b_eq hx hb (tgt := 15) dX7_does_10 (by decide) (fun c_1 => ?_) (fun c_1 => ?_)
  · refine lv_aload_n hx hb dX7_does_15 rfl (lv_at hl 0 rfl) ?_
    refine lv_iload_n hx hb dX7_does_16 rfl (lv_at hl 2 rfl) ?_
    refine lv_iload_n hx hb dX7_does_17 rfl (lv_at hl 3 rfl) ?_
    refine r_iv C hI (As := [.int (iI n), .int (iI row)]) (rest := []) (c_X7_noRow l g (mset M 18 0 0) n row (by omega) (by omega) (show 0 ≤ (M 18 4) ∧ (M 18 4) ≤ 5 from by omega)) (cwV 2 hts gX7_does_X7_noRow rfl rfl rfl (by decide +kernel) ⟨Nat.le_of_ble_eq_true rfl, Nat.le_of_ble_eq_true rfl⟩) (by decide) rfl rfl rfl hl.1 rfl (Nat.le_of_ble_eq_true rfl) dX7_does_18 ⟨Nat.zero_le _, Nat.zero_le _⟩ (k_I (fun H locs hI => ?_))
    refine r_eqI (z2 := bI (¬ ((1 ≤ n ∧ n ≤ 4) ∧ irO (M 18 4) (Int.toNat n) row = true))) rfl ?_
    refine r_b_eq hx hb (tgt := 27) dX7_does_21 (by decide) (fun c_2 => ?_) (fun c_2 => ?_)
    · refine lv_aload_n hx hb dX7_does_27 rfl (lv_at hl 0 rfl) ?_
      refine lv_aload_n hx hb dX7_does_28 rfl (lv_at hl 0 rfl) ?_
      refine r_get C hI 18 (by decide) rfl rfl hin7 12 (by decide) (fn := "page") (fd := "[I") (index := 25) (by decide +kernel) ⟨rfl, rfl, rfl⟩ (v := .ref (gA g 24)) rfl dX7_does_29 ?_
      refine lv_iload_n hx hb dX7_does_32 rfl (lv_at hl 1 rfl) ?_
      refine r_iv C hI (As := [.ref (gA g 24), .int (iI x)]) (rest := []) (c_X7_isWorn_24 l g (mset M 18 0 0) x (by omega) (show -2147483648 ≤ (M 24 (5 * x + 4)) ∧ (M 24 (5 * x + 4)) < 2147483648 from by omega)) (cwV 2 hts gX7_does_X7_isWorn rfl rfl rfl (by decide +kernel) ⟨Nat.le_of_ble_eq_true rfl, Nat.le_of_ble_eq_true rfl⟩) (by decide) rfl rfl rfl hl.1 rfl (Nat.le_of_ble_eq_true rfl) dX7_does_33 ⟨Nat.zero_le _, Nat.zero_le _⟩ (k_I (fun H locs hI => ?_))
      refine r_eqI (z2 := bI (¬ (M 24 (5 * x + 4)) = -9)) rfl ?_
      refine r_b_eq hx hb (tgt := 44) dX7_does_36 (by decide) (fun c_3 => ?_) (fun c_3 => ?_)
      · refine lv_aload_n hx hb dX7_does_44 rfl (lv_at hl 0 rfl) ?_
        refine lv_iload_n hx hb dX7_does_45 rfl (lv_at hl 1 rfl) ?_
        refine lv_iload_n hx hb dX7_does_46 rfl (lv_at hl 2 rfl) ?_
        refine lv_iload_n hx hb dX7_does_47 rfl (lv_at hl 3 rfl) ?_
        refine r_iv C hI (As := [.int (iI x), .int (iI n), .int (iI row)]) (rest := []) (c_X7_doesBy l g (mset M 18 0 0) x n row A wf0 rp1 (by omega) (r_kx (by omega)) (ir_ok p_p c_2).1 (ir_ok2 w_cnt.1.2 p_p c_2).1 (ir_ok2 w_cnt.1.2 p_p c_2).2) (cwV 3 hts gX7_does_X7_doesBy rfl rfl rfl (by decide +kernel) ⟨Nat.le_of_ble_eq_true rfl, Nat.le_of_ble_eq_true rfl⟩) (by decide) rfl rfl rfl hl.1 rfl (Nat.le_of_ble_eq_true rfl) dX7_does_48 ⟨Nat.zero_le _, Nat.zero_le _⟩ (k_E (fun z_1 M_1 H locs q_1 hI => ?_))
        refine r_iret C hr hlk hI ?_ dX7_does_51
        exact ⟨_, rfl, (show (fun z u => z = zDoe A x n row ∧ QC M u ∧ RM (A) u) z_1 M_1 from by exact ⟨(by unfold zDoe; first | (rw [if_neg (by omega), if_neg (fun q => q (ir_ok p_p c_2)), if_pos (by omega)]; done) | (rw [if_neg (by omega), if_neg (fun q => q (ir_ok p_p c_2)), if_neg (by omega)]; exact q_1.1)), (by first | exact RO rm0 | exact RM_25 rm0 q_1.2)⟩)⟩
      · refine lv_bipush (v := iI (-3)) hx hb dX7_does_39 (by decide +kernel) ?_
        refine lv_goto (tgt := 51) hx hb dX7_does_41 (by decide) ?_
        refine r_iret C hr hlk hI ?_ dX7_does_51
        exact ⟨_, rfl, (show (fun z u => z = zDoe A x n row ∧ QC M u ∧ RM (A) u) (-3) (mset M 18 0 0) from by exact ⟨(by unfold zDoe; first | (rw [if_neg (by omega), if_neg (fun q => q (ir_ok p_p c_2)), if_pos (by omega)]; done) | (rw [if_neg (by omega), if_neg (fun q => q (ir_ok p_p c_2)), if_neg (by omega)]; exact q_1.1)), (by first | exact RO rm0 | exact RM_25 rm0 q_1.2)⟩)⟩
    · refine lv_bipush (v := iI (-2)) hx hb dX7_does_24 (by decide +kernel) ?_
      refine r_iret C hr hlk hI ?_ dX7_does_26
      exact ⟨_, rfl, (show (fun z u => z = zDoe A x n row ∧ QC M u ∧ RM (A) u) (-2) (mset M 18 0 0) from by exact ⟨(by unfold zDoe; (repeat' split) <;> first | rfl | omega | (simp_all; done) | (simp_all; omega)), (by exact RO rm0)⟩)⟩
  · refine lv_iconst (v := iI (-1)) hx hb dX7_does_13 rfl ?_
    refine r_iret C hr hlk hI ?_ dX7_does_14
    exact ⟨_, rfl, (show (fun z u => z = zDoe A x n row ∧ QC M u ∧ RM (A) u) (-1) (mset M 18 0 0) from by exact ⟨(by unfold zDoe; (repeat' split) <;> first | rfl | omega | (simp_all; done) | (simp_all; omega)), (by exact RO rm0)⟩)⟩
set_option maxHeartbeats 4000000 in
set_option maxRecDepth 100000 in
theorem c_X7_looks (l : Launch) (g : GT) (M : Mem) (k : Int) (x : Int) (hk : 0 ≤ k ∧ k < 4) (hx : -2147483648 ≤ x ∧ x < 2147483648) (h29 : -2147483648 ≤ M 29 k ∧ M 29 k < 2147483648) (h30 : -2147483648 ≤ M 30 k ∧ M 30 k < 2147483648) (hP : 0 ≤ M 18 4 ∧ M 18 4 ≤ 5) : Ctr l g yX7_looks wsX7_looks ({ frames := 0, cells := 0, slots := 0, locals := 0 } : Room) [.ref (gA g 18), .int (iI k), .int (iI x)] M (pI (bI (M 29 k = x ∧ M 30 k < M 18 4)) M) := by
  refine Ctr.mk (cc := cX7_looks) (maxL := 3) (ret := some .boolean) (lv := [(0, .ref (gA g 18)), (1, .int (iI k)), (2, .int (iI x))]) (by decide) rfl (Nat.le_of_ble_eq_true rfl) rfl ?_
  intro p e s m below meth c C hr hlk hI ls hl
  have C : CallFix p m c cX7_looks 3 s ([.ref (gA g 18), .int (iI k), .int (iI x)] : List Value).toArray wsX7_looks RX7 := C
  have hx := C.1
  have hb := C.2.1
  have hts := C.2.2.2.2
  have hin7 : ∀ w ∈ u_ws RX7 TX7 31, w ∈ wsX7_looks := by decide +kernel
  refine lv_aload_n hx hb dX7_looks_0 rfl (lv_at hl 0 rfl) ?_
  refine r_get C hI 18 (by decide) rfl rfl hin7 19 (by decide) (fn := "seenGlove") (fd := "[I") (index := 41) (by decide +kernel) ⟨rfl, rfl, rfl⟩ (v := .ref (gA g 29)) rfl dX7_looks_1 ?_
  refine lv_iload_n hx hb dX7_looks_4 rfl (lv_at hl 1 rfl) ?_
  refine r_ald C hI 29 (by decide) rfl (by omega) (by decide) dX7_looks_5 ?_
  refine lv_iload_n hx hb dX7_looks_6 rfl (lv_at hl 2 rfl) ?_
  refine r_icmp_ne hx hb (tgt := 27) (by omega) (by omega) dX7_looks_7 (by decide) (fun c_1 => ?_) (fun c_1 => ?_)
  · refine lv_iconst (v := iI 0) hx hb dX7_looks_27 rfl ?_
    refine r_zret C hr hlk hI (by decide +kernel) ?_ dX7_looks_28
    exact ⟨congrArg (fun q => some (Value.int (iI q))) (bI_f (by first | assumption | omega)).symm, rfl⟩
  · refine lv_aload_n hx hb dX7_looks_10 rfl (lv_at hl 0 rfl) ?_
    refine r_get C hI 18 (by decide) rfl rfl hin7 20 (by decide) (fn := "seenPerson") (fd := "[I") (index := 44) (by decide +kernel) ⟨rfl, rfl, rfl⟩ (v := .ref (gA g 30)) rfl dX7_looks_11 ?_
    refine lv_iload_n hx hb dX7_looks_14 rfl (lv_at hl 1 rfl) ?_
    refine r_ald C hI 30 (by decide) rfl (by omega) (by decide) dX7_looks_15 ?_
    refine lv_aload_n hx hb dX7_looks_16 rfl (lv_at hl 0 rfl) ?_
    refine r_get C hI 18 (by decide) rfl rfl hin7 4 (by decide) (fn := "people") (fd := "I") (index := 54) (by decide +kernel) ⟨rfl, rfl, rfl⟩ (v := .int (iI (M 18 4))) rfl dX7_looks_17 ?_
    refine r_icmp_ge hx hb (tgt := 27) (by omega) (by omega) dX7_looks_20 (by decide) (fun c_2 => ?_) (fun c_2 => ?_)
    · refine lv_iconst (v := iI 0) hx hb dX7_looks_27 rfl ?_
      refine r_zret C hr hlk hI (by decide +kernel) ?_ dX7_looks_28
      exact ⟨congrArg (fun q => some (Value.int (iI q))) (bI_f (by first | assumption | omega)).symm, rfl⟩
    · refine lv_iconst (v := iI 1) hx hb dX7_looks_23 rfl ?_
      refine lv_goto (tgt := 28) hx hb dX7_looks_24 (by decide) ?_
      refine r_zret C hr hlk hI (by decide +kernel) ?_ dX7_looks_28
      exact ⟨congrArg (fun q => some (Value.int (iI q))) (bI_t (by first | assumption | omega)).symm, rfl⟩
set_option maxHeartbeats 4000000 in
set_option maxRecDepth 100000 in
theorem c_X7_worthTo (l : Launch) (g : GT) (M : Mem) (x : Int) (y : Int) (A : Mem) (wf : WF A) (rp : RP A M) (hxg : 0 ≤ x ∧ x < A 3 7) (hg : KG (A 33 x) (M 24) (5 * x)) (hy : 0 ≤ y ∧ y < A 3 6) : Ctr l g yX7_worthTo wsX7_worthTo ({ frames := 2, cells := 0, slots := 0, locals := 46 } : Room) [.ref (gA g 18), .int (iI x), .int (iI y)] M (pI (woO A x y) M) := by
  refine Ctr.mk (cc := cX7_worthTo) (maxL := 3) (ret := some .int) (lv := [(0, .ref (gA g 18)), (1, .int (iI x)), (2, .int (iI y))]) (by decide) rfl (Nat.le_of_ble_eq_true rfl) rfl ?_
  intro p e s m below meth c C hr hlk hI ls hl
  have C : CallFix p m c cX7_worthTo 3 s ([.ref (gA g 18), .int (iI x), .int (iI y)] : List Value).toArray wsX7_worthTo RX7 := C
  have hx := C.1
  have hb := C.2.1
  have hts := C.2.2.2.2
  have hin7 : ∀ w ∈ u_ws RX7 TX7 31, w ∈ wsX7_worthTo := by decide +kernel
  have wf0 := wf
  have rp0 := rp
  obtain ⟨w_txt, hL, w_cnt, w_per, w_glo, w_now, w_act, w_rng, w_slo, w_see, w_sa⟩ := wf
  obtain ⟨⟨p_p, p_g⟩, p_r, g_r⟩ := rp
  have w_gx := w_glo x hxg
  have w_k : KOK (A 33 x) (A 7 x) := (w_now.1 x (by omega)).2.2 hxg.2
  have w_own : ∀ q : Int, 0 ≤ q ∧ q < A 3 6 → 1 ≤ A 4 q ∧ A 4 q ≤ 7 := fun q hq => (w_per q hq).1
  have w_py := w_per y hy
  have p_y := p_r y
  have g_x := g_r x
  have kb := KOK_b w_k
  refine lv_aload_n hx hb dX7_worthTo_0 rfl (lv_at hl 0 rfl) ?_
  refine lv_aload_n hx hb dX7_worthTo_1 rfl (lv_at hl 0 rfl) ?_
  refine r_get C hI 18 (by decide) rfl rfl hin7 12 (by decide) (fn := "page") (fd := "[I") (index := 25) (by decide +kernel) ⟨rfl, rfl, rfl⟩ (v := .ref (gA g 24)) rfl dX7_worthTo_2 ?_
  refine lv_iload_n hx hb dX7_worthTo_5 rfl (lv_at hl 1 rfl) ?_
  refine lv_iload_n hx hb dX7_worthTo_6 rfl (lv_at hl 2 rfl) ?_
  refine r_iv C hI (As := [.ref (gA g 24), .int (iI x), .int (iI y)]) (rest := []) (c_X7_doesOn_24 l g M x y (A 33 x) (by omega) (by omega) (by omega) hg (show -2147483648 ≤ (M 21 (3 * x + 1)) ∧ (M 21 (3 * x + 1)) < 2147483648 from by omega) (show -2147483648 ≤ (M 20 (3 * y)) ∧ (M 20 (3 * y)) < 2147483648 from by omega)) (cwV 3 hts gX7_worthTo_X7_doesOn rfl rfl rfl (by decide +kernel) ⟨Nat.le_of_ble_eq_true rfl, Nat.le_of_ble_eq_true rfl⟩) (by decide) rfl rfl rfl hl.1 rfl (Nat.le_of_ble_eq_true rfl) dX7_worthTo_7 ⟨Nat.zero_le _, Nat.zero_le _⟩ (k_I (fun H locs hI => ?_))
  have ff_1 := repO_b (M 21 (3 * x + 1)) (A 33 x) (M 20 (3 * y))
  refine lv_aload_n hx hb dX7_worthTo_10 rfl (lv_at hl 0 rfl) ?_
  refine r_get C hI 18 (by decide) rfl rfl hin7 6 (by decide) (fn := "person") (fd := "[I") (index := 13) (by decide +kernel) ⟨rfl, rfl, rfl⟩ (v := .ref (gA g 20)) rfl dX7_worthTo_11 ?_
  refine lv_iconst (v := iI 3) hx hb dX7_worthTo_14 rfl ?_
  refine lv_iload_n hx hb dX7_worthTo_15 rfl (lv_at hl 2 rfl) ?_
  refine r_imul hx hb dX7_worthTo_16 ?_
  refine lv_iconst (v := iI 1) hx hb dX7_worthTo_17 rfl ?_
  refine r_iadd hx hb dX7_worthTo_18 ?_
  refine r_ald C hI 20 (by decide) rfl (by omega) (by decide) dX7_worthTo_19 ?_
  refine r_icmp_ne hx hb (tgt := 36) (by omega) (by omega) dX7_worthTo_20 (by decide) (fun c_1 => ?_) (fun c_1 => ?_)
  · refine lv_iconst (v := iI 0) hx hb dX7_worthTo_36 rfl ?_
    refine r_iret C hr hlk hI ?_ dX7_worthTo_37
    exact ⟨congrArg (fun q => some (Value.int (iI q))) (show 0 = woO A x y from by unfold woO; rw [← p_y.1, ← g_x.2.1, ← p_y.2.1]; first | (rw [if_pos (by assumption)]; exact p_y.2.2) | (rw [if_neg (by assumption)])), rfl⟩
  · refine lv_aload_n hx hb dX7_worthTo_23 rfl (lv_at hl 0 rfl) ?_
    refine r_get C hI 18 (by decide) rfl rfl hin7 6 (by decide) (fn := "person") (fd := "[I") (index := 13) (by decide +kernel) ⟨rfl, rfl, rfl⟩ (v := .ref (gA g 20)) rfl dX7_worthTo_24 ?_
    refine lv_iconst (v := iI 3) hx hb dX7_worthTo_27 rfl ?_
    refine lv_iload_n hx hb dX7_worthTo_28 rfl (lv_at hl 2 rfl) ?_
    refine r_imul hx hb dX7_worthTo_29 ?_
    refine lv_iconst (v := iI 2) hx hb dX7_worthTo_30 rfl ?_
    refine r_iadd hx hb dX7_worthTo_31 ?_
    refine r_ald C hI 20 (by decide) rfl (by omega) (by decide) dX7_worthTo_32 ?_
    refine lv_goto (tgt := 37) hx hb dX7_worthTo_33 (by decide) ?_
    refine r_iret C hr hlk hI ?_ dX7_worthTo_37
    exact ⟨congrArg (fun q => some (Value.int (iI q))) (show M 20 ((3 * y) + 2) = woO A x y from by unfold woO; rw [← p_y.1, ← g_x.2.1, ← p_y.2.1]; first | (rw [if_pos (by assumption)]; exact p_y.2.2) | (rw [if_neg (by assumption)])), rfl⟩
