
/-! THE FIRST ROW that makes a glove do it -/
theorem irD_top {P i j : Int} {h : Nat} (hi : 0 ≤ i ∧ i < 10) (hj : 0 ≤ j ∧ j < pwN 10 h) : irD P (h + 1) (i * pwN 10 h + j) = true ↔ (1 ≤ i ∧ i ≤ P) ∧ irD P h j = true := by
  have hp := pwN_p (b := 10) (by decide) h
  have h0 : 0 ≤ i * pwN 10 h := Int.mul_nonneg hi.1 (by omega)
  have hlt : i * pwN 10 h + j < pwN 10 (h + 1) := by
    have h1 : i * pwN 10 h ≤ 9 * pwN 10 h := Int.mul_le_mul_of_nonneg_right (by omega) (by omega)
    show _ < pwN 10 h * 10
    omega
  rw [irD_dg (by omega), irD_dg hj.1]
  have et := dig_top (B := 10) hi hj
  have ee : ∀ n : Nat, n ≤ h → dgB P (i * pwN 10 h + j) n = dgB P j n := by
    intro n
    induction n with
    | zero => intro _; rfl
    | succ n ih =>
      intro hn
      unfold dgB
      rw [ih (by omega), dig_low (by decide) i j (by omega)]
  have e2 : dgB P (i * pwN 10 h + j) (h + 1) = (dgB P j h && decide (1 ≤ i ∧ i ≤ P)) := by
    show (dgB P (i * pwN 10 h + j) h && decide _) = _
    rw [ee h (Nat.le_refl _), et]
  rw [e2, Bool.and_eq_true, decide_eq_true_eq]
  exact ⟨fun q => ⟨q.2.2, hj.2, q.2.1⟩, fun q => ⟨hlt, q.2.2, q.1⟩⟩
theorem kp_top {own : Int → Int} {rm i : Int} : ∀ {h : Nat} {j k : Int}, (0 ≤ i ∧ i < 10) → (0 ≤ j ∧ j < pwN 10 h) → kpN own rm (h + 1) (i * pwN 10 h + j) k = kpN own rm h j (behO k (own (i - 1)) rm)
  | 0, j, k, hi, hj => by
    have : pwN 10 0 = 1 := rfl
    have hj0 : j = 0 := by omega
    subst hj0
    show behO k (own ((i * 1 + 0) % 10 - 1)) rm = behO k (own (i - 1)) rm
    rw [show (i * 1 + 0) % 10 = i by omega]
  | h + 1, j, k, hi, hj => by
    have e : pwN 10 (h + 1) = pwN 10 h * 10 := rfl
    have e1 : (i * pwN 10 (h + 1) + j) / 10 = i * pwN 10 h + j / 10 := by rw [e, ← Int.mul_assoc]; omega
    have e2 : (i * pwN 10 (h + 1) + j) % 10 = j % 10 := by rw [e, ← Int.mul_assoc]; omega
    show behO (kpN own rm (h + 1) ((i * pwN 10 (h + 1) + j) / 10) k) (own ((i * pwN 10 (h + 1) + j) % 10 - 1)) rm = behO (kpN own rm h (j / 10) (behO k (own (i - 1)) rm)) (own (j % 10 - 1)) rm
    rw [e1, e2, kp_top hi (by omega)]
theorem do_top {own : Int → Int} {kd rm i j k : Int} {h : Nat} (hi : 0 ≤ i ∧ i < 10) (hj : 0 ≤ j ∧ j < pwN 10 (h + 1)) : doN own kd rm (h + 2) (i * pwN 10 (h + 1) + j) k = doN own kd rm (h + 1) j (behO k (own (i - 1)) rm) := by
  have e : pwN 10 (h + 1) = pwN 10 h * 10 := rfl
  have e1 : (i * pwN 10 (h + 1) + j) / 10 = i * pwN 10 h + j / 10 := by rw [e, ← Int.mul_assoc]; omega
  have e2 : (i * pwN 10 (h + 1) + j) % 10 = j % 10 := by rw [e, ← Int.mul_assoc]; omega
  show repO kd (kpN own rm (h + 1) ((i * pwN 10 (h + 1) + j) / 10) k) (own ((i * pwN 10 (h + 1) + j) % 10 - 1)) = repO kd (kpN own rm h (j / 10) (behO k (own (i - 1)) rm)) (own (j % 10 - 1))
  rw [e1, e2, kp_top hi (by omega)]
theorem fst_hd (g : Int → List Int) : ∀ (n : Nat) (p : Int), (∀ q : Nat, q < n → ∀ x ∈ g (p + q), 0 ≤ x) → (flN (fun j => g (p + j)) n).headD (-9) = fstN (fun q => (g q).headD (-9)) n p
  | 0, p, _ => rfl
  | n + 1, p, h => by
    have e1 : flN (fun j => g (p + j)) (n + 1) = g p ++ flN (fun j => g (p + 1 + j)) n := by
      rw [Nat.add_comm n 1, flN_add]
      have a : flN (fun j => g (p + j)) 1 = g p := by
        show [] ++ g (p + ((0 : Nat) : Int)) = g p
        rw [List.nil_append]; congr 1; omega
      rw [a]
      congr 1
      exact flN_ext n (fun j _ => by show g (p + (((1 : Nat) : Int) + (j : Int))) = g (p + 1 + (j : Int)); congr 1; omega)
    rw [e1]
    have ih := fst_hd g n (p + 1) (fun q hq x hx => h (q + 1) (by omega) x (by rw [show p + ((q + 1 : Nat) : Int) = p + 1 + (q : Int) by omega]; exact hx))
    cases hg : g p with
    | nil =>
      rw [List.nil_append, ih, fstN_1]
      show (g p).headD (-9) = -9
      rw [hg]; rfl
    | cons x l =>
      have hx := h 0 (by omega) x (by rw [show p + ((0 : Nat) : Int) = p by omega, hg]; exact List.mem_cons_self ..)
      have e2 : (g p).headD (-9) = x := by rw [hg]; rfl
      rw [fstN_2 (by show ¬ (g p).headD (-9) = -9; rw [e2]; omega)]
      show x = (g p).headD (-9)
      rw [e2]
theorem fst_cg {f g : Int → Int} (h : ∀ q : Int, 0 ≤ q → f q = g q) : ∀ (n : Nat) (p : Int), 0 ≤ p → fstN f n p = fstN g n p
  | 0, _, _ => rfl
  | n + 1, p, hp => by
    unfold fstN
    rw [h p hp, fst_cg h n (p + 1) (by omega)]
/-- whether the row s of h hands does d -/
def coB (own : Int → Int) (P kd rm d : Int) (h : Nat) (k s : Int) : Bool := irD P h s && decide (doN own kd rm h s k = d)
def coL (own : Int → Int) (P kd rm d : Int) (h : Nat) (k pre : Int) : Int → List Int := fun s => if coB own P kd rm d h k s = true then [pre * pwN 10 h + s] else []
theorem co_eq {own : Int → Int} {P : Nat} {kd rm d : Int} (hP : P ≤ 9) : ∀ (h : Nat) (k pre : Int), 0 ≤ pre → (flN (coL own P kd rm d (h + 1) k pre) (10 ^ (h + 1))).headD (-9) = frO own P kd rm d (h + 1) k pre := by
  intro h
  induction h with
  | zero =>
    intro k pre hpre
    have inner : ∀ i : Nat, i < 10 → coL own P kd rm d 1 k pre (i : Int) = (fun i => if (1 ≤ i ∧ i ≤ (P : Int)) ∧ repO kd k (own (i - 1)) = d then [pre * 10 + i] else []) (i : Int) := by
      intro i hi
      show (if coB own P kd rm d 1 k (i : Int) = true then [pre * (1 * 10) + (i : Int)] else []) = _
      have e : coB own P kd rm d 1 k (i : Int) = (decide (1 ≤ (i : Int) ∧ (i : Int) ≤ P) && decide (repO kd k (own ((i : Int) - 1)) = d)) := by
        show ((decide (1 ≤ (i : Int) % 10 ∧ (i : Int) % 10 ≤ P) && decide ((i : Int) / 10 = 0)) && decide (repO kd k (own ((i : Int) % 10 - 1)) = d)) = _
        rw [show (i : Int) % 10 = i by omega, decide_eq_true (show (i : Int) / 10 = 0 by omega), Bool.and_true]
      rw [e]
      by_cases c1 : 1 ≤ (i : Int) ∧ (i : Int) ≤ P
      · by_cases c2 : repO kd k (own ((i : Int) - 1)) = d
        · simp only [c1, c2, decide_true, Bool.and_self, if_true, and_self]; simp
        · simp [c1, c2]
      · simp [c1]
    rw [show (10 ^ (0 + 1) : Nat) = 10 from rfl, flN_ext (g := fun i => if (1 ≤ i ∧ i ≤ (P : Int)) ∧ repO kd k (own (i - 1)) = d then [pre * 10 + i] else []) 10 inner, flN_mid hP]
    · have e3 := fst_hd (fun p => if repO kd k (own p) = d then [pre * 10 + p + 1] else []) P 0 (fun q hq x hx => by
        try dsimp only at hx
        split at hx
        · rw [List.mem_singleton] at hx; omega
        · exact absurd hx List.not_mem_nil)
      have er : frO own P kd rm d (0 + 1) k pre = fstN (frS own kd d 0 (frO own P kd rm d 0) rm k pre) (P : Int).toNat 0 := rfl
      rw [er, Int.toNat_natCast]
      have e4 : (fun q => ((fun p => if repO kd k (own p) = d then [pre * 10 + p + 1] else []) q).headD (-9)) = frS own kd d 0 (frO own P kd rm d 0) rm k pre := by
        funext q
        unfold frS
        rw [if_pos rfl]
        try dsimp only
        split <;> rfl
      rw [← e4, ← e3]
      congr 1
      refine flN_ext _ (fun j hj => ?_)
      try dsimp only
      rw [show (j : Int) + 1 - 1 = j by omega, show (0 : Int) + (j : Int) = j by omega, Int.add_assoc]
      by_cases c2 : repO kd k (own (j : Int)) = d
      · rw [if_pos c2, if_pos ⟨by omega, c2⟩]
      · rw [if_neg c2, if_neg (fun q => c2 q.2)]
    · rw [if_neg (by omega)]
    · intro j h1 h2
      rw [if_neg (by omega)]
  | succ h ih =>
    intro k pre hpre
    have e10 : (10 ^ (h + 1 + 1) : Nat) = 10 * 10 ^ (h + 1) := by rw [Nat.pow_succ, Nat.mul_comm]
    have en : ((10 ^ (h + 1) : Nat) : Int) = pwN 10 (h + 1) := (pwN_nat 10 (h + 1)).symm
    have inner : ∀ i : Nat, i < 10 → flN (fun j => coL own P kd rm d (h + 1 + 1) k pre ((i : Int) * ((10 ^ (h + 1) : Nat) : Int) + j)) (10 ^ (h + 1)) = (fun i => if 1 ≤ i ∧ i ≤ (P : Int) then flN (coL own P kd rm d (h + 1) (behO k (own (i - 1)) rm) (pre * 10 + i)) (10 ^ (h + 1)) else []) (i : Int) := by
      intro i hi
      have key : ∀ j : Nat, j < 10 ^ (h + 1) → coL own P kd rm d (h + 1 + 1) k pre ((i : Int) * ((10 ^ (h + 1) : Nat) : Int) + (j : Int)) = if 1 ≤ (i : Int) ∧ (i : Int) ≤ P then coL own P kd rm d (h + 1) (behO k (own ((i : Int) - 1)) rm) (pre * 10 + (i : Int)) (j : Int) else [] := by
        intro j hj
        have hj2 : (j : Int) < pwN 10 (h + 1) := by rw [← en]; exact Int.ofNat_lt.mpr hj
        have ei := @irD_top P (i : Int) (j : Int) (h + 1) (by omega) ⟨by omega, hj2⟩
        have ed := @do_top own kd rm (i : Int) (j : Int) k h (by omega) ⟨by omega, hj2⟩
        have e2 : pre * pwN 10 (h + 1 + 1) + ((i : Int) * pwN 10 (h + 1) + (j : Int)) = (pre * 10 + (i : Int)) * pwN 10 (h + 1) + (j : Int) := by
          show pre * (pwN 10 (h + 1) * 10) + _ = _
          rw [Int.mul_comm (pwN 10 (h + 1)), ← Int.mul_assoc, Int.add_mul, Int.add_assoc]
        rw [en]
        unfold coL coB
        rw [ed, e2]
        by_cases c1 : 1 ≤ (i : Int) ∧ (i : Int) ≤ P
        · rw [if_pos c1]
          have e5 : irD P (h + 1 + 1) ((i : Int) * pwN 10 (h + 1) + (j : Int)) = irD P (h + 1) (j : Int) := by
            rw [Bool.eq_iff_iff, ei]
            exact ⟨fun q => q.2, fun q => ⟨c1, q⟩⟩
          rw [e5]
        · rw [if_neg c1]
          have e5 : irD P (h + 1 + 1) ((i : Int) * pwN 10 (h + 1) + (j : Int)) = false := by
            rw [← Bool.not_eq_true]
            exact fun q => c1 (ei.mp q).1
          rw [e5, Bool.false_and]; rfl
      try dsimp only
      by_cases c1 : 1 ≤ (i : Int) ∧ (i : Int) ≤ P
      · rw [if_pos c1]
        exact flN_ext _ (fun j hj => by rw [key j hj, if_pos c1])
      · rw [if_neg c1]
        exact flN_nil _ (fun j hj => by rw [key j hj, if_neg c1])
    rw [e10, flN_mul, flN_ext (g := fun i => if 1 ≤ i ∧ i ≤ (P : Int) then flN (coL own P kd rm d (h + 1) (behO k (own (i - 1)) rm) (pre * 10 + i)) (10 ^ (h + 1)) else []) 10 inner, flN_mid hP]
    · have e3 := fst_hd (fun p => flN (coL own P kd rm d (h + 1) (behO k (own p) rm) (pre * 10 + p + 1)) (10 ^ (h + 1))) P 0 (fun q hq x hx => by
        try dsimp only at hx
        obtain ⟨n, hn⟩ : ∃ n, n = 10 ^ (h + 1) := ⟨_, rfl⟩
        rw [← hn] at hx
        clear hn
        induction n with
        | zero => exact absurd hx List.not_mem_nil
        | succ n ih2 =>
          unfold flN at hx
          rcases List.mem_append.mp hx with q1 | q1
          · exact ih2 q1
          · unfold coL at q1
            split at q1
            · rw [List.mem_singleton] at q1
              have hp := pwN_p (b := 10) (by decide) (h + 1)
              have := Int.mul_nonneg (show 0 ≤ pre * 10 + (0 + (q : Int)) + 1 by omega) (show 0 ≤ pwN 10 (h + 1) by omega)
              omega
            · exact absurd q1 List.not_mem_nil)
      have er : frO own P kd rm d (h + 1 + 1) k pre = fstN (frS own kd d (h + 1) (frO own P kd rm d (h + 1)) rm k pre) (P : Int).toNat 0 := rfl
      rw [er, Int.toNat_natCast]
      have e4 : ∀ q : Int, 0 ≤ q → ((fun p => flN (coL own P kd rm d (h + 1) (behO k (own p) rm) (pre * 10 + p + 1)) (10 ^ (h + 1))) q).headD (-9) = frS own kd d (h + 1) (frO own P kd rm d (h + 1)) rm k pre q := by
        intro q hq
        unfold frS
        rw [if_neg (by omega)]
        exact ih _ _ (by omega)
      rw [← fst_cg e4 P 0 (by decide), ← e3]
      congr 1
      refine flN_ext _ (fun j hj => ?_)
      try dsimp only
      rw [show (j : Int) + 1 - 1 = j by omega, show (0 : Int) + (j : Int) = j by omega, Int.add_assoc, if_pos ⟨by omega, by omega⟩]
    · rw [if_neg (by omega)]
    · intro j h1 h2
      rw [if_neg (by omega)]

theorem co_eqI {own : Int → Int} {P kd rm d k n : Int} (hP : 0 ≤ P ∧ P ≤ 9) (hn : 1 ≤ n) : (flN (coL own P kd rm d n.toNat k 0) (10 ^ n.toNat)).headD (-9) = frO own P kd rm d n.toNat k 0 := by
  obtain ⟨p, rfl⟩ : ∃ p : Nat, P = p := ⟨P.toNat, by omega⟩
  obtain ⟨h, hh⟩ : ∃ h : Nat, n.toNat = h + 1 := ⟨n.toNat - 1, by omega⟩
  rw [hh]
  exact co_eq (by omega) h k 0 (by decide)
theorem hit_first {f : Int → List Int} {j n : Nat} {x : Int} (h : flN f j = []) (hj : j < n) (hx : f (j : Int) = [x]) : (flN f n).headD (-9) = x := by
  obtain ⟨e, he⟩ : ∃ e, n = (j + 1) + e := ⟨n - j - 1, by omega⟩
  rw [he, flN_add]
  have : flN f (j + 1) = [x] := by
    show flN f j ++ f (j : Int) = [x]
    rw [h, hx]; rfl
  rw [this]; rfl
theorem doN_b {own : Int → Int} {P kd rm k : Int} (hk : KOK k rm) (hr : 1 ≤ rm ∧ rm ≤ 3) (hw : ∀ q : Int, 0 ≤ q ∧ q < P → 1 ≤ own q ∧ own q ≤ 7) : ∀ (n : Nat) (row : Int), irD P n row = true → 0 ≤ doN own kd rm n row k ∧ doN own kd rm n row k ≤ 9
  | 0, _, _ => by simp [doN]
  | n + 1, row, h => by
    simp only [irD, Bool.and_eq_true, decide_eq_true_eq] at h
    exact repO_b _ _ _ (KOK_b (kpN_K hk hr hw n (row / 10) h.2))
theorem co_no {own : Int → Int} {P P' kd rm d k n row : Int} (h0 : 0 ≤ row) (hp : P = P') (hn : 1 ≤ n ∧ n ≤ 4) (h : ¬ ((1 ≤ n ∧ n ≤ 4) ∧ irO P (Int.toNat n) row = true)) : coL own P' kd rm d n.toNat k 0 row = [] := by
  subst hp
  unfold coL coB
  have : irD P n.toNat row = false := by
    rw [← Bool.not_eq_true]
    exact fun q => h ⟨hn, irD_O h0 q⟩
  rw [this, Bool.false_and]; rfl
theorem co_ne {own : Int → Int} {P kd rm d k z row : Int} {n : Nat} (hz : z = doN own kd rm n row k) (h : ¬ z = d) : coL own P kd rm d n k 0 row = [] := by
  unfold coL coB
  rw [decide_eq_false (by rw [← hz]; exact h), Bool.and_false]; rfl
theorem co_is {own : Int → Int} {P kd rm d k z row : Int} {n : Nat} (hd : irD P n row = true) (hz : z = doN own kd rm n row k) (h : z = d) : coL own P kd rm d n k 0 row = [row] := by
  unfold coL coB
  rw [hd, decide_eq_true (by rw [← hz]; exact h), Int.zero_mul, Int.zero_add]; rfl
theorem cm_no {own : Int → Int} {n kd rm d k w hh : Int} {f : Nat} (h : frO own n kd rm d hh.toNat k 0 = -9) : cmN own n kd rm d k w (f + 1) hh = cmN own n kd rm d k w f (hh + 1) := by
  simp only [cmN]; rw [if_pos h]
theorem cm_is {own : Int → Int} {n kd rm d k w hh : Int} {f : Nat} (h : ¬ frO own n kd rm d hh.toNat k 0 = -9) : cmN own n kd rm d k w (f + 1) hh = if w = 0 then hh else frO own n kd rm d hh.toNat k 0 := by
  simp only [cmN]; rw [if_neg h]
set_option maxHeartbeats 4000000 in
set_option maxRecDepth 100000 in
theorem c_X7_findComes (l : Launch) (g : GT) (M : Mem) (x : Int) (dd : Int) (A : Mem) (wf : WF A) (rp : RP A M) (hxg : 0 ≤ x ∧ x < A 3 7) (hg : KG (A 33 x) (M 24) (5 * x)) (hdd : 1 ≤ dd ∧ dd ≤ 7) : Ctr l g yX7_findComes wsX7_findComes ({ frames := 4, cells := 0, slots := 0, locals := 95 } : Room) [.ref (gA g 18), .int (iI x), .int (iI dd)] M (pX (fun u => FR M u ∧ ∀ w : Int, cmN (A 4) (A 3 6) (A 8 x) (A 7 x) dd (A 33 x) w 4 1 = if w = 0 then u 18 23 else u 18 24)) := by
  refine Ctr.mk (cc := cX7_findComes) (maxL := 5) (ret := none) (lv := [(0, .ref (gA g 18)), (1, .int (iI x)), (2, .int (iI dd))]) (by decide) rfl (Nat.le_of_ble_eq_true rfl) rfl ?_
  intro p e s m below meth c C hr hlk hI ls hl
  have C : CallFix p m c cX7_findComes 5 s ([.ref (gA g 18), .int (iI x), .int (iI dd)] : List Value).toArray wsX7_findComes RX7 := C
  have hx := C.1
  have hb := C.2.1
  have hts := C.2.2.2.2
  have hin7 : ∀ w ∈ u_ws RX7 TX7 31, w ∈ wsX7_findComes := by decide +kernel
  have wf0 := wf
  have rp0 := rp
  obtain ⟨w_txt, hL, w_cnt, w_per, w_glo, w_now, w_act, w_rng, w_slo, w_see, w_sa⟩ := wf
  obtain ⟨⟨p_p, p_g⟩, p_r, g_r⟩ := rp
  have w_gx := w_glo x hxg
  have w_k : KOK (A 33 x) (A 7 x) := (w_now.1 x (by omega)).2.2 hxg.2
  have w_own : ∀ q : Int, 0 ≤ q ∧ q < A 3 6 → 1 ≤ A 4 q ∧ A 4 q ≤ 7 := fun q hq => (w_per q hq).1
  refine lv_aload_n hx hb dX7_findComes_0 rfl (lv_at hl 0 rfl) ?_
  refine lv_bipush (v := iI (-9)) hx hb dX7_findComes_1 (by decide +kernel) ?_
  refine r_put C hI 18 (by decide) rfl rfl tyX7 tyX7_ok nmX7 hin7 23 (by decide) (fn := "comesMany") (fd := "I") (index := 154) (by decide +kernel) ⟨rfl, rfl, rfl⟩ rfl (z := (-9)) rfl rfl (Nat.le_of_ble_eq_true rfl) rfl dX7_findComes_3 (fun H locs hI => ?_)
  refine lv_aload_n hx hb dX7_findComes_6 rfl (lv_at hl 0 rfl) ?_
  refine lv_bipush (v := iI (-9)) hx hb dX7_findComes_7 (by decide +kernel) ?_
  refine r_put C hI 18 (by decide) rfl rfl tyX7 tyX7_ok nmX7 hin7 24 (by decide) (fn := "comesRow") (fd := "I") (index := 157) (by decide +kernel) ⟨rfl, rfl, rfl⟩ rfl (z := (-9)) rfl rfl (Nat.le_of_ble_eq_true rfl) rfl dX7_findComes_9 (fun H locs hI => ?_)
  refine lv_iconst (v := iI 1) hx hb dX7_findComes_12 rfl ?_
  refine lv_istore_n (lv' := [(3, .int (iI 1)), (0, .ref (gA g 18)), (1, .int (iI x)), (2, .int (iI dd))]) hx hb dX7_findComes_13 rfl hl (by decide) rfl (fun ls hl => ?_)
  have lp14 : ∀ (n14 : Nat) (nn : Int) (NO : Mem), (1 ≤ nn ∧ nn ≤ 5) → (FR M NO) → ((NO 18 23 = -9 ∧ NO 18 24 = -9 ∧ ∀ w : Int, cmN (A 4) (A 3 6) (A 8 x) (A 7 x) dd (A 33 x) w 4 1 = cmN (A 4) (A 3 6) (A 8 x) (A 7 x) dd (A 33 x) w (5 - nn).toNat nn) ∨ ((1 ≤ NO 18 23 ∧ NO 18 23 ≤ 4) ∧ ∀ w : Int, cmN (A 4) (A 3 6) (A 8 x) (A 7 x) dd (A 33 x) w 4 1 = if w = 0 then NO 18 23 else NO 18 24)) → (5 - nn).toNat < n14 → ∀ (H : Heap) (locs : List Loc), HI g s H locs NO → ∀ ls : Array Slot, lv_has ls 5 [(3, .int (iI nn)), (0, .ref (gA g 18)), (1, .int (iI x)), (2, .int (iI dd))] → W p l e ({ frames := 4, cells := 0, slots := 0, locals := 95 } : Room) s m ([.ref (gA g 18), .int (iI x), .int (iI dd)] : List Value).toArray below meth c H locs 0 0 (MQ below (QV g (pX (fun u => FR M u ∧ ∀ w : Int, cmN (A 4) (A 3 6) (A 8 x) (A 7 x) dd (A 33 x) w 4 1 = if w = 0 then u 18 23 else u 18 24))) ([.ref (gA g 18), .int (iI x), .int (iI dd)] : List Value).toArray s 0 0 (AA g)) (F0 m 14 ls []) := by
    intro n14
    induction n14 with
    | zero => intro nn NO o1 oF o2 hn14; exact absurd hn14 (Nat.not_lt_zero _)
    | succ n14 ih14 =>
      intro nn NO o1 oF o2 hn14 H locs hI ls hl
      refine lv_iload_n hx hb dX7_findComes_14 rfl (lv_at hl 0 rfl) ?_
      refine lv_iconst (v := iI 4) hx hb dX7_findComes_15 rfl ?_
      refine r_icmp_gt hx hb (tgt := 96) (by omega) (by decide) dX7_findComes_16 (by decide) (fun c_1 => ?_) (fun c_1 => ?_)
      · refine r_vret C hr hlk hI ?_ dX7_findComes_96
        exact ⟨rfl, (show (fun u => FR M u ∧ ∀ w : Int, cmN (A 4) (A 3 6) (A 8 x) (A 7 x) dd (A 33 x) w 4 1 = if w = 0 then u 18 23 else u 18 24) NO from by exact ⟨oF, fun w => o2.elim (fun q => by rw [q.2.2 w, q.1, q.2.1, show (5 - nn).toNat = 0 from by omega]; simp only [cmN]; split <;> rfl) (fun q => q.2 w)⟩)⟩
      · refine lv_aload_n hx hb dX7_findComes_19 rfl (lv_at hl 1 rfl) ?_
        refine r_get C hI 18 (by decide) rfl rfl hin7 23 (by decide) (fn := "comesMany") (fd := "I") (index := 154) (by decide +kernel) ⟨rfl, rfl, rfl⟩ (v := .int (iI (NO 18 23))) rfl dX7_findComes_20 ?_
        refine lv_bipush (v := iI (-9)) hx hb dX7_findComes_23 (by decide +kernel) ?_
        refine r_icmp_ne hx hb (tgt := 96) (by omega) (by decide) dX7_findComes_25 (by decide) (fun c_2 => ?_) (fun c_2 => ?_)
        · refine r_vret C hr hlk hI ?_ dX7_findComes_96
          exact ⟨rfl, (show (fun u => FR M u ∧ ∀ w : Int, cmN (A 4) (A 3 6) (A 8 x) (A 7 x) dd (A 33 x) w 4 1 = if w = 0 then u 18 23 else u 18 24) NO from by exact ⟨oF, fun w => o2.elim (fun q => by rw [q.2.2 w, q.1, q.2.1, show (5 - nn).toNat = 0 from by omega]; simp only [cmN]; split <;> rfl) (fun q => q.2 w)⟩)⟩
        · have oE := (o2.elim id (fun q => absurd q.1.1 (by omega))).2.2
          refine lv_iconst (v := iI 0) hx hb dX7_findComes_28 rfl ?_
          refine lv_istore (lv' := [(4, .int (iI 0)), (3, .int (iI nn)), (0, .ref (gA g 18)), (1, .int (iI x)), (2, .int (iI dd))]) hx hb dX7_findComes_29 hl (by decide) rfl (fun ls hl => ?_)
          have lp31 : ∀ (n31 : Nat) (rr : Int) (ND : Mem) (jj : Nat), (rr = (jj : Int) ∧ jj ≤ 10 ^ nn.toNat) → (FR M ND) → ((ND 18 23 = -9 ∧ ND 18 24 = -9 ∧ flN (coL (A 4) (A 3 6) (A 8 x) (A 7 x) dd nn.toNat (A 33 x) 0) jj = []) ∨ (ND 18 23 = nn ∧ ND 18 24 = frO (A 4) (A 3 6) (A 8 x) (A 7 x) dd nn.toNat (A 33 x) 0 ∧ ¬ frO (A 4) (A 3 6) (A 8 x) (A 7 x) dd nn.toNat (A 33 x) 0 = -9)) → 10 ^ nn.toNat - jj < n31 → ∀ (H : Heap) (locs : List Loc), HI g s H locs ND → ∀ ls : Array Slot, lv_has ls 5 [(4, .int (iI rr)), (3, .int (iI nn)), (0, .ref (gA g 18)), (1, .int (iI x)), (2, .int (iI dd))] → W p l e ({ frames := 4, cells := 0, slots := 0, locals := 95 } : Room) s m ([.ref (gA g 18), .int (iI x), .int (iI dd)] : List Value).toArray below meth c H locs 0 0 (MQ below (QV g (pX (fun u => FR M u ∧ ∀ w : Int, cmN (A 4) (A 3 6) (A 8 x) (A 7 x) dd (A 33 x) w 4 1 = if w = 0 then u 18 23 else u 18 24))) ([.ref (gA g 18), .int (iI x), .int (iI dd)] : List Value).toArray s 0 0 (AA g)) (F0 m 31 ls []) := by
            intro n31
            induction n31 with
            | zero => intro rr ND jj i1 iF i2 hn31; exact absurd hn31 (Nat.not_lt_zero _)
            | succ n31 ih31 =>
              intro rr ND jj i1 iF i2 hn31 H locs hI ls hl
              have e18 : ND 18 4 = A 3 6 := (iF.2 4 (by decide)).trans p_p
              have tp : pwN 10 nn.toNat = ((10 ^ nn.toNat : Nat) : Int) := pwN_nat 10 _
              have tb := pw10_b (n := nn.toNat) (by omega)
              have i23 : ND 18 23 = -9 ∨ ND 18 23 = nn := i2.imp And.left And.left
              refine lv_iload hx hb dX7_findComes_31 (lv_at hl 0 rfl) ?_
              refine lv_bipush (v := iI 10) hx hb dX7_findComes_33 (by decide +kernel) ?_
              refine lv_iload_n hx hb dX7_findComes_35 rfl (lv_at hl 1 rfl) ?_
              refine r_is C hI (As := [.int (iI 10), .int (iI nn)]) (rest := [.int (iI rr)]) (c_X7_power l g ND 10 nn (by omega)) (va_cwS 2 hts gX7_findComes_X7_power rfl rfl rfl (by decide +kernel) ⟨Nat.le_of_ble_eq_true rfl, Nat.le_of_ble_eq_true rfl⟩) rfl hl.1 rfl (Nat.le_of_ble_eq_true rfl) dX7_findComes_36 ⟨Nat.zero_le _, Nat.zero_le _⟩ (k_I (fun H locs hI => ?_))
              refine r_icmp_ge hx hb (tgt := 90) (by omega) (by omega) dX7_findComes_39 (by decide) (fun c_3 => ?_) (fun c_3 => ?_)
              · refine lv_iinc (v := iI (nn + 1)) (lv' := [(3, .int (iI (nn + 1))), (4, .int (iI rr)), (0, .ref (gA g 18)), (1, .int (iI x)), (2, .int (iI dd))]) hx hb dX7_findComes_90 hl (k := 1) rfl (iI_add _ _) (by decide) rfl (fun ls hl => ?_)
                refine lv_goto (tgt := 14) hx hb dX7_findComes_93 (by decide) ?_
                exact ih14 (nn + 1) ND (by omega) (by exact iF) (by (have e5 : (5 - nn).toNat = (5 - (nn + 1)).toNat + 1 := by omega); rw [e5] at oE; exact i2.elim (fun q => Or.inl ⟨q.1, q.2.1, fun w => by (have hj : jj = 10 ^ nn.toNat := by omega); (have hf := co_eqI (own := A 4) (P := A 3 6) (kd := A 8 x) (rm := A 7 x) (d := dd) (k := A 33 x) (n := nn) (by omega) o1.1); rw [← hj, q.2.2] at hf; rw [oE w, cm_no hf.symm]⟩) (fun q => Or.inr ⟨by omega, fun w => by rw [oE w, cm_is q.2.2, q.1, q.2.1]⟩)) (by omega) _ _ hI ls (lv_sub hl [0, 2, 3, 4] rfl)
              · refine lv_aload_n hx hb dX7_findComes_42 rfl (lv_at hl 2 rfl) ?_
                refine r_get C hI 18 (by decide) rfl rfl hin7 23 (by decide) (fn := "comesMany") (fd := "I") (index := 154) (by decide +kernel) ⟨rfl, rfl, rfl⟩ (v := .int (iI (ND 18 23))) rfl dX7_findComes_43 ?_
                refine lv_bipush (v := iI (-9)) hx hb dX7_findComes_46 (by decide +kernel) ?_
                refine r_icmp_ne hx hb (tgt := 90) (by omega) (by decide) dX7_findComes_48 (by decide) (fun c_4 => ?_) (fun c_4 => ?_)
                · refine lv_iinc (v := iI (nn + 1)) (lv' := [(3, .int (iI (nn + 1))), (4, .int (iI rr)), (0, .ref (gA g 18)), (1, .int (iI x)), (2, .int (iI dd))]) hx hb dX7_findComes_90 hl (k := 1) rfl (iI_add _ _) (by decide) rfl (fun ls hl => ?_)
                  refine lv_goto (tgt := 14) hx hb dX7_findComes_93 (by decide) ?_
                  exact ih14 (nn + 1) ND (by omega) (by exact iF) (by (have e5 : (5 - nn).toNat = (5 - (nn + 1)).toNat + 1 := by omega); rw [e5] at oE; exact i2.elim (fun q => Or.inl ⟨q.1, q.2.1, fun w => by (have hj : jj = 10 ^ nn.toNat := by omega); (have hf := co_eqI (own := A 4) (P := A 3 6) (kd := A 8 x) (rm := A 7 x) (d := dd) (k := A 33 x) (n := nn) (by omega) o1.1); rw [← hj, q.2.2] at hf; rw [oE w, cm_no hf.symm]⟩) (fun q => Or.inr ⟨by omega, fun w => by rw [oE w, cm_is q.2.2, q.1, q.2.1]⟩)) (by omega) _ _ hI ls (lv_sub hl [0, 2, 3, 4] rfl)
                · obtain ⟨j23, j24, jl⟩ := i2.elim id (fun q => absurd q.1 (by omega))
                  refine lv_aload_n hx hb dX7_findComes_51 rfl (lv_at hl 2 rfl) ?_
                  refine lv_iload_n hx hb dX7_findComes_52 rfl (lv_at hl 1 rfl) ?_
                  refine lv_iload hx hb dX7_findComes_53 (lv_at hl 0 rfl) ?_
                  refine r_iv C hI (As := [.int (iI nn), .int (iI rr)]) (rest := []) (c_X7_noRow l g ND nn rr (by omega) (by omega) (show 0 ≤ (ND 18 4) ∧ (ND 18 4) ≤ 5 from by omega)) (cwV 2 hts gX7_findComes_X7_noRow rfl rfl rfl (by decide +kernel) ⟨Nat.le_of_ble_eq_true rfl, Nat.le_of_ble_eq_true rfl⟩) (by decide) rfl rfl rfl hl.1 rfl (Nat.le_of_ble_eq_true rfl) dX7_findComes_55 ⟨Nat.zero_le _, Nat.zero_le _⟩ (k_I (fun H locs hI => ?_))
                  refine r_b_ne hx hb (tgt := 84) dX7_findComes_58 (by decide) (fun c_5 => ?_) (fun c_5 => ?_)
                  · refine lv_iinc (v := iI (rr + 1)) (lv' := [(4, .int (iI (rr + 1))), (3, .int (iI nn)), (0, .ref (gA g 18)), (1, .int (iI x)), (2, .int (iI dd))]) hx hb dX7_findComes_84 hl (k := 0) rfl (iI_add _ _) (by decide) rfl (fun ls hl => ?_)
                    refine lv_goto (tgt := 31) hx hb dX7_findComes_87 (by decide) ?_
                    exact ih31 (rr + 1) ND (jj + 1) (by omega) (by first | exact iF | exact fr1 | exact FR.trans fr1 (FR.trans (FR_m (by decide)) (FR_m (by decide)))) (by first | exact Or.inl ⟨by omega, by omega, by (simp only [flN, ← i1.1]; rw [jl, co_no (by omega) e18 (by omega) (by assumption)]; rfl)⟩ | exact Or.inl ⟨by omega, by omega, by (simp only [flN, ← i1.1]; rw [jl, co_ne q_1.1 (by assumption)]; rfl)⟩ | (have hf := co_eqI (own := A 4) (P := A 3 6) (kd := A 8 x) (rm := A 7 x) (d := dd) (k := A 33 x) (n := nn) (by omega) o1.1; rw [hit_first jl (by omega) (by rw [← i1.1]; exact co_is hok.2 q_1.1 (by assumption))] at hf; exact Or.inr ⟨rfl, by rw [← hf, mset_s, rw1_s], by omega⟩)) (by omega) _ _ hI ls (lv_sub hl [0, 1, 2, 3, 4] rfl)
                  · have hok := @ir_ok2 (ND 18 4) (A 3 6) nn rr w_cnt.1.2 e18 (by assumption)
                    refine lv_aload_n hx hb dX7_findComes_61 rfl (lv_at hl 2 rfl) ?_
                    refine lv_iload_n hx hb dX7_findComes_62 rfl (lv_at hl 3 rfl) ?_
                    refine lv_iload_n hx hb dX7_findComes_63 rfl (lv_at hl 1 rfl) ?_
                    refine lv_iload hx hb dX7_findComes_64 (lv_at hl 0 rfl) ?_
                    refine r_iv C hI (As := [.int (iI x), .int (iI nn), .int (iI rr)]) (rest := []) (c_X7_doesBy l g ND x nn rr A wf0 (FR_RP iF rp0) (by omega) (by rw [iF.1 24 (by decide) (by decide)]; exact hg) (by omega) hok.1 hok.2) (cwV 3 hts gX7_findComes_X7_doesBy rfl rfl rfl (by decide +kernel) ⟨Nat.le_of_ble_eq_true rfl, Nat.le_of_ble_eq_true rfl⟩) (by decide) rfl rfl rfl hl.1 rfl (Nat.le_of_ble_eq_true rfl) dX7_findComes_66 ⟨Nat.zero_le _, Nat.zero_le _⟩ (k_E (fun z_1 M_1 H locs q_1 hI => ?_))
                    have zb := doN_b (kd := A 8 x) w_k w_gx.1 w_own _ _ hok.2
                    rw [← q_1.1] at zb
                    have fr1 := FR.trans iF (FR_25 q_1.2)
                    have m23 : M_1 18 23 = ND 18 23 := by rw [q_1.2 18 (by decide)]
                    have m24 : M_1 18 24 = ND 18 24 := by rw [q_1.2 18 (by decide)]
                    refine lv_iload_n hx hb dX7_findComes_69 rfl (lv_at hl 4 rfl) ?_
                    refine r_icmp_ne hx hb (tgt := 84) (by omega) (by omega) dX7_findComes_70 (by decide) (fun c_6 => ?_) (fun c_6 => ?_)
                    · refine lv_iinc (v := iI (rr + 1)) (lv' := [(4, .int (iI (rr + 1))), (3, .int (iI nn)), (0, .ref (gA g 18)), (1, .int (iI x)), (2, .int (iI dd))]) hx hb dX7_findComes_84 hl (k := 0) rfl (iI_add _ _) (by decide) rfl (fun ls hl => ?_)
                      refine lv_goto (tgt := 31) hx hb dX7_findComes_87 (by decide) ?_
                      exact ih31 (rr + 1) M_1 (jj + 1) (by omega) (by first | exact iF | exact fr1 | exact FR.trans fr1 (FR.trans (FR_m (by decide)) (FR_m (by decide)))) (by first | exact Or.inl ⟨by omega, by omega, by (simp only [flN, ← i1.1]; rw [jl, co_no (by omega) e18 (by omega) (by assumption)]; rfl)⟩ | exact Or.inl ⟨by omega, by omega, by (simp only [flN, ← i1.1]; rw [jl, co_ne q_1.1 (by assumption)]; rfl)⟩ | (have hf := co_eqI (own := A 4) (P := A 3 6) (kd := A 8 x) (rm := A 7 x) (d := dd) (k := A 33 x) (n := nn) (by omega) o1.1; rw [hit_first jl (by omega) (by rw [← i1.1]; exact co_is hok.2 q_1.1 (by assumption))] at hf; exact Or.inr ⟨rfl, by rw [← hf, mset_s, rw1_s], by omega⟩)) (by omega) _ _ hI ls (lv_sub hl [0, 1, 2, 3, 4] rfl)
                    · refine lv_aload_n hx hb dX7_findComes_73 rfl (lv_at hl 2 rfl) ?_
                      refine lv_iload_n hx hb dX7_findComes_74 rfl (lv_at hl 1 rfl) ?_
                      refine r_put C hI 18 (by decide) rfl rfl tyX7 tyX7_ok nmX7 hin7 23 (by decide) (fn := "comesMany") (fd := "I") (index := 154) (by decide +kernel) ⟨rfl, rfl, rfl⟩ rfl (z := nn) rfl rfl (Nat.le_of_ble_eq_true rfl) rfl dX7_findComes_75 (fun H locs hI => ?_)
                      refine lv_aload_n hx hb dX7_findComes_78 rfl (lv_at hl 2 rfl) ?_
                      refine lv_iload hx hb dX7_findComes_79 (lv_at hl 0 rfl) ?_
                      refine r_put C hI 18 (by decide) rfl rfl tyX7 tyX7_ok nmX7 hin7 24 (by decide) (fn := "comesRow") (fd := "I") (index := 157) (by decide +kernel) ⟨rfl, rfl, rfl⟩ rfl (z := rr) rfl rfl (Nat.le_of_ble_eq_true rfl) rfl dX7_findComes_81 (fun H locs hI => ?_)
                      refine lv_iinc (v := iI (rr + 1)) (lv' := [(4, .int (iI (rr + 1))), (3, .int (iI nn)), (0, .ref (gA g 18)), (1, .int (iI x)), (2, .int (iI dd))]) hx hb dX7_findComes_84 hl (k := 0) rfl (iI_add _ _) (by decide) rfl (fun ls hl => ?_)
                      refine lv_goto (tgt := 31) hx hb dX7_findComes_87 (by decide) ?_
                      exact ih31 (rr + 1) (mset (mset M_1 18 23 nn) 18 24 rr) (jj + 1) (by omega) (by first | exact iF | exact fr1 | exact FR.trans fr1 (FR.trans (FR_m (by decide)) (FR_m (by decide)))) (by first | exact Or.inl ⟨by omega, by omega, by (simp only [flN, ← i1.1]; rw [jl, co_no (by omega) e18 (by omega) (by assumption)]; rfl)⟩ | exact Or.inl ⟨by omega, by omega, by (simp only [flN, ← i1.1]; rw [jl, co_ne q_1.1 (by assumption)]; rfl)⟩ | (have hf := co_eqI (own := A 4) (P := A 3 6) (kd := A 8 x) (rm := A 7 x) (d := dd) (k := A 33 x) (n := nn) (by omega) o1.1; rw [hit_first jl (by omega) (by rw [← i1.1]; exact co_is hok.2 q_1.1 (by assumption))] at hf; exact Or.inr ⟨rfl, by rw [← hf, mset_s, rw1_s], by omega⟩)) (by omega) _ _ hI ls (lv_sub hl [0, 1, 2, 3, 4] rfl)
          exact lp31 _ 0 NO 0 (by exact ⟨rfl, Nat.zero_le _⟩) (by exact oF) (by exact Or.inl ⟨by omega, by have := o2.elim id (fun q => absurd q.1.1 (by omega)); exact this.2.1, rfl⟩) (Nat.lt_succ_self _) _ _ hI ls (lv_sub hl [0, 1, 2, 3, 4] rfl)
  exact lp14 _ 1 (mset (mset M 18 23 (-9)) 18 24 (-9)) (by omega) (by exact FR.trans (FR_m (by decide)) (FR_m (by decide))) (by exact Or.inl ⟨rfl, rfl, fun w => rfl⟩) (Nat.lt_succ_self _) _ _ hI ls (lv_sub hl [0, 1, 2, 3] rfl)
set_option maxHeartbeats 4000000 in
set_option maxRecDepth 100000 in
theorem c_X7_comes (l : Launch) (g : GT) (M : Mem) (x : Int) (dd : Int) (v : Int) (A : Mem) (wf : WF A) (rm : RM A M) (h_x : -2147483648 ≤ x ∧ x < 2147483648) (h_dd : -2147483648 ≤ dd ∧ dd < 2147483648) (h_v : -2147483648 ≤ v ∧ v < 2147483648) : Ctr l g yX7_comes wsX7_comes ({ frames := 5, cells := 0, slots := 0, locals := 119 } : Room) [.ref (gA g 18), .int (iI x), .int (iI dd), .int (iI v)] M (pE (fun z u => z = zCom A x dd v ∧ QC M u ∧ RM (A) u)) := by
  refine Ctr.mk (cc := cX7_comes) (maxL := 4) (ret := some .int) (lv := [(0, .ref (gA g 18)), (1, .int (iI x)), (2, .int (iI dd)), (3, .int (iI v))]) (by decide) rfl (Nat.le_of_ble_eq_true rfl) rfl ?_
  intro p e s m below meth c C hr hlk hI ls hl
  have C : CallFix p m c cX7_comes 4 s ([.ref (gA g 18), .int (iI x), .int (iI dd), .int (iI v)] : List Value).toArray wsX7_comes RX7 := C
  have hx := C.1
  have hb := C.2.1
  have hts := C.2.2.2.2
  have hin7 : ∀ w ∈ u_ws RX7 TX7 31, w ∈ wsX7_comes := by decide +kernel
  have wf0 := wf
  obtain ⟨w_txt, hL, w_cnt, w_per, w_glo, w_now, w_act, w_rng, w_slo, w_see, w_sa⟩ := wf
  have rm0 := rm
  obtain ⟨⟨t_n, t_l⟩, ⟨⟨p_p, p_g⟩, p_r, g_r⟩, pgn, ⟨a_n, a_r⟩, k_r, ⟨s_n, s_r⟩, sd⟩ := rm
  have w_gx := w_glo x
  have w_nx : 0 ≤ x ∧ x < 4 → (0 ≤ A 33 x ∧ A 33 x < 1000) ∧ (A 34 x = -9 ∨ (0 ≤ A 34 x ∧ A 34 x < A 3 6 ∧ x < A 3 7)) := fun q => ⟨(w_now.1 x q).1, (w_now.1 x q).2.1⟩
  have w_kx : 0 ≤ x ∧ x < A 3 7 → KOK (A 33 x) (A 7 x) := fun q => (w_now.1 x (by omega)).2.2 q.2
  have r_kx : 0 ≤ x ∧ x < A 3 7 → KG (A 33 x) (M 24) (5 * x) := fun q => (PG_0 pgn x q).1
  have r_wx : 0 ≤ x ∧ x < A 3 7 → M 24 (5 * x + 4) = A 34 x := fun q => (PG_0 pgn x q).2
  have g_x := g_r x
  have r_fx : 0 ≤ x ∧ x < A 3 7 → M 24 (5 * x) = figs (A 33 x) := fun q => (PG_0 pgn x q).1.1
  have f_x := figs_b (A 33 x)
  have rp1 : RP A (mset M 18 0 0) := (RO rm0).2.2.1
  refine lv_aload_n hx hb dX7_comes_0 rfl (lv_at hl 0 rfl) ?_
  refine lv_iconst (v := iI 0) hx hb dX7_comes_1 rfl ?_
  refine r_put C hI 18 (by decide) rfl rfl tyX7 tyX7_ok nmX7 hin7 0 (by decide) (fn := "thrown") (fd := "I") (index := 50) (by decide +kernel) ⟨rfl, rfl, rfl⟩ rfl (z := 0) rfl rfl (Nat.le_of_ble_eq_true rfl) rfl dX7_comes_2 (fun H locs hI => ?_)
  refine lv_aload_n hx hb dX7_comes_5 rfl (lv_at hl 0 rfl) ?_
  refine lv_iload_n hx hb dX7_comes_6 rfl (lv_at hl 1 rfl) ?_
  refine r_iv C hI (As := [.int (iI x)]) (rest := []) (c_X7_noGlove l g (mset M 18 0 0) x (by omega) (show 0 ≤ (M 18 5) ∧ (M 18 5) ≤ 4 from by omega)) (cwV 1 hts gX7_comes_X7_noGlove rfl rfl rfl (by decide +kernel) ⟨Nat.le_of_ble_eq_true rfl, Nat.le_of_ble_eq_true rfl⟩) (by decide) rfl rfl rfl hl.1 rfl (Nat.le_of_ble_eq_true rfl) dX7_comes_7 ⟨Nat.zero_le _, Nat.zero_le _⟩ (k_I (fun H locs hI => ?_))
  refine r_eqI (z2 := bI (¬ (0 ≤ x ∧ x ≤ (M 18 5) - 1))) rfl ?_
  refine r_b_eq hx hb (tgt := 15) dX7_comes_10 (by decide) (fun c_1 => ?_) (fun c_1 => ?_)
  · refine lv_iload_n hx hb dX7_comes_15 rfl (lv_at hl 2 rfl) ?_
    refine r_i2l hx hb (by omega) dX7_comes_16 ?_
    refine lv_lconst (v := iL 1) hx hb dX7_comes_17 (by decide +kernel) ?_
    refine r_ldc2 C (n := 7) (v := (7 : Int64)) (index := 160) (by decide +kernel) (by decide +kernel) dX7_comes_18 ?_
    refine r_is C hI (As := [.long (iL dd), .long (iL 1), .long (iL 7)]) (rest := []) (c_X7_in l g (mset M 18 0 0) dd 1 7 (by omega) (by omega) (by omega)) (va_cwS 3 hts gX7_comes_X7_in rfl rfl rfl (by decide +kernel) ⟨Nat.le_of_ble_eq_true rfl, Nat.le_of_ble_eq_true rfl⟩) rfl hl.1 rfl (Nat.le_of_ble_eq_true rfl) dX7_comes_21 ⟨Nat.zero_le _, Nat.zero_le _⟩ (k_I (fun H locs hI => ?_))
    refine r_b_eq hx hb (tgt := 37) dX7_comes_24 (by decide) (fun c_2 => ?_) (fun c_2 => ?_)
    · refine lv_bipush (v := iI (-2)) hx hb dX7_comes_37 (by decide +kernel) ?_
      refine r_iret C hr hlk hI ?_ dX7_comes_39
      exact ⟨_, rfl, (show (fun z u => z = zCom A x dd v ∧ QC M u ∧ RM (A) u) (-2) (mset M 18 0 0) from by exact ⟨(by unfold zCom; (repeat' split) <;> first | rfl | omega | (simp_all; done) | (simp_all; omega)), (by exact RO rm0)⟩)⟩
    · refine lv_iload_n hx hb dX7_comes_27 rfl (lv_at hl 3 rfl) ?_
      refine r_i2l hx hb (by omega) dX7_comes_28 ?_
      refine lv_lconst (v := iL 0) hx hb dX7_comes_29 (by decide +kernel) ?_
      refine lv_lconst (v := iL 1) hx hb dX7_comes_30 (by decide +kernel) ?_
      refine r_is C hI (As := [.long (iL v), .long (iL 0), .long (iL 1)]) (rest := []) (c_X7_in l g (mset M 18 0 0) v 0 1 (by omega) (by omega) (by omega)) (va_cwS 3 hts gX7_comes_X7_in rfl rfl rfl (by decide +kernel) ⟨Nat.le_of_ble_eq_true rfl, Nat.le_of_ble_eq_true rfl⟩) rfl hl.1 rfl (Nat.le_of_ble_eq_true rfl) dX7_comes_31 ⟨Nat.zero_le _, Nat.zero_le _⟩ (k_I (fun H locs hI => ?_))
      refine r_b_ne hx hb (tgt := 40) dX7_comes_34 (by decide) (fun c_3 => ?_) (fun c_3 => ?_)
      · refine lv_aload_n hx hb dX7_comes_40 rfl (lv_at hl 0 rfl) ?_
        refine lv_aload_n hx hb dX7_comes_41 rfl (lv_at hl 0 rfl) ?_
        refine r_get C hI 18 (by decide) rfl rfl hin7 12 (by decide) (fn := "page") (fd := "[I") (index := 25) (by decide +kernel) ⟨rfl, rfl, rfl⟩ (v := .ref (gA g 24)) rfl dX7_comes_42 ?_
        refine lv_iload_n hx hb dX7_comes_45 rfl (lv_at hl 1 rfl) ?_
        refine r_iv C hI (As := [.ref (gA g 24), .int (iI x)]) (rest := []) (c_X7_isWorn_24 l g (mset M 18 0 0) x (by omega) (show -2147483648 ≤ (M 24 (5 * x + 4)) ∧ (M 24 (5 * x + 4)) < 2147483648 from by omega)) (cwV 2 hts gX7_comes_X7_isWorn rfl rfl rfl (by decide +kernel) ⟨Nat.le_of_ble_eq_true rfl, Nat.le_of_ble_eq_true rfl⟩) (by decide) rfl rfl rfl hl.1 rfl (Nat.le_of_ble_eq_true rfl) dX7_comes_46 ⟨Nat.zero_le _, Nat.zero_le _⟩ (k_I (fun H locs hI => ?_))
        refine r_eqI (z2 := bI (¬ (M 24 (5 * x + 4)) = -9)) rfl ?_
        refine r_b_eq hx hb (tgt := 55) dX7_comes_49 (by decide) (fun c_4 => ?_) (fun c_4 => ?_)
        · refine lv_aload_n hx hb dX7_comes_55 rfl (lv_at hl 0 rfl) ?_
          refine lv_iload_n hx hb dX7_comes_56 rfl (lv_at hl 1 rfl) ?_
          refine lv_iload_n hx hb dX7_comes_57 rfl (lv_at hl 2 rfl) ?_
          refine r_iv C hI (As := [.int (iI x), .int (iI dd)]) (rest := []) (c_X7_findComes l g (mset M 18 0 0) x dd A wf0 rp1 (by omega) (r_kx (by omega)) (by omega)) (cwV 2 hts gX7_comes_X7_findComes rfl rfl rfl (by decide +kernel) ⟨Nat.le_of_ble_eq_true rfl, Nat.le_of_ble_eq_true rfl⟩) (by decide) rfl rfl rfl hl.1 rfl (Nat.le_of_ble_eq_true rfl) dX7_comes_58 ⟨Nat.zero_le _, Nat.zero_le _⟩ (k_X (fun M_1 H locs q_1 hI => ?_))
          have rfr := RM_FR rm0 q_1.1
          refine lv_iload_n hx hb dX7_comes_61 rfl (lv_at hl 3 rfl) ?_
          refine r_if_ne hx hb (tgt := 72) (by omega) dX7_comes_62 (by decide) (fun c_5 => ?_) (fun c_5 => ?_)
          · refine lv_aload_n hx hb dX7_comes_72 rfl (lv_at hl 0 rfl) ?_
            refine r_get C hI 18 (by decide) rfl rfl hin7 24 (by decide) (fn := "comesRow") (fd := "I") (index := 157) (by decide +kernel) ⟨rfl, rfl, rfl⟩ (v := .int (iI (M_1 18 24))) rfl dX7_comes_73 ?_
            refine r_iret C hr hlk hI ?_ dX7_comes_76
            exact ⟨_, rfl, (show (fun z u => z = zCom A x dd v ∧ QC M u ∧ RM (A) u) (M_1 18 24) M_1 from by exact ⟨(by unfold zCom; rw [if_neg (by omega), if_neg (by omega), if_neg (by omega), q_1.2 v]; first | rw [if_pos (by omega)] | rw [if_neg (by omega)]), (by exact rfr)⟩)⟩
          · refine lv_aload_n hx hb dX7_comes_65 rfl (lv_at hl 0 rfl) ?_
            refine r_get C hI 18 (by decide) rfl rfl hin7 23 (by decide) (fn := "comesMany") (fd := "I") (index := 154) (by decide +kernel) ⟨rfl, rfl, rfl⟩ (v := .int (iI (M_1 18 23))) rfl dX7_comes_66 ?_
            refine lv_goto (tgt := 76) hx hb dX7_comes_69 (by decide) ?_
            refine r_iret C hr hlk hI ?_ dX7_comes_76
            exact ⟨_, rfl, (show (fun z u => z = zCom A x dd v ∧ QC M u ∧ RM (A) u) (M_1 18 23) M_1 from by exact ⟨(by unfold zCom; rw [if_neg (by omega), if_neg (by omega), if_neg (by omega), q_1.2 v]; first | rw [if_pos (by omega)] | rw [if_neg (by omega)]), (by exact rfr)⟩)⟩
        · refine lv_bipush (v := iI (-3)) hx hb dX7_comes_52 (by decide +kernel) ?_
          refine r_iret C hr hlk hI ?_ dX7_comes_54
          exact ⟨_, rfl, (show (fun z u => z = zCom A x dd v ∧ QC M u ∧ RM (A) u) (-3) (mset M 18 0 0) from by exact ⟨(by unfold zCom; (repeat' split) <;> first | rfl | omega | (simp_all; done) | (simp_all; omega)), (by exact RO rm0)⟩)⟩
      · refine lv_bipush (v := iI (-2)) hx hb dX7_comes_37 (by decide +kernel) ?_
        refine r_iret C hr hlk hI ?_ dX7_comes_39
        exact ⟨_, rfl, (show (fun z u => z = zCom A x dd v ∧ QC M u ∧ RM (A) u) (-2) (mset M 18 0 0) from by exact ⟨(by unfold zCom; (repeat' split) <;> first | rfl | omega | (simp_all; done) | (simp_all; omega)), (by exact RO rm0)⟩)⟩
  · refine lv_iconst (v := iI (-1)) hx hb dX7_comes_13 rfl ?_
    refine r_iret C hr hlk hI ?_ dX7_comes_14
    exact ⟨_, rfl, (show (fun z u => z = zCom A x dd v ∧ QC M u ∧ RM (A) u) (-1) (mset M 18 0 0) from by exact ⟨(by unfold zCom; (repeat' split) <;> first | rfl | omega | (simp_all; done) | (simp_all; omega)), (by exact RO rm0)⟩)⟩
