
/-! WHO WORE IT -/
abbrev lkP (ra rp : Int → Int) (a n p : Int) : Prop := ra p = a ∧ 0 ≤ rp p ∧ rp p < n
/-- how many of f places from b on are looked at -/
def ctN (ra rp : Int → Int) (a n : Int) : Nat → Int → Nat
  | 0, _ => 0
  | f + 1, b => if lkP ra rp a n b then ctN ra rp a n f (b + 1) + 1 else ctN ra rp a n f (b + 1)
theorem ct_1 {ra rp : Int → Int} {a n b : Int} {f : Nat} (h : lkP ra rp a n b) : ctN ra rp a n (f + 1) b = ctN ra rp a n f (b + 1) + 1 := by
  simp only [ctN]; rw [if_pos h]
theorem ct_2 {ra rp : Int → Int} {a n b : Int} {f : Nat} (h : ¬ lkP ra rp a n b) : ctN ra rp a n (f + 1) b = ctN ra rp a n f (b + 1) := by
  simp only [ctN]; rw [if_neg h]
theorem ct_le (ra rp : Int → Int) (a n : Int) : ∀ (f : Nat) (b : Int), ctN ra rp a n f b ≤ f
  | 0, _ => Nat.le_refl _
  | f + 1, b => by
    have := ct_le ra rp a n f (b + 1)
    by_cases c : lkP ra rp a n b
    · rw [ct_1 c]; omega
    · rw [ct_2 c]; omega
/-- what a row of unknown ones tells: itself as figures, if all was done as seen -/
def wrN (ra rp rd own : Int → Int) (a n kd rm row : Int) : Nat → Int → Int → Int → List Int
  | 0, _, _, t => [t]
  | f + 1, b, k, t => if lkP ra rp a n b then (if repO kd (behO k (own (row / pwN n (ctN ra rp a n f (b + 1)) % n)) rm) (own (rp b)) = rd b then wrN ra rp rd own a n kd rm row f (b + 1) (behO (behO k (own (row / pwN n (ctN ra rp a n f (b + 1)) % n)) rm) (own (rp b)) rm) (10 * t + row / pwN n (ctN ra rp a n f (b + 1)) % n + 1) else []) else wrN ra rp rd own a n kd rm row f (b + 1) k t
theorem wr_1 {ra rp rd own : Int → Int} {a n kd rm row b k t w : Int} {f : Nat} (h : lkP ra rp a n b) (hw : row / pwN n (ctN ra rp a n f (b + 1)) % n = w) (h2 : repO kd (behO k (own w) rm) (own (rp b)) = rd b) : wrN ra rp rd own a n kd rm row (f + 1) b k t = wrN ra rp rd own a n kd rm row f (b + 1) (behO (behO k (own w) rm) (own (rp b)) rm) (10 * t + w + 1) := by
  simp only [wrN]; rw [if_pos h, hw, if_pos h2]
theorem wr_2 {ra rp rd own : Int → Int} {a n kd rm row b k t w : Int} {f : Nat} (h : lkP ra rp a n b) (hw : row / pwN n (ctN ra rp a n f (b + 1)) % n = w) (h2 : ¬ repO kd (behO k (own w) rm) (own (rp b)) = rd b) : wrN ra rp rd own a n kd rm row (f + 1) b k t = [] := by
  simp only [wrN]; rw [if_pos h, hw, if_neg h2]
theorem wr_3 {ra rp rd own : Int → Int} {a n kd rm row b k t : Int} {f : Nat} (h : ¬ lkP ra rp a n b) : wrN ra rp rd own a n kd rm row (f + 1) b k t = wrN ra rp rd own a n kd rm row f (b + 1) k t := by
  simp only [wrN]; rw [if_neg h]
theorem wr_ext {ra rp rd own : Int → Int} {a n kd rm r r' : Int} : ∀ (f : Nat) (b k t : Int), (∀ q : Nat, q < ctN ra rp a n f b → r / pwN n q % n = r' / pwN n q % n) → wrN ra rp rd own a n kd rm r f b k t = wrN ra rp rd own a n kd rm r' f b k t
  | 0, _, _, _, _ => rfl
  | f + 1, b, k, t, e => by
    by_cases c : lkP ra rp a n b
    · rw [ct_1 c] at e
      have e0 := e (ctN ra rp a n f (b + 1)) (by omega)
      by_cases c2 : repO kd (behO k (own (r' / pwN n (ctN ra rp a n f (b + 1)) % n)) rm) (own (rp b)) = rd b
      · rw [wr_1 c e0 c2, wr_1 c rfl c2, wr_ext f _ _ _ (fun q hq => e q (by omega))]
      · rw [wr_2 c e0 c2, wr_2 c rfl c2]
    · rw [ct_2 c] at e
      rw [wr_3 c, wr_3 c, wr_ext f _ _ _ e]
theorem wrN_len (ra rp rd own : Int → Int) (a n kd rm row : Int) : ∀ (f : Nat) (b k t : Int), (wrN ra rp rd own a n kd rm row f b k t).length ≤ 1
  | 0, _, _, _ => Nat.le_refl _
  | f + 1, b, k, t => by
    by_cases c : lkP ra rp a n b
    · by_cases c2 : repO kd (behO k (own (row / pwN n (ctN ra rp a n f (b + 1)) % n)) rm) (own (rp b)) = rd b
      · rw [wr_1 c rfl c2]; exact wrN_len ra rp rd own a n kd rm row f _ _ _
      · rw [wr_2 c rfl c2]; exact Nat.zero_le _
    · rw [wr_3 c]; exact wrN_len ra rp rd own a n kd rm row f _ _ _
theorem wl_0 {ra rp rd own : Int → Int} {a n cnt kd rm k row b : Int} {h : Nat} (hb : cnt = b) : wlO ra rp rd own a n cnt kd rm (h + 1) k row b = [row] := by
  subst hb
  simp only [wlO]
  rw [show (cnt - cnt).toNat = 0 by omega, if_pos (show cnt ≤ nxO ra rp a n 0 cnt from Int.le_refl _)]
theorem wl_1 {ra rp rd own : Int → Int} {a n cnt kd rm k row b : Int} {h f : Nat} (hb : cnt - b = ((f + 1 : Nat) : Int)) (c : lkP ra rp a n b) : wlO ra rp rd own a n cnt kd rm (h + 1) k row b = flN (wlS rp rd own kd rm (wlO ra rp rd own a n cnt kd rm h) k row b) n.toNat := by
  simp only [wlO]
  rw [show (cnt - b).toNat = f + 1 by omega, nxO_2 c, if_neg (by omega)]
theorem wl_2 {ra rp rd own : Int → Int} {a n cnt kd rm k row b : Int} {h f : Nat} (hb : cnt - b = ((f + 1 : Nat) : Int)) (c : ¬ lkP ra rp a n b) : wlO ra rp rd own a n cnt kd rm (h + 1) k row b = wlO ra rp rd own a n cnt kd rm (h + 1) k row (b + 1) := by
  simp only [wlO]
  rw [show (cnt - b).toNat = f + 1 by omega, nxO_1 c, show (cnt - (b + 1)).toNat = f by omega]
theorem wr_eq {ra rp rd own : Int → Int} {a : Int} {P : Nat} {kd rm cnt : Int} : ∀ (f h : Nat) (k t b : Int), f < h → cnt - b = (f : Int) → flN (fun s => wrN ra rp rd own a P kd rm s f b k t) (P ^ ctN ra rp a P f b) = wlO ra rp rd own a P cnt kd rm h k t b
  | 0, h', k, t, b, hf, hb => by
    obtain ⟨h, rfl⟩ : ∃ h, h' = h + 1 := ⟨h' - 1, by omega⟩
    rw [wl_0 (by omega)]
    rfl
  | f + 1, h', k, t, b, hf, hb => by
    obtain ⟨h, rfl⟩ : ∃ h, h' = h + 1 := ⟨h' - 1, by omega⟩
    by_cases c : lkP ra rp a P b
    · have en : ((P ^ ctN ra rp a P f (b + 1) : Nat) : Int) = pwN P (ctN ra rp a P f (b + 1)) := (pwN_nat P _).symm
      have ep : P ^ ctN ra rp a P (f + 1) b = P * P ^ ctN ra rp a P f (b + 1) := by rw [ct_1 c, Nat.pow_succ, Nat.mul_comm]
      rw [ep, flN_mul, wl_1 hb c, Int.toNat_natCast]
      refine flN_ext _ (fun i hi => ?_)
      have hd : ∀ j : Nat, j < P ^ ctN ra rp a P f (b + 1) → ((i : Int) * pwN P (ctN ra rp a P f (b + 1)) + (j : Int)) / pwN P (ctN ra rp a P f (b + 1)) % (P : Int) = (i : Int) := fun j hj => by
        have hj2 : (j : Int) < pwN P (ctN ra rp a P f (b + 1)) := by rw [← en]; exact Int.ofNat_lt.mpr hj
        exact dig_top ⟨by omega, by omega⟩ ⟨by omega, hj2⟩
      by_cases c2 : repO kd (behO k (own (i : Int)) rm) (own (rp b)) = rd b
      · have e5 : wlS rp rd own kd rm (wlO ra rp rd own a P cnt kd rm h) k t b (i : Int) = wlO ra rp rd own a P cnt kd rm h (behO (behO k (own (i : Int)) rm) (own (rp b)) rm) (t * 10 + (i : Int) + 1) (b + 1) := by
          unfold wlS; rw [if_pos c2]
        rw [e5, ← wr_eq f h _ _ (b + 1) (by omega) (by omega)]
        refine flN_ext _ (fun j hj => ?_)
        show wrN ra rp rd own a P kd rm ((i : Int) * ((P ^ ctN ra rp a P f (b + 1) : Nat) : Int) + (j : Int)) (f + 1) b k t = wrN ra rp rd own a P kd rm (j : Int) f (b + 1) (behO (behO k (own (i : Int)) rm) (own (rp b)) rm) (t * 10 + (i : Int) + 1)
        rw [en, wr_1 c (hd j hj) c2, show 10 * t + (i : Int) + 1 = t * 10 + (i : Int) + 1 by omega]
        exact wr_ext f _ _ _ (fun q hq => dig_low (by omega) _ _ hq)
      · have e5 : wlS rp rd own kd rm (wlO ra rp rd own a P cnt kd rm h) k t b (i : Int) = [] := by
          unfold wlS; rw [if_neg c2]
        rw [e5]
        refine flN_nil _ (fun j hj => ?_)
        show wrN ra rp rd own a P kd rm ((i : Int) * ((P ^ ctN ra rp a P f (b + 1) : Nat) : Int) + (j : Int)) (f + 1) b k t = []
        rw [en, wr_2 c (hd j hj) c2]
    · rw [ct_2 c, wl_2 hb c, ← wr_eq f (h + 1) k t (b + 1) (by omega) (by omega)]
      refine flN_ext _ (fun j hj => ?_)
      show wrN ra rp rd own a P kd rm (j : Int) (f + 1) b k t = wrN ra rp rd own a P kd rm (j : Int) f (b + 1) k t
      rw [wr_3 c]
def wrL (ra rp rd own : Int → Int) (a n cnt kd rm k : Int) : Int → List Int := fun s => wrN ra rp rd own a n kd rm s cnt.toNat 0 k 0
theorem wrL_eq {ra rp rd own : Int → Int} {a P kd rm cnt k : Int} (hP : 0 ≤ P) (hc : 0 ≤ cnt ∧ cnt ≤ 4) : flN (wrL ra rp rd own a P cnt kd rm k) (P.toNat ^ ctN ra rp a P cnt.toNat 0) = wlO ra rp rd own a P cnt kd rm 5 k 0 0 := by
  obtain ⟨p, rfl⟩ : ∃ p : Nat, P = p := ⟨P.toNat, by omega⟩
  exact wr_eq cnt.toNat 5 k 0 0 (by omega) (by omega)
theorem five_0 {P : Int} (hP : 0 ≤ P ∧ P ≤ 5) {n : Nat} (h : n ≤ 4) : 0 ≤ pwN P n ∧ pwN P n ≤ 625 := by
  obtain rfl | rfl | rfl | rfl | rfl | rfl : P = 0 ∨ P = 1 ∨ P = 2 ∨ P = 3 ∨ P = 4 ∨ P = 5 := by omega
  all_goals (obtain rfl | rfl | rfl | rfl | rfl : n = 0 ∨ n = 1 ∨ n = 2 ∨ n = 3 ∨ n = 4 := by omega)
  all_goals decide
theorem wlO_len5 (ra rp rd own : Int → Int) (a n cnt kd rm k : Int) (hn : n ≤ 5) : (wlO ra rp rd own a n cnt kd rm 5 k 0 0).length ≤ 3125 := wlO_len ra rp rd own a n cnt kd rm hn 5 k 0 0
set_option maxHeartbeats 4000000 in
set_option maxRecDepth 100000 in
theorem c_X7_findWore (l : Launch) (g : GT) (M : Mem) (x : Int) (A : Mem) (wf : WF A) (rp : RP A M) (hxg : 0 ≤ x ∧ x < A 3 7) (hg : KG (A 33 x) (M 24) (5 * x)) (rs : RS A M) : Ctr l g yX7_findWore wsX7_findWore ({ frames := 3, cells := 0, slots := 0, locals := 70 } : Room) [.ref (gA g 18), .int (iI x)] M (pX (fun u => FR M u ∧ u 18 27 = ((wlO (A 11) (A 12) (A 13) (A 4) x (A 3 6) (A 10 3) (A 8 x) (A 7 x) 5 (A 33 x) 0 0).length : Int) ∧ u 18 28 = (wlO (A 11) (A 12) (A 13) (A 4) x (A 3 6) (A 10 3) (A 8 x) (A 7 x) 5 (A 33 x) 0 0).headD (-9))) := by
  refine Ctr.mk (cc := cX7_findWore) (maxL := 9) (ret := none) (lv := [(0, .ref (gA g 18)), (1, .int (iI x))]) (by decide) rfl (Nat.le_of_ble_eq_true rfl) rfl ?_
  intro p e s m below meth c C hr hlk hI ls hl
  have C : CallFix p m c cX7_findWore 9 s ([.ref (gA g 18), .int (iI x)] : List Value).toArray wsX7_findWore RX7 := C
  have hx := C.1
  have hb := C.2.1
  have hts := C.2.2.2.2
  have hin7 : ∀ w ∈ u_ws RX7 TX7 31, w ∈ wsX7_findWore := by decide +kernel
  have wf0 := wf
  have rp0 := rp
  obtain ⟨w_txt, hL, w_cnt, w_per, w_glo, w_now, w_act, w_rng, w_slo, w_see, w_sa⟩ := wf
  obtain ⟨⟨p_p, p_g⟩, p_r, g_r⟩ := rp
  have w_gx := w_glo x hxg
  have w_k : KOK (A 33 x) (A 7 x) := (w_now.1 x (by omega)).2.2 hxg.2
  have w_own : ∀ q : Int, 0 ≤ q ∧ q < A 3 6 → 1 ≤ A 4 q ∧ A 4 q ≤ 7 := fun q hq => (w_per q hq).1
  obtain ⟨s_n, s_r⟩ := rs
  have hwl := wrL_eq (ra := A 11) (rp := A 12) (rd := A 13) (own := A 4) (a := x) (P := A 3 6) (kd := A 8 x) (rm := A 7 x) (cnt := A 10 3) (k := A 33 x) (by omega) w_see
  have ctb := ct_le (A 11) (A 12) x (A 3 6) (A 10 3).toNat 0
  refine lv_iconst (v := iI 0) hx hb dX7_findWore_0 rfl ?_
  refine lv_istore_n (lv' := [(2, .int (iI 0)), (0, .ref (gA g 18)), (1, .int (iI x))]) hx hb dX7_findWore_1 rfl hl (by decide) rfl (fun ls hl => ?_)
  refine lv_iconst (v := iI 0) hx hb dX7_findWore_2 rfl ?_
  refine lv_istore_n (lv' := [(3, .int (iI 0)), (2, .int (iI 0)), (0, .ref (gA g 18)), (1, .int (iI x))]) hx hb dX7_findWore_3 rfl hl (by decide) rfl (fun ls hl => ?_)
  have lp4 : ∀ (n4 : Nat) (kk : Int) (nn : Int) (jj : Nat), (kk = (jj : Int) ∧ (jj : Int) ≤ A 10 3 ∧ 0 ≤ nn ∧ nn ≤ (jj : Int)) → (nn + ((ctN (A 11) (A 12) x (A 3 6) ((A 10 3).toNat - jj) kk : Nat) : Int) = ((ctN (A 11) (A 12) x (A 3 6) (A 10 3).toNat 0 : Nat) : Int)) → (A 10 3).toNat - jj < n4 → ∀ (H : Heap) (locs : List Loc), HI g s H locs M → ∀ ls : Array Slot, lv_has ls 9 [(3, .int (iI kk)), (2, .int (iI nn)), (0, .ref (gA g 18)), (1, .int (iI x))] → W p l e ({ frames := 3, cells := 0, slots := 0, locals := 70 } : Room) s m ([.ref (gA g 18), .int (iI x)] : List Value).toArray below meth c H locs 0 0 (MQ below (QV g (pX (fun u => FR M u ∧ u 18 27 = ((wlO (A 11) (A 12) (A 13) (A 4) x (A 3 6) (A 10 3) (A 8 x) (A 7 x) 5 (A 33 x) 0 0).length : Int) ∧ u 18 28 = (wlO (A 11) (A 12) (A 13) (A 4) x (A 3 6) (A 10 3) (A 8 x) (A 7 x) 5 (A 33 x) 0 0).headD (-9)))) ([.ref (gA g 18), .int (iI x)] : List Value).toArray s 0 0 (AA g)) (F0 m 4 ls []) := by
    intro n4
    induction n4 with
    | zero => intro kk nn jj h1 h2 hn4; exact absurd hn4 (Nat.not_lt_zero _)
    | succ n4 ih4 =>
      intro kk nn jj h1 h2 hn4 H locs hI ls hl
      have sr := s_r kk
      have sa := w_sa kk
      refine lv_iload_n hx hb dX7_findWore_4 rfl (lv_at hl 0 rfl) ?_
      refine lv_aload_n hx hb dX7_findWore_5 rfl (lv_at hl 2 rfl) ?_
      refine r_get C hI 18 (by decide) rfl rfl hin7 18 (by decide) (fn := "seen") (fd := "I") (index := 113) (by decide +kernel) ⟨rfl, rfl, rfl⟩ (v := .int (iI (M 18 18))) rfl dX7_findWore_6 ?_
      refine r_icmp_ge hx hb (tgt := 35) (by omega) (by omega) dX7_findWore_9 (by decide) (fun c_1 => ?_) (fun c_1 => ?_)
      · have hnn : nn = ((ctN (A 11) (A 12) x (A 3 6) (A 10 3).toNat 0 : Nat) : Int) := by
          have hj : (A 10 3).toNat - jj = 0 := by omega
          rw [hj] at h2
          have h9 : ctN (A 11) (A 12) x (A 3 6) 0 kk = 0 := rfl
          omega
        clear h2
        refine lv_aload_n hx hb dX7_findWore_35 rfl (lv_at hl 2 rfl) ?_
        refine lv_iconst (v := iI 0) hx hb dX7_findWore_36 rfl ?_
        refine r_put C hI 18 (by decide) rfl rfl tyX7 tyX7_ok nmX7 hin7 27 (by decide) (fn := "woreMany") (fd := "I") (index := 187) (by decide +kernel) ⟨rfl, rfl, rfl⟩ rfl (z := 0) rfl rfl (Nat.le_of_ble_eq_true rfl) rfl dX7_findWore_37 (fun H locs hI => ?_)
        refine lv_aload_n hx hb dX7_findWore_40 rfl (lv_at hl 2 rfl) ?_
        refine lv_bipush (v := iI (-9)) hx hb dX7_findWore_41 (by decide +kernel) ?_
        refine r_put C hI 18 (by decide) rfl rfl tyX7 tyX7_ok nmX7 hin7 28 (by decide) (fn := "woreFirst") (fd := "I") (index := 190) (by decide +kernel) ⟨rfl, rfl, rfl⟩ rfl (z := (-9)) rfl rfl (Nat.le_of_ble_eq_true rfl) rfl dX7_findWore_43 (fun H locs hI => ?_)
        refine lv_iconst (v := iI 0) hx hb dX7_findWore_46 rfl ?_
        refine lv_istore_n (lv' := [(3, .int (iI 0)), (2, .int (iI nn)), (0, .ref (gA g 18)), (1, .int (iI x))]) hx hb dX7_findWore_47 rfl hl (by decide) rfl (fun ls hl => ?_)
        have lp48 : ∀ (n48 : Nat) (rr : Int) (NO : Mem) (jo : Nat), (rr = (jo : Int) ∧ jo ≤ (A 3 6).toNat ^ nn.toNat) → (FR M NO) → (NO 18 27 = ((flN (wrL (A 11) (A 12) (A 13) (A 4) x (A 3 6) (A 10 3) (A 8 x) (A 7 x) (A 33 x)) jo).length : Int)) → (NO 18 28 = (flN (wrL (A 11) (A 12) (A 13) (A 4) x (A 3 6) (A 10 3) (A 8 x) (A 7 x) (A 33 x)) jo).headD (-9)) → (A 3 6).toNat ^ nn.toNat - jo < n48 → ∀ (H : Heap) (locs : List Loc), HI g s H locs NO → ∀ ls : Array Slot, lv_has ls 9 [(3, .int (iI rr)), (2, .int (iI nn)), (0, .ref (gA g 18)), (1, .int (iI x))] → W p l e ({ frames := 3, cells := 0, slots := 0, locals := 70 } : Room) s m ([.ref (gA g 18), .int (iI x)] : List Value).toArray below meth c H locs 0 0 (MQ below (QV g (pX (fun u => FR M u ∧ u 18 27 = ((wlO (A 11) (A 12) (A 13) (A 4) x (A 3 6) (A 10 3) (A 8 x) (A 7 x) 5 (A 33 x) 0 0).length : Int) ∧ u 18 28 = (wlO (A 11) (A 12) (A 13) (A 4) x (A 3 6) (A 10 3) (A 8 x) (A 7 x) 5 (A 33 x) 0 0).headD (-9)))) ([.ref (gA g 18), .int (iI x)] : List Value).toArray s 0 0 (AA g)) (F0 m 48 ls []) := by
          intro n48
          induction n48 with
          | zero => intro rr NO jo o1 oF o2 o3 hn48; exact absurd hn48 (Nat.not_lt_zero _)
          | succ n48 ih48 =>
            intro rr NO jo o1 oF o2 o3 hn48 H locs hI ls hl
            have e18o : NO 18 4 = A 3 6 := (oF.2 4 (by decide)).trans p_p
            have tp : pwN (NO 18 4) nn.toNat = (((A 3 6).toNat ^ nn.toNat : Nat) : Int) := by
              have h9 := pwN_nat (A 3 6).toNat nn.toNat
              rw [Int.toNat_of_nonneg (by omega)] at h9
              rw [e18o]; exact h9
            have tb := five_0 (P := NO 18 4) (by omega) (n := nn.toNat) (by omega)
            have ln := flN_len (f := wrL (A 11) (A 12) (A 13) (A 4) x (A 3 6) (A 10 3) (A 8 x) (A 7 x) (A 33 x)) (m := 1) (fun p => wrN_len _ _ _ _ _ _ _ _ _ _ _ _ _) jo
            refine lv_iload_n hx hb dX7_findWore_48 rfl (lv_at hl 0 rfl) ?_
            refine lv_aload_n hx hb dX7_findWore_49 rfl (lv_at hl 2 rfl) ?_
            refine r_get C hI 18 (by decide) rfl rfl hin7 4 (by decide) (fn := "people") (fd := "I") (index := 54) (by decide +kernel) ⟨rfl, rfl, rfl⟩ (v := .int (iI (NO 18 4))) rfl dX7_findWore_50 ?_
            refine lv_iload_n hx hb dX7_findWore_53 rfl (lv_at hl 1 rfl) ?_
            refine r_is C hI (As := [.int (iI (NO 18 4)), .int (iI nn)]) (rest := [.int (iI rr)]) (c_X7_power l g NO (NO 18 4) nn (by omega)) (va_cwS 2 hts gX7_findWore_X7_power rfl rfl rfl (by decide +kernel) ⟨Nat.le_of_ble_eq_true rfl, Nat.le_of_ble_eq_true rfl⟩) rfl hl.1 rfl (Nat.le_of_ble_eq_true rfl) dX7_findWore_54 ⟨Nat.zero_le _, Nat.zero_le _⟩ (k_I (fun H locs hI => ?_))
            refine r_icmp_ge hx hb (tgt := 225) (by omega) (by omega) dX7_findWore_57 (by decide) (fun c_2 => ?_) (fun c_2 => ?_)
            · refine r_vret C hr hlk hI ?_ dX7_findWore_225
              exact ⟨rfl, (show (fun u => FR M u ∧ u 18 27 = ((wlO (A 11) (A 12) (A 13) (A 4) x (A 3 6) (A 10 3) (A 8 x) (A 7 x) 5 (A 33 x) 0 0).length : Int) ∧ u 18 28 = (wlO (A 11) (A 12) (A 13) (A 4) x (A 3 6) (A 10 3) (A 8 x) (A 7 x) 5 (A 33 x) 0 0).headD (-9)) NO from by (have hj : jo = (A 3 6).toNat ^ nn.toNat := by omega); rw [hj, show nn.toNat = ctN (A 11) (A 12) x (A 3 6) (A 10 3).toNat 0 by omega, hwl] at o2 o3; exact ⟨oF, o2, o3⟩)⟩
            · have h0r : 0 ≤ rr ∧ rr < 625 := by omega
              refine lv_aload_n hx hb dX7_findWore_60 rfl (lv_at hl 2 rfl) ?_
              refine r_iv C hI (As := []) (rest := []) (c_X7_begin l g NO) (cwV 0 hts gX7_findWore_X7_begin rfl rfl rfl (by decide +kernel) ⟨Nat.le_of_ble_eq_true rfl, Nat.le_of_ble_eq_true rfl⟩) (by decide) rfl rfl rfl hl.1 rfl (Nat.le_of_ble_eq_true rfl) dX7_findWore_61 ⟨Nat.zero_le _, Nat.zero_le _⟩ (k_X (fun M_1 H locs q_1 hI => ?_))
              refine lv_iload_n hx hb dX7_findWore_64 rfl (lv_at hl 1 rfl) ?_
              refine lv_istore (lv' := [(4, .int (iI nn)), (3, .int (iI rr)), (2, .int (iI nn)), (0, .ref (gA g 18)), (1, .int (iI x))]) hx hb dX7_findWore_65 hl (by decide) rfl (fun ls hl => ?_)
              refine lv_iconst (v := iI 0) hx hb dX7_findWore_67 rfl ?_
              refine lv_istore (lv' := [(5, .int (iI 0)), (4, .int (iI nn)), (3, .int (iI rr)), (2, .int (iI nn)), (0, .ref (gA g 18)), (1, .int (iI x))]) hx hb dX7_findWore_68 hl (by decide) rfl (fun ls hl => ?_)
              refine lv_iconst (v := iI 1) hx hb dX7_findWore_70 rfl ?_
              refine lv_istore (lv' := [(6, .int (iI 1)), (5, .int (iI 0)), (4, .int (iI nn)), (3, .int (iI rr)), (2, .int (iI nn)), (0, .ref (gA g 18)), (1, .int (iI x))]) hx hb dX7_findWore_71 hl (by decide) rfl (fun ls hl => ?_)
              refine lv_iconst (v := iI 0) hx hb dX7_findWore_73 rfl ?_
              refine lv_istore (lv' := [(7, .int (iI 0)), (6, .int (iI 1)), (5, .int (iI 0)), (4, .int (iI nn)), (3, .int (iI rr)), (2, .int (iI nn)), (0, .ref (gA g 18)), (1, .int (iI x))]) hx hb dX7_findWore_74 hl (by decide) rfl (fun ls hl => ?_)
              have lp76 : ∀ (n76 : Nat) (k2 : Int) (ii : Int) (tt : Int) (lf : Int) (ND : Mem) (pp : Nat), (k2 = (pp : Int) ∧ (pp : Int) ≤ A 10 3) → (∀ c : Nat, c ≠ 25 → ND c = NO c) → (lf = ((ctN (A 11) (A 12) x (A 3 6) ((A 10 3).toNat - pp) k2 : Nat) : Int)) → (∃ kc : Int, KOK kc (A 7 x) ∧ KG kc (ND 25) (5 * x) ∧ ((ii = 1 ∧ wrN (A 11) (A 12) (A 13) (A 4) x (A 3 6) (A 8 x) (A 7 x) rr ((A 10 3).toNat - pp) k2 kc tt = wrN (A 11) (A 12) (A 13) (A 4) x (A 3 6) (A 8 x) (A 7 x) rr (A 10 3).toNat 0 (A 33 x) 0) ∨ (ii = 0 ∧ wrN (A 11) (A 12) (A 13) (A 4) x (A 3 6) (A 8 x) (A 7 x) rr (A 10 3).toNat 0 (A 33 x) 0 = []))) → (A 10 3).toNat - pp < n76 → ∀ (H : Heap) (locs : List Loc), HI g s H locs ND → ∀ ls : Array Slot, lv_has ls 9 [(7, .int (iI k2)), (6, .int (iI ii)), (5, .int (iI tt)), (4, .int (iI lf)), (3, .int (iI rr)), (2, .int (iI nn)), (0, .ref (gA g 18)), (1, .int (iI x))] → W p l e ({ frames := 3, cells := 0, slots := 0, locals := 70 } : Room) s m ([.ref (gA g 18), .int (iI x)] : List Value).toArray below meth c H locs 0 0 (MQ below (QV g (pX (fun u => FR M u ∧ u 18 27 = ((wlO (A 11) (A 12) (A 13) (A 4) x (A 3 6) (A 10 3) (A 8 x) (A 7 x) 5 (A 33 x) 0 0).length : Int) ∧ u 18 28 = (wlO (A 11) (A 12) (A 13) (A 4) x (A 3 6) (A 10 3) (A 8 x) (A 7 x) 5 (A 33 x) 0 0).headD (-9)))) ([.ref (gA g 18), .int (iI x)] : List Value).toArray s 0 0 (AA g)) (F0 m 76 ls []) := by
                intro n76
                induction n76 with
                | zero => intro k2 ii tt lf ND pp i1 iF i3 i2 hn76; exact absurd hn76 (Nat.not_lt_zero _)
                | succ n76 ih76 =>
                  intro k2 ii tt lf ND pp i1 iF i3 i2 hn76 H locs hI ls hl
                  obtain ⟨kc, iO, iK, iE⟩ := i2
                  have ib : ii = 0 ∨ ii = 1 := iE.elim (fun q => Or.inr q.1) (fun q => Or.inl q.1)
                  have e18 : ND 18 4 = A 3 6 := by rw [iF 18 (by decide)]; exact e18o
                  have e18s : ND 18 18 = A 10 3 := by rw [iF 18 (by decide)]; exact (oF.2 18 (by decide)).trans s_n
                  have e20 : ∀ q : Int, ND 20 (3 * q) = A 4 q := fun q => by rw [iF 20 (by decide), oF.1 20 (by decide) (by decide)]; exact (p_r q).1
                  have e21x : ND 21 (3 * x) = A 7 x := by rw [iF 21 (by decide), oF.1 21 (by decide) (by decide)]; exact (g_r x).1
                  have e21b : ND 21 (3 * x + 1) = A 8 x := by rw [iF 21 (by decide), oF.1 21 (by decide) (by decide)]; exact (g_r x).2.1
                  have sr := s_r k2
                  have sa := w_sa k2
                  have s29 : ND 29 k2 = A 11 k2 := by rw [iF 29 (by decide), oF.1 29 (by decide) (by decide)]; exact sr.1
                  have s30 : ND 30 k2 = A 12 k2 := by rw [iF 30 (by decide), oF.1 30 (by decide) (by decide)]; exact sr.2.1
                  have s31 : ND 31 k2 = A 13 k2 := by rw [iF 31 (by decide), oF.1 31 (by decide) (by decide)]; exact sr.2.2
                  refine lv_iload hx hb dX7_findWore_76 (lv_at hl 0 rfl) ?_
                  refine lv_aload_n hx hb dX7_findWore_78 rfl (lv_at hl 6 rfl) ?_
                  refine r_get C hI 18 (by decide) rfl rfl hin7 18 (by decide) (fn := "seen") (fd := "I") (index := 113) (by decide +kernel) ⟨rfl, rfl, rfl⟩ (v := .int (iI (ND 18 18))) rfl dX7_findWore_79 ?_
                  refine r_icmp_ge hx hb (tgt := 184) (by omega) (by omega) dX7_findWore_82 (by decide) (fun c_3 => ?_) (fun c_3 => ?_)
                  · have hE : (ii = 1 ∧ wrL (A 11) (A 12) (A 13) (A 4) x (A 3 6) (A 10 3) (A 8 x) (A 7 x) (A 33 x) rr = [tt]) ∨ (ii = 0 ∧ wrL (A 11) (A 12) (A 13) (A 4) x (A 3 6) (A 10 3) (A 8 x) (A 7 x) (A 33 x) rr = []) := iE.imp (fun q => ⟨q.1, by show wrN (A 11) (A 12) (A 13) (A 4) x (A 3 6) (A 8 x) (A 7 x) rr (A 10 3).toNat 0 (A 33 x) 0 = [tt]; rw [← q.2, show (A 10 3).toNat - pp = 0 by omega]; rfl⟩) (fun q => q)
                    clear iE
                    have hz0 : ii = 0 → wrL (A 11) (A 12) (A 13) (A 4) x (A 3 6) (A 10 3) (A 8 x) (A 7 x) (A 33 x) rr = [] := fun q => hE.elim (fun h => absurd h.1 (by omega)) (fun h => h.2)
                    have hz1 : ¬ ii = 0 → wrL (A 11) (A 12) (A 13) (A 4) x (A 3 6) (A 10 3) (A 8 x) (A 7 x) (A 33 x) rr = [tt] := fun q => hE.elim (fun h => h.2) (fun h => absurd h.1 q)
                    have m_c : ND 18 27 = NO 18 27 := by rw [iF 18 (by decide)]
                    have m_f : ND 18 28 = NO 18 28 := by rw [iF 18 (by decide)]
                    have fr1 := FR.trans oF (FR_25 iF)
                    refine lv_iload hx hb dX7_findWore_184 (lv_at hl 1 rfl) ?_
                    refine r_if_eq hx hb (tgt := 219) (by omega) dX7_findWore_186 (by decide) (fun c_4 => ?_) (fun c_4 => ?_)
                    · refine lv_iinc (v := iI (rr + 1)) (lv' := [(3, .int (iI (rr + 1))), (7, .int (iI k2)), (6, .int (iI ii)), (5, .int (iI tt)), (4, .int (iI lf)), (2, .int (iI nn)), (0, .ref (gA g 18)), (1, .int (iI x))]) hx hb dX7_findWore_219 hl (k := 4) rfl (iI_add _ _) (by decide) rfl (fun ls hl => ?_)
                      refine lv_goto (tgt := 48) hx hb dX7_findWore_222 (by decide) ?_
                      exact ih48 (rr + 1) ND (jo + 1) (by omega) (by first | exact fr1 | exact FR.trans fr1 (FR.trans (FR_m (by decide)) (FR_m (by decide)))) (by (simp only [flN, ← o1.1]; first | (rw [hz0 (by omega), List.append_nil, m_c]; exact o2) | (rw [hz1 (by omega), List.length_append, mset_s, rw1_s, m_c, o2]; simp))) (by (simp only [flN, ← o1.1]; first | (rw [hz0 (by omega), List.append_nil, m_f]; exact o3) | (rw [hz1 (by omega), mset_s, rw1_n _ _ (by decide), mset_s, rw1_s, hd_app]; first | (rw [if_pos (by omega)]; done) | (rw [if_neg (by omega), m_f]; exact o3)))) (by omega) _ _ hI ls (lv_sub hl [0, 5, 6, 7] rfl)
                    · refine lv_aload_n hx hb dX7_findWore_189 rfl (lv_at hl 6 rfl) ?_
                      refine lv_aload_n hx hb dX7_findWore_190 rfl (lv_at hl 6 rfl) ?_
                      refine r_get C hI 18 (by decide) rfl rfl hin7 27 (by decide) (fn := "woreMany") (fd := "I") (index := 187) (by decide +kernel) ⟨rfl, rfl, rfl⟩ (v := .int (iI (ND 18 27))) rfl dX7_findWore_191 ?_
                      refine r_if_ne hx hb (tgt := 202) (by omega) dX7_findWore_194 (by decide) (fun c_5 => ?_) (fun c_5 => ?_)
                      · refine lv_aload_n hx hb dX7_findWore_202 rfl (lv_at hl 6 rfl) ?_
                        refine r_get C hI 18 (by decide) rfl rfl hin7 28 (by decide) (fn := "woreFirst") (fd := "I") (index := 190) (by decide +kernel) ⟨rfl, rfl, rfl⟩ (v := .int (iI (ND 18 28))) rfl dX7_findWore_203 ?_
                        refine r_put C hI 18 (by decide) rfl rfl tyX7 tyX7_ok nmX7 hin7 28 (by decide) (fn := "woreFirst") (fd := "I") (index := 190) (by decide +kernel) ⟨rfl, rfl, rfl⟩ rfl (z := ND 18 28) rfl rfl (Nat.le_of_ble_eq_true rfl) rfl dX7_findWore_206 (fun H locs hI => ?_)
                        refine lv_aload_n hx hb dX7_findWore_209 rfl (lv_at hl 6 rfl) ?_
                        refine lv_dup hx hb dX7_findWore_210 rfl ?_
                        refine r_get C hI 18 (by decide) rfl rfl hin7 27 (by decide) (fn := "woreMany") (fd := "I") (index := 187) (by decide +kernel) ⟨rfl, rfl, rfl⟩ (v := .int (iI (ND 18 27))) rfl dX7_findWore_211 ?_
                        refine r_eqI (z2 := ND 18 27) (by first | rfl | (repeat first | rw [mset_s, rw1_s] | rw [mset_s, rw1_n _ _ (by omega)] | rw [mset_n _ _ _ (by decide)])) ?_
                        refine lv_iconst (v := iI 1) hx hb dX7_findWore_214 rfl ?_
                        refine r_iadd hx hb dX7_findWore_215 ?_
                        refine r_put C hI 18 (by decide) rfl rfl tyX7 tyX7_ok nmX7 hin7 27 (by decide) (fn := "woreMany") (fd := "I") (index := 187) (by decide +kernel) ⟨rfl, rfl, rfl⟩ rfl (z := (ND 18 27) + 1) rfl rfl (Nat.le_of_ble_eq_true rfl) rfl dX7_findWore_216 (fun H locs hI => ?_)
                        refine lv_iinc (v := iI (rr + 1)) (lv' := [(3, .int (iI (rr + 1))), (7, .int (iI k2)), (6, .int (iI ii)), (5, .int (iI tt)), (4, .int (iI lf)), (2, .int (iI nn)), (0, .ref (gA g 18)), (1, .int (iI x))]) hx hb dX7_findWore_219 hl (k := 4) rfl (iI_add _ _) (by decide) rfl (fun ls hl => ?_)
                        refine lv_goto (tgt := 48) hx hb dX7_findWore_222 (by decide) ?_
                        exact ih48 (rr + 1) (mset (mset ND 18 28 (ND 18 28)) 18 27 ((ND 18 27) + 1)) (jo + 1) (by omega) (by first | exact fr1 | exact FR.trans fr1 (FR.trans (FR_m (by decide)) (FR_m (by decide)))) (by (simp only [flN, ← o1.1]; first | (rw [hz0 (by omega), List.append_nil, m_c]; exact o2) | (rw [hz1 (by omega), List.length_append, mset_s, rw1_s, m_c, o2]; simp))) (by (simp only [flN, ← o1.1]; first | (rw [hz0 (by omega), List.append_nil, m_f]; exact o3) | (rw [hz1 (by omega), mset_s, rw1_n _ _ (by decide), mset_s, rw1_s, hd_app]; first | (rw [if_pos (by omega)]; done) | (rw [if_neg (by omega), m_f]; exact o3)))) (by omega) _ _ hI ls (lv_sub hl [0, 5, 6, 7] rfl)
                      · refine lv_iload hx hb dX7_findWore_197 (lv_at hl 2 rfl) ?_
                        refine lv_goto (tgt := 206) hx hb dX7_findWore_199 (by decide) ?_
                        refine r_put C hI 18 (by decide) rfl rfl tyX7 tyX7_ok nmX7 hin7 28 (by decide) (fn := "woreFirst") (fd := "I") (index := 190) (by decide +kernel) ⟨rfl, rfl, rfl⟩ rfl (z := tt) rfl rfl (Nat.le_of_ble_eq_true rfl) rfl dX7_findWore_206 (fun H locs hI => ?_)
                        refine lv_aload_n hx hb dX7_findWore_209 rfl (lv_at hl 6 rfl) ?_
                        refine lv_dup hx hb dX7_findWore_210 rfl ?_
                        refine r_get C hI 18 (by decide) rfl rfl hin7 27 (by decide) (fn := "woreMany") (fd := "I") (index := 187) (by decide +kernel) ⟨rfl, rfl, rfl⟩ (v := .int (iI (ND 18 27))) rfl dX7_findWore_211 ?_
                        refine r_eqI (z2 := ND 18 27) (by first | rfl | (repeat first | rw [mset_s, rw1_s] | rw [mset_s, rw1_n _ _ (by omega)] | rw [mset_n _ _ _ (by decide)])) ?_
                        refine lv_iconst (v := iI 1) hx hb dX7_findWore_214 rfl ?_
                        refine r_iadd hx hb dX7_findWore_215 ?_
                        refine r_put C hI 18 (by decide) rfl rfl tyX7 tyX7_ok nmX7 hin7 27 (by decide) (fn := "woreMany") (fd := "I") (index := 187) (by decide +kernel) ⟨rfl, rfl, rfl⟩ rfl (z := (ND 18 27) + 1) rfl rfl (Nat.le_of_ble_eq_true rfl) rfl dX7_findWore_216 (fun H locs hI => ?_)
                        refine lv_iinc (v := iI (rr + 1)) (lv' := [(3, .int (iI (rr + 1))), (7, .int (iI k2)), (6, .int (iI ii)), (5, .int (iI tt)), (4, .int (iI lf)), (2, .int (iI nn)), (0, .ref (gA g 18)), (1, .int (iI x))]) hx hb dX7_findWore_219 hl (k := 4) rfl (iI_add _ _) (by decide) rfl (fun ls hl => ?_)
                        refine lv_goto (tgt := 48) hx hb dX7_findWore_222 (by decide) ?_
                        exact ih48 (rr + 1) (mset (mset ND 18 28 tt) 18 27 ((ND 18 27) + 1)) (jo + 1) (by omega) (by first | exact fr1 | exact FR.trans fr1 (FR.trans (FR_m (by decide)) (FR_m (by decide)))) (by (simp only [flN, ← o1.1]; first | (rw [hz0 (by omega), List.append_nil, m_c]; exact o2) | (rw [hz1 (by omega), List.length_append, mset_s, rw1_s, m_c, o2]; simp))) (by (simp only [flN, ← o1.1]; first | (rw [hz0 (by omega), List.append_nil, m_f]; exact o3) | (rw [hz1 (by omega), mset_s, rw1_n _ _ (by decide), mset_s, rw1_s, hd_app]; first | (rw [if_pos (by omega)]; done) | (rw [if_neg (by omega), m_f]; exact o3)))) (by omega) _ _ hI ls (lv_sub hl [0, 5, 6, 7] rfl)
                  · refine lv_aload_n hx hb dX7_findWore_85 rfl (lv_at hl 6 rfl) ?_
                    refine lv_iload hx hb dX7_findWore_86 (lv_at hl 0 rfl) ?_
                    refine lv_iload_n hx hb dX7_findWore_88 rfl (lv_at hl 7 rfl) ?_
                    refine r_iv C hI (As := [.int (iI k2), .int (iI x)]) (rest := []) (c_X7_looks l g ND k2 x (by omega) (by omega) (show -2147483648 ≤ (ND 29 k2) ∧ (ND 29 k2) < 2147483648 from by rw [s29]; omega) (show -2147483648 ≤ (ND 30 k2) ∧ (ND 30 k2) < 2147483648 from by rw [s30]; omega) (show 0 ≤ (ND 18 4) ∧ (ND 18 4) ≤ 5 from by omega)) (cwV 2 hts gX7_findWore_X7_looks rfl rfl rfl (by decide +kernel) ⟨Nat.le_of_ble_eq_true rfl, Nat.le_of_ble_eq_true rfl⟩) (by decide) rfl rfl rfl hl.1 rfl (Nat.le_of_ble_eq_true rfl) dX7_findWore_89 ⟨Nat.zero_le _, Nat.zero_le _⟩ (k_I (fun H locs hI => ?_))
                    refine r_b_eq hx hb (tgt := 178) dX7_findWore_92 (by decide) (fun c_6 => ?_) (fun c_6 => ?_)
                    · refine lv_iinc (v := iI (k2 + 1)) (lv' := [(7, .int (iI (k2 + 1))), (6, .int (iI ii)), (5, .int (iI tt)), (4, .int (iI lf)), (3, .int (iI rr)), (2, .int (iI nn)), (0, .ref (gA g 18)), (1, .int (iI x))]) hx hb dX7_findWore_178 hl (k := 0) rfl (iI_add _ _) (by decide) rfl (fun ls hl => ?_)
                      refine lv_goto (tgt := 76) hx hb dX7_findWore_181 (by decide) ?_
                      exact ih76 (k2 + 1) ii tt lf ND (pp + 1) (by omega) (by first | exact iF | exact iF2) (by first | omega | (rw [show (A 10 3).toNat - pp = ((A 10 3).toNat - (pp + 1)) + 1 by omega, ct_2 (show ¬ lkP (A 11) (A 12) x (A 3 6) k2 from by omega)] at i3; exact i3)) (by first | exact ⟨kc, iO, iK, iE.imp (fun q => ⟨q.1, by rw [← q.2, show (A 10 3).toNat - pp = ((A 10 3).toNat - (pp + 1)) + 1 by omega, wr_3 (show ¬ lkP (A 11) (A 12) x (A 3 6) k2 from by omega)]⟩) (fun q => q)⟩ | exact ⟨_, iO2, v5, iE.elim (fun q => Or.inl ⟨rfl, by rw [← q.2, epp, wr_1 lk ew2 (by omega)]⟩) (fun q => absurd q.1 (by omega))⟩ | exact ⟨_, iO2, v5, Or.inr ⟨rfl, iE.elim (fun q => by rw [← q.2, epp, wr_2 lk ew2 (by omega)]) (fun q => q.2)⟩⟩ | exact ⟨_, iO2, v5, Or.inr ⟨rfl, iE.elim (fun q => absurd q.1 (by omega)) (fun q => q.2)⟩⟩) (by omega) _ _ hI ls (lv_sub hl [0, 1, 2, 3, 4, 5, 6, 7] rfl)
                    · have lk : A 11 k2 = x ∧ 0 ≤ A 12 k2 ∧ A 12 k2 < A 3 6 := by omega
                      have epp : (A 10 3).toNat - pp = ((A 10 3).toNat - (pp + 1)) + 1 := by omega
                      have ec := ct_1 (f := (A 10 3).toNat - (pp + 1)) lk
                      rw [← epp] at ec
                      have hP1 : 1 ≤ A 3 6 ∧ A 3 6 ≤ 5 := by omega
                      have ctl := ct_le (A 11) (A 12) x (A 3 6) ((A 10 3).toNat - (pp + 1)) (k2 + 1)
                      have elt : (lf + -1).toNat = ctN (A 11) (A 12) x (A 3 6) ((A 10 3).toNat - (pp + 1)) (k2 + 1) := by omega
                      have t8 := five_b hP1 (n := (lf + -1).toNat) (by omega)
                      have t4 : 1 ≤ pwN (ND 18 4) (lf + -1).toNat ∧ pwN (ND 18 4) (lf + -1).toNat ≤ 625 := by rw [e18]; exact t8
                      have t5 : 0 ≤ rr / pwN (ND 18 4) (lf + -1).toNat ∧ rr / pwN (ND 18 4) (lf + -1).toNat ≤ rr := ⟨Int.ediv_nonneg (by omega) (by omega), Int.ediv_le_self _ (by omega)⟩
                      refine lv_iinc (v := iI (lf + (-1))) (lv' := [(4, .int (iI (lf + (-1)))), (7, .int (iI k2)), (6, .int (iI ii)), (5, .int (iI tt)), (3, .int (iI rr)), (2, .int (iI nn)), (0, .ref (gA g 18)), (1, .int (iI x))]) hx hb dX7_findWore_95 hl (k := 3) rfl (iI_add _ _) (by decide) rfl (fun ls hl => ?_)
                      refine lv_iload_n hx hb dX7_findWore_98 rfl (lv_at hl 4 rfl) ?_
                      refine lv_aload_n hx hb dX7_findWore_99 rfl (lv_at hl 6 rfl) ?_
                      refine r_get C hI 18 (by decide) rfl rfl hin7 4 (by decide) (fn := "people") (fd := "I") (index := 54) (by decide +kernel) ⟨rfl, rfl, rfl⟩ (v := .int (iI (ND 18 4))) rfl dX7_findWore_100 ?_
                      refine lv_iload hx hb dX7_findWore_103 (lv_at hl 0 rfl) ?_
                      refine r_is C hI (As := [.int (iI (ND 18 4)), .int (iI (lf + (-1)))]) (rest := [.int (iI rr)]) (c_X7_power l g ND (ND 18 4) (lf + (-1)) (by omega)) (va_cwS 2 hts gX7_findWore_X7_power rfl rfl rfl (by decide +kernel) ⟨Nat.le_of_ble_eq_true rfl, Nat.le_of_ble_eq_true rfl⟩) rfl hl.1 rfl (Nat.le_of_ble_eq_true rfl) dX7_findWore_105 ⟨Nat.zero_le _, Nat.zero_le _⟩ (k_I (fun H locs hI => ?_))
                      refine r_idiv hx hb (by omega) (by omega) dX7_findWore_108 ?_
                      refine lv_aload_n hx hb dX7_findWore_109 rfl (lv_at hl 6 rfl) ?_
                      refine r_get C hI 18 (by decide) rfl rfl hin7 4 (by decide) (fn := "people") (fd := "I") (index := 54) (by decide +kernel) ⟨rfl, rfl, rfl⟩ (v := .int (iI (ND 18 4))) rfl dX7_findWore_110 ?_
                      refine r_irem hx hb (by omega) (by omega) dX7_findWore_113 ?_
                      refine r_nm (fun who ewho => ?_)
                      refine lv_istore (lv' := [(8, .int (iI who)), (4, .int (iI (lf + (-1)))), (7, .int (iI k2)), (6, .int (iI ii)), (5, .int (iI tt)), (3, .int (iI rr)), (2, .int (iI nn)), (0, .ref (gA g 18)), (1, .int (iI x))]) hx hb dX7_findWore_114 hl (by decide) rfl (fun ls hl => ?_)
                      have bwho : 0 ≤ who ∧ who < A 3 6 := by rw [ewho, e18]; exact ⟨Int.emod_nonneg _ (by omega), Int.emod_lt_of_pos _ (by omega)⟩
                      have ew2 : rr / pwN (A 3 6) (ctN (A 11) (A 12) x (A 3 6) ((A 10 3).toNat - (pp + 1)) (k2 + 1)) % A 3 6 = who := by rw [ewho, e18, elt]
                      clear ewho
                      have iO1 := KOK_beh iO w_gx.1 (w_own who bwho)
                      have iO2 := KOK_beh iO1 w_gx.1 (w_own (A 12 k2) lk.2)
                      have w_pw := w_own who bwho
                      have w_p2 := w_own (A 12 k2) lk.2
                      refine lv_bipush (v := iI 10) hx hb dX7_findWore_116 (by decide +kernel) ?_
                      refine lv_iload hx hb dX7_findWore_118 (lv_at hl 4 rfl) ?_
                      refine r_imul hx hb dX7_findWore_120 ?_
                      refine lv_iload hx hb dX7_findWore_121 (lv_at hl 0 rfl) ?_
                      refine r_iadd hx hb dX7_findWore_123 ?_
                      refine lv_iconst (v := iI 1) hx hb dX7_findWore_124 rfl ?_
                      refine r_iadd hx hb dX7_findWore_125 ?_
                      refine lv_istore (lv' := [(5, .int (iI (((10 * tt) + who) + 1))), (8, .int (iI who)), (4, .int (iI (lf + (-1)))), (7, .int (iI k2)), (6, .int (iI ii)), (3, .int (iI rr)), (2, .int (iI nn)), (0, .ref (gA g 18)), (1, .int (iI x))]) hx hb dX7_findWore_126 hl (by decide) rfl (fun ls hl => ?_)
                      refine lv_aload_n hx hb dX7_findWore_128 rfl (lv_at hl 7 rfl) ?_
                      refine lv_aload_n hx hb dX7_findWore_129 rfl (lv_at hl 7 rfl) ?_
                      refine r_get C hI 18 (by decide) rfl rfl hin7 13 (by decide) (fn := "trial") (fd := "[I") (index := 28) (by decide +kernel) ⟨rfl, rfl, rfl⟩ (v := .ref (gA g 25)) rfl dX7_findWore_130 ?_
                      refine lv_iload_n hx hb dX7_findWore_133 rfl (lv_at hl 8 rfl) ?_
                      refine lv_iload hx hb dX7_findWore_134 (lv_at hl 1 rfl) ?_
                      refine r_iv C hI (As := [.ref (gA g 25), .int (iI x), .int (iI who)]) (rest := []) (c_X7_goHand l g ND x who kc (by omega) (by omega) (show KOK kc (ND 21 (3 * x)) from by rw [e21x]; exact iO) (KOK_b iO) (show 1 ≤ (ND 21 (3 * x)) ∧ (ND 21 (3 * x)) ≤ 3 from by rw [e21x]; omega) (show -2147483648 ≤ (ND 21 (3 * x + 1)) ∧ (ND 21 (3 * x + 1)) < 2147483648 from by rw [e21b]; omega) (show 1 ≤ (ND 20 (3 * who)) ∧ (ND 20 (3 * who)) ≤ 7 from by rw [e20]; omega) iK) (cwV 3 hts gX7_findWore_X7_goHand rfl rfl rfl (by decide +kernel) ⟨Nat.le_of_ble_eq_true rfl, Nat.le_of_ble_eq_true rfl⟩) (by decide) rfl rfl rfl hl.1 rfl (Nat.le_of_ble_eq_true rfl) dX7_findWore_136 ⟨Nat.zero_le _, Nat.zero_le _⟩ (k_E (fun z_2 M_2 H locs q_2 hI => ?_))
                      have v4 := q_2.2.2.1
                      rw [e20, e21x] at v4
                      have f20 : ∀ q : Int, M_2 20 (3 * q) = A 4 q := fun q => by rw [q_2.2.1 20 (by decide), iF 20 (by decide), oF.1 20 (by decide) (by decide)]; exact (p_r q).1
                      have f21x : M_2 21 (3 * x) = A 7 x := by rw [q_2.2.1 21 (by decide), iF 21 (by decide), oF.1 21 (by decide) (by decide)]; exact (g_r x).1
                      have f21b : M_2 21 (3 * x + 1) = A 8 x := by rw [q_2.2.1 21 (by decide), iF 21 (by decide), oF.1 21 (by decide) (by decide)]; exact (g_r x).2.1
                      have f30 : M_2 30 k2 = A 12 k2 := by rw [q_2.2.1 30 (by decide)]; exact s30
                      refine lv_pop hx hb dX7_findWore_139 rfl ?_
                      refine lv_aload_n hx hb dX7_findWore_140 rfl (lv_at hl 7 rfl) ?_
                      refine lv_aload_n hx hb dX7_findWore_141 rfl (lv_at hl 7 rfl) ?_
                      refine r_get C hI 18 (by decide) rfl rfl hin7 13 (by decide) (fn := "trial") (fd := "[I") (index := 28) (by decide +kernel) ⟨rfl, rfl, rfl⟩ (v := .ref (gA g 25)) rfl dX7_findWore_142 ?_
                      refine lv_iload_n hx hb dX7_findWore_145 rfl (lv_at hl 8 rfl) ?_
                      refine lv_aload_n hx hb dX7_findWore_146 rfl (lv_at hl 7 rfl) ?_
                      refine r_get C hI 18 (by decide) rfl rfl hin7 20 (by decide) (fn := "seenPerson") (fd := "[I") (index := 44) (by decide +kernel) ⟨rfl, rfl, rfl⟩ (v := .ref (gA g 30)) rfl dX7_findWore_147 ?_
                      refine lv_iload hx hb dX7_findWore_150 (lv_at hl 3 rfl) ?_
                      refine r_ald C hI 30 (by decide) rfl (by omega) (by decide) dX7_findWore_152 ?_
                      refine r_iv C hI (As := [.ref (gA g 25), .int (iI x), .int (iI (M_2 30 k2))]) (rest := []) (c_X7_goHand l g M_2 x (M_2 30 k2) (behO kc (A 4 who) (A 7 x)) (by omega) (by rw [f30]; omega) (show KOK (behO kc (A 4 who) (A 7 x)) (M_2 21 (3 * x)) from by rw [f21x]; exact iO1) (KOK_b iO1) (show 1 ≤ (M_2 21 (3 * x)) ∧ (M_2 21 (3 * x)) ≤ 3 from by rw [f21x]; omega) (show -2147483648 ≤ (M_2 21 (3 * x + 1)) ∧ (M_2 21 (3 * x + 1)) < 2147483648 from by rw [f21b]; omega) (show 1 ≤ (M_2 20 (3 * (M_2 30 k2))) ∧ (M_2 20 (3 * (M_2 30 k2))) ≤ 7 from by rw [f20, f30]; omega) v4) (cwV 3 hts gX7_findWore_X7_goHand rfl rfl rfl (by decide +kernel) ⟨Nat.le_of_ble_eq_true rfl, Nat.le_of_ble_eq_true rfl⟩) (by decide) rfl rfl rfl hl.1 rfl (Nat.le_of_ble_eq_true rfl) dX7_findWore_153 ⟨Nat.zero_le _, Nat.zero_le _⟩ (k_E (fun z_3 M_3 H locs q_3 hI => ?_))
                      have v5 := q_3.2.2.1
                      rw [f20, f21x, f30] at v5
                      have v6 : z_3 = repO (A 8 x) (behO kc (A 4 who) (A 7 x)) (A 4 (A 12 k2)) := by
                        have h9 := q_3.1
                        rw [f21b, f20, f30] at h9
                        exact h9
                      have v7 := repO_b (A 8 x) (behO kc (A 4 who) (A 7 x)) (A 4 (A 12 k2)) (KOK_b iO1)
                      have f31 : M_3 31 k2 = A 13 k2 := by rw [q_3.2.1 31 (by decide), q_2.2.1 31 (by decide)]; exact s31
                      have iF2 : ∀ c : Nat, c ≠ 25 → M_3 c = NO c := fun c hc => ((q_3.2.1 c hc).trans (q_2.2.1 c hc)).trans (iF c hc)
                      refine lv_aload_n hx hb dX7_findWore_156 rfl (lv_at hl 7 rfl) ?_
                      refine r_get C hI 18 (by decide) rfl rfl hin7 21 (by decide) (fn := "seenDoing") (fd := "[I") (index := 47) (by decide +kernel) ⟨rfl, rfl, rfl⟩ (v := .ref (gA g 31)) rfl dX7_findWore_157 ?_
                      refine lv_iload hx hb dX7_findWore_160 (lv_at hl 3 rfl) ?_
                      refine r_ald C hI 31 (by decide) rfl (by omega) (by decide) dX7_findWore_162 ?_
                      refine r_icmp_ne hx hb (tgt := 175) (by omega) (by omega) dX7_findWore_163 (by decide) (fun c_7 => ?_) (fun c_7 => ?_)
                      · refine lv_iconst (v := iI 0) hx hb dX7_findWore_175 rfl ?_
                        refine lv_istore (lv' := [(6, .int (iI 0)), (5, .int (iI (((10 * tt) + who) + 1))), (8, .int (iI who)), (4, .int (iI (lf + (-1)))), (7, .int (iI k2)), (3, .int (iI rr)), (2, .int (iI nn)), (0, .ref (gA g 18)), (1, .int (iI x))]) hx hb dX7_findWore_176 hl (by decide) rfl (fun ls hl => ?_)
                        refine lv_iinc (v := iI (k2 + 1)) (lv' := [(7, .int (iI (k2 + 1))), (6, .int (iI 0)), (5, .int (iI (((10 * tt) + who) + 1))), (8, .int (iI who)), (4, .int (iI (lf + (-1)))), (3, .int (iI rr)), (2, .int (iI nn)), (0, .ref (gA g 18)), (1, .int (iI x))]) hx hb dX7_findWore_178 hl (k := 4) rfl (iI_add _ _) (by decide) rfl (fun ls hl => ?_)
                        refine lv_goto (tgt := 76) hx hb dX7_findWore_181 (by decide) ?_
                        exact ih76 (k2 + 1) 0 (((10 * tt) + who) + 1) (lf + (-1)) M_3 (pp + 1) (by omega) (by first | exact iF | exact iF2) (by first | omega | (rw [show (A 10 3).toNat - pp = ((A 10 3).toNat - (pp + 1)) + 1 by omega, ct_2 (show ¬ lkP (A 11) (A 12) x (A 3 6) k2 from by omega)] at i3; exact i3)) (by first | exact ⟨kc, iO, iK, iE.imp (fun q => ⟨q.1, by rw [← q.2, show (A 10 3).toNat - pp = ((A 10 3).toNat - (pp + 1)) + 1 by omega, wr_3 (show ¬ lkP (A 11) (A 12) x (A 3 6) k2 from by omega)]⟩) (fun q => q)⟩ | exact ⟨_, iO2, v5, iE.elim (fun q => Or.inl ⟨rfl, by rw [← q.2, epp, wr_1 lk ew2 (by omega)]⟩) (fun q => absurd q.1 (by omega))⟩ | exact ⟨_, iO2, v5, Or.inr ⟨rfl, iE.elim (fun q => by rw [← q.2, epp, wr_2 lk ew2 (by omega)]) (fun q => q.2)⟩⟩ | exact ⟨_, iO2, v5, Or.inr ⟨rfl, iE.elim (fun q => absurd q.1 (by omega)) (fun q => q.2)⟩⟩) (by omega) _ _ hI ls (lv_sub hl [0, 1, 2, 4, 5, 6, 7, 8] rfl)
                      · refine lv_iload hx hb dX7_findWore_166 (lv_at hl 4 rfl) ?_
                        refine r_if_eq hx hb (tgt := 175) (by omega) dX7_findWore_168 (by decide) (fun c_8 => ?_) (fun c_8 => ?_)
                        · refine lv_iconst (v := iI 0) hx hb dX7_findWore_175 rfl ?_
                          refine lv_istore (lv' := [(6, .int (iI 0)), (5, .int (iI (((10 * tt) + who) + 1))), (8, .int (iI who)), (4, .int (iI (lf + (-1)))), (7, .int (iI k2)), (3, .int (iI rr)), (2, .int (iI nn)), (0, .ref (gA g 18)), (1, .int (iI x))]) hx hb dX7_findWore_176 hl (by decide) rfl (fun ls hl => ?_)
                          refine lv_iinc (v := iI (k2 + 1)) (lv' := [(7, .int (iI (k2 + 1))), (6, .int (iI 0)), (5, .int (iI (((10 * tt) + who) + 1))), (8, .int (iI who)), (4, .int (iI (lf + (-1)))), (3, .int (iI rr)), (2, .int (iI nn)), (0, .ref (gA g 18)), (1, .int (iI x))]) hx hb dX7_findWore_178 hl (k := 4) rfl (iI_add _ _) (by decide) rfl (fun ls hl => ?_)
                          refine lv_goto (tgt := 76) hx hb dX7_findWore_181 (by decide) ?_
                          exact ih76 (k2 + 1) 0 (((10 * tt) + who) + 1) (lf + (-1)) M_3 (pp + 1) (by omega) (by first | exact iF | exact iF2) (by first | omega | (rw [show (A 10 3).toNat - pp = ((A 10 3).toNat - (pp + 1)) + 1 by omega, ct_2 (show ¬ lkP (A 11) (A 12) x (A 3 6) k2 from by omega)] at i3; exact i3)) (by first | exact ⟨kc, iO, iK, iE.imp (fun q => ⟨q.1, by rw [← q.2, show (A 10 3).toNat - pp = ((A 10 3).toNat - (pp + 1)) + 1 by omega, wr_3 (show ¬ lkP (A 11) (A 12) x (A 3 6) k2 from by omega)]⟩) (fun q => q)⟩ | exact ⟨_, iO2, v5, iE.elim (fun q => Or.inl ⟨rfl, by rw [← q.2, epp, wr_1 lk ew2 (by omega)]⟩) (fun q => absurd q.1 (by omega))⟩ | exact ⟨_, iO2, v5, Or.inr ⟨rfl, iE.elim (fun q => by rw [← q.2, epp, wr_2 lk ew2 (by omega)]) (fun q => q.2)⟩⟩ | exact ⟨_, iO2, v5, Or.inr ⟨rfl, iE.elim (fun q => absurd q.1 (by omega)) (fun q => q.2)⟩⟩) (by omega) _ _ hI ls (lv_sub hl [0, 1, 2, 4, 5, 6, 7, 8] rfl)
                        · refine lv_iconst (v := iI 1) hx hb dX7_findWore_171 rfl ?_
                          refine lv_goto (tgt := 176) hx hb dX7_findWore_172 (by decide) ?_
                          refine lv_istore (lv' := [(6, .int (iI 1)), (5, .int (iI (((10 * tt) + who) + 1))), (8, .int (iI who)), (4, .int (iI (lf + (-1)))), (7, .int (iI k2)), (3, .int (iI rr)), (2, .int (iI nn)), (0, .ref (gA g 18)), (1, .int (iI x))]) hx hb dX7_findWore_176 hl (by decide) rfl (fun ls hl => ?_)
                          refine lv_iinc (v := iI (k2 + 1)) (lv' := [(7, .int (iI (k2 + 1))), (6, .int (iI 1)), (5, .int (iI (((10 * tt) + who) + 1))), (8, .int (iI who)), (4, .int (iI (lf + (-1)))), (3, .int (iI rr)), (2, .int (iI nn)), (0, .ref (gA g 18)), (1, .int (iI x))]) hx hb dX7_findWore_178 hl (k := 4) rfl (iI_add _ _) (by decide) rfl (fun ls hl => ?_)
                          refine lv_goto (tgt := 76) hx hb dX7_findWore_181 (by decide) ?_
                          exact ih76 (k2 + 1) 1 (((10 * tt) + who) + 1) (lf + (-1)) M_3 (pp + 1) (by omega) (by first | exact iF | exact iF2) (by first | omega | (rw [show (A 10 3).toNat - pp = ((A 10 3).toNat - (pp + 1)) + 1 by omega, ct_2 (show ¬ lkP (A 11) (A 12) x (A 3 6) k2 from by omega)] at i3; exact i3)) (by first | exact ⟨kc, iO, iK, iE.imp (fun q => ⟨q.1, by rw [← q.2, show (A 10 3).toNat - pp = ((A 10 3).toNat - (pp + 1)) + 1 by omega, wr_3 (show ¬ lkP (A 11) (A 12) x (A 3 6) k2 from by omega)]⟩) (fun q => q)⟩ | exact ⟨_, iO2, v5, iE.elim (fun q => Or.inl ⟨rfl, by rw [← q.2, epp, wr_1 lk ew2 (by omega)]⟩) (fun q => absurd q.1 (by omega))⟩ | exact ⟨_, iO2, v5, Or.inr ⟨rfl, iE.elim (fun q => by rw [← q.2, epp, wr_2 lk ew2 (by omega)]) (fun q => q.2)⟩⟩ | exact ⟨_, iO2, v5, Or.inr ⟨rfl, iE.elim (fun q => absurd q.1 (by omega)) (fun q => q.2)⟩⟩) (by omega) _ _ hI ls (lv_sub hl [0, 1, 2, 4, 5, 6, 7, 8] rfl)
              exact lp76 _ 0 1 0 nn M_1 0 (by omega) (by exact fun c hc => by rw [q_1, cpA_n hc]) (by (rw [Nat.sub_zero]; exact hnn)) (by exact ⟨A 33 x, w_k, by rw [q_1]; exact KG_begin (by rw [oF.1 24 (by decide) (by decide)]; exact hg) (by omega), Or.inl ⟨rfl, rfl⟩⟩) (Nat.lt_succ_self _) _ _ hI ls (lv_sub hl [0, 1, 2, 3, 4, 5, 6, 7] rfl)
        exact lp48 _ 0 (mset (mset M 18 27 0) 18 28 (-9)) 0 (by exact ⟨rfl, Nat.zero_le _⟩) (by exact FR.trans (FR_m (by decide)) (FR_m (by decide))) (by rfl) (by rfl) (Nat.lt_succ_self _) _ _ hI ls (lv_sub hl [0, 1, 2, 3] rfl)
      · refine lv_iload_n hx hb dX7_findWore_12 rfl (lv_at hl 1 rfl) ?_
        refine lv_aload_n hx hb dX7_findWore_13 rfl (lv_at hl 2 rfl) ?_
        refine lv_iload_n hx hb dX7_findWore_14 rfl (lv_at hl 0 rfl) ?_
        refine lv_iload_n hx hb dX7_findWore_15 rfl (lv_at hl 3 rfl) ?_
        refine r_iv C hI (As := [.int (iI kk), .int (iI x)]) (rest := [.int (iI nn)]) (c_X7_looks l g M kk x (by omega) (by omega) (show -2147483648 ≤ (M 29 kk) ∧ (M 29 kk) < 2147483648 from by omega) (show -2147483648 ≤ (M 30 kk) ∧ (M 30 kk) < 2147483648 from by omega) (show 0 ≤ (M 18 4) ∧ (M 18 4) ≤ 5 from by omega)) (cwV 2 hts gX7_findWore_X7_looks rfl rfl rfl (by decide +kernel) ⟨Nat.le_of_ble_eq_true rfl, Nat.le_of_ble_eq_true rfl⟩) (by decide) rfl rfl rfl hl.1 rfl (Nat.le_of_ble_eq_true rfl) dX7_findWore_16 ⟨Nat.zero_le _, Nat.zero_le _⟩ (k_I (fun H locs hI => ?_))
        refine r_b_eq hx hb (tgt := 26) dX7_findWore_19 (by decide) (fun c_9 => ?_) (fun c_9 => ?_)
        · refine lv_iconst (v := iI 0) hx hb dX7_findWore_26 rfl ?_
          refine r_iadd hx hb dX7_findWore_27 ?_
          refine lv_istore_n (lv' := [(2, .int (iI (nn + 0))), (3, .int (iI kk)), (0, .ref (gA g 18)), (1, .int (iI x))]) hx hb dX7_findWore_28 rfl hl (by decide) rfl (fun ls hl => ?_)
          refine lv_iinc (v := iI (kk + 1)) (lv' := [(3, .int (iI (kk + 1))), (2, .int (iI (nn + 0))), (0, .ref (gA g 18)), (1, .int (iI x))]) hx hb dX7_findWore_29 hl (k := 1) rfl (iI_add _ _) (by decide) rfl (fun ls hl => ?_)
          refine lv_goto (tgt := 4) hx hb dX7_findWore_32 (by decide) ?_
          exact ih4 (kk + 1) (nn + 0) (jj + 1) (by omega) (by (rw [show (A 10 3).toNat - jj = ((A 10 3).toNat - (jj + 1)) + 1 by omega] at h2; first | (rw [ct_1 (show lkP (A 11) (A 12) x (A 3 6) kk from by omega)] at h2; omega) | (rw [ct_2 (show ¬ lkP (A 11) (A 12) x (A 3 6) kk from by omega)] at h2; omega))) (by omega) _ _ hI ls (lv_sub hl [0, 1, 2, 3] rfl)
        · refine lv_iconst (v := iI 1) hx hb dX7_findWore_22 rfl ?_
          refine lv_goto (tgt := 27) hx hb dX7_findWore_23 (by decide) ?_
          refine r_iadd hx hb dX7_findWore_27 ?_
          refine lv_istore_n (lv' := [(2, .int (iI (nn + 1))), (3, .int (iI kk)), (0, .ref (gA g 18)), (1, .int (iI x))]) hx hb dX7_findWore_28 rfl hl (by decide) rfl (fun ls hl => ?_)
          refine lv_iinc (v := iI (kk + 1)) (lv' := [(3, .int (iI (kk + 1))), (2, .int (iI (nn + 1))), (0, .ref (gA g 18)), (1, .int (iI x))]) hx hb dX7_findWore_29 hl (k := 1) rfl (iI_add _ _) (by decide) rfl (fun ls hl => ?_)
          refine lv_goto (tgt := 4) hx hb dX7_findWore_32 (by decide) ?_
          exact ih4 (kk + 1) (nn + 1) (jj + 1) (by omega) (by (rw [show (A 10 3).toNat - jj = ((A 10 3).toNat - (jj + 1)) + 1 by omega] at h2; first | (rw [ct_1 (show lkP (A 11) (A 12) x (A 3 6) kk from by omega)] at h2; omega) | (rw [ct_2 (show ¬ lkP (A 11) (A 12) x (A 3 6) kk from by omega)] at h2; omega))) (by omega) _ _ hI ls (lv_sub hl [0, 1, 2, 3] rfl)
  exact lp4 _ 0 0 0 (by omega) (by (rw [Nat.sub_zero]; omega)) (Nat.lt_succ_self _) _ _ hI ls (lv_sub hl [0, 1, 2, 3] rfl)
set_option maxHeartbeats 4000000 in
set_option maxRecDepth 100000 in
theorem c_X7_wore (l : Launch) (g : GT) (M : Mem) (x : Int) (v : Int) (A : Mem) (wf : WF A) (rm : RM A M) (h_x : -2147483648 ≤ x ∧ x < 2147483648) (h_v : -2147483648 ≤ v ∧ v < 2147483648) : Ctr l g yX7_wore wsX7_wore ({ frames := 4, cells := 0, slots := 0, locals := 98 } : Room) [.ref (gA g 18), .int (iI x), .int (iI v)] M (pE (fun z u => z = zWor A x v ∧ QC M u ∧ RM (A) u)) := by
  refine Ctr.mk (cc := cX7_wore) (maxL := 3) (ret := some .int) (lv := [(0, .ref (gA g 18)), (1, .int (iI x)), (2, .int (iI v))]) (by decide) rfl (Nat.le_of_ble_eq_true rfl) rfl ?_
  intro p e s m below meth c C hr hlk hI ls hl
  have C : CallFix p m c cX7_wore 3 s ([.ref (gA g 18), .int (iI x), .int (iI v)] : List Value).toArray wsX7_wore RX7 := C
  have hx := C.1
  have hb := C.2.1
  have hts := C.2.2.2.2
  have hin7 : ∀ w ∈ u_ws RX7 TX7 31, w ∈ wsX7_wore := by decide +kernel
  have wf0 := wf
  obtain ⟨w_txt, hL, w_cnt, w_per, w_glo, w_now, w_act, w_rng, w_slo, w_see, w_sa⟩ := wf
  have rm0 := rm
  obtain ⟨⟨t_n, t_l⟩, ⟨⟨p_p, p_g⟩, p_r, g_r⟩, pgn, ⟨a_n, a_r⟩, k_r, ⟨s_n, s_r⟩, sd⟩ := rm
  have w_gx := w_glo x
  have w_nx : 0 ≤ x ∧ x < 4 → (0 ≤ A 33 x ∧ A 33 x < 1000) ∧ (A 34 x = -9 ∨ (0 ≤ A 34 x ∧ A 34 x < A 3 6 ∧ x < A 3 7)) := fun q => ⟨(w_now.1 x q).1, (w_now.1 x q).2.1⟩
  have w_kx : 0 ≤ x ∧ x < A 3 7 → KOK (A 33 x) (A 7 x) := fun q => (w_now.1 x (by omega)).2.2 q.2
  have r_kx : 0 ≤ x ∧ x < A 3 7 → KG (A 33 x) (M 24) (5 * x) := fun q => (PG_0 pgn x q).1
  have r_wx : 0 ≤ x ∧ x < A 3 7 → M 24 (5 * x + 4) = A 34 x := fun q => (PG_0 pgn x q).2
  have g_x := g_r x
  have r_fx : 0 ≤ x ∧ x < A 3 7 → M 24 (5 * x) = figs (A 33 x) := fun q => (PG_0 pgn x q).1.1
  have f_x := figs_b (A 33 x)
  have rp1 : RP A (mset M 18 0 0) := (RO rm0).2.2.1
  have rs1 : RS A (mset M 18 0 0) := (RO rm0).2.2.2.2.2.2.1
  refine lv_aload_n hx hb dX7_wore_0 rfl (lv_at hl 0 rfl) ?_
  refine lv_iconst (v := iI 0) hx hb dX7_wore_1 rfl ?_
  refine r_put C hI 18 (by decide) rfl rfl tyX7 tyX7_ok nmX7 hin7 0 (by decide) (fn := "thrown") (fd := "I") (index := 50) (by decide +kernel) ⟨rfl, rfl, rfl⟩ rfl (z := 0) rfl rfl (Nat.le_of_ble_eq_true rfl) rfl dX7_wore_2 (fun H locs hI => ?_)
  refine lv_aload_n hx hb dX7_wore_5 rfl (lv_at hl 0 rfl) ?_
  refine lv_iload_n hx hb dX7_wore_6 rfl (lv_at hl 1 rfl) ?_
  refine r_iv C hI (As := [.int (iI x)]) (rest := []) (c_X7_noGlove l g (mset M 18 0 0) x (by omega) (show 0 ≤ (M 18 5) ∧ (M 18 5) ≤ 4 from by omega)) (cwV 1 hts gX7_wore_X7_noGlove rfl rfl rfl (by decide +kernel) ⟨Nat.le_of_ble_eq_true rfl, Nat.le_of_ble_eq_true rfl⟩) (by decide) rfl rfl rfl hl.1 rfl (Nat.le_of_ble_eq_true rfl) dX7_wore_7 ⟨Nat.zero_le _, Nat.zero_le _⟩ (k_I (fun H locs hI => ?_))
  refine r_eqI (z2 := bI (¬ (0 ≤ x ∧ x ≤ (M 18 5) - 1))) rfl ?_
  refine r_b_eq hx hb (tgt := 15) dX7_wore_10 (by decide) (fun c_1 => ?_) (fun c_1 => ?_)
  · refine lv_iload_n hx hb dX7_wore_15 rfl (lv_at hl 2 rfl) ?_
    refine r_i2l hx hb (by omega) dX7_wore_16 ?_
    refine lv_lconst (v := iL 0) hx hb dX7_wore_17 (by decide +kernel) ?_
    refine lv_lconst (v := iL 1) hx hb dX7_wore_18 (by decide +kernel) ?_
    refine r_is C hI (As := [.long (iL v), .long (iL 0), .long (iL 1)]) (rest := []) (c_X7_in l g (mset M 18 0 0) v 0 1 (by omega) (by omega) (by omega)) (va_cwS 3 hts gX7_wore_X7_in rfl rfl rfl (by decide +kernel) ⟨Nat.le_of_ble_eq_true rfl, Nat.le_of_ble_eq_true rfl⟩) rfl hl.1 rfl (Nat.le_of_ble_eq_true rfl) dX7_wore_19 ⟨Nat.zero_le _, Nat.zero_le _⟩ (k_I (fun H locs hI => ?_))
    refine r_b_ne hx hb (tgt := 28) dX7_wore_22 (by decide) (fun c_2 => ?_) (fun c_2 => ?_)
    · refine lv_aload_n hx hb dX7_wore_28 rfl (lv_at hl 0 rfl) ?_
      refine lv_aload_n hx hb dX7_wore_29 rfl (lv_at hl 0 rfl) ?_
      refine r_get C hI 18 (by decide) rfl rfl hin7 12 (by decide) (fn := "page") (fd := "[I") (index := 25) (by decide +kernel) ⟨rfl, rfl, rfl⟩ (v := .ref (gA g 24)) rfl dX7_wore_30 ?_
      refine lv_iload_n hx hb dX7_wore_33 rfl (lv_at hl 1 rfl) ?_
      refine r_iv C hI (As := [.ref (gA g 24), .int (iI x)]) (rest := []) (c_X7_isWorn_24 l g (mset M 18 0 0) x (by omega) (show -2147483648 ≤ (M 24 (5 * x + 4)) ∧ (M 24 (5 * x + 4)) < 2147483648 from by omega)) (cwV 2 hts gX7_wore_X7_isWorn rfl rfl rfl (by decide +kernel) ⟨Nat.le_of_ble_eq_true rfl, Nat.le_of_ble_eq_true rfl⟩) (by decide) rfl rfl rfl hl.1 rfl (Nat.le_of_ble_eq_true rfl) dX7_wore_34 ⟨Nat.zero_le _, Nat.zero_le _⟩ (k_I (fun H locs hI => ?_))
      refine r_eqI (z2 := bI (¬ (M 24 (5 * x + 4)) = -9)) rfl ?_
      refine r_b_eq hx hb (tgt := 43) dX7_wore_37 (by decide) (fun c_3 => ?_) (fun c_3 => ?_)
      · refine lv_aload_n hx hb dX7_wore_43 rfl (lv_at hl 0 rfl) ?_
        refine lv_iload_n hx hb dX7_wore_44 rfl (lv_at hl 1 rfl) ?_
        refine r_iv C hI (As := [.int (iI x)]) (rest := []) (c_X7_findWore l g (mset M 18 0 0) x A wf0 rp1 (by omega) (r_kx (by omega)) rs1) (cwV 1 hts gX7_wore_X7_findWore rfl rfl rfl (by decide +kernel) ⟨Nat.le_of_ble_eq_true rfl, Nat.le_of_ble_eq_true rfl⟩) (by decide) rfl rfl rfl hl.1 rfl (Nat.le_of_ble_eq_true rfl) dX7_wore_45 ⟨Nat.zero_le _, Nat.zero_le _⟩ (k_X (fun M_1 H locs q_1 hI => ?_))
        have rfr := RM_FR rm0 q_1.1
        have hlb := wlO_len5 (A 11) (A 12) (A 13) (A 4) x (A 3 6) (A 10 3) (A 8 x) (A 7 x) (A 33 x) w_cnt.1.2
        refine lv_iload_n hx hb dX7_wore_48 rfl (lv_at hl 2 rfl) ?_
        refine r_if_ne hx hb (tgt := 59) (by omega) dX7_wore_49 (by decide) (fun c_4 => ?_) (fun c_4 => ?_)
        · refine lv_aload_n hx hb dX7_wore_59 rfl (lv_at hl 0 rfl) ?_
          refine r_get C hI 18 (by decide) rfl rfl hin7 28 (by decide) (fn := "woreFirst") (fd := "I") (index := 190) (by decide +kernel) ⟨rfl, rfl, rfl⟩ (v := .int (iI (M_1 18 28))) rfl dX7_wore_60 ?_
          refine r_iret C hr hlk hI ?_ dX7_wore_63
          exact ⟨_, rfl, (show (fun z u => z = zWor A x v ∧ QC M u ∧ RM (A) u) (M_1 18 28) M_1 from by exact ⟨(by unfold zWor tdO; rw [if_neg (by omega), if_neg (by omega), if_neg (by omega)]; first | (rw [if_pos (by omega)]; exact q_1.2.1) | (rw [if_neg (by omega)]; exact q_1.2.2)), (by exact rfr)⟩)⟩
        · refine lv_aload_n hx hb dX7_wore_52 rfl (lv_at hl 0 rfl) ?_
          refine r_get C hI 18 (by decide) rfl rfl hin7 27 (by decide) (fn := "woreMany") (fd := "I") (index := 187) (by decide +kernel) ⟨rfl, rfl, rfl⟩ (v := .int (iI (M_1 18 27))) rfl dX7_wore_53 ?_
          refine lv_goto (tgt := 63) hx hb dX7_wore_56 (by decide) ?_
          refine r_iret C hr hlk hI ?_ dX7_wore_63
          exact ⟨_, rfl, (show (fun z u => z = zWor A x v ∧ QC M u ∧ RM (A) u) (M_1 18 27) M_1 from by exact ⟨(by unfold zWor tdO; rw [if_neg (by omega), if_neg (by omega), if_neg (by omega)]; first | (rw [if_pos (by omega)]; exact q_1.2.1) | (rw [if_neg (by omega)]; exact q_1.2.2)), (by exact rfr)⟩)⟩
      · refine lv_bipush (v := iI (-3)) hx hb dX7_wore_40 (by decide +kernel) ?_
        refine r_iret C hr hlk hI ?_ dX7_wore_42
        exact ⟨_, rfl, (show (fun z u => z = zWor A x v ∧ QC M u ∧ RM (A) u) (-3) (mset M 18 0 0) from by exact ⟨(by unfold zWor; (repeat' split) <;> first | rfl | omega | (simp_all; done) | (simp_all; omega)), (by exact RO rm0)⟩)⟩
    · refine lv_bipush (v := iI (-2)) hx hb dX7_wore_25 (by decide +kernel) ?_
      refine r_iret C hr hlk hI ?_ dX7_wore_27
      exact ⟨_, rfl, (show (fun z u => z = zWor A x v ∧ QC M u ∧ RM (A) u) (-2) (mset M 18 0 0) from by exact ⟨(by unfold zWor; (repeat' split) <;> first | rfl | omega | (simp_all; done) | (simp_all; omega)), (by exact RO rm0)⟩)⟩
  · refine lv_iconst (v := iI (-1)) hx hb dX7_wore_13 rfl ?_
    refine r_iret C hr hlk hI ?_ dX7_wore_14
    exact ⟨_, rfl, (show (fun z u => z = zWor A x v ∧ QC M u ∧ RM (A) u) (-1) (mset M 18 0 0) from by exact ⟨(by unfold zWor; (repeat' split) <;> first | rfl | omega | (simp_all; done) | (simp_all; omega)), (by exact RO rm0)⟩)⟩
