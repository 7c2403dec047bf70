
/-! BIDS -/
theorem arN_1 {x y w v : Int} {n : Nat} (h : arN x y w v n = true) (h2 : gFst (n : Int) y w ≤ gFst x y w ∧ gOth x (n : Int) v ≤ gOth x y v) : arN x y w v (n + 1) = true := by
  simp only [arN, h, decide_eq_true h2]; rfl
theorem arN_2 {x y w v : Int} {n : Nat} (h2 : ¬ (gFst (n : Int) y w ≤ gFst x y w ∧ gOth x (n : Int) v ≤ gOth x y v)) : arN x y w v (n + 1) = false := by
  simp only [arN, decide_eq_false h2, Bool.and_false]
theorem arN_3 {x y w v : Int} {n : Nat} (h : arN x y w v n = false) : arN x y w v (n + 1) = false := by
  simp only [arN, h, Bool.false_and]
theorem gF_1 {a b w : Int} : (b ≤ a → gFst a b w = w - a) ∧ (¬ b ≤ a → gFst a b w = 0) := ⟨fun h => by unfold gFst; rw [if_pos h], fun h => by unfold gFst; rw [if_neg h]⟩
theorem gO_1 {a b w : Int} : (a < b → gOth a b w = w - b) ∧ (¬ a < b → gOth a b w = 0) := ⟨fun h => by unfold gOth; rw [if_pos h], fun h => by unfold gOth; rw [if_neg h]⟩
theorem bd_eq (w v : Int) : flN (fun row => bO w v (row / 10) (row % 10)) 100 = flN (bA w v) 10 := by
  rw [show (100 : Nat) = 10 * 10 from rfl, flN_mul]
  refine flN_ext 10 (fun i hi => ?_)
  unfold bA
  refine flN_ext 10 (fun j hj => ?_)
  show bO w v (((i : Int) * ((10 : Nat) : Int) + (j : Int)) / 10) (((i : Int) * ((10 : Nat) : Int) + (j : Int)) % 10) = bO w v (i : Int) (j : Int)
  rw [show ((i : Int) * ((10 : Nat) : Int) + (j : Int)) / 10 = i by omega, show ((i : Int) * ((10 : Nat) : Int) + (j : Int)) % 10 = j by omega]
theorem woR_b {A : Mem} (wf : WF A) (x : Int) {y : Int} (hy : 0 ≤ y ∧ y < A 3 6) : 0 ≤ woO A x y ∧ woO A x y ≤ 9 := by
  have h := (wf.2.2.2.1 y hy).2.2
  unfold woO
  split <;> omega
set_option maxHeartbeats 4000000 in
set_option maxRecDepth 100000 in
theorem c_X7_findBids (l : Launch) (g : GT) (M : Mem) (x : Int) (y : Int) (y2 : Int) (A : Mem) (wf : WF A) (rp : RP A M) (hxg : 0 ≤ x ∧ x < A 3 7) (hg : KG (A 33 x) (M 24) (5 * x)) (hy : 0 ≤ y ∧ y < A 3 6) (hy2 : 0 ≤ y2 ∧ y2 < A 3 6) : Ctr l g yX7_findBids wsX7_findBids ({ frames := 3, cells := 0, slots := 0, locals := 68 } : Room) [.ref (gA g 18), .int (iI x), .int (iI y), .int (iI y2)] M (pX (fun u => FR M u ∧ u 18 29 = ((flN (bA (woO A x y) (woO A x y2)) 10).length : Int) ∧ u 18 30 = (flN (bA (woO A x y) (woO A x y2)) 10).headD (-9))) := by
  refine Ctr.mk (cc := cX7_findBids) (maxL := 13) (ret := none) (lv := [(0, .ref (gA g 18)), (1, .int (iI x)), (2, .int (iI y)), (3, .int (iI y2))]) (by decide) rfl (Nat.le_of_ble_eq_true rfl) rfl ?_
  intro p e s m below meth c C hr hlk hI ls hl
  have C : CallFix p m c cX7_findBids 13 s ([.ref (gA g 18), .int (iI x), .int (iI y), .int (iI y2)] : List Value).toArray wsX7_findBids RX7 := C
  have hx := C.1
  have hb := C.2.1
  have hts := C.2.2.2.2
  have hin7 : ∀ w ∈ u_ws RX7 TX7 31, w ∈ wsX7_findBids := by decide +kernel
  have wf0 := wf
  have rp0 := rp
  obtain ⟨w_txt, hL, w_cnt, w_per, w_glo, w_now, w_act, w_rng, w_slo, w_see, w_sa⟩ := wf
  obtain ⟨⟨p_p, p_g⟩, p_r, g_r⟩ := rp
  have w_gx := w_glo x hxg
  have w_k : KOK (A 33 x) (A 7 x) := (w_now.1 x (by omega)).2.2 hxg.2
  have w_own : ∀ q : Int, 0 ≤ q ∧ q < A 3 6 → 1 ≤ A 4 q ∧ A 4 q ≤ 7 := fun q hq => (w_per q hq).1
  refine lv_aload_n hx hb dX7_findBids_0 rfl (lv_at hl 0 rfl) ?_
  refine lv_iconst (v := iI 0) hx hb dX7_findBids_1 rfl ?_
  refine r_put C hI 18 (by decide) rfl rfl tyX7 tyX7_ok nmX7 hin7 29 (by decide) (fn := "bidMany") (fd := "I") (index := 196) (by decide +kernel) ⟨rfl, rfl, rfl⟩ rfl (z := 0) rfl rfl (Nat.le_of_ble_eq_true rfl) rfl dX7_findBids_2 (fun H locs hI => ?_)
  refine lv_aload_n hx hb dX7_findBids_5 rfl (lv_at hl 0 rfl) ?_
  refine lv_bipush (v := iI (-9)) hx hb dX7_findBids_6 (by decide +kernel) ?_
  refine r_put C hI 18 (by decide) rfl rfl tyX7 tyX7_ok nmX7 hin7 30 (by decide) (fn := "bidFirst") (fd := "I") (index := 199) (by decide +kernel) ⟨rfl, rfl, rfl⟩ rfl (z := (-9)) rfl rfl (Nat.le_of_ble_eq_true rfl) rfl dX7_findBids_8 (fun H locs hI => ?_)
  refine lv_aload_n hx hb dX7_findBids_11 rfl (lv_at hl 0 rfl) ?_
  refine lv_iload_n hx hb dX7_findBids_12 rfl (lv_at hl 1 rfl) ?_
  refine lv_iload_n hx hb dX7_findBids_13 rfl (lv_at hl 2 rfl) ?_
  refine r_iv C hI (As := [.int (iI x), .int (iI y)]) (rest := []) (c_X7_worthTo l g (mset (mset M 18 29 0) 18 30 (-9)) x y A wf0 (FR_RP (FR.trans (FR_m (by decide)) (FR_m (by decide))) rp0) (by omega) hg (by omega)) (cwV 2 hts gX7_findBids_X7_worthTo rfl rfl rfl (by decide +kernel) ⟨Nat.le_of_ble_eq_true rfl, Nat.le_of_ble_eq_true rfl⟩) (by decide) rfl rfl rfl hl.1 rfl (Nat.le_of_ble_eq_true rfl) dX7_findBids_14 ⟨Nat.zero_le _, Nat.zero_le _⟩ (k_I (fun H locs hI => ?_))
  refine r_nm (fun wa ewa => ?_)
  refine lv_istore (lv' := [(4, .int (iI wa)), (0, .ref (gA g 18)), (1, .int (iI x)), (2, .int (iI y)), (3, .int (iI y2))]) hx hb dX7_findBids_17 hl (by decide) rfl (fun ls hl => ?_)
  refine lv_aload_n hx hb dX7_findBids_19 rfl (lv_at hl 1 rfl) ?_
  refine lv_iload_n hx hb dX7_findBids_20 rfl (lv_at hl 2 rfl) ?_
  refine lv_iload_n hx hb dX7_findBids_21 rfl (lv_at hl 4 rfl) ?_
  refine r_iv C hI (As := [.int (iI x), .int (iI y2)]) (rest := []) (c_X7_worthTo l g (mset (mset M 18 29 0) 18 30 (-9)) x y2 A wf0 (FR_RP (FR.trans (FR_m (by decide)) (FR_m (by decide))) rp0) (by omega) hg (by omega)) (cwV 2 hts gX7_findBids_X7_worthTo rfl rfl rfl (by decide +kernel) ⟨Nat.le_of_ble_eq_true rfl, Nat.le_of_ble_eq_true rfl⟩) (by decide) rfl rfl rfl hl.1 rfl (Nat.le_of_ble_eq_true rfl) dX7_findBids_22 ⟨Nat.zero_le _, Nat.zero_le _⟩ (k_I (fun H locs hI => ?_))
  refine r_nm (fun wb ewb => ?_)
  refine lv_istore (lv' := [(5, .int (iI wb)), (4, .int (iI wa)), (0, .ref (gA g 18)), (1, .int (iI x)), (2, .int (iI y)), (3, .int (iI y2))]) hx hb dX7_findBids_25 hl (by decide) rfl (fun ls hl => ?_)
  have wab := woR_b wf0 x hy
  have wbb := woR_b wf0 x hy2
  rw [← ewa] at wab
  rw [← ewb] at wbb
  refine lv_iconst (v := iI 0) hx hb dX7_findBids_27 rfl ?_
  refine lv_istore (lv' := [(6, .int (iI 0)), (5, .int (iI wb)), (4, .int (iI wa)), (0, .ref (gA g 18)), (1, .int (iI x)), (2, .int (iI y)), (3, .int (iI y2))]) hx hb dX7_findBids_28 hl (by decide) rfl (fun ls hl => ?_)
  have lp30 : ∀ (n30 : Nat) (rr : Int) (ND : Mem) (jj : Nat), (rr = (jj : Int) ∧ jj ≤ 100) → (FR M ND) → (ND 18 29 = ((flN (fun row => bO wa wb (row / 10) (row % 10)) jj).length : Int)) → (ND 18 30 = (flN (fun row => bO wa wb (row / 10) (row % 10)) jj).headD (-9)) → 100 - jj < n30 → ∀ (H : Heap) (locs : List Loc), HI g s H locs ND → ∀ ls : Array Slot, lv_has ls 13 [(6, .int (iI rr)), (5, .int (iI wb)), (4, .int (iI wa)), (0, .ref (gA g 18)), (1, .int (iI x)), (2, .int (iI y)), (3, .int (iI y2))] → W p l e ({ frames := 3, cells := 0, slots := 0, locals := 68 } : Room) s m ([.ref (gA g 18), .int (iI x), .int (iI y), .int (iI y2)] : List Value).toArray below meth c H locs 0 0 (MQ below (QV g (pX (fun u => FR M u ∧ u 18 29 = ((flN (bA (woO A x y) (woO A x y2)) 10).length : Int) ∧ u 18 30 = (flN (bA (woO A x y) (woO A x y2)) 10).headD (-9)))) ([.ref (gA g 18), .int (iI x), .int (iI y), .int (iI y2)] : List Value).toArray s 0 0 (AA g)) (F0 m 30 ls []) := by
    intro n30
    induction n30 with
    | zero => intro rr ND jj h1 hF k1 k2 hn30; exact absurd hn30 (Nat.not_lt_zero _)
    | succ n30 ih30 =>
      intro rr ND jj h1 hF k1 k2 hn30 H locs hI ls hl
      have ln := flN_len (f := (fun row => bO wa wb (row / 10) (row % 10))) (m := 1) (fun p => bO_len _ _ _ _) jj
      refine lv_iload hx hb dX7_findBids_30 (lv_at hl 0 rfl) ?_
      refine lv_bipush (v := iI 100) hx hb dX7_findBids_32 (by decide +kernel) ?_
      refine r_icmp_ge hx hb (tgt := 210) (by omega) (by decide) dX7_findBids_34 (by decide) (fun c_1 => ?_) (fun c_1 => ?_)
      · refine r_vret C hr hlk hI ?_ dX7_findBids_210
        exact ⟨rfl, (show (fun u => FR M u ∧ u 18 29 = ((flN (bA (woO A x y) (woO A x y2)) 10).length : Int) ∧ u 18 30 = (flN (bA (woO A x y) (woO A x y2)) 10).headD (-9)) ND from by (have hj : jj = 100 := by omega); rw [hj, bd_eq, ewa, ewb] at k1 k2; exact ⟨hF, k1, k2⟩)⟩
      · refine lv_iload hx hb dX7_findBids_37 (lv_at hl 0 rfl) ?_
        refine lv_bipush (v := iI 10) hx hb dX7_findBids_39 (by decide +kernel) ?_
        refine r_idiv hx hb (by omega) (by decide) dX7_findBids_41 ?_
        refine lv_istore (lv' := [(7, .int (iI (rr / 10))), (6, .int (iI rr)), (5, .int (iI wb)), (4, .int (iI wa)), (0, .ref (gA g 18)), (1, .int (iI x)), (2, .int (iI y)), (3, .int (iI y2))]) hx hb dX7_findBids_42 hl (by decide) rfl (fun ls hl => ?_)
        refine lv_iload hx hb dX7_findBids_44 (lv_at hl 1 rfl) ?_
        refine lv_bipush (v := iI 10) hx hb dX7_findBids_46 (by decide +kernel) ?_
        refine r_irem hx hb (by omega) (by decide) dX7_findBids_48 ?_
        refine lv_istore (lv' := [(8, .int (iI (rr % 10))), (7, .int (iI (rr / 10))), (6, .int (iI rr)), (5, .int (iI wb)), (4, .int (iI wa)), (0, .ref (gA g 18)), (1, .int (iI x)), (2, .int (iI y)), (3, .int (iI y2))]) hx hb dX7_findBids_49 hl (by decide) rfl (fun ls hl => ?_)
        refine lv_iload hx hb dX7_findBids_51 (lv_at hl 1 rfl) ?_
        refine lv_iload hx hb dX7_findBids_53 (lv_at hl 0 rfl) ?_
        refine r_icmp_lt hx hb (tgt := 66) (by omega) (by omega) dX7_findBids_55 (by decide) (fun c_2 => ?_) (fun c_2 => ?_)
        · refine lv_iconst (v := iI 0) hx hb dX7_findBids_66 rfl ?_
          refine lv_istore (lv' := [(9, .int (iI 0)), (8, .int (iI (rr % 10))), (7, .int (iI (rr / 10))), (6, .int (iI rr)), (5, .int (iI wb)), (4, .int (iI wa)), (0, .ref (gA g 18)), (1, .int (iI x)), (2, .int (iI y)), (3, .int (iI y2))]) hx hb dX7_findBids_67 hl (by decide) rfl (fun ls hl => ?_)
          refine lv_iload hx hb dX7_findBids_69 (lv_at hl 2 rfl) ?_
          refine lv_iload hx hb dX7_findBids_71 (lv_at hl 1 rfl) ?_
          refine r_icmp_lt hx hb (tgt := 80) (by omega) (by omega) dX7_findBids_73 (by decide) (fun c_3 => ?_) (fun c_3 => ?_)
          · refine lv_iload hx hb dX7_findBids_80 (lv_at hl 4 rfl) ?_
            refine lv_iload hx hb dX7_findBids_82 (lv_at hl 1 rfl) ?_
            refine r_isub hx hb dX7_findBids_84 ?_
            refine lv_istore (lv' := [(10, .int (iI (wb - (rr % 10)))), (9, .int (iI 0)), (8, .int (iI (rr % 10))), (7, .int (iI (rr / 10))), (6, .int (iI rr)), (5, .int (iI wb)), (4, .int (iI wa)), (0, .ref (gA g 18)), (1, .int (iI x)), (2, .int (iI y)), (3, .int (iI y2))]) hx hb dX7_findBids_85 hl (by decide) rfl (fun ls hl => ?_)
            refine lv_iconst (v := iI 1) hx hb dX7_findBids_87 rfl ?_
            refine lv_istore (lv' := [(11, .int (iI 1)), (10, .int (iI (wb - (rr % 10)))), (9, .int (iI 0)), (8, .int (iI (rr % 10))), (7, .int (iI (rr / 10))), (6, .int (iI rr)), (5, .int (iI wb)), (4, .int (iI wa)), (0, .ref (gA g 18)), (1, .int (iI x)), (2, .int (iI y)), (3, .int (iI y2))]) hx hb dX7_findBids_88 hl (by decide) rfl (fun ls hl => ?_)
            refine lv_iconst (v := iI 0) hx hb dX7_findBids_90 rfl ?_
            refine lv_istore (lv' := [(12, .int (iI 0)), (11, .int (iI 1)), (10, .int (iI (wb - (rr % 10)))), (9, .int (iI 0)), (8, .int (iI (rr % 10))), (7, .int (iI (rr / 10))), (6, .int (iI rr)), (5, .int (iI wb)), (4, .int (iI wa)), (0, .ref (gA g 18)), (1, .int (iI x)), (2, .int (iI y)), (3, .int (iI y2))]) hx hb dX7_findBids_91 hl (by decide) rfl (fun ls hl => ?_)
            have lp93 : ∀ (n93 : Nat) (kk : Int) (ii : Int) (tw : Int) (on : Int) (mm : Nat), ((kk = (mm : Int) ∧ mm ≤ 10) ∧ (ii = 0 ∨ ii = 1)) → (on = gFst (rr / 10) (rr % 10) wa) → (tw = gOth (rr / 10) (rr % 10) wb) → ((ii = 1 ∧ arN (rr / 10) (rr % 10) wa wb mm = true) ∨ (ii = 0 ∧ arN (rr / 10) (rr % 10) wa wb mm = false)) → 10 - mm < n93 → ∀ (H : Heap) (locs : List Loc), HI g s H locs ND → ∀ ls : Array Slot, lv_has ls 13 [(12, .int (iI kk)), (11, .int (iI ii)), (10, .int (iI tw)), (9, .int (iI on)), (8, .int (iI (rr % 10))), (7, .int (iI (rr / 10))), (6, .int (iI rr)), (5, .int (iI wb)), (4, .int (iI wa)), (0, .ref (gA g 18)), (1, .int (iI x)), (2, .int (iI y)), (3, .int (iI y2))] → W p l e ({ frames := 3, cells := 0, slots := 0, locals := 68 } : Room) s m ([.ref (gA g 18), .int (iI x), .int (iI y), .int (iI y2)] : List Value).toArray below meth c H locs 0 0 (MQ below (QV g (pX (fun u => FR M u ∧ u 18 29 = ((flN (bA (woO A x y) (woO A x y2)) 10).length : Int) ∧ u 18 30 = (flN (bA (woO A x y) (woO A x y2)) 10).headD (-9)))) ([.ref (gA g 18), .int (iI x), .int (iI y), .int (iI y2)] : List Value).toArray s 0 0 (AA g)) (F0 m 93 ls []) := by
              intro n93
              induction n93 with
              | zero => intro kk ii tw on mm i1 n1 n2 i2 hn93; exact absurd hn93 (Nat.not_lt_zero _)
              | succ n93 ih93 =>
                intro kk ii tw on mm i1 n1 n2 i2 hn93 H locs hI ls hl
                have a1 := gF_1 (a := kk) (b := rr % 10) (w := wa)
                have a2 := gO_1 (a := rr / 10) (b := kk) (w := wb)
                have a3 := gF_1 (a := rr / 10) (b := rr % 10) (w := wa)
                have a4 := gO_1 (a := rr / 10) (b := rr % 10) (w := wb)
                refine lv_iload hx hb dX7_findBids_93 (lv_at hl 0 rfl) ?_
                refine lv_bipush (v := iI 10) hx hb dX7_findBids_95 (by decide +kernel) ?_
                refine r_icmp_ge hx hb (tgt := 160) (by omega) (by decide) dX7_findBids_97 (by decide) (fun c_4 => ?_) (fun c_4 => ?_)
                · have e10 : mm = 10 := by omega
                  rw [e10] at i2
                  have hz0 : ii = 0 → bO wa wb (rr / 10) (rr % 10) = [] := fun q => by
                    unfold bO
                    rw [if_neg (by rw [(i2.elim (fun q2 => absurd q2.1 (by omega)) id).2]; decide)]
                  have hz1 : ¬ ii = 0 → bO wa wb (rr / 10) (rr % 10) = [rr] := fun q => by
                    unfold bO
                    rw [if_pos (i2.elim id (fun q2 => absurd q2.1 q)).2, show 10 * (rr / 10) + rr % 10 = rr by omega]
                  refine lv_aload_n hx hb dX7_findBids_160 rfl (lv_at hl 9 rfl) ?_
                  refine lv_iload hx hb dX7_findBids_161 (lv_at hl 1 rfl) ?_
                  refine r_if_eq hx hb (tgt := 178) (by omega) dX7_findBids_163 (by decide) (fun c_5 => ?_) (fun c_5 => ?_)
                  · refine lv_aload_n hx hb dX7_findBids_178 rfl (lv_at hl 9 rfl) ?_
                    refine r_get C hI 18 (by decide) rfl rfl hin7 30 (by decide) (fn := "bidFirst") (fd := "I") (index := 199) (by decide +kernel) ⟨rfl, rfl, rfl⟩ (v := .int (iI (ND 18 30))) rfl dX7_findBids_179 ?_
                    refine r_put C hI 18 (by decide) rfl rfl tyX7 tyX7_ok nmX7 hin7 30 (by decide) (fn := "bidFirst") (fd := "I") (index := 199) (by decide +kernel) ⟨rfl, rfl, rfl⟩ rfl (z := ND 18 30) rfl rfl (Nat.le_of_ble_eq_true rfl) rfl dX7_findBids_182 (fun H locs hI => ?_)
                    refine lv_aload_n hx hb dX7_findBids_185 rfl (lv_at hl 9 rfl) ?_
                    refine lv_dup hx hb dX7_findBids_186 rfl ?_
                    refine r_get C hI 18 (by decide) rfl rfl hin7 29 (by decide) (fn := "bidMany") (fd := "I") (index := 196) (by decide +kernel) ⟨rfl, rfl, rfl⟩ (v := .int (iI (ND 18 29))) rfl dX7_findBids_187 ?_
                    refine r_eqI (z2 := ND 18 29) (by first | rfl | (repeat first | rw [mset_s, rw1_s] | rw [mset_s, rw1_n _ _ (by omega)] | rw [mset_n _ _ _ (by decide)])) ?_
                    refine lv_iload hx hb dX7_findBids_190 (lv_at hl 1 rfl) ?_
                    refine r_if_eq hx hb (tgt := 199) (by omega) dX7_findBids_192 (by decide) (fun c_6 => ?_) (fun c_6 => ?_)
                    · refine lv_iconst (v := iI 0) hx hb dX7_findBids_199 rfl ?_
                      refine r_iadd hx hb dX7_findBids_200 ?_
                      refine r_put C hI 18 (by decide) rfl rfl tyX7 tyX7_ok nmX7 hin7 29 (by decide) (fn := "bidMany") (fd := "I") (index := 196) (by decide +kernel) ⟨rfl, rfl, rfl⟩ rfl (z := (ND 18 29) + 0) rfl rfl (Nat.le_of_ble_eq_true rfl) rfl dX7_findBids_201 (fun H locs hI => ?_)
                      refine lv_iinc (v := iI (rr + 1)) (lv' := [(6, .int (iI (rr + 1))), (12, .int (iI kk)), (11, .int (iI ii)), (10, .int (iI tw)), (9, .int (iI on)), (8, .int (iI (rr % 10))), (7, .int (iI (rr / 10))), (5, .int (iI wb)), (4, .int (iI wa)), (0, .ref (gA g 18)), (1, .int (iI x)), (2, .int (iI y)), (3, .int (iI y2))]) hx hb dX7_findBids_204 hl (k := 6) rfl (iI_add _ _) (by decide) rfl (fun ls hl => ?_)
                      refine lv_goto (tgt := 30) hx hb dX7_findBids_207 (by decide) ?_
                      exact ih30 (rr + 1) (mset (mset ND 18 30 (ND 18 30)) 18 29 ((ND 18 29) + 0)) (jj + 1) (by omega) (by exact FR.trans hF (FR.trans (FR_m (by decide)) (FR_m (by decide)))) (by (simp only [flN, ← h1.1]; first | (exfalso; omega) | (rw [hz0 (by omega), List.append_nil, mset_s, rw1_s, k1]; simp) | (rw [hz1 (by omega), List.length_append, mset_s, rw1_s, k1]; simp))) (by (simp only [flN, ← h1.1]; first | (exfalso; omega) | (rw [hz0 (by omega), List.append_nil, mset_s, rw1_n _ _ (by decide), mset_s, rw1_s]; exact k2) | (rw [hz1 (by omega), mset_s, rw1_n _ _ (by decide), mset_s, rw1_s, hd_app]; first | (rw [if_pos (by omega)]; done) | (rw [if_neg (by omega)]; exact k2)))) (by omega) _ _ hI ls (lv_sub hl [0, 7, 8, 9, 10, 11, 12] rfl)
                    · refine lv_iconst (v := iI 1) hx hb dX7_findBids_195 rfl ?_
                      refine lv_goto (tgt := 200) hx hb dX7_findBids_196 (by decide) ?_
                      refine r_iadd hx hb dX7_findBids_200 ?_
                      refine r_put C hI 18 (by decide) rfl rfl tyX7 tyX7_ok nmX7 hin7 29 (by decide) (fn := "bidMany") (fd := "I") (index := 196) (by decide +kernel) ⟨rfl, rfl, rfl⟩ rfl (z := (ND 18 29) + 1) rfl rfl (Nat.le_of_ble_eq_true rfl) rfl dX7_findBids_201 (fun H locs hI => ?_)
                      refine lv_iinc (v := iI (rr + 1)) (lv' := [(6, .int (iI (rr + 1))), (12, .int (iI kk)), (11, .int (iI ii)), (10, .int (iI tw)), (9, .int (iI on)), (8, .int (iI (rr % 10))), (7, .int (iI (rr / 10))), (5, .int (iI wb)), (4, .int (iI wa)), (0, .ref (gA g 18)), (1, .int (iI x)), (2, .int (iI y)), (3, .int (iI y2))]) hx hb dX7_findBids_204 hl (k := 6) rfl (iI_add _ _) (by decide) rfl (fun ls hl => ?_)
                      refine lv_goto (tgt := 30) hx hb dX7_findBids_207 (by decide) ?_
                      exact ih30 (rr + 1) (mset (mset ND 18 30 (ND 18 30)) 18 29 ((ND 18 29) + 1)) (jj + 1) (by omega) (by exact FR.trans hF (FR.trans (FR_m (by decide)) (FR_m (by decide)))) (by (simp only [flN, ← h1.1]; first | (exfalso; omega) | (rw [hz0 (by omega), List.append_nil, mset_s, rw1_s, k1]; simp) | (rw [hz1 (by omega), List.length_append, mset_s, rw1_s, k1]; simp))) (by (simp only [flN, ← h1.1]; first | (exfalso; omega) | (rw [hz0 (by omega), List.append_nil, mset_s, rw1_n _ _ (by decide), mset_s, rw1_s]; exact k2) | (rw [hz1 (by omega), mset_s, rw1_n _ _ (by decide), mset_s, rw1_s, hd_app]; first | (rw [if_pos (by omega)]; done) | (rw [if_neg (by omega)]; exact k2)))) (by omega) _ _ hI ls (lv_sub hl [0, 7, 8, 9, 10, 11, 12] rfl)
                  · refine lv_aload_n hx hb dX7_findBids_166 rfl (lv_at hl 9 rfl) ?_
                    refine r_get C hI 18 (by decide) rfl rfl hin7 29 (by decide) (fn := "bidMany") (fd := "I") (index := 196) (by decide +kernel) ⟨rfl, rfl, rfl⟩ (v := .int (iI (ND 18 29))) rfl dX7_findBids_167 ?_
                    refine r_if_ne hx hb (tgt := 178) (by omega) dX7_findBids_170 (by decide) (fun c_7 => ?_) (fun c_7 => ?_)
                    · refine lv_aload_n hx hb dX7_findBids_178 rfl (lv_at hl 9 rfl) ?_
                      refine r_get C hI 18 (by decide) rfl rfl hin7 30 (by decide) (fn := "bidFirst") (fd := "I") (index := 199) (by decide +kernel) ⟨rfl, rfl, rfl⟩ (v := .int (iI (ND 18 30))) rfl dX7_findBids_179 ?_
                      refine r_put C hI 18 (by decide) rfl rfl tyX7 tyX7_ok nmX7 hin7 30 (by decide) (fn := "bidFirst") (fd := "I") (index := 199) (by decide +kernel) ⟨rfl, rfl, rfl⟩ rfl (z := ND 18 30) rfl rfl (Nat.le_of_ble_eq_true rfl) rfl dX7_findBids_182 (fun H locs hI => ?_)
                      refine lv_aload_n hx hb dX7_findBids_185 rfl (lv_at hl 9 rfl) ?_
                      refine lv_dup hx hb dX7_findBids_186 rfl ?_
                      refine r_get C hI 18 (by decide) rfl rfl hin7 29 (by decide) (fn := "bidMany") (fd := "I") (index := 196) (by decide +kernel) ⟨rfl, rfl, rfl⟩ (v := .int (iI (ND 18 29))) rfl dX7_findBids_187 ?_
                      refine r_eqI (z2 := ND 18 29) (by first | rfl | (repeat first | rw [mset_s, rw1_s] | rw [mset_s, rw1_n _ _ (by omega)] | rw [mset_n _ _ _ (by decide)])) ?_
                      refine lv_iload hx hb dX7_findBids_190 (lv_at hl 1 rfl) ?_
                      refine r_if_eq hx hb (tgt := 199) (by omega) dX7_findBids_192 (by decide) (fun c_8 => ?_) (fun c_8 => ?_)
                      · refine lv_iconst (v := iI 0) hx hb dX7_findBids_199 rfl ?_
                        refine r_iadd hx hb dX7_findBids_200 ?_
                        refine r_put C hI 18 (by decide) rfl rfl tyX7 tyX7_ok nmX7 hin7 29 (by decide) (fn := "bidMany") (fd := "I") (index := 196) (by decide +kernel) ⟨rfl, rfl, rfl⟩ rfl (z := (ND 18 29) + 0) rfl rfl (Nat.le_of_ble_eq_true rfl) rfl dX7_findBids_201 (fun H locs hI => ?_)
                        refine lv_iinc (v := iI (rr + 1)) (lv' := [(6, .int (iI (rr + 1))), (12, .int (iI kk)), (11, .int (iI ii)), (10, .int (iI tw)), (9, .int (iI on)), (8, .int (iI (rr % 10))), (7, .int (iI (rr / 10))), (5, .int (iI wb)), (4, .int (iI wa)), (0, .ref (gA g 18)), (1, .int (iI x)), (2, .int (iI y)), (3, .int (iI y2))]) hx hb dX7_findBids_204 hl (k := 6) rfl (iI_add _ _) (by decide) rfl (fun ls hl => ?_)
                        refine lv_goto (tgt := 30) hx hb dX7_findBids_207 (by decide) ?_
                        exact ih30 (rr + 1) (mset (mset ND 18 30 (ND 18 30)) 18 29 ((ND 18 29) + 0)) (jj + 1) (by omega) (by exact FR.trans hF (FR.trans (FR_m (by decide)) (FR_m (by decide)))) (by (simp only [flN, ← h1.1]; first | (exfalso; omega) | (rw [hz0 (by omega), List.append_nil, mset_s, rw1_s, k1]; simp) | (rw [hz1 (by omega), List.length_append, mset_s, rw1_s, k1]; simp))) (by (simp only [flN, ← h1.1]; first | (exfalso; omega) | (rw [hz0 (by omega), List.append_nil, mset_s, rw1_n _ _ (by decide), mset_s, rw1_s]; exact k2) | (rw [hz1 (by omega), mset_s, rw1_n _ _ (by decide), mset_s, rw1_s, hd_app]; first | (rw [if_pos (by omega)]; done) | (rw [if_neg (by omega)]; exact k2)))) (by omega) _ _ hI ls (lv_sub hl [0, 7, 8, 9, 10, 11, 12] rfl)
                      · refine lv_iconst (v := iI 1) hx hb dX7_findBids_195 rfl ?_
                        refine lv_goto (tgt := 200) hx hb dX7_findBids_196 (by decide) ?_
                        refine r_iadd hx hb dX7_findBids_200 ?_
                        refine r_put C hI 18 (by decide) rfl rfl tyX7 tyX7_ok nmX7 hin7 29 (by decide) (fn := "bidMany") (fd := "I") (index := 196) (by decide +kernel) ⟨rfl, rfl, rfl⟩ rfl (z := (ND 18 29) + 1) rfl rfl (Nat.le_of_ble_eq_true rfl) rfl dX7_findBids_201 (fun H locs hI => ?_)
                        refine lv_iinc (v := iI (rr + 1)) (lv' := [(6, .int (iI (rr + 1))), (12, .int (iI kk)), (11, .int (iI ii)), (10, .int (iI tw)), (9, .int (iI on)), (8, .int (iI (rr % 10))), (7, .int (iI (rr / 10))), (5, .int (iI wb)), (4, .int (iI wa)), (0, .ref (gA g 18)), (1, .int (iI x)), (2, .int (iI y)), (3, .int (iI y2))]) hx hb dX7_findBids_204 hl (k := 6) rfl (iI_add _ _) (by decide) rfl (fun ls hl => ?_)
                        refine lv_goto (tgt := 30) hx hb dX7_findBids_207 (by decide) ?_
                        exact ih30 (rr + 1) (mset (mset ND 18 30 (ND 18 30)) 18 29 ((ND 18 29) + 1)) (jj + 1) (by omega) (by exact FR.trans hF (FR.trans (FR_m (by decide)) (FR_m (by decide)))) (by (simp only [flN, ← h1.1]; first | (exfalso; omega) | (rw [hz0 (by omega), List.append_nil, mset_s, rw1_s, k1]; simp) | (rw [hz1 (by omega), List.length_append, mset_s, rw1_s, k1]; simp))) (by (simp only [flN, ← h1.1]; first | (exfalso; omega) | (rw [hz0 (by omega), List.append_nil, mset_s, rw1_n _ _ (by decide), mset_s, rw1_s]; exact k2) | (rw [hz1 (by omega), mset_s, rw1_n _ _ (by decide), mset_s, rw1_s, hd_app]; first | (rw [if_pos (by omega)]; done) | (rw [if_neg (by omega)]; exact k2)))) (by omega) _ _ hI ls (lv_sub hl [0, 7, 8, 9, 10, 11, 12] rfl)
                    · refine lv_iload hx hb dX7_findBids_173 (lv_at hl 6 rfl) ?_
                      refine lv_goto (tgt := 182) hx hb dX7_findBids_175 (by decide) ?_
                      refine r_put C hI 18 (by decide) rfl rfl tyX7 tyX7_ok nmX7 hin7 30 (by decide) (fn := "bidFirst") (fd := "I") (index := 199) (by decide +kernel) ⟨rfl, rfl, rfl⟩ rfl (z := rr) rfl rfl (Nat.le_of_ble_eq_true rfl) rfl dX7_findBids_182 (fun H locs hI => ?_)
                      refine lv_aload_n hx hb dX7_findBids_185 rfl (lv_at hl 9 rfl) ?_
                      refine lv_dup hx hb dX7_findBids_186 rfl ?_
                      refine r_get C hI 18 (by decide) rfl rfl hin7 29 (by decide) (fn := "bidMany") (fd := "I") (index := 196) (by decide +kernel) ⟨rfl, rfl, rfl⟩ (v := .int (iI (ND 18 29))) rfl dX7_findBids_187 ?_
                      refine r_eqI (z2 := ND 18 29) (by first | rfl | (repeat first | rw [mset_s, rw1_s] | rw [mset_s, rw1_n _ _ (by omega)] | rw [mset_n _ _ _ (by decide)])) ?_
                      refine lv_iload hx hb dX7_findBids_190 (lv_at hl 1 rfl) ?_
                      refine r_if_eq hx hb (tgt := 199) (by omega) dX7_findBids_192 (by decide) (fun c_9 => ?_) (fun c_9 => ?_)
                      · refine lv_iconst (v := iI 0) hx hb dX7_findBids_199 rfl ?_
                        refine r_iadd hx hb dX7_findBids_200 ?_
                        refine r_put C hI 18 (by decide) rfl rfl tyX7 tyX7_ok nmX7 hin7 29 (by decide) (fn := "bidMany") (fd := "I") (index := 196) (by decide +kernel) ⟨rfl, rfl, rfl⟩ rfl (z := (ND 18 29) + 0) rfl rfl (Nat.le_of_ble_eq_true rfl) rfl dX7_findBids_201 (fun H locs hI => ?_)
                        refine lv_iinc (v := iI (rr + 1)) (lv' := [(6, .int (iI (rr + 1))), (12, .int (iI kk)), (11, .int (iI ii)), (10, .int (iI tw)), (9, .int (iI on)), (8, .int (iI (rr % 10))), (7, .int (iI (rr / 10))), (5, .int (iI wb)), (4, .int (iI wa)), (0, .ref (gA g 18)), (1, .int (iI x)), (2, .int (iI y)), (3, .int (iI y2))]) hx hb dX7_findBids_204 hl (k := 6) rfl (iI_add _ _) (by decide) rfl (fun ls hl => ?_)
                        refine lv_goto (tgt := 30) hx hb dX7_findBids_207 (by decide) ?_
                        exact ih30 (rr + 1) (mset (mset ND 18 30 rr) 18 29 ((ND 18 29) + 0)) (jj + 1) (by omega) (by exact FR.trans hF (FR.trans (FR_m (by decide)) (FR_m (by decide)))) (by (simp only [flN, ← h1.1]; first | (exfalso; omega) | (rw [hz0 (by omega), List.append_nil, mset_s, rw1_s, k1]; simp) | (rw [hz1 (by omega), List.length_append, mset_s, rw1_s, k1]; simp))) (by (simp only [flN, ← h1.1]; first | (exfalso; omega) | (rw [hz0 (by omega), List.append_nil, mset_s, rw1_n _ _ (by decide), mset_s, rw1_s]; exact k2) | (rw [hz1 (by omega), mset_s, rw1_n _ _ (by decide), mset_s, rw1_s, hd_app]; first | (rw [if_pos (by omega)]; done) | (rw [if_neg (by omega)]; exact k2)))) (by omega) _ _ hI ls (lv_sub hl [0, 7, 8, 9, 10, 11, 12] rfl)
                      · refine lv_iconst (v := iI 1) hx hb dX7_findBids_195 rfl ?_
                        refine lv_goto (tgt := 200) hx hb dX7_findBids_196 (by decide) ?_
                        refine r_iadd hx hb dX7_findBids_200 ?_
                        refine r_put C hI 18 (by decide) rfl rfl tyX7 tyX7_ok nmX7 hin7 29 (by decide) (fn := "bidMany") (fd := "I") (index := 196) (by decide +kernel) ⟨rfl, rfl, rfl⟩ rfl (z := (ND 18 29) + 1) rfl rfl (Nat.le_of_ble_eq_true rfl) rfl dX7_findBids_201 (fun H locs hI => ?_)
                        refine lv_iinc (v := iI (rr + 1)) (lv' := [(6, .int (iI (rr + 1))), (12, .int (iI kk)), (11, .int (iI ii)), (10, .int (iI tw)), (9, .int (iI on)), (8, .int (iI (rr % 10))), (7, .int (iI (rr / 10))), (5, .int (iI wb)), (4, .int (iI wa)), (0, .ref (gA g 18)), (1, .int (iI x)), (2, .int (iI y)), (3, .int (iI y2))]) hx hb dX7_findBids_204 hl (k := 6) rfl (iI_add _ _) (by decide) rfl (fun ls hl => ?_)
                        refine lv_goto (tgt := 30) hx hb dX7_findBids_207 (by decide) ?_
                        exact ih30 (rr + 1) (mset (mset ND 18 30 rr) 18 29 ((ND 18 29) + 1)) (jj + 1) (by omega) (by exact FR.trans hF (FR.trans (FR_m (by decide)) (FR_m (by decide)))) (by (simp only [flN, ← h1.1]; first | (exfalso; omega) | (rw [hz0 (by omega), List.append_nil, mset_s, rw1_s, k1]; simp) | (rw [hz1 (by omega), List.length_append, mset_s, rw1_s, k1]; simp))) (by (simp only [flN, ← h1.1]; first | (exfalso; omega) | (rw [hz0 (by omega), List.append_nil, mset_s, rw1_n _ _ (by decide), mset_s, rw1_s]; exact k2) | (rw [hz1 (by omega), mset_s, rw1_n _ _ (by decide), mset_s, rw1_s, hd_app]; first | (rw [if_pos (by omega)]; done) | (rw [if_neg (by omega)]; exact k2)))) (by omega) _ _ hI ls (lv_sub hl [0, 7, 8, 9, 10, 11, 12] rfl)
                · refine lv_iload hx hb dX7_findBids_100 (lv_at hl 1 rfl) ?_
                  refine r_if_eq hx hb (tgt := 151) (by omega) dX7_findBids_102 (by decide) (fun c_10 => ?_) (fun c_10 => ?_)
                  · refine lv_iconst (v := iI 0) hx hb dX7_findBids_151 rfl ?_
                    refine lv_istore (lv' := [(11, .int (iI 0)), (12, .int (iI kk)), (10, .int (iI tw)), (9, .int (iI on)), (8, .int (iI (rr % 10))), (7, .int (iI (rr / 10))), (6, .int (iI rr)), (5, .int (iI wb)), (4, .int (iI wa)), (0, .ref (gA g 18)), (1, .int (iI x)), (2, .int (iI y)), (3, .int (iI y2))]) hx hb dX7_findBids_152 hl (by decide) rfl (fun ls hl => ?_)
                    refine lv_iinc (v := iI (kk + 1)) (lv' := [(12, .int (iI (kk + 1))), (11, .int (iI 0)), (10, .int (iI tw)), (9, .int (iI on)), (8, .int (iI (rr % 10))), (7, .int (iI (rr / 10))), (6, .int (iI rr)), (5, .int (iI wb)), (4, .int (iI wa)), (0, .ref (gA g 18)), (1, .int (iI x)), (2, .int (iI y)), (3, .int (iI y2))]) hx hb dX7_findBids_154 hl (k := 1) rfl (iI_add _ _) (by decide) rfl (fun ls hl => ?_)
                    refine lv_goto (tgt := 93) hx hb dX7_findBids_157 (by decide) ?_
                    exact ih93 (kk + 1) 0 tw on (mm + 1) (by omega) (by exact n1) (by exact n2) (by first | exact Or.inl ⟨rfl, arN_1 (i2.elim id (fun q => absurd q.1 (by omega))).2 (by rw [← i1.1.1]; omega)⟩ | exact Or.inr ⟨rfl, arN_3 (i2.elim (fun q => absurd q.1 (by omega)) id).2⟩ | exact Or.inr ⟨rfl, arN_2 (by rw [← i1.1.1]; omega)⟩) (by omega) _ _ hI ls (lv_sub hl [0, 1, 2, 3, 4, 5, 6, 7, 8, 9, 10, 11, 12] rfl)
                  · refine lv_iload hx hb dX7_findBids_105 (lv_at hl 0 rfl) ?_
                    refine lv_iload hx hb dX7_findBids_107 (lv_at hl 4 rfl) ?_
                    refine r_icmp_lt hx hb (tgt := 120) (by omega) (by omega) dX7_findBids_109 (by decide) (fun c_11 => ?_) (fun c_11 => ?_)
                    · refine lv_iconst (v := iI 0) hx hb dX7_findBids_120 rfl ?_
                      refine lv_iload hx hb dX7_findBids_121 (lv_at hl 3 rfl) ?_
                      refine r_icmp_gt hx hb (tgt := 151) (by decide) (by omega) dX7_findBids_123 (by decide) (fun c_12 => ?_) (fun c_12 => ?_)
                      · refine lv_iconst (v := iI 0) hx hb dX7_findBids_151 rfl ?_
                        refine lv_istore (lv' := [(11, .int (iI 0)), (12, .int (iI kk)), (10, .int (iI tw)), (9, .int (iI on)), (8, .int (iI (rr % 10))), (7, .int (iI (rr / 10))), (6, .int (iI rr)), (5, .int (iI wb)), (4, .int (iI wa)), (0, .ref (gA g 18)), (1, .int (iI x)), (2, .int (iI y)), (3, .int (iI y2))]) hx hb dX7_findBids_152 hl (by decide) rfl (fun ls hl => ?_)
                        refine lv_iinc (v := iI (kk + 1)) (lv' := [(12, .int (iI (kk + 1))), (11, .int (iI 0)), (10, .int (iI tw)), (9, .int (iI on)), (8, .int (iI (rr % 10))), (7, .int (iI (rr / 10))), (6, .int (iI rr)), (5, .int (iI wb)), (4, .int (iI wa)), (0, .ref (gA g 18)), (1, .int (iI x)), (2, .int (iI y)), (3, .int (iI y2))]) hx hb dX7_findBids_154 hl (k := 1) rfl (iI_add _ _) (by decide) rfl (fun ls hl => ?_)
                        refine lv_goto (tgt := 93) hx hb dX7_findBids_157 (by decide) ?_
                        exact ih93 (kk + 1) 0 tw on (mm + 1) (by omega) (by exact n1) (by exact n2) (by first | exact Or.inl ⟨rfl, arN_1 (i2.elim id (fun q => absurd q.1 (by omega))).2 (by rw [← i1.1.1]; omega)⟩ | exact Or.inr ⟨rfl, arN_3 (i2.elim (fun q => absurd q.1 (by omega)) id).2⟩ | exact Or.inr ⟨rfl, arN_2 (by rw [← i1.1.1]; omega)⟩) (by omega) _ _ hI ls (lv_sub hl [0, 1, 2, 3, 4, 5, 6, 7, 8, 9, 10, 11, 12] rfl)
                      · refine lv_iload hx hb dX7_findBids_126 (lv_at hl 5 rfl) ?_
                        refine lv_iload hx hb dX7_findBids_128 (lv_at hl 0 rfl) ?_
                        refine r_icmp_lt hx hb (tgt := 137) (by omega) (by omega) dX7_findBids_130 (by decide) (fun c_13 => ?_) (fun c_13 => ?_)
                        · refine lv_iload hx hb dX7_findBids_137 (lv_at hl 7 rfl) ?_
                          refine lv_iload hx hb dX7_findBids_139 (lv_at hl 0 rfl) ?_
                          refine r_isub hx hb dX7_findBids_141 ?_
                          refine lv_iload hx hb dX7_findBids_142 (lv_at hl 2 rfl) ?_
                          refine r_icmp_gt hx hb (tgt := 151) (by omega) (by omega) dX7_findBids_144 (by decide) (fun c_14 => ?_) (fun c_14 => ?_)
                          · refine lv_iconst (v := iI 0) hx hb dX7_findBids_151 rfl ?_
                            refine lv_istore (lv' := [(11, .int (iI 0)), (12, .int (iI kk)), (10, .int (iI tw)), (9, .int (iI on)), (8, .int (iI (rr % 10))), (7, .int (iI (rr / 10))), (6, .int (iI rr)), (5, .int (iI wb)), (4, .int (iI wa)), (0, .ref (gA g 18)), (1, .int (iI x)), (2, .int (iI y)), (3, .int (iI y2))]) hx hb dX7_findBids_152 hl (by decide) rfl (fun ls hl => ?_)
                            refine lv_iinc (v := iI (kk + 1)) (lv' := [(12, .int (iI (kk + 1))), (11, .int (iI 0)), (10, .int (iI tw)), (9, .int (iI on)), (8, .int (iI (rr % 10))), (7, .int (iI (rr / 10))), (6, .int (iI rr)), (5, .int (iI wb)), (4, .int (iI wa)), (0, .ref (gA g 18)), (1, .int (iI x)), (2, .int (iI y)), (3, .int (iI y2))]) hx hb dX7_findBids_154 hl (k := 1) rfl (iI_add _ _) (by decide) rfl (fun ls hl => ?_)
                            refine lv_goto (tgt := 93) hx hb dX7_findBids_157 (by decide) ?_
                            exact ih93 (kk + 1) 0 tw on (mm + 1) (by omega) (by exact n1) (by exact n2) (by first | exact Or.inl ⟨rfl, arN_1 (i2.elim id (fun q => absurd q.1 (by omega))).2 (by rw [← i1.1.1]; omega)⟩ | exact Or.inr ⟨rfl, arN_3 (i2.elim (fun q => absurd q.1 (by omega)) id).2⟩ | exact Or.inr ⟨rfl, arN_2 (by rw [← i1.1.1]; omega)⟩) (by omega) _ _ hI ls (lv_sub hl [0, 1, 2, 3, 4, 5, 6, 7, 8, 9, 10, 11, 12] rfl)
                          · refine lv_iconst (v := iI 1) hx hb dX7_findBids_147 rfl ?_
                            refine lv_goto (tgt := 152) hx hb dX7_findBids_148 (by decide) ?_
                            refine lv_istore (lv' := [(11, .int (iI 1)), (12, .int (iI kk)), (10, .int (iI tw)), (9, .int (iI on)), (8, .int (iI (rr % 10))), (7, .int (iI (rr / 10))), (6, .int (iI rr)), (5, .int (iI wb)), (4, .int (iI wa)), (0, .ref (gA g 18)), (1, .int (iI x)), (2, .int (iI y)), (3, .int (iI y2))]) hx hb dX7_findBids_152 hl (by decide) rfl (fun ls hl => ?_)
                            refine lv_iinc (v := iI (kk + 1)) (lv' := [(12, .int (iI (kk + 1))), (11, .int (iI 1)), (10, .int (iI tw)), (9, .int (iI on)), (8, .int (iI (rr % 10))), (7, .int (iI (rr / 10))), (6, .int (iI rr)), (5, .int (iI wb)), (4, .int (iI wa)), (0, .ref (gA g 18)), (1, .int (iI x)), (2, .int (iI y)), (3, .int (iI y2))]) hx hb dX7_findBids_154 hl (k := 1) rfl (iI_add _ _) (by decide) rfl (fun ls hl => ?_)
                            refine lv_goto (tgt := 93) hx hb dX7_findBids_157 (by decide) ?_
                            exact ih93 (kk + 1) 1 tw on (mm + 1) (by omega) (by exact n1) (by exact n2) (by first | exact Or.inl ⟨rfl, arN_1 (i2.elim id (fun q => absurd q.1 (by omega))).2 (by rw [← i1.1.1]; omega)⟩ | exact Or.inr ⟨rfl, arN_3 (i2.elim (fun q => absurd q.1 (by omega)) id).2⟩ | exact Or.inr ⟨rfl, arN_2 (by rw [← i1.1.1]; omega)⟩) (by omega) _ _ hI ls (lv_sub hl [0, 1, 2, 3, 4, 5, 6, 7, 8, 9, 10, 11, 12] rfl)
                        · refine lv_iconst (v := iI 0) hx hb dX7_findBids_133 rfl ?_
                          refine lv_goto (tgt := 142) hx hb dX7_findBids_134 (by decide) ?_
                          refine lv_iload hx hb dX7_findBids_142 (lv_at hl 2 rfl) ?_
                          refine r_icmp_gt hx hb (tgt := 151) (by decide) (by omega) dX7_findBids_144 (by decide) (fun c_15 => ?_) (fun c_15 => ?_)
                          · refine lv_iconst (v := iI 0) hx hb dX7_findBids_151 rfl ?_
                            refine lv_istore (lv' := [(11, .int (iI 0)), (12, .int (iI kk)), (10, .int (iI tw)), (9, .int (iI on)), (8, .int (iI (rr % 10))), (7, .int (iI (rr / 10))), (6, .int (iI rr)), (5, .int (iI wb)), (4, .int (iI wa)), (0, .ref (gA g 18)), (1, .int (iI x)), (2, .int (iI y)), (3, .int (iI y2))]) hx hb dX7_findBids_152 hl (by decide) rfl (fun ls hl => ?_)
                            refine lv_iinc (v := iI (kk + 1)) (lv' := [(12, .int (iI (kk + 1))), (11, .int (iI 0)), (10, .int (iI tw)), (9, .int (iI on)), (8, .int (iI (rr % 10))), (7, .int (iI (rr / 10))), (6, .int (iI rr)), (5, .int (iI wb)), (4, .int (iI wa)), (0, .ref (gA g 18)), (1, .int (iI x)), (2, .int (iI y)), (3, .int (iI y2))]) hx hb dX7_findBids_154 hl (k := 1) rfl (iI_add _ _) (by decide) rfl (fun ls hl => ?_)
                            refine lv_goto (tgt := 93) hx hb dX7_findBids_157 (by decide) ?_
                            exact ih93 (kk + 1) 0 tw on (mm + 1) (by omega) (by exact n1) (by exact n2) (by first | exact Or.inl ⟨rfl, arN_1 (i2.elim id (fun q => absurd q.1 (by omega))).2 (by rw [← i1.1.1]; omega)⟩ | exact Or.inr ⟨rfl, arN_3 (i2.elim (fun q => absurd q.1 (by omega)) id).2⟩ | exact Or.inr ⟨rfl, arN_2 (by rw [← i1.1.1]; omega)⟩) (by omega) _ _ hI ls (lv_sub hl [0, 1, 2, 3, 4, 5, 6, 7, 8, 9, 10, 11, 12] rfl)
                          · refine lv_iconst (v := iI 1) hx hb dX7_findBids_147 rfl ?_
                            refine lv_goto (tgt := 152) hx hb dX7_findBids_148 (by decide) ?_
                            refine lv_istore (lv' := [(11, .int (iI 1)), (12, .int (iI kk)), (10, .int (iI tw)), (9, .int (iI on)), (8, .int (iI (rr % 10))), (7, .int (iI (rr / 10))), (6, .int (iI rr)), (5, .int (iI wb)), (4, .int (iI wa)), (0, .ref (gA g 18)), (1, .int (iI x)), (2, .int (iI y)), (3, .int (iI y2))]) hx hb dX7_findBids_152 hl (by decide) rfl (fun ls hl => ?_)
                            refine lv_iinc (v := iI (kk + 1)) (lv' := [(12, .int (iI (kk + 1))), (11, .int (iI 1)), (10, .int (iI tw)), (9, .int (iI on)), (8, .int (iI (rr % 10))), (7, .int (iI (rr / 10))), (6, .int (iI rr)), (5, .int (iI wb)), (4, .int (iI wa)), (0, .ref (gA g 18)), (1, .int (iI x)), (2, .int (iI y)), (3, .int (iI y2))]) hx hb dX7_findBids_154 hl (k := 1) rfl (iI_add _ _) (by decide) rfl (fun ls hl => ?_)
                            refine lv_goto (tgt := 93) hx hb dX7_findBids_157 (by decide) ?_
                            exact ih93 (kk + 1) 1 tw on (mm + 1) (by omega) (by exact n1) (by exact n2) (by first | exact Or.inl ⟨rfl, arN_1 (i2.elim id (fun q => absurd q.1 (by omega))).2 (by rw [← i1.1.1]; omega)⟩ | exact Or.inr ⟨rfl, arN_3 (i2.elim (fun q => absurd q.1 (by omega)) id).2⟩ | exact Or.inr ⟨rfl, arN_2 (by rw [← i1.1.1]; omega)⟩) (by omega) _ _ hI ls (lv_sub hl [0, 1, 2, 3, 4, 5, 6, 7, 8, 9, 10, 11, 12] rfl)
                    · refine lv_iload hx hb dX7_findBids_112 (lv_at hl 8 rfl) ?_
                      refine lv_iload hx hb dX7_findBids_114 (lv_at hl 0 rfl) ?_
                      refine r_isub hx hb dX7_findBids_116 ?_
                      refine lv_goto (tgt := 121) hx hb dX7_findBids_117 (by decide) ?_
                      refine lv_iload hx hb dX7_findBids_121 (lv_at hl 3 rfl) ?_
                      refine r_icmp_gt hx hb (tgt := 151) (by omega) (by omega) dX7_findBids_123 (by decide) (fun c_16 => ?_) (fun c_16 => ?_)
                      · refine lv_iconst (v := iI 0) hx hb dX7_findBids_151 rfl ?_
                        refine lv_istore (lv' := [(11, .int (iI 0)), (12, .int (iI kk)), (10, .int (iI tw)), (9, .int (iI on)), (8, .int (iI (rr % 10))), (7, .int (iI (rr / 10))), (6, .int (iI rr)), (5, .int (iI wb)), (4, .int (iI wa)), (0, .ref (gA g 18)), (1, .int (iI x)), (2, .int (iI y)), (3, .int (iI y2))]) hx hb dX7_findBids_152 hl (by decide) rfl (fun ls hl => ?_)
                        refine lv_iinc (v := iI (kk + 1)) (lv' := [(12, .int (iI (kk + 1))), (11, .int (iI 0)), (10, .int (iI tw)), (9, .int (iI on)), (8, .int (iI (rr % 10))), (7, .int (iI (rr / 10))), (6, .int (iI rr)), (5, .int (iI wb)), (4, .int (iI wa)), (0, .ref (gA g 18)), (1, .int (iI x)), (2, .int (iI y)), (3, .int (iI y2))]) hx hb dX7_findBids_154 hl (k := 1) rfl (iI_add _ _) (by decide) rfl (fun ls hl => ?_)
                        refine lv_goto (tgt := 93) hx hb dX7_findBids_157 (by decide) ?_
                        exact ih93 (kk + 1) 0 tw on (mm + 1) (by omega) (by exact n1) (by exact n2) (by first | exact Or.inl ⟨rfl, arN_1 (i2.elim id (fun q => absurd q.1 (by omega))).2 (by rw [← i1.1.1]; omega)⟩ | exact Or.inr ⟨rfl, arN_3 (i2.elim (fun q => absurd q.1 (by omega)) id).2⟩ | exact Or.inr ⟨rfl, arN_2 (by rw [← i1.1.1]; omega)⟩) (by omega) _ _ hI ls (lv_sub hl [0, 1, 2, 3, 4, 5, 6, 7, 8, 9, 10, 11, 12] rfl)
                      · refine lv_iload hx hb dX7_findBids_126 (lv_at hl 5 rfl) ?_
                        refine lv_iload hx hb dX7_findBids_128 (lv_at hl 0 rfl) ?_
                        refine r_icmp_lt hx hb (tgt := 137) (by omega) (by omega) dX7_findBids_130 (by decide) (fun c_17 => ?_) (fun c_17 => ?_)
                        · refine lv_iload hx hb dX7_findBids_137 (lv_at hl 7 rfl) ?_
                          refine lv_iload hx hb dX7_findBids_139 (lv_at hl 0 rfl) ?_
                          refine r_isub hx hb dX7_findBids_141 ?_
                          refine lv_iload hx hb dX7_findBids_142 (lv_at hl 2 rfl) ?_
                          refine r_icmp_gt hx hb (tgt := 151) (by omega) (by omega) dX7_findBids_144 (by decide) (fun c_18 => ?_) (fun c_18 => ?_)
                          · refine lv_iconst (v := iI 0) hx hb dX7_findBids_151 rfl ?_
                            refine lv_istore (lv' := [(11, .int (iI 0)), (12, .int (iI kk)), (10, .int (iI tw)), (9, .int (iI on)), (8, .int (iI (rr % 10))), (7, .int (iI (rr / 10))), (6, .int (iI rr)), (5, .int (iI wb)), (4, .int (iI wa)), (0, .ref (gA g 18)), (1, .int (iI x)), (2, .int (iI y)), (3, .int (iI y2))]) hx hb dX7_findBids_152 hl (by decide) rfl (fun ls hl => ?_)
                            refine lv_iinc (v := iI (kk + 1)) (lv' := [(12, .int (iI (kk + 1))), (11, .int (iI 0)), (10, .int (iI tw)), (9, .int (iI on)), (8, .int (iI (rr % 10))), (7, .int (iI (rr / 10))), (6, .int (iI rr)), (5, .int (iI wb)), (4, .int (iI wa)), (0, .ref (gA g 18)), (1, .int (iI x)), (2, .int (iI y)), (3, .int (iI y2))]) hx hb dX7_findBids_154 hl (k := 1) rfl (iI_add _ _) (by decide) rfl (fun ls hl => ?_)
                            refine lv_goto (tgt := 93) hx hb dX7_findBids_157 (by decide) ?_
                            exact ih93 (kk + 1) 0 tw on (mm + 1) (by omega) (by exact n1) (by exact n2) (by first | exact Or.inl ⟨rfl, arN_1 (i2.elim id (fun q => absurd q.1 (by omega))).2 (by rw [← i1.1.1]; omega)⟩ | exact Or.inr ⟨rfl, arN_3 (i2.elim (fun q => absurd q.1 (by omega)) id).2⟩ | exact Or.inr ⟨rfl, arN_2 (by rw [← i1.1.1]; omega)⟩) (by omega) _ _ hI ls (lv_sub hl [0, 1, 2, 3, 4, 5, 6, 7, 8, 9, 10, 11, 12] rfl)
                          · refine lv_iconst (v := iI 1) hx hb dX7_findBids_147 rfl ?_
                            refine lv_goto (tgt := 152) hx hb dX7_findBids_148 (by decide) ?_
                            refine lv_istore (lv' := [(11, .int (iI 1)), (12, .int (iI kk)), (10, .int (iI tw)), (9, .int (iI on)), (8, .int (iI (rr % 10))), (7, .int (iI (rr / 10))), (6, .int (iI rr)), (5, .int (iI wb)), (4, .int (iI wa)), (0, .ref (gA g 18)), (1, .int (iI x)), (2, .int (iI y)), (3, .int (iI y2))]) hx hb dX7_findBids_152 hl (by decide) rfl (fun ls hl => ?_)
                            refine lv_iinc (v := iI (kk + 1)) (lv' := [(12, .int (iI (kk + 1))), (11, .int (iI 1)), (10, .int (iI tw)), (9, .int (iI on)), (8, .int (iI (rr % 10))), (7, .int (iI (rr / 10))), (6, .int (iI rr)), (5, .int (iI wb)), (4, .int (iI wa)), (0, .ref (gA g 18)), (1, .int (iI x)), (2, .int (iI y)), (3, .int (iI y2))]) hx hb dX7_findBids_154 hl (k := 1) rfl (iI_add _ _) (by decide) rfl (fun ls hl => ?_)
                            refine lv_goto (tgt := 93) hx hb dX7_findBids_157 (by decide) ?_
                            exact ih93 (kk + 1) 1 tw on (mm + 1) (by omega) (by exact n1) (by exact n2) (by first | exact Or.inl ⟨rfl, arN_1 (i2.elim id (fun q => absurd q.1 (by omega))).2 (by rw [← i1.1.1]; omega)⟩ | exact Or.inr ⟨rfl, arN_3 (i2.elim (fun q => absurd q.1 (by omega)) id).2⟩ | exact Or.inr ⟨rfl, arN_2 (by rw [← i1.1.1]; omega)⟩) (by omega) _ _ hI ls (lv_sub hl [0, 1, 2, 3, 4, 5, 6, 7, 8, 9, 10, 11, 12] rfl)
                        · refine lv_iconst (v := iI 0) hx hb dX7_findBids_133 rfl ?_
                          refine lv_goto (tgt := 142) hx hb dX7_findBids_134 (by decide) ?_
                          refine lv_iload hx hb dX7_findBids_142 (lv_at hl 2 rfl) ?_
                          refine r_icmp_gt hx hb (tgt := 151) (by decide) (by omega) dX7_findBids_144 (by decide) (fun c_19 => ?_) (fun c_19 => ?_)
                          · refine lv_iconst (v := iI 0) hx hb dX7_findBids_151 rfl ?_
                            refine lv_istore (lv' := [(11, .int (iI 0)), (12, .int (iI kk)), (10, .int (iI tw)), (9, .int (iI on)), (8, .int (iI (rr % 10))), (7, .int (iI (rr / 10))), (6, .int (iI rr)), (5, .int (iI wb)), (4, .int (iI wa)), (0, .ref (gA g 18)), (1, .int (iI x)), (2, .int (iI y)), (3, .int (iI y2))]) hx hb dX7_findBids_152 hl (by decide) rfl (fun ls hl => ?_)
                            refine lv_iinc (v := iI (kk + 1)) (lv' := [(12, .int (iI (kk + 1))), (11, .int (iI 0)), (10, .int (iI tw)), (9, .int (iI on)), (8, .int (iI (rr % 10))), (7, .int (iI (rr / 10))), (6, .int (iI rr)), (5, .int (iI wb)), (4, .int (iI wa)), (0, .ref (gA g 18)), (1, .int (iI x)), (2, .int (iI y)), (3, .int (iI y2))]) hx hb dX7_findBids_154 hl (k := 1) rfl (iI_add _ _) (by decide) rfl (fun ls hl => ?_)
                            refine lv_goto (tgt := 93) hx hb dX7_findBids_157 (by decide) ?_
                            exact ih93 (kk + 1) 0 tw on (mm + 1) (by omega) (by exact n1) (by exact n2) (by first | exact Or.inl ⟨rfl, arN_1 (i2.elim id (fun q => absurd q.1 (by omega))).2 (by rw [← i1.1.1]; omega)⟩ | exact Or.inr ⟨rfl, arN_3 (i2.elim (fun q => absurd q.1 (by omega)) id).2⟩ | exact Or.inr ⟨rfl, arN_2 (by rw [← i1.1.1]; omega)⟩) (by omega) _ _ hI ls (lv_sub hl [0, 1, 2, 3, 4, 5, 6, 7, 8, 9, 10, 11, 12] rfl)
                          · refine lv_iconst (v := iI 1) hx hb dX7_findBids_147 rfl ?_
                            refine lv_goto (tgt := 152) hx hb dX7_findBids_148 (by decide) ?_
                            refine lv_istore (lv' := [(11, .int (iI 1)), (12, .int (iI kk)), (10, .int (iI tw)), (9, .int (iI on)), (8, .int (iI (rr % 10))), (7, .int (iI (rr / 10))), (6, .int (iI rr)), (5, .int (iI wb)), (4, .int (iI wa)), (0, .ref (gA g 18)), (1, .int (iI x)), (2, .int (iI y)), (3, .int (iI y2))]) hx hb dX7_findBids_152 hl (by decide) rfl (fun ls hl => ?_)
                            refine lv_iinc (v := iI (kk + 1)) (lv' := [(12, .int (iI (kk + 1))), (11, .int (iI 1)), (10, .int (iI tw)), (9, .int (iI on)), (8, .int (iI (rr % 10))), (7, .int (iI (rr / 10))), (6, .int (iI rr)), (5, .int (iI wb)), (4, .int (iI wa)), (0, .ref (gA g 18)), (1, .int (iI x)), (2, .int (iI y)), (3, .int (iI y2))]) hx hb dX7_findBids_154 hl (k := 1) rfl (iI_add _ _) (by decide) rfl (fun ls hl => ?_)
                            refine lv_goto (tgt := 93) hx hb dX7_findBids_157 (by decide) ?_
                            exact ih93 (kk + 1) 1 tw on (mm + 1) (by omega) (by exact n1) (by exact n2) (by first | exact Or.inl ⟨rfl, arN_1 (i2.elim id (fun q => absurd q.1 (by omega))).2 (by rw [← i1.1.1]; omega)⟩ | exact Or.inr ⟨rfl, arN_3 (i2.elim (fun q => absurd q.1 (by omega)) id).2⟩ | exact Or.inr ⟨rfl, arN_2 (by rw [← i1.1.1]; omega)⟩) (by omega) _ _ hI ls (lv_sub hl [0, 1, 2, 3, 4, 5, 6, 7, 8, 9, 10, 11, 12] rfl)
            exact lp93 _ 0 1 (wb - (rr % 10)) 0 0 (by omega) (by first | (rw [gF_1.1 (by omega)]; done) | (rw [gF_1.2 (by omega)]; done)) (by first | (rw [gO_1.1 (by omega)]; done) | (rw [gO_1.2 (by omega)]; done)) (by exact Or.inl ⟨rfl, rfl⟩) (Nat.lt_succ_self _) _ _ hI ls (lv_sub hl [0, 1, 2, 3, 4, 5, 6, 7, 8, 9, 10, 11, 12] rfl)
          · refine lv_iconst (v := iI 0) hx hb dX7_findBids_76 rfl ?_
            refine lv_goto (tgt := 85) hx hb dX7_findBids_77 (by decide) ?_
            refine lv_istore (lv' := [(10, .int (iI 0)), (9, .int (iI 0)), (8, .int (iI (rr % 10))), (7, .int (iI (rr / 10))), (6, .int (iI rr)), (5, .int (iI wb)), (4, .int (iI wa)), (0, .ref (gA g 18)), (1, .int (iI x)), (2, .int (iI y)), (3, .int (iI y2))]) hx hb dX7_findBids_85 hl (by decide) rfl (fun ls hl => ?_)
            refine lv_iconst (v := iI 1) hx hb dX7_findBids_87 rfl ?_
            refine lv_istore (lv' := [(11, .int (iI 1)), (10, .int (iI 0)), (9, .int (iI 0)), (8, .int (iI (rr % 10))), (7, .int (iI (rr / 10))), (6, .int (iI rr)), (5, .int (iI wb)), (4, .int (iI wa)), (0, .ref (gA g 18)), (1, .int (iI x)), (2, .int (iI y)), (3, .int (iI y2))]) hx hb dX7_findBids_88 hl (by decide) rfl (fun ls hl => ?_)
            refine lv_iconst (v := iI 0) hx hb dX7_findBids_90 rfl ?_
            refine lv_istore (lv' := [(12, .int (iI 0)), (11, .int (iI 1)), (10, .int (iI 0)), (9, .int (iI 0)), (8, .int (iI (rr % 10))), (7, .int (iI (rr / 10))), (6, .int (iI rr)), (5, .int (iI wb)), (4, .int (iI wa)), (0, .ref (gA g 18)), (1, .int (iI x)), (2, .int (iI y)), (3, .int (iI y2))]) hx hb dX7_findBids_91 hl (by decide) rfl (fun ls hl => ?_)
            have lp93 : ∀ (n93 : Nat) (kk : Int) (ii : Int) (tw : Int) (on : Int) (mm : Nat), ((kk = (mm : Int) ∧ mm ≤ 10) ∧ (ii = 0 ∨ ii = 1)) → (on = gFst (rr / 10) (rr % 10) wa) → (tw = gOth (rr / 10) (rr % 10) wb) → ((ii = 1 ∧ arN (rr / 10) (rr % 10) wa wb mm = true) ∨ (ii = 0 ∧ arN (rr / 10) (rr % 10) wa wb mm = false)) → 10 - mm < n93 → ∀ (H : Heap) (locs : List Loc), HI g s H locs ND → ∀ ls : Array Slot, lv_has ls 13 [(12, .int (iI kk)), (11, .int (iI ii)), (10, .int (iI tw)), (9, .int (iI on)), (8, .int (iI (rr % 10))), (7, .int (iI (rr / 10))), (6, .int (iI rr)), (5, .int (iI wb)), (4, .int (iI wa)), (0, .ref (gA g 18)), (1, .int (iI x)), (2, .int (iI y)), (3, .int (iI y2))] → W p l e ({ frames := 3, cells := 0, slots := 0, locals := 68 } : Room) s m ([.ref (gA g 18), .int (iI x), .int (iI y), .int (iI y2)] : List Value).toArray below meth c H locs 0 0 (MQ below (QV g (pX (fun u => FR M u ∧ u 18 29 = ((flN (bA (woO A x y) (woO A x y2)) 10).length : Int) ∧ u 18 30 = (flN (bA (woO A x y) (woO A x y2)) 10).headD (-9)))) ([.ref (gA g 18), .int (iI x), .int (iI y), .int (iI y2)] : List Value).toArray s 0 0 (AA g)) (F0 m 93 ls []) := by
              intro n93
              induction n93 with
              | zero => intro kk ii tw on mm i1 n1 n2 i2 hn93; exact absurd hn93 (Nat.not_lt_zero _)
              | succ n93 ih93 =>
                intro kk ii tw on mm i1 n1 n2 i2 hn93 H locs hI ls hl
                have a1 := gF_1 (a := kk) (b := rr % 10) (w := wa)
                have a2 := gO_1 (a := rr / 10) (b := kk) (w := wb)
                have a3 := gF_1 (a := rr / 10) (b := rr % 10) (w := wa)
                have a4 := gO_1 (a := rr / 10) (b := rr % 10) (w := wb)
                refine lv_iload hx hb dX7_findBids_93 (lv_at hl 0 rfl) ?_
                refine lv_bipush (v := iI 10) hx hb dX7_findBids_95 (by decide +kernel) ?_
                refine r_icmp_ge hx hb (tgt := 160) (by omega) (by decide) dX7_findBids_97 (by decide) (fun c_20 => ?_) (fun c_20 => ?_)
                · have e10 : mm = 10 := by omega
                  rw [e10] at i2
                  have hz0 : ii = 0 → bO wa wb (rr / 10) (rr % 10) = [] := fun q => by
                    unfold bO
                    rw [if_neg (by rw [(i2.elim (fun q2 => absurd q2.1 (by omega)) id).2]; decide)]
                  have hz1 : ¬ ii = 0 → bO wa wb (rr / 10) (rr % 10) = [rr] := fun q => by
                    unfold bO
                    rw [if_pos (i2.elim id (fun q2 => absurd q2.1 q)).2, show 10 * (rr / 10) + rr % 10 = rr by omega]
                  refine lv_aload_n hx hb dX7_findBids_160 rfl (lv_at hl 9 rfl) ?_
                  refine lv_iload hx hb dX7_findBids_161 (lv_at hl 1 rfl) ?_
                  refine r_if_eq hx hb (tgt := 178) (by omega) dX7_findBids_163 (by decide) (fun c_21 => ?_) (fun c_21 => ?_)
                  · refine lv_aload_n hx hb dX7_findBids_178 rfl (lv_at hl 9 rfl) ?_
                    refine r_get C hI 18 (by decide) rfl rfl hin7 30 (by decide) (fn := "bidFirst") (fd := "I") (index := 199) (by decide +kernel) ⟨rfl, rfl, rfl⟩ (v := .int (iI (ND 18 30))) rfl dX7_findBids_179 ?_
                    refine r_put C hI 18 (by decide) rfl rfl tyX7 tyX7_ok nmX7 hin7 30 (by decide) (fn := "bidFirst") (fd := "I") (index := 199) (by decide +kernel) ⟨rfl, rfl, rfl⟩ rfl (z := ND 18 30) rfl rfl (Nat.le_of_ble_eq_true rfl) rfl dX7_findBids_182 (fun H locs hI => ?_)
                    refine lv_aload_n hx hb dX7_findBids_185 rfl (lv_at hl 9 rfl) ?_
                    refine lv_dup hx hb dX7_findBids_186 rfl ?_
                    refine r_get C hI 18 (by decide) rfl rfl hin7 29 (by decide) (fn := "bidMany") (fd := "I") (index := 196) (by decide +kernel) ⟨rfl, rfl, rfl⟩ (v := .int (iI (ND 18 29))) rfl dX7_findBids_187 ?_
                    refine r_eqI (z2 := ND 18 29) (by first | rfl | (repeat first | rw [mset_s, rw1_s] | rw [mset_s, rw1_n _ _ (by omega)] | rw [mset_n _ _ _ (by decide)])) ?_
                    refine lv_iload hx hb dX7_findBids_190 (lv_at hl 1 rfl) ?_
                    refine r_if_eq hx hb (tgt := 199) (by omega) dX7_findBids_192 (by decide) (fun c_22 => ?_) (fun c_22 => ?_)
                    · refine lv_iconst (v := iI 0) hx hb dX7_findBids_199 rfl ?_
                      refine r_iadd hx hb dX7_findBids_200 ?_
                      refine r_put C hI 18 (by decide) rfl rfl tyX7 tyX7_ok nmX7 hin7 29 (by decide) (fn := "bidMany") (fd := "I") (index := 196) (by decide +kernel) ⟨rfl, rfl, rfl⟩ rfl (z := (ND 18 29) + 0) rfl rfl (Nat.le_of_ble_eq_true rfl) rfl dX7_findBids_201 (fun H locs hI => ?_)
                      refine lv_iinc (v := iI (rr + 1)) (lv' := [(6, .int (iI (rr + 1))), (12, .int (iI kk)), (11, .int (iI ii)), (10, .int (iI tw)), (9, .int (iI on)), (8, .int (iI (rr % 10))), (7, .int (iI (rr / 10))), (5, .int (iI wb)), (4, .int (iI wa)), (0, .ref (gA g 18)), (1, .int (iI x)), (2, .int (iI y)), (3, .int (iI y2))]) hx hb dX7_findBids_204 hl (k := 6) rfl (iI_add _ _) (by decide) rfl (fun ls hl => ?_)
                      refine lv_goto (tgt := 30) hx hb dX7_findBids_207 (by decide) ?_
                      exact ih30 (rr + 1) (mset (mset ND 18 30 (ND 18 30)) 18 29 ((ND 18 29) + 0)) (jj + 1) (by omega) (by exact FR.trans hF (FR.trans (FR_m (by decide)) (FR_m (by decide)))) (by (simp only [flN, ← h1.1]; first | (exfalso; omega) | (rw [hz0 (by omega), List.append_nil, mset_s, rw1_s, k1]; simp) | (rw [hz1 (by omega), List.length_append, mset_s, rw1_s, k1]; simp))) (by (simp only [flN, ← h1.1]; first | (exfalso; omega) | (rw [hz0 (by omega), List.append_nil, mset_s, rw1_n _ _ (by decide), mset_s, rw1_s]; exact k2) | (rw [hz1 (by omega), mset_s, rw1_n _ _ (by decide), mset_s, rw1_s, hd_app]; first | (rw [if_pos (by omega)]; done) | (rw [if_neg (by omega)]; exact k2)))) (by omega) _ _ hI ls (lv_sub hl [0, 7, 8, 9, 10, 11, 12] rfl)
                    · refine lv_iconst (v := iI 1) hx hb dX7_findBids_195 rfl ?_
                      refine lv_goto (tgt := 200) hx hb dX7_findBids_196 (by decide) ?_
                      refine r_iadd hx hb dX7_findBids_200 ?_
                      refine r_put C hI 18 (by decide) rfl rfl tyX7 tyX7_ok nmX7 hin7 29 (by decide) (fn := "bidMany") (fd := "I") (index := 196) (by decide +kernel) ⟨rfl, rfl, rfl⟩ rfl (z := (ND 18 29) + 1) rfl rfl (Nat.le_of_ble_eq_true rfl) rfl dX7_findBids_201 (fun H locs hI => ?_)
                      refine lv_iinc (v := iI (rr + 1)) (lv' := [(6, .int (iI (rr + 1))), (12, .int (iI kk)), (11, .int (iI ii)), (10, .int (iI tw)), (9, .int (iI on)), (8, .int (iI (rr % 10))), (7, .int (iI (rr / 10))), (5, .int (iI wb)), (4, .int (iI wa)), (0, .ref (gA g 18)), (1, .int (iI x)), (2, .int (iI y)), (3, .int (iI y2))]) hx hb dX7_findBids_204 hl (k := 6) rfl (iI_add _ _) (by decide) rfl (fun ls hl => ?_)
                      refine lv_goto (tgt := 30) hx hb dX7_findBids_207 (by decide) ?_
                      exact ih30 (rr + 1) (mset (mset ND 18 30 (ND 18 30)) 18 29 ((ND 18 29) + 1)) (jj + 1) (by omega) (by exact FR.trans hF (FR.trans (FR_m (by decide)) (FR_m (by decide)))) (by (simp only [flN, ← h1.1]; first | (exfalso; omega) | (rw [hz0 (by omega), List.append_nil, mset_s, rw1_s, k1]; simp) | (rw [hz1 (by omega), List.length_append, mset_s, rw1_s, k1]; simp))) (by (simp only [flN, ← h1.1]; first | (exfalso; omega) | (rw [hz0 (by omega), List.append_nil, mset_s, rw1_n _ _ (by decide), mset_s, rw1_s]; exact k2) | (rw [hz1 (by omega), mset_s, rw1_n _ _ (by decide), mset_s, rw1_s, hd_app]; first | (rw [if_pos (by omega)]; done) | (rw [if_neg (by omega)]; exact k2)))) (by omega) _ _ hI ls (lv_sub hl [0, 7, 8, 9, 10, 11, 12] rfl)
                  · refine lv_aload_n hx hb dX7_findBids_166 rfl (lv_at hl 9 rfl) ?_
                    refine r_get C hI 18 (by decide) rfl rfl hin7 29 (by decide) (fn := "bidMany") (fd := "I") (index := 196) (by decide +kernel) ⟨rfl, rfl, rfl⟩ (v := .int (iI (ND 18 29))) rfl dX7_findBids_167 ?_
                    refine r_if_ne hx hb (tgt := 178) (by omega) dX7_findBids_170 (by decide) (fun c_23 => ?_) (fun c_23 => ?_)
                    · refine lv_aload_n hx hb dX7_findBids_178 rfl (lv_at hl 9 rfl) ?_
                      refine r_get C hI 18 (by decide) rfl rfl hin7 30 (by decide) (fn := "bidFirst") (fd := "I") (index := 199) (by decide +kernel) ⟨rfl, rfl, rfl⟩ (v := .int (iI (ND 18 30))) rfl dX7_findBids_179 ?_
                      refine r_put C hI 18 (by decide) rfl rfl tyX7 tyX7_ok nmX7 hin7 30 (by decide) (fn := "bidFirst") (fd := "I") (index := 199) (by decide +kernel) ⟨rfl, rfl, rfl⟩ rfl (z := ND 18 30) rfl rfl (Nat.le_of_ble_eq_true rfl) rfl dX7_findBids_182 (fun H locs hI => ?_)
                      refine lv_aload_n hx hb dX7_findBids_185 rfl (lv_at hl 9 rfl) ?_
                      refine lv_dup hx hb dX7_findBids_186 rfl ?_
                      refine r_get C hI 18 (by decide) rfl rfl hin7 29 (by decide) (fn := "bidMany") (fd := "I") (index := 196) (by decide +kernel) ⟨rfl, rfl, rfl⟩ (v := .int (iI (ND 18 29))) rfl dX7_findBids_187 ?_
                      refine r_eqI (z2 := ND 18 29) (by first | rfl | (repeat first | rw [mset_s, rw1_s] | rw [mset_s, rw1_n _ _ (by omega)] | rw [mset_n _ _ _ (by decide)])) ?_
                      refine lv_iload hx hb dX7_findBids_190 (lv_at hl 1 rfl) ?_
                      refine r_if_eq hx hb (tgt := 199) (by omega) dX7_findBids_192 (by decide) (fun c_24 => ?_) (fun c_24 => ?_)
                      · refine lv_iconst (v := iI 0) hx hb dX7_findBids_199 rfl ?_
                        refine r_iadd hx hb dX7_findBids_200 ?_
                        refine r_put C hI 18 (by decide) rfl rfl tyX7 tyX7_ok nmX7 hin7 29 (by decide) (fn := "bidMany") (fd := "I") (index := 196) (by decide +kernel) ⟨rfl, rfl, rfl⟩ rfl (z := (ND 18 29) + 0) rfl rfl (Nat.le_of_ble_eq_true rfl) rfl dX7_findBids_201 (fun H locs hI => ?_)
                        refine lv_iinc (v := iI (rr + 1)) (lv' := [(6, .int (iI (rr + 1))), (12, .int (iI kk)), (11, .int (iI ii)), (10, .int (iI tw)), (9, .int (iI on)), (8, .int (iI (rr % 10))), (7, .int (iI (rr / 10))), (5, .int (iI wb)), (4, .int (iI wa)), (0, .ref (gA g 18)), (1, .int (iI x)), (2, .int (iI y)), (3, .int (iI y2))]) hx hb dX7_findBids_204 hl (k := 6) rfl (iI_add _ _) (by decide) rfl (fun ls hl => ?_)
                        refine lv_goto (tgt := 30) hx hb dX7_findBids_207 (by decide) ?_
                        exact ih30 (rr + 1) (mset (mset ND 18 30 (ND 18 30)) 18 29 ((ND 18 29) + 0)) (jj + 1) (by omega) (by exact FR.trans hF (FR.trans (FR_m (by decide)) (FR_m (by decide)))) (by (simp only [flN, ← h1.1]; first | (exfalso; omega) | (rw [hz0 (by omega), List.append_nil, mset_s, rw1_s, k1]; simp) | (rw [hz1 (by omega), List.length_append, mset_s, rw1_s, k1]; simp))) (by (simp only [flN, ← h1.1]; first | (exfalso; omega) | (rw [hz0 (by omega), List.append_nil, mset_s, rw1_n _ _ (by decide), mset_s, rw1_s]; exact k2) | (rw [hz1 (by omega), mset_s, rw1_n _ _ (by decide), mset_s, rw1_s, hd_app]; first | (rw [if_pos (by omega)]; done) | (rw [if_neg (by omega)]; exact k2)))) (by omega) _ _ hI ls (lv_sub hl [0, 7, 8, 9, 10, 11, 12] rfl)
                      · refine lv_iconst (v := iI 1) hx hb dX7_findBids_195 rfl ?_
                        refine lv_goto (tgt := 200) hx hb dX7_findBids_196 (by decide) ?_
                        refine r_iadd hx hb dX7_findBids_200 ?_
                        refine r_put C hI 18 (by decide) rfl rfl tyX7 tyX7_ok nmX7 hin7 29 (by decide) (fn := "bidMany") (fd := "I") (index := 196) (by decide +kernel) ⟨rfl, rfl, rfl⟩ rfl (z := (ND 18 29) + 1) rfl rfl (Nat.le_of_ble_eq_true rfl) rfl dX7_findBids_201 (fun H locs hI => ?_)
                        refine lv_iinc (v := iI (rr + 1)) (lv' := [(6, .int (iI (rr + 1))), (12, .int (iI kk)), (11, .int (iI ii)), (10, .int (iI tw)), (9, .int (iI on)), (8, .int (iI (rr % 10))), (7, .int (iI (rr / 10))), (5, .int (iI wb)), (4, .int (iI wa)), (0, .ref (gA g 18)), (1, .int (iI x)), (2, .int (iI y)), (3, .int (iI y2))]) hx hb dX7_findBids_204 hl (k := 6) rfl (iI_add _ _) (by decide) rfl (fun ls hl => ?_)
                        refine lv_goto (tgt := 30) hx hb dX7_findBids_207 (by decide) ?_
                        exact ih30 (rr + 1) (mset (mset ND 18 30 (ND 18 30)) 18 29 ((ND 18 29) + 1)) (jj + 1) (by omega) (by exact FR.trans hF (FR.trans (FR_m (by decide)) (FR_m (by decide)))) (by (simp only [flN, ← h1.1]; first | (exfalso; omega) | (rw [hz0 (by omega), List.append_nil, mset_s, rw1_s, k1]; simp) | (rw [hz1 (by omega), List.length_append, mset_s, rw1_s, k1]; simp))) (by (simp only [flN, ← h1.1]; first | (exfalso; omega) | (rw [hz0 (by omega), List.append_nil, mset_s, rw1_n _ _ (by decide), mset_s, rw1_s]; exact k2) | (rw [hz1 (by omega), mset_s, rw1_n _ _ (by decide), mset_s, rw1_s, hd_app]; first | (rw [if_pos (by omega)]; done) | (rw [if_neg (by omega)]; exact k2)))) (by omega) _ _ hI ls (lv_sub hl [0, 7, 8, 9, 10, 11, 12] rfl)
                    · refine lv_iload hx hb dX7_findBids_173 (lv_at hl 6 rfl) ?_
                      refine lv_goto (tgt := 182) hx hb dX7_findBids_175 (by decide) ?_
                      refine r_put C hI 18 (by decide) rfl rfl tyX7 tyX7_ok nmX7 hin7 30 (by decide) (fn := "bidFirst") (fd := "I") (index := 199) (by decide +kernel) ⟨rfl, rfl, rfl⟩ rfl (z := rr) rfl rfl (Nat.le_of_ble_eq_true rfl) rfl dX7_findBids_182 (fun H locs hI => ?_)
                      refine lv_aload_n hx hb dX7_findBids_185 rfl (lv_at hl 9 rfl) ?_
                      refine lv_dup hx hb dX7_findBids_186 rfl ?_
                      refine r_get C hI 18 (by decide) rfl rfl hin7 29 (by decide) (fn := "bidMany") (fd := "I") (index := 196) (by decide +kernel) ⟨rfl, rfl, rfl⟩ (v := .int (iI (ND 18 29))) rfl dX7_findBids_187 ?_
                      refine r_eqI (z2 := ND 18 29) (by first | rfl | (repeat first | rw [mset_s, rw1_s] | rw [mset_s, rw1_n _ _ (by omega)] | rw [mset_n _ _ _ (by decide)])) ?_
                      refine lv_iload hx hb dX7_findBids_190 (lv_at hl 1 rfl) ?_
                      refine r_if_eq hx hb (tgt := 199) (by omega) dX7_findBids_192 (by decide) (fun c_25 => ?_) (fun c_25 => ?_)
                      · refine lv_iconst (v := iI 0) hx hb dX7_findBids_199 rfl ?_
                        refine r_iadd hx hb dX7_findBids_200 ?_
                        refine r_put C hI 18 (by decide) rfl rfl tyX7 tyX7_ok nmX7 hin7 29 (by decide) (fn := "bidMany") (fd := "I") (index := 196) (by decide +kernel) ⟨rfl, rfl, rfl⟩ rfl (z := (ND 18 29) + 0) rfl rfl (Nat.le_of_ble_eq_true rfl) rfl dX7_findBids_201 (fun H locs hI => ?_)
                        refine lv_iinc (v := iI (rr + 1)) (lv' := [(6, .int (iI (rr + 1))), (12, .int (iI kk)), (11, .int (iI ii)), (10, .int (iI tw)), (9, .int (iI on)), (8, .int (iI (rr % 10))), (7, .int (iI (rr / 10))), (5, .int (iI wb)), (4, .int (iI wa)), (0, .ref (gA g 18)), (1, .int (iI x)), (2, .int (iI y)), (3, .int (iI y2))]) hx hb dX7_findBids_204 hl (k := 6) rfl (iI_add _ _) (by decide) rfl (fun ls hl => ?_)
                        refine lv_goto (tgt := 30) hx hb dX7_findBids_207 (by decide) ?_
                        exact ih30 (rr + 1) (mset (mset ND 18 30 rr) 18 29 ((ND 18 29) + 0)) (jj + 1) (by omega) (by exact FR.trans hF (FR.trans (FR_m (by decide)) (FR_m (by decide)))) (by (simp only [flN, ← h1.1]; first | (exfalso; omega) | (rw [hz0 (by omega), List.append_nil, mset_s, rw1_s, k1]; simp) | (rw [hz1 (by omega), List.length_append, mset_s, rw1_s, k1]; simp))) (by (simp only [flN, ← h1.1]; first | (exfalso; omega) | (rw [hz0 (by omega), List.append_nil, mset_s, rw1_n _ _ (by decide), mset_s, rw1_s]; exact k2) | (rw [hz1 (by omega), mset_s, rw1_n _ _ (by decide), mset_s, rw1_s, hd_app]; first | (rw [if_pos (by omega)]; done) | (rw [if_neg (by omega)]; exact k2)))) (by omega) _ _ hI ls (lv_sub hl [0, 7, 8, 9, 10, 11, 12] rfl)
                      · refine lv_iconst (v := iI 1) hx hb dX7_findBids_195 rfl ?_
                        refine lv_goto (tgt := 200) hx hb dX7_findBids_196 (by decide) ?_
                        refine r_iadd hx hb dX7_findBids_200 ?_
                        refine r_put C hI 18 (by decide) rfl rfl tyX7 tyX7_ok nmX7 hin7 29 (by decide) (fn := "bidMany") (fd := "I") (index := 196) (by decide +kernel) ⟨rfl, rfl, rfl⟩ rfl (z := (ND 18 29) + 1) rfl rfl (Nat.le_of_ble_eq_true rfl) rfl dX7_findBids_201 (fun H locs hI => ?_)
                        refine lv_iinc (v := iI (rr + 1)) (lv' := [(6, .int (iI (rr + 1))), (12, .int (iI kk)), (11, .int (iI ii)), (10, .int (iI tw)), (9, .int (iI on)), (8, .int (iI (rr % 10))), (7, .int (iI (rr / 10))), (5, .int (iI wb)), (4, .int (iI wa)), (0, .ref (gA g 18)), (1, .int (iI x)), (2, .int (iI y)), (3, .int (iI y2))]) hx hb dX7_findBids_204 hl (k := 6) rfl (iI_add _ _) (by decide) rfl (fun ls hl => ?_)
                        refine lv_goto (tgt := 30) hx hb dX7_findBids_207 (by decide) ?_
                        exact ih30 (rr + 1) (mset (mset ND 18 30 rr) 18 29 ((ND 18 29) + 1)) (jj + 1) (by omega) (by exact FR.trans hF (FR.trans (FR_m (by decide)) (FR_m (by decide)))) (by (simp only [flN, ← h1.1]; first | (exfalso; omega) | (rw [hz0 (by omega), List.append_nil, mset_s, rw1_s, k1]; simp) | (rw [hz1 (by omega), List.length_append, mset_s, rw1_s, k1]; simp))) (by (simp only [flN, ← h1.1]; first | (exfalso; omega) | (rw [hz0 (by omega), List.append_nil, mset_s, rw1_n _ _ (by decide), mset_s, rw1_s]; exact k2) | (rw [hz1 (by omega), mset_s, rw1_n _ _ (by decide), mset_s, rw1_s, hd_app]; first | (rw [if_pos (by omega)]; done) | (rw [if_neg (by omega)]; exact k2)))) (by omega) _ _ hI ls (lv_sub hl [0, 7, 8, 9, 10, 11, 12] rfl)
                · refine lv_iload hx hb dX7_findBids_100 (lv_at hl 1 rfl) ?_
                  refine r_if_eq hx hb (tgt := 151) (by omega) dX7_findBids_102 (by decide) (fun c_26 => ?_) (fun c_26 => ?_)
                  · refine lv_iconst (v := iI 0) hx hb dX7_findBids_151 rfl ?_
                    refine lv_istore (lv' := [(11, .int (iI 0)), (12, .int (iI kk)), (10, .int (iI tw)), (9, .int (iI on)), (8, .int (iI (rr % 10))), (7, .int (iI (rr / 10))), (6, .int (iI rr)), (5, .int (iI wb)), (4, .int (iI wa)), (0, .ref (gA g 18)), (1, .int (iI x)), (2, .int (iI y)), (3, .int (iI y2))]) hx hb dX7_findBids_152 hl (by decide) rfl (fun ls hl => ?_)
                    refine lv_iinc (v := iI (kk + 1)) (lv' := [(12, .int (iI (kk + 1))), (11, .int (iI 0)), (10, .int (iI tw)), (9, .int (iI on)), (8, .int (iI (rr % 10))), (7, .int (iI (rr / 10))), (6, .int (iI rr)), (5, .int (iI wb)), (4, .int (iI wa)), (0, .ref (gA g 18)), (1, .int (iI x)), (2, .int (iI y)), (3, .int (iI y2))]) hx hb dX7_findBids_154 hl (k := 1) rfl (iI_add _ _) (by decide) rfl (fun ls hl => ?_)
                    refine lv_goto (tgt := 93) hx hb dX7_findBids_157 (by decide) ?_
                    exact ih93 (kk + 1) 0 tw on (mm + 1) (by omega) (by exact n1) (by exact n2) (by first | exact Or.inl ⟨rfl, arN_1 (i2.elim id (fun q => absurd q.1 (by omega))).2 (by rw [← i1.1.1]; omega)⟩ | exact Or.inr ⟨rfl, arN_3 (i2.elim (fun q => absurd q.1 (by omega)) id).2⟩ | exact Or.inr ⟨rfl, arN_2 (by rw [← i1.1.1]; omega)⟩) (by omega) _ _ hI ls (lv_sub hl [0, 1, 2, 3, 4, 5, 6, 7, 8, 9, 10, 11, 12] rfl)
                  · refine lv_iload hx hb dX7_findBids_105 (lv_at hl 0 rfl) ?_
                    refine lv_iload hx hb dX7_findBids_107 (lv_at hl 4 rfl) ?_
                    refine r_icmp_lt hx hb (tgt := 120) (by omega) (by omega) dX7_findBids_109 (by decide) (fun c_27 => ?_) (fun c_27 => ?_)
                    · refine lv_iconst (v := iI 0) hx hb dX7_findBids_120 rfl ?_
                      refine lv_iload hx hb dX7_findBids_121 (lv_at hl 3 rfl) ?_
                      refine r_icmp_gt hx hb (tgt := 151) (by decide) (by omega) dX7_findBids_123 (by decide) (fun c_28 => ?_) (fun c_28 => ?_)
                      · refine lv_iconst (v := iI 0) hx hb dX7_findBids_151 rfl ?_
                        refine lv_istore (lv' := [(11, .int (iI 0)), (12, .int (iI kk)), (10, .int (iI tw)), (9, .int (iI on)), (8, .int (iI (rr % 10))), (7, .int (iI (rr / 10))), (6, .int (iI rr)), (5, .int (iI wb)), (4, .int (iI wa)), (0, .ref (gA g 18)), (1, .int (iI x)), (2, .int (iI y)), (3, .int (iI y2))]) hx hb dX7_findBids_152 hl (by decide) rfl (fun ls hl => ?_)
                        refine lv_iinc (v := iI (kk + 1)) (lv' := [(12, .int (iI (kk + 1))), (11, .int (iI 0)), (10, .int (iI tw)), (9, .int (iI on)), (8, .int (iI (rr % 10))), (7, .int (iI (rr / 10))), (6, .int (iI rr)), (5, .int (iI wb)), (4, .int (iI wa)), (0, .ref (gA g 18)), (1, .int (iI x)), (2, .int (iI y)), (3, .int (iI y2))]) hx hb dX7_findBids_154 hl (k := 1) rfl (iI_add _ _) (by decide) rfl (fun ls hl => ?_)
                        refine lv_goto (tgt := 93) hx hb dX7_findBids_157 (by decide) ?_
                        exact ih93 (kk + 1) 0 tw on (mm + 1) (by omega) (by exact n1) (by exact n2) (by first | exact Or.inl ⟨rfl, arN_1 (i2.elim id (fun q => absurd q.1 (by omega))).2 (by rw [← i1.1.1]; omega)⟩ | exact Or.inr ⟨rfl, arN_3 (i2.elim (fun q => absurd q.1 (by omega)) id).2⟩ | exact Or.inr ⟨rfl, arN_2 (by rw [← i1.1.1]; omega)⟩) (by omega) _ _ hI ls (lv_sub hl [0, 1, 2, 3, 4, 5, 6, 7, 8, 9, 10, 11, 12] rfl)
                      · refine lv_iload hx hb dX7_findBids_126 (lv_at hl 5 rfl) ?_
                        refine lv_iload hx hb dX7_findBids_128 (lv_at hl 0 rfl) ?_
                        refine r_icmp_lt hx hb (tgt := 137) (by omega) (by omega) dX7_findBids_130 (by decide) (fun c_29 => ?_) (fun c_29 => ?_)
                        · refine lv_iload hx hb dX7_findBids_137 (lv_at hl 7 rfl) ?_
                          refine lv_iload hx hb dX7_findBids_139 (lv_at hl 0 rfl) ?_
                          refine r_isub hx hb dX7_findBids_141 ?_
                          refine lv_iload hx hb dX7_findBids_142 (lv_at hl 2 rfl) ?_
                          refine r_icmp_gt hx hb (tgt := 151) (by omega) (by omega) dX7_findBids_144 (by decide) (fun c_30 => ?_) (fun c_30 => ?_)
                          · refine lv_iconst (v := iI 0) hx hb dX7_findBids_151 rfl ?_
                            refine lv_istore (lv' := [(11, .int (iI 0)), (12, .int (iI kk)), (10, .int (iI tw)), (9, .int (iI on)), (8, .int (iI (rr % 10))), (7, .int (iI (rr / 10))), (6, .int (iI rr)), (5, .int (iI wb)), (4, .int (iI wa)), (0, .ref (gA g 18)), (1, .int (iI x)), (2, .int (iI y)), (3, .int (iI y2))]) hx hb dX7_findBids_152 hl (by decide) rfl (fun ls hl => ?_)
                            refine lv_iinc (v := iI (kk + 1)) (lv' := [(12, .int (iI (kk + 1))), (11, .int (iI 0)), (10, .int (iI tw)), (9, .int (iI on)), (8, .int (iI (rr % 10))), (7, .int (iI (rr / 10))), (6, .int (iI rr)), (5, .int (iI wb)), (4, .int (iI wa)), (0, .ref (gA g 18)), (1, .int (iI x)), (2, .int (iI y)), (3, .int (iI y2))]) hx hb dX7_findBids_154 hl (k := 1) rfl (iI_add _ _) (by decide) rfl (fun ls hl => ?_)
                            refine lv_goto (tgt := 93) hx hb dX7_findBids_157 (by decide) ?_
                            exact ih93 (kk + 1) 0 tw on (mm + 1) (by omega) (by exact n1) (by exact n2) (by first | exact Or.inl ⟨rfl, arN_1 (i2.elim id (fun q => absurd q.1 (by omega))).2 (by rw [← i1.1.1]; omega)⟩ | exact Or.inr ⟨rfl, arN_3 (i2.elim (fun q => absurd q.1 (by omega)) id).2⟩ | exact Or.inr ⟨rfl, arN_2 (by rw [← i1.1.1]; omega)⟩) (by omega) _ _ hI ls (lv_sub hl [0, 1, 2, 3, 4, 5, 6, 7, 8, 9, 10, 11, 12] rfl)
                          · refine lv_iconst (v := iI 1) hx hb dX7_findBids_147 rfl ?_
                            refine lv_goto (tgt := 152) hx hb dX7_findBids_148 (by decide) ?_
                            refine lv_istore (lv' := [(11, .int (iI 1)), (12, .int (iI kk)), (10, .int (iI tw)), (9, .int (iI on)), (8, .int (iI (rr % 10))), (7, .int (iI (rr / 10))), (6, .int (iI rr)), (5, .int (iI wb)), (4, .int (iI wa)), (0, .ref (gA g 18)), (1, .int (iI x)), (2, .int (iI y)), (3, .int (iI y2))]) hx hb dX7_findBids_152 hl (by decide) rfl (fun ls hl => ?_)
                            refine lv_iinc (v := iI (kk + 1)) (lv' := [(12, .int (iI (kk + 1))), (11, .int (iI 1)), (10, .int (iI tw)), (9, .int (iI on)), (8, .int (iI (rr % 10))), (7, .int (iI (rr / 10))), (6, .int (iI rr)), (5, .int (iI wb)), (4, .int (iI wa)), (0, .ref (gA g 18)), (1, .int (iI x)), (2, .int (iI y)), (3, .int (iI y2))]) hx hb dX7_findBids_154 hl (k := 1) rfl (iI_add _ _) (by decide) rfl (fun ls hl => ?_)
                            refine lv_goto (tgt := 93) hx hb dX7_findBids_157 (by decide) ?_
                            exact ih93 (kk + 1) 1 tw on (mm + 1) (by omega) (by exact n1) (by exact n2) (by first | exact Or.inl ⟨rfl, arN_1 (i2.elim id (fun q => absurd q.1 (by omega))).2 (by rw [← i1.1.1]; omega)⟩ | exact Or.inr ⟨rfl, arN_3 (i2.elim (fun q => absurd q.1 (by omega)) id).2⟩ | exact Or.inr ⟨rfl, arN_2 (by rw [← i1.1.1]; omega)⟩) (by omega) _ _ hI ls (lv_sub hl [0, 1, 2, 3, 4, 5, 6, 7, 8, 9, 10, 11, 12] rfl)
                        · refine lv_iconst (v := iI 0) hx hb dX7_findBids_133 rfl ?_
                          refine lv_goto (tgt := 142) hx hb dX7_findBids_134 (by decide) ?_
                          refine lv_iload hx hb dX7_findBids_142 (lv_at hl 2 rfl) ?_
                          refine r_icmp_gt hx hb (tgt := 151) (by decide) (by omega) dX7_findBids_144 (by decide) (fun c_31 => ?_) (fun c_31 => ?_)
                          · refine lv_iconst (v := iI 0) hx hb dX7_findBids_151 rfl ?_
                            refine lv_istore (lv' := [(11, .int (iI 0)), (12, .int (iI kk)), (10, .int (iI tw)), (9, .int (iI on)), (8, .int (iI (rr % 10))), (7, .int (iI (rr / 10))), (6, .int (iI rr)), (5, .int (iI wb)), (4, .int (iI wa)), (0, .ref (gA g 18)), (1, .int (iI x)), (2, .int (iI y)), (3, .int (iI y2))]) hx hb dX7_findBids_152 hl (by decide) rfl (fun ls hl => ?_)
                            refine lv_iinc (v := iI (kk + 1)) (lv' := [(12, .int (iI (kk + 1))), (11, .int (iI 0)), (10, .int (iI tw)), (9, .int (iI on)), (8, .int (iI (rr % 10))), (7, .int (iI (rr / 10))), (6, .int (iI rr)), (5, .int (iI wb)), (4, .int (iI wa)), (0, .ref (gA g 18)), (1, .int (iI x)), (2, .int (iI y)), (3, .int (iI y2))]) hx hb dX7_findBids_154 hl (k := 1) rfl (iI_add _ _) (by decide) rfl (fun ls hl => ?_)
                            refine lv_goto (tgt := 93) hx hb dX7_findBids_157 (by decide) ?_
                            exact ih93 (kk + 1) 0 tw on (mm + 1) (by omega) (by exact n1) (by exact n2) (by first | exact Or.inl ⟨rfl, arN_1 (i2.elim id (fun q => absurd q.1 (by omega))).2 (by rw [← i1.1.1]; omega)⟩ | exact Or.inr ⟨rfl, arN_3 (i2.elim (fun q => absurd q.1 (by omega)) id).2⟩ | exact Or.inr ⟨rfl, arN_2 (by rw [← i1.1.1]; omega)⟩) (by omega) _ _ hI ls (lv_sub hl [0, 1, 2, 3, 4, 5, 6, 7, 8, 9, 10, 11, 12] rfl)
                          · refine lv_iconst (v := iI 1) hx hb dX7_findBids_147 rfl ?_
                            refine lv_goto (tgt := 152) hx hb dX7_findBids_148 (by decide) ?_
                            refine lv_istore (lv' := [(11, .int (iI 1)), (12, .int (iI kk)), (10, .int (iI tw)), (9, .int (iI on)), (8, .int (iI (rr % 10))), (7, .int (iI (rr / 10))), (6, .int (iI rr)), (5, .int (iI wb)), (4, .int (iI wa)), (0, .ref (gA g 18)), (1, .int (iI x)), (2, .int (iI y)), (3, .int (iI y2))]) hx hb dX7_findBids_152 hl (by decide) rfl (fun ls hl => ?_)
                            refine lv_iinc (v := iI (kk + 1)) (lv' := [(12, .int (iI (kk + 1))), (11, .int (iI 1)), (10, .int (iI tw)), (9, .int (iI on)), (8, .int (iI (rr % 10))), (7, .int (iI (rr / 10))), (6, .int (iI rr)), (5, .int (iI wb)), (4, .int (iI wa)), (0, .ref (gA g 18)), (1, .int (iI x)), (2, .int (iI y)), (3, .int (iI y2))]) hx hb dX7_findBids_154 hl (k := 1) rfl (iI_add _ _) (by decide) rfl (fun ls hl => ?_)
                            refine lv_goto (tgt := 93) hx hb dX7_findBids_157 (by decide) ?_
                            exact ih93 (kk + 1) 1 tw on (mm + 1) (by omega) (by exact n1) (by exact n2) (by first | exact Or.inl ⟨rfl, arN_1 (i2.elim id (fun q => absurd q.1 (by omega))).2 (by rw [← i1.1.1]; omega)⟩ | exact Or.inr ⟨rfl, arN_3 (i2.elim (fun q => absurd q.1 (by omega)) id).2⟩ | exact Or.inr ⟨rfl, arN_2 (by rw [← i1.1.1]; omega)⟩) (by omega) _ _ hI ls (lv_sub hl [0, 1, 2, 3, 4, 5, 6, 7, 8, 9, 10, 11, 12] rfl)
                    · refine lv_iload hx hb dX7_findBids_112 (lv_at hl 8 rfl) ?_
                      refine lv_iload hx hb dX7_findBids_114 (lv_at hl 0 rfl) ?_
                      refine r_isub hx hb dX7_findBids_116 ?_
                      refine lv_goto (tgt := 121) hx hb dX7_findBids_117 (by decide) ?_
                      refine lv_iload hx hb dX7_findBids_121 (lv_at hl 3 rfl) ?_
                      refine r_icmp_gt hx hb (tgt := 151) (by omega) (by omega) dX7_findBids_123 (by decide) (fun c_32 => ?_) (fun c_32 => ?_)
                      · refine lv_iconst (v := iI 0) hx hb dX7_findBids_151 rfl ?_
                        refine lv_istore (lv' := [(11, .int (iI 0)), (12, .int (iI kk)), (10, .int (iI tw)), (9, .int (iI on)), (8, .int (iI (rr % 10))), (7, .int (iI (rr / 10))), (6, .int (iI rr)), (5, .int (iI wb)), (4, .int (iI wa)), (0, .ref (gA g 18)), (1, .int (iI x)), (2, .int (iI y)), (3, .int (iI y2))]) hx hb dX7_findBids_152 hl (by decide) rfl (fun ls hl => ?_)
                        refine lv_iinc (v := iI (kk + 1)) (lv' := [(12, .int (iI (kk + 1))), (11, .int (iI 0)), (10, .int (iI tw)), (9, .int (iI on)), (8, .int (iI (rr % 10))), (7, .int (iI (rr / 10))), (6, .int (iI rr)), (5, .int (iI wb)), (4, .int (iI wa)), (0, .ref (gA g 18)), (1, .int (iI x)), (2, .int (iI y)), (3, .int (iI y2))]) hx hb dX7_findBids_154 hl (k := 1) rfl (iI_add _ _) (by decide) rfl (fun ls hl => ?_)
                        refine lv_goto (tgt := 93) hx hb dX7_findBids_157 (by decide) ?_
                        exact ih93 (kk + 1) 0 tw on (mm + 1) (by omega) (by exact n1) (by exact n2) (by first | exact Or.inl ⟨rfl, arN_1 (i2.elim id (fun q => absurd q.1 (by omega))).2 (by rw [← i1.1.1]; omega)⟩ | exact Or.inr ⟨rfl, arN_3 (i2.elim (fun q => absurd q.1 (by omega)) id).2⟩ | exact Or.inr ⟨rfl, arN_2 (by rw [← i1.1.1]; omega)⟩) (by omega) _ _ hI ls (lv_sub hl [0, 1, 2, 3, 4, 5, 6, 7, 8, 9, 10, 11, 12] rfl)
                      · refine lv_iload hx hb dX7_findBids_126 (lv_at hl 5 rfl) ?_
                        refine lv_iload hx hb dX7_findBids_128 (lv_at hl 0 rfl) ?_
                        refine r_icmp_lt hx hb (tgt := 137) (by omega) (by omega) dX7_findBids_130 (by decide) (fun c_33 => ?_) (fun c_33 => ?_)
                        · refine lv_iload hx hb dX7_findBids_137 (lv_at hl 7 rfl) ?_
                          refine lv_iload hx hb dX7_findBids_139 (lv_at hl 0 rfl) ?_
                          refine r_isub hx hb dX7_findBids_141 ?_
                          refine lv_iload hx hb dX7_findBids_142 (lv_at hl 2 rfl) ?_
                          refine r_icmp_gt hx hb (tgt := 151) (by omega) (by omega) dX7_findBids_144 (by decide) (fun c_34 => ?_) (fun c_34 => ?_)
                          · refine lv_iconst (v := iI 0) hx hb dX7_findBids_151 rfl ?_
                            refine lv_istore (lv' := [(11, .int (iI 0)), (12, .int (iI kk)), (10, .int (iI tw)), (9, .int (iI on)), (8, .int (iI (rr % 10))), (7, .int (iI (rr / 10))), (6, .int (iI rr)), (5, .int (iI wb)), (4, .int (iI wa)), (0, .ref (gA g 18)), (1, .int (iI x)), (2, .int (iI y)), (3, .int (iI y2))]) hx hb dX7_findBids_152 hl (by decide) rfl (fun ls hl => ?_)
                            refine lv_iinc (v := iI (kk + 1)) (lv' := [(12, .int (iI (kk + 1))), (11, .int (iI 0)), (10, .int (iI tw)), (9, .int (iI on)), (8, .int (iI (rr % 10))), (7, .int (iI (rr / 10))), (6, .int (iI rr)), (5, .int (iI wb)), (4, .int (iI wa)), (0, .ref (gA g 18)), (1, .int (iI x)), (2, .int (iI y)), (3, .int (iI y2))]) hx hb dX7_findBids_154 hl (k := 1) rfl (iI_add _ _) (by decide) rfl (fun ls hl => ?_)
                            refine lv_goto (tgt := 93) hx hb dX7_findBids_157 (by decide) ?_
                            exact ih93 (kk + 1) 0 tw on (mm + 1) (by omega) (by exact n1) (by exact n2) (by first | exact Or.inl ⟨rfl, arN_1 (i2.elim id (fun q => absurd q.1 (by omega))).2 (by rw [← i1.1.1]; omega)⟩ | exact Or.inr ⟨rfl, arN_3 (i2.elim (fun q => absurd q.1 (by omega)) id).2⟩ | exact Or.inr ⟨rfl, arN_2 (by rw [← i1.1.1]; omega)⟩) (by omega) _ _ hI ls (lv_sub hl [0, 1, 2, 3, 4, 5, 6, 7, 8, 9, 10, 11, 12] rfl)
                          · refine lv_iconst (v := iI 1) hx hb dX7_findBids_147 rfl ?_
                            refine lv_goto (tgt := 152) hx hb dX7_findBids_148 (by decide) ?_
                            refine lv_istore (lv' := [(11, .int (iI 1)), (12, .int (iI kk)), (10, .int (iI tw)), (9, .int (iI on)), (8, .int (iI (rr % 10))), (7, .int (iI (rr / 10))), (6, .int (iI rr)), (5, .int (iI wb)), (4, .int (iI wa)), (0, .ref (gA g 18)), (1, .int (iI x)), (2, .int (iI y)), (3, .int (iI y2))]) hx hb dX7_findBids_152 hl (by decide) rfl (fun ls hl => ?_)
                            refine lv_iinc (v := iI (kk + 1)) (lv' := [(12, .int (iI (kk + 1))), (11, .int (iI 1)), (10, .int (iI tw)), (9, .int (iI on)), (8, .int (iI (rr % 10))), (7, .int (iI (rr / 10))), (6, .int (iI rr)), (5, .int (iI wb)), (4, .int (iI wa)), (0, .ref (gA g 18)), (1, .int (iI x)), (2, .int (iI y)), (3, .int (iI y2))]) hx hb dX7_findBids_154 hl (k := 1) rfl (iI_add _ _) (by decide) rfl (fun ls hl => ?_)
                            refine lv_goto (tgt := 93) hx hb dX7_findBids_157 (by decide) ?_
                            exact ih93 (kk + 1) 1 tw on (mm + 1) (by omega) (by exact n1) (by exact n2) (by first | exact Or.inl ⟨rfl, arN_1 (i2.elim id (fun q => absurd q.1 (by omega))).2 (by rw [← i1.1.1]; omega)⟩ | exact Or.inr ⟨rfl, arN_3 (i2.elim (fun q => absurd q.1 (by omega)) id).2⟩ | exact Or.inr ⟨rfl, arN_2 (by rw [← i1.1.1]; omega)⟩) (by omega) _ _ hI ls (lv_sub hl [0, 1, 2, 3, 4, 5, 6, 7, 8, 9, 10, 11, 12] rfl)
                        · refine lv_iconst (v := iI 0) hx hb dX7_findBids_133 rfl ?_
                          refine lv_goto (tgt := 142) hx hb dX7_findBids_134 (by decide) ?_
                          refine lv_iload hx hb dX7_findBids_142 (lv_at hl 2 rfl) ?_
                          refine r_icmp_gt hx hb (tgt := 151) (by decide) (by omega) dX7_findBids_144 (by decide) (fun c_35 => ?_) (fun c_35 => ?_)
                          · refine lv_iconst (v := iI 0) hx hb dX7_findBids_151 rfl ?_
                            refine lv_istore (lv' := [(11, .int (iI 0)), (12, .int (iI kk)), (10, .int (iI tw)), (9, .int (iI on)), (8, .int (iI (rr % 10))), (7, .int (iI (rr / 10))), (6, .int (iI rr)), (5, .int (iI wb)), (4, .int (iI wa)), (0, .ref (gA g 18)), (1, .int (iI x)), (2, .int (iI y)), (3, .int (iI y2))]) hx hb dX7_findBids_152 hl (by decide) rfl (fun ls hl => ?_)
                            refine lv_iinc (v := iI (kk + 1)) (lv' := [(12, .int (iI (kk + 1))), (11, .int (iI 0)), (10, .int (iI tw)), (9, .int (iI on)), (8, .int (iI (rr % 10))), (7, .int (iI (rr / 10))), (6, .int (iI rr)), (5, .int (iI wb)), (4, .int (iI wa)), (0, .ref (gA g 18)), (1, .int (iI x)), (2, .int (iI y)), (3, .int (iI y2))]) hx hb dX7_findBids_154 hl (k := 1) rfl (iI_add _ _) (by decide) rfl (fun ls hl => ?_)
                            refine lv_goto (tgt := 93) hx hb dX7_findBids_157 (by decide) ?_
                            exact ih93 (kk + 1) 0 tw on (mm + 1) (by omega) (by exact n1) (by exact n2) (by first | exact Or.inl ⟨rfl, arN_1 (i2.elim id (fun q => absurd q.1 (by omega))).2 (by rw [← i1.1.1]; omega)⟩ | exact Or.inr ⟨rfl, arN_3 (i2.elim (fun q => absurd q.1 (by omega)) id).2⟩ | exact Or.inr ⟨rfl, arN_2 (by rw [← i1.1.1]; omega)⟩) (by omega) _ _ hI ls (lv_sub hl [0, 1, 2, 3, 4, 5, 6, 7, 8, 9, 10, 11, 12] rfl)
                          · refine lv_iconst (v := iI 1) hx hb dX7_findBids_147 rfl ?_
                            refine lv_goto (tgt := 152) hx hb dX7_findBids_148 (by decide) ?_
                            refine lv_istore (lv' := [(11, .int (iI 1)), (12, .int (iI kk)), (10, .int (iI tw)), (9, .int (iI on)), (8, .int (iI (rr % 10))), (7, .int (iI (rr / 10))), (6, .int (iI rr)), (5, .int (iI wb)), (4, .int (iI wa)), (0, .ref (gA g 18)), (1, .int (iI x)), (2, .int (iI y)), (3, .int (iI y2))]) hx hb dX7_findBids_152 hl (by decide) rfl (fun ls hl => ?_)
                            refine lv_iinc (v := iI (kk + 1)) (lv' := [(12, .int (iI (kk + 1))), (11, .int (iI 1)), (10, .int (iI tw)), (9, .int (iI on)), (8, .int (iI (rr % 10))), (7, .int (iI (rr / 10))), (6, .int (iI rr)), (5, .int (iI wb)), (4, .int (iI wa)), (0, .ref (gA g 18)), (1, .int (iI x)), (2, .int (iI y)), (3, .int (iI y2))]) hx hb dX7_findBids_154 hl (k := 1) rfl (iI_add _ _) (by decide) rfl (fun ls hl => ?_)
                            refine lv_goto (tgt := 93) hx hb dX7_findBids_157 (by decide) ?_
                            exact ih93 (kk + 1) 1 tw on (mm + 1) (by omega) (by exact n1) (by exact n2) (by first | exact Or.inl ⟨rfl, arN_1 (i2.elim id (fun q => absurd q.1 (by omega))).2 (by rw [← i1.1.1]; omega)⟩ | exact Or.inr ⟨rfl, arN_3 (i2.elim (fun q => absurd q.1 (by omega)) id).2⟩ | exact Or.inr ⟨rfl, arN_2 (by rw [← i1.1.1]; omega)⟩) (by omega) _ _ hI ls (lv_sub hl [0, 1, 2, 3, 4, 5, 6, 7, 8, 9, 10, 11, 12] rfl)
            exact lp93 _ 0 1 0 0 0 (by omega) (by first | (rw [gF_1.1 (by omega)]; done) | (rw [gF_1.2 (by omega)]; done)) (by first | (rw [gO_1.1 (by omega)]; done) | (rw [gO_1.2 (by omega)]; done)) (by exact Or.inl ⟨rfl, rfl⟩) (Nat.lt_succ_self _) _ _ hI ls (lv_sub hl [0, 1, 2, 3, 4, 5, 6, 7, 8, 9, 10, 11, 12] rfl)
        · refine lv_iload hx hb dX7_findBids_58 (lv_at hl 4 rfl) ?_
          refine lv_iload hx hb dX7_findBids_60 (lv_at hl 1 rfl) ?_
          refine r_isub hx hb dX7_findBids_62 ?_
          refine lv_goto (tgt := 67) hx hb dX7_findBids_63 (by decide) ?_
          refine lv_istore (lv' := [(9, .int (iI (wa - (rr / 10)))), (8, .int (iI (rr % 10))), (7, .int (iI (rr / 10))), (6, .int (iI rr)), (5, .int (iI wb)), (4, .int (iI wa)), (0, .ref (gA g 18)), (1, .int (iI x)), (2, .int (iI y)), (3, .int (iI y2))]) hx hb dX7_findBids_67 hl (by decide) rfl (fun ls hl => ?_)
          refine lv_iload hx hb dX7_findBids_69 (lv_at hl 2 rfl) ?_
          refine lv_iload hx hb dX7_findBids_71 (lv_at hl 1 rfl) ?_
          refine r_icmp_lt hx hb (tgt := 80) (by omega) (by omega) dX7_findBids_73 (by decide) (fun c_36 => ?_) (fun c_36 => ?_)
          · refine lv_iload hx hb dX7_findBids_80 (lv_at hl 4 rfl) ?_
            refine lv_iload hx hb dX7_findBids_82 (lv_at hl 1 rfl) ?_
            refine r_isub hx hb dX7_findBids_84 ?_
            refine lv_istore (lv' := [(10, .int (iI (wb - (rr % 10)))), (9, .int (iI (wa - (rr / 10)))), (8, .int (iI (rr % 10))), (7, .int (iI (rr / 10))), (6, .int (iI rr)), (5, .int (iI wb)), (4, .int (iI wa)), (0, .ref (gA g 18)), (1, .int (iI x)), (2, .int (iI y)), (3, .int (iI y2))]) hx hb dX7_findBids_85 hl (by decide) rfl (fun ls hl => ?_)
            refine lv_iconst (v := iI 1) hx hb dX7_findBids_87 rfl ?_
            refine lv_istore (lv' := [(11, .int (iI 1)), (10, .int (iI (wb - (rr % 10)))), (9, .int (iI (wa - (rr / 10)))), (8, .int (iI (rr % 10))), (7, .int (iI (rr / 10))), (6, .int (iI rr)), (5, .int (iI wb)), (4, .int (iI wa)), (0, .ref (gA g 18)), (1, .int (iI x)), (2, .int (iI y)), (3, .int (iI y2))]) hx hb dX7_findBids_88 hl (by decide) rfl (fun ls hl => ?_)
            refine lv_iconst (v := iI 0) hx hb dX7_findBids_90 rfl ?_
            refine lv_istore (lv' := [(12, .int (iI 0)), (11, .int (iI 1)), (10, .int (iI (wb - (rr % 10)))), (9, .int (iI (wa - (rr / 10)))), (8, .int (iI (rr % 10))), (7, .int (iI (rr / 10))), (6, .int (iI rr)), (5, .int (iI wb)), (4, .int (iI wa)), (0, .ref (gA g 18)), (1, .int (iI x)), (2, .int (iI y)), (3, .int (iI y2))]) hx hb dX7_findBids_91 hl (by decide) rfl (fun ls hl => ?_)
            have lp93 : ∀ (n93 : Nat) (kk : Int) (ii : Int) (tw : Int) (on : Int) (mm : Nat), ((kk = (mm : Int) ∧ mm ≤ 10) ∧ (ii = 0 ∨ ii = 1)) → (on = gFst (rr / 10) (rr % 10) wa) → (tw = gOth (rr / 10) (rr % 10) wb) → ((ii = 1 ∧ arN (rr / 10) (rr % 10) wa wb mm = true) ∨ (ii = 0 ∧ arN (rr / 10) (rr % 10) wa wb mm = false)) → 10 - mm < n93 → ∀ (H : Heap) (locs : List Loc), HI g s H locs ND → ∀ ls : Array Slot, lv_has ls 13 [(12, .int (iI kk)), (11, .int (iI ii)), (10, .int (iI tw)), (9, .int (iI on)), (8, .int (iI (rr % 10))), (7, .int (iI (rr / 10))), (6, .int (iI rr)), (5, .int (iI wb)), (4, .int (iI wa)), (0, .ref (gA g 18)), (1, .int (iI x)), (2, .int (iI y)), (3, .int (iI y2))] → W p l e ({ frames := 3, cells := 0, slots := 0, locals := 68 } : Room) s m ([.ref (gA g 18), .int (iI x), .int (iI y), .int (iI y2)] : List Value).toArray below meth c H locs 0 0 (MQ below (QV g (pX (fun u => FR M u ∧ u 18 29 = ((flN (bA (woO A x y) (woO A x y2)) 10).length : Int) ∧ u 18 30 = (flN (bA (woO A x y) (woO A x y2)) 10).headD (-9)))) ([.ref (gA g 18), .int (iI x), .int (iI y), .int (iI y2)] : List Value).toArray s 0 0 (AA g)) (F0 m 93 ls []) := by
              intro n93
              induction n93 with
              | zero => intro kk ii tw on mm i1 n1 n2 i2 hn93; exact absurd hn93 (Nat.not_lt_zero _)
              | succ n93 ih93 =>
                intro kk ii tw on mm i1 n1 n2 i2 hn93 H locs hI ls hl
                have a1 := gF_1 (a := kk) (b := rr % 10) (w := wa)
                have a2 := gO_1 (a := rr / 10) (b := kk) (w := wb)
                have a3 := gF_1 (a := rr / 10) (b := rr % 10) (w := wa)
                have a4 := gO_1 (a := rr / 10) (b := rr % 10) (w := wb)
                refine lv_iload hx hb dX7_findBids_93 (lv_at hl 0 rfl) ?_
                refine lv_bipush (v := iI 10) hx hb dX7_findBids_95 (by decide +kernel) ?_
                refine r_icmp_ge hx hb (tgt := 160) (by omega) (by decide) dX7_findBids_97 (by decide) (fun c_37 => ?_) (fun c_37 => ?_)
                · have e10 : mm = 10 := by omega
                  rw [e10] at i2
                  have hz0 : ii = 0 → bO wa wb (rr / 10) (rr % 10) = [] := fun q => by
                    unfold bO
                    rw [if_neg (by rw [(i2.elim (fun q2 => absurd q2.1 (by omega)) id).2]; decide)]
                  have hz1 : ¬ ii = 0 → bO wa wb (rr / 10) (rr % 10) = [rr] := fun q => by
                    unfold bO
                    rw [if_pos (i2.elim id (fun q2 => absurd q2.1 q)).2, show 10 * (rr / 10) + rr % 10 = rr by omega]
                  refine lv_aload_n hx hb dX7_findBids_160 rfl (lv_at hl 9 rfl) ?_
                  refine lv_iload hx hb dX7_findBids_161 (lv_at hl 1 rfl) ?_
                  refine r_if_eq hx hb (tgt := 178) (by omega) dX7_findBids_163 (by decide) (fun c_38 => ?_) (fun c_38 => ?_)
                  · refine lv_aload_n hx hb dX7_findBids_178 rfl (lv_at hl 9 rfl) ?_
                    refine r_get C hI 18 (by decide) rfl rfl hin7 30 (by decide) (fn := "bidFirst") (fd := "I") (index := 199) (by decide +kernel) ⟨rfl, rfl, rfl⟩ (v := .int (iI (ND 18 30))) rfl dX7_findBids_179 ?_
                    refine r_put C hI 18 (by decide) rfl rfl tyX7 tyX7_ok nmX7 hin7 30 (by decide) (fn := "bidFirst") (fd := "I") (index := 199) (by decide +kernel) ⟨rfl, rfl, rfl⟩ rfl (z := ND 18 30) rfl rfl (Nat.le_of_ble_eq_true rfl) rfl dX7_findBids_182 (fun H locs hI => ?_)
                    refine lv_aload_n hx hb dX7_findBids_185 rfl (lv_at hl 9 rfl) ?_
                    refine lv_dup hx hb dX7_findBids_186 rfl ?_
                    refine r_get C hI 18 (by decide) rfl rfl hin7 29 (by decide) (fn := "bidMany") (fd := "I") (index := 196) (by decide +kernel) ⟨rfl, rfl, rfl⟩ (v := .int (iI (ND 18 29))) rfl dX7_findBids_187 ?_
                    refine r_eqI (z2 := ND 18 29) (by first | rfl | (repeat first | rw [mset_s, rw1_s] | rw [mset_s, rw1_n _ _ (by omega)] | rw [mset_n _ _ _ (by decide)])) ?_
                    refine lv_iload hx hb dX7_findBids_190 (lv_at hl 1 rfl) ?_
                    refine r_if_eq hx hb (tgt := 199) (by omega) dX7_findBids_192 (by decide) (fun c_39 => ?_) (fun c_39 => ?_)
                    · refine lv_iconst (v := iI 0) hx hb dX7_findBids_199 rfl ?_
                      refine r_iadd hx hb dX7_findBids_200 ?_
                      refine r_put C hI 18 (by decide) rfl rfl tyX7 tyX7_ok nmX7 hin7 29 (by decide) (fn := "bidMany") (fd := "I") (index := 196) (by decide +kernel) ⟨rfl, rfl, rfl⟩ rfl (z := (ND 18 29) + 0) rfl rfl (Nat.le_of_ble_eq_true rfl) rfl dX7_findBids_201 (fun H locs hI => ?_)
                      refine lv_iinc (v := iI (rr + 1)) (lv' := [(6, .int (iI (rr + 1))), (12, .int (iI kk)), (11, .int (iI ii)), (10, .int (iI tw)), (9, .int (iI on)), (8, .int (iI (rr % 10))), (7, .int (iI (rr / 10))), (5, .int (iI wb)), (4, .int (iI wa)), (0, .ref (gA g 18)), (1, .int (iI x)), (2, .int (iI y)), (3, .int (iI y2))]) hx hb dX7_findBids_204 hl (k := 6) rfl (iI_add _ _) (by decide) rfl (fun ls hl => ?_)
                      refine lv_goto (tgt := 30) hx hb dX7_findBids_207 (by decide) ?_
                      exact ih30 (rr + 1) (mset (mset ND 18 30 (ND 18 30)) 18 29 ((ND 18 29) + 0)) (jj + 1) (by omega) (by exact FR.trans hF (FR.trans (FR_m (by decide)) (FR_m (by decide)))) (by (simp only [flN, ← h1.1]; first | (exfalso; omega) | (rw [hz0 (by omega), List.append_nil, mset_s, rw1_s, k1]; simp) | (rw [hz1 (by omega), List.length_append, mset_s, rw1_s, k1]; simp))) (by (simp only [flN, ← h1.1]; first | (exfalso; omega) | (rw [hz0 (by omega), List.append_nil, mset_s, rw1_n _ _ (by decide), mset_s, rw1_s]; exact k2) | (rw [hz1 (by omega), mset_s, rw1_n _ _ (by decide), mset_s, rw1_s, hd_app]; first | (rw [if_pos (by omega)]; done) | (rw [if_neg (by omega)]; exact k2)))) (by omega) _ _ hI ls (lv_sub hl [0, 7, 8, 9, 10, 11, 12] rfl)
                    · refine lv_iconst (v := iI 1) hx hb dX7_findBids_195 rfl ?_
                      refine lv_goto (tgt := 200) hx hb dX7_findBids_196 (by decide) ?_
                      refine r_iadd hx hb dX7_findBids_200 ?_
                      refine r_put C hI 18 (by decide) rfl rfl tyX7 tyX7_ok nmX7 hin7 29 (by decide) (fn := "bidMany") (fd := "I") (index := 196) (by decide +kernel) ⟨rfl, rfl, rfl⟩ rfl (z := (ND 18 29) + 1) rfl rfl (Nat.le_of_ble_eq_true rfl) rfl dX7_findBids_201 (fun H locs hI => ?_)
                      refine lv_iinc (v := iI (rr + 1)) (lv' := [(6, .int (iI (rr + 1))), (12, .int (iI kk)), (11, .int (iI ii)), (10, .int (iI tw)), (9, .int (iI on)), (8, .int (iI (rr % 10))), (7, .int (iI (rr / 10))), (5, .int (iI wb)), (4, .int (iI wa)), (0, .ref (gA g 18)), (1, .int (iI x)), (2, .int (iI y)), (3, .int (iI y2))]) hx hb dX7_findBids_204 hl (k := 6) rfl (iI_add _ _) (by decide) rfl (fun ls hl => ?_)
                      refine lv_goto (tgt := 30) hx hb dX7_findBids_207 (by decide) ?_
                      exact ih30 (rr + 1) (mset (mset ND 18 30 (ND 18 30)) 18 29 ((ND 18 29) + 1)) (jj + 1) (by omega) (by exact FR.trans hF (FR.trans (FR_m (by decide)) (FR_m (by decide)))) (by (simp only [flN, ← h1.1]; first | (exfalso; omega) | (rw [hz0 (by omega), List.append_nil, mset_s, rw1_s, k1]; simp) | (rw [hz1 (by omega), List.length_append, mset_s, rw1_s, k1]; simp))) (by (simp only [flN, ← h1.1]; first | (exfalso; omega) | (rw [hz0 (by omega), List.append_nil, mset_s, rw1_n _ _ (by decide), mset_s, rw1_s]; exact k2) | (rw [hz1 (by omega), mset_s, rw1_n _ _ (by decide), mset_s, rw1_s, hd_app]; first | (rw [if_pos (by omega)]; done) | (rw [if_neg (by omega)]; exact k2)))) (by omega) _ _ hI ls (lv_sub hl [0, 7, 8, 9, 10, 11, 12] rfl)
                  · refine lv_aload_n hx hb dX7_findBids_166 rfl (lv_at hl 9 rfl) ?_
                    refine r_get C hI 18 (by decide) rfl rfl hin7 29 (by decide) (fn := "bidMany") (fd := "I") (index := 196) (by decide +kernel) ⟨rfl, rfl, rfl⟩ (v := .int (iI (ND 18 29))) rfl dX7_findBids_167 ?_
                    refine r_if_ne hx hb (tgt := 178) (by omega) dX7_findBids_170 (by decide) (fun c_40 => ?_) (fun c_40 => ?_)
                    · refine lv_aload_n hx hb dX7_findBids_178 rfl (lv_at hl 9 rfl) ?_
                      refine r_get C hI 18 (by decide) rfl rfl hin7 30 (by decide) (fn := "bidFirst") (fd := "I") (index := 199) (by decide +kernel) ⟨rfl, rfl, rfl⟩ (v := .int (iI (ND 18 30))) rfl dX7_findBids_179 ?_
                      refine r_put C hI 18 (by decide) rfl rfl tyX7 tyX7_ok nmX7 hin7 30 (by decide) (fn := "bidFirst") (fd := "I") (index := 199) (by decide +kernel) ⟨rfl, rfl, rfl⟩ rfl (z := ND 18 30) rfl rfl (Nat.le_of_ble_eq_true rfl) rfl dX7_findBids_182 (fun H locs hI => ?_)
                      refine lv_aload_n hx hb dX7_findBids_185 rfl (lv_at hl 9 rfl) ?_
                      refine lv_dup hx hb dX7_findBids_186 rfl ?_
                      refine r_get C hI 18 (by decide) rfl rfl hin7 29 (by decide) (fn := "bidMany") (fd := "I") (index := 196) (by decide +kernel) ⟨rfl, rfl, rfl⟩ (v := .int (iI (ND 18 29))) rfl dX7_findBids_187 ?_
                      refine r_eqI (z2 := ND 18 29) (by first | rfl | (repeat first | rw [mset_s, rw1_s] | rw [mset_s, rw1_n _ _ (by omega)] | rw [mset_n _ _ _ (by decide)])) ?_
                      refine lv_iload hx hb dX7_findBids_190 (lv_at hl 1 rfl) ?_
                      refine r_if_eq hx hb (tgt := 199) (by omega) dX7_findBids_192 (by decide) (fun c_41 => ?_) (fun c_41 => ?_)
                      · refine lv_iconst (v := iI 0) hx hb dX7_findBids_199 rfl ?_
                        refine r_iadd hx hb dX7_findBids_200 ?_
                        refine r_put C hI 18 (by decide) rfl rfl tyX7 tyX7_ok nmX7 hin7 29 (by decide) (fn := "bidMany") (fd := "I") (index := 196) (by decide +kernel) ⟨rfl, rfl, rfl⟩ rfl (z := (ND 18 29) + 0) rfl rfl (Nat.le_of_ble_eq_true rfl) rfl dX7_findBids_201 (fun H locs hI => ?_)
                        refine lv_iinc (v := iI (rr + 1)) (lv' := [(6, .int (iI (rr + 1))), (12, .int (iI kk)), (11, .int (iI ii)), (10, .int (iI tw)), (9, .int (iI on)), (8, .int (iI (rr % 10))), (7, .int (iI (rr / 10))), (5, .int (iI wb)), (4, .int (iI wa)), (0, .ref (gA g 18)), (1, .int (iI x)), (2, .int (iI y)), (3, .int (iI y2))]) hx hb dX7_findBids_204 hl (k := 6) rfl (iI_add _ _) (by decide) rfl (fun ls hl => ?_)
                        refine lv_goto (tgt := 30) hx hb dX7_findBids_207 (by decide) ?_
                        exact ih30 (rr + 1) (mset (mset ND 18 30 (ND 18 30)) 18 29 ((ND 18 29) + 0)) (jj + 1) (by omega) (by exact FR.trans hF (FR.trans (FR_m (by decide)) (FR_m (by decide)))) (by (simp only [flN, ← h1.1]; first | (exfalso; omega) | (rw [hz0 (by omega), List.append_nil, mset_s, rw1_s, k1]; simp) | (rw [hz1 (by omega), List.length_append, mset_s, rw1_s, k1]; simp))) (by (simp only [flN, ← h1.1]; first | (exfalso; omega) | (rw [hz0 (by omega), List.append_nil, mset_s, rw1_n _ _ (by decide), mset_s, rw1_s]; exact k2) | (rw [hz1 (by omega), mset_s, rw1_n _ _ (by decide), mset_s, rw1_s, hd_app]; first | (rw [if_pos (by omega)]; done) | (rw [if_neg (by omega)]; exact k2)))) (by omega) _ _ hI ls (lv_sub hl [0, 7, 8, 9, 10, 11, 12] rfl)
                      · refine lv_iconst (v := iI 1) hx hb dX7_findBids_195 rfl ?_
                        refine lv_goto (tgt := 200) hx hb dX7_findBids_196 (by decide) ?_
                        refine r_iadd hx hb dX7_findBids_200 ?_
                        refine r_put C hI 18 (by decide) rfl rfl tyX7 tyX7_ok nmX7 hin7 29 (by decide) (fn := "bidMany") (fd := "I") (index := 196) (by decide +kernel) ⟨rfl, rfl, rfl⟩ rfl (z := (ND 18 29) + 1) rfl rfl (Nat.le_of_ble_eq_true rfl) rfl dX7_findBids_201 (fun H locs hI => ?_)
                        refine lv_iinc (v := iI (rr + 1)) (lv' := [(6, .int (iI (rr + 1))), (12, .int (iI kk)), (11, .int (iI ii)), (10, .int (iI tw)), (9, .int (iI on)), (8, .int (iI (rr % 10))), (7, .int (iI (rr / 10))), (5, .int (iI wb)), (4, .int (iI wa)), (0, .ref (gA g 18)), (1, .int (iI x)), (2, .int (iI y)), (3, .int (iI y2))]) hx hb dX7_findBids_204 hl (k := 6) rfl (iI_add _ _) (by decide) rfl (fun ls hl => ?_)
                        refine lv_goto (tgt := 30) hx hb dX7_findBids_207 (by decide) ?_
                        exact ih30 (rr + 1) (mset (mset ND 18 30 (ND 18 30)) 18 29 ((ND 18 29) + 1)) (jj + 1) (by omega) (by exact FR.trans hF (FR.trans (FR_m (by decide)) (FR_m (by decide)))) (by (simp only [flN, ← h1.1]; first | (exfalso; omega) | (rw [hz0 (by omega), List.append_nil, mset_s, rw1_s, k1]; simp) | (rw [hz1 (by omega), List.length_append, mset_s, rw1_s, k1]; simp))) (by (simp only [flN, ← h1.1]; first | (exfalso; omega) | (rw [hz0 (by omega), List.append_nil, mset_s, rw1_n _ _ (by decide), mset_s, rw1_s]; exact k2) | (rw [hz1 (by omega), mset_s, rw1_n _ _ (by decide), mset_s, rw1_s, hd_app]; first | (rw [if_pos (by omega)]; done) | (rw [if_neg (by omega)]; exact k2)))) (by omega) _ _ hI ls (lv_sub hl [0, 7, 8, 9, 10, 11, 12] rfl)
                    · refine lv_iload hx hb dX7_findBids_173 (lv_at hl 6 rfl) ?_
                      refine lv_goto (tgt := 182) hx hb dX7_findBids_175 (by decide) ?_
                      refine r_put C hI 18 (by decide) rfl rfl tyX7 tyX7_ok nmX7 hin7 30 (by decide) (fn := "bidFirst") (fd := "I") (index := 199) (by decide +kernel) ⟨rfl, rfl, rfl⟩ rfl (z := rr) rfl rfl (Nat.le_of_ble_eq_true rfl) rfl dX7_findBids_182 (fun H locs hI => ?_)
                      refine lv_aload_n hx hb dX7_findBids_185 rfl (lv_at hl 9 rfl) ?_
                      refine lv_dup hx hb dX7_findBids_186 rfl ?_
                      refine r_get C hI 18 (by decide) rfl rfl hin7 29 (by decide) (fn := "bidMany") (fd := "I") (index := 196) (by decide +kernel) ⟨rfl, rfl, rfl⟩ (v := .int (iI (ND 18 29))) rfl dX7_findBids_187 ?_
                      refine r_eqI (z2 := ND 18 29) (by first | rfl | (repeat first | rw [mset_s, rw1_s] | rw [mset_s, rw1_n _ _ (by omega)] | rw [mset_n _ _ _ (by decide)])) ?_
                      refine lv_iload hx hb dX7_findBids_190 (lv_at hl 1 rfl) ?_
                      refine r_if_eq hx hb (tgt := 199) (by omega) dX7_findBids_192 (by decide) (fun c_42 => ?_) (fun c_42 => ?_)
                      · refine lv_iconst (v := iI 0) hx hb dX7_findBids_199 rfl ?_
                        refine r_iadd hx hb dX7_findBids_200 ?_
                        refine r_put C hI 18 (by decide) rfl rfl tyX7 tyX7_ok nmX7 hin7 29 (by decide) (fn := "bidMany") (fd := "I") (index := 196) (by decide +kernel) ⟨rfl, rfl, rfl⟩ rfl (z := (ND 18 29) + 0) rfl rfl (Nat.le_of_ble_eq_true rfl) rfl dX7_findBids_201 (fun H locs hI => ?_)
                        refine lv_iinc (v := iI (rr + 1)) (lv' := [(6, .int (iI (rr + 1))), (12, .int (iI kk)), (11, .int (iI ii)), (10, .int (iI tw)), (9, .int (iI on)), (8, .int (iI (rr % 10))), (7, .int (iI (rr / 10))), (5, .int (iI wb)), (4, .int (iI wa)), (0, .ref (gA g 18)), (1, .int (iI x)), (2, .int (iI y)), (3, .int (iI y2))]) hx hb dX7_findBids_204 hl (k := 6) rfl (iI_add _ _) (by decide) rfl (fun ls hl => ?_)
                        refine lv_goto (tgt := 30) hx hb dX7_findBids_207 (by decide) ?_
                        exact ih30 (rr + 1) (mset (mset ND 18 30 rr) 18 29 ((ND 18 29) + 0)) (jj + 1) (by omega) (by exact FR.trans hF (FR.trans (FR_m (by decide)) (FR_m (by decide)))) (by (simp only [flN, ← h1.1]; first | (exfalso; omega) | (rw [hz0 (by omega), List.append_nil, mset_s, rw1_s, k1]; simp) | (rw [hz1 (by omega), List.length_append, mset_s, rw1_s, k1]; simp))) (by (simp only [flN, ← h1.1]; first | (exfalso; omega) | (rw [hz0 (by omega), List.append_nil, mset_s, rw1_n _ _ (by decide), mset_s, rw1_s]; exact k2) | (rw [hz1 (by omega), mset_s, rw1_n _ _ (by decide), mset_s, rw1_s, hd_app]; first | (rw [if_pos (by omega)]; done) | (rw [if_neg (by omega)]; exact k2)))) (by omega) _ _ hI ls (lv_sub hl [0, 7, 8, 9, 10, 11, 12] rfl)
                      · refine lv_iconst (v := iI 1) hx hb dX7_findBids_195 rfl ?_
                        refine lv_goto (tgt := 200) hx hb dX7_findBids_196 (by decide) ?_
                        refine r_iadd hx hb dX7_findBids_200 ?_
                        refine r_put C hI 18 (by decide) rfl rfl tyX7 tyX7_ok nmX7 hin7 29 (by decide) (fn := "bidMany") (fd := "I") (index := 196) (by decide +kernel) ⟨rfl, rfl, rfl⟩ rfl (z := (ND 18 29) + 1) rfl rfl (Nat.le_of_ble_eq_true rfl) rfl dX7_findBids_201 (fun H locs hI => ?_)
                        refine lv_iinc (v := iI (rr + 1)) (lv' := [(6, .int (iI (rr + 1))), (12, .int (iI kk)), (11, .int (iI ii)), (10, .int (iI tw)), (9, .int (iI on)), (8, .int (iI (rr % 10))), (7, .int (iI (rr / 10))), (5, .int (iI wb)), (4, .int (iI wa)), (0, .ref (gA g 18)), (1, .int (iI x)), (2, .int (iI y)), (3, .int (iI y2))]) hx hb dX7_findBids_204 hl (k := 6) rfl (iI_add _ _) (by decide) rfl (fun ls hl => ?_)
                        refine lv_goto (tgt := 30) hx hb dX7_findBids_207 (by decide) ?_
                        exact ih30 (rr + 1) (mset (mset ND 18 30 rr) 18 29 ((ND 18 29) + 1)) (jj + 1) (by omega) (by exact FR.trans hF (FR.trans (FR_m (by decide)) (FR_m (by decide)))) (by (simp only [flN, ← h1.1]; first | (exfalso; omega) | (rw [hz0 (by omega), List.append_nil, mset_s, rw1_s, k1]; simp) | (rw [hz1 (by omega), List.length_append, mset_s, rw1_s, k1]; simp))) (by (simp only [flN, ← h1.1]; first | (exfalso; omega) | (rw [hz0 (by omega), List.append_nil, mset_s, rw1_n _ _ (by decide), mset_s, rw1_s]; exact k2) | (rw [hz1 (by omega), mset_s, rw1_n _ _ (by decide), mset_s, rw1_s, hd_app]; first | (rw [if_pos (by omega)]; done) | (rw [if_neg (by omega)]; exact k2)))) (by omega) _ _ hI ls (lv_sub hl [0, 7, 8, 9, 10, 11, 12] rfl)
                · refine lv_iload hx hb dX7_findBids_100 (lv_at hl 1 rfl) ?_
                  refine r_if_eq hx hb (tgt := 151) (by omega) dX7_findBids_102 (by decide) (fun c_43 => ?_) (fun c_43 => ?_)
                  · refine lv_iconst (v := iI 0) hx hb dX7_findBids_151 rfl ?_
                    refine lv_istore (lv' := [(11, .int (iI 0)), (12, .int (iI kk)), (10, .int (iI tw)), (9, .int (iI on)), (8, .int (iI (rr % 10))), (7, .int (iI (rr / 10))), (6, .int (iI rr)), (5, .int (iI wb)), (4, .int (iI wa)), (0, .ref (gA g 18)), (1, .int (iI x)), (2, .int (iI y)), (3, .int (iI y2))]) hx hb dX7_findBids_152 hl (by decide) rfl (fun ls hl => ?_)
                    refine lv_iinc (v := iI (kk + 1)) (lv' := [(12, .int (iI (kk + 1))), (11, .int (iI 0)), (10, .int (iI tw)), (9, .int (iI on)), (8, .int (iI (rr % 10))), (7, .int (iI (rr / 10))), (6, .int (iI rr)), (5, .int (iI wb)), (4, .int (iI wa)), (0, .ref (gA g 18)), (1, .int (iI x)), (2, .int (iI y)), (3, .int (iI y2))]) hx hb dX7_findBids_154 hl (k := 1) rfl (iI_add _ _) (by decide) rfl (fun ls hl => ?_)
                    refine lv_goto (tgt := 93) hx hb dX7_findBids_157 (by decide) ?_
                    exact ih93 (kk + 1) 0 tw on (mm + 1) (by omega) (by exact n1) (by exact n2) (by first | exact Or.inl ⟨rfl, arN_1 (i2.elim id (fun q => absurd q.1 (by omega))).2 (by rw [← i1.1.1]; omega)⟩ | exact Or.inr ⟨rfl, arN_3 (i2.elim (fun q => absurd q.1 (by omega)) id).2⟩ | exact Or.inr ⟨rfl, arN_2 (by rw [← i1.1.1]; omega)⟩) (by omega) _ _ hI ls (lv_sub hl [0, 1, 2, 3, 4, 5, 6, 7, 8, 9, 10, 11, 12] rfl)
                  · refine lv_iload hx hb dX7_findBids_105 (lv_at hl 0 rfl) ?_
                    refine lv_iload hx hb dX7_findBids_107 (lv_at hl 4 rfl) ?_
                    refine r_icmp_lt hx hb (tgt := 120) (by omega) (by omega) dX7_findBids_109 (by decide) (fun c_44 => ?_) (fun c_44 => ?_)
                    · refine lv_iconst (v := iI 0) hx hb dX7_findBids_120 rfl ?_
                      refine lv_iload hx hb dX7_findBids_121 (lv_at hl 3 rfl) ?_
                      refine r_icmp_gt hx hb (tgt := 151) (by decide) (by omega) dX7_findBids_123 (by decide) (fun c_45 => ?_) (fun c_45 => ?_)
                      · refine lv_iconst (v := iI 0) hx hb dX7_findBids_151 rfl ?_
                        refine lv_istore (lv' := [(11, .int (iI 0)), (12, .int (iI kk)), (10, .int (iI tw)), (9, .int (iI on)), (8, .int (iI (rr % 10))), (7, .int (iI (rr / 10))), (6, .int (iI rr)), (5, .int (iI wb)), (4, .int (iI wa)), (0, .ref (gA g 18)), (1, .int (iI x)), (2, .int (iI y)), (3, .int (iI y2))]) hx hb dX7_findBids_152 hl (by decide) rfl (fun ls hl => ?_)
                        refine lv_iinc (v := iI (kk + 1)) (lv' := [(12, .int (iI (kk + 1))), (11, .int (iI 0)), (10, .int (iI tw)), (9, .int (iI on)), (8, .int (iI (rr % 10))), (7, .int (iI (rr / 10))), (6, .int (iI rr)), (5, .int (iI wb)), (4, .int (iI wa)), (0, .ref (gA g 18)), (1, .int (iI x)), (2, .int (iI y)), (3, .int (iI y2))]) hx hb dX7_findBids_154 hl (k := 1) rfl (iI_add _ _) (by decide) rfl (fun ls hl => ?_)
                        refine lv_goto (tgt := 93) hx hb dX7_findBids_157 (by decide) ?_
                        exact ih93 (kk + 1) 0 tw on (mm + 1) (by omega) (by exact n1) (by exact n2) (by first | exact Or.inl ⟨rfl, arN_1 (i2.elim id (fun q => absurd q.1 (by omega))).2 (by rw [← i1.1.1]; omega)⟩ | exact Or.inr ⟨rfl, arN_3 (i2.elim (fun q => absurd q.1 (by omega)) id).2⟩ | exact Or.inr ⟨rfl, arN_2 (by rw [← i1.1.1]; omega)⟩) (by omega) _ _ hI ls (lv_sub hl [0, 1, 2, 3, 4, 5, 6, 7, 8, 9, 10, 11, 12] rfl)
                      · refine lv_iload hx hb dX7_findBids_126 (lv_at hl 5 rfl) ?_
                        refine lv_iload hx hb dX7_findBids_128 (lv_at hl 0 rfl) ?_
                        refine r_icmp_lt hx hb (tgt := 137) (by omega) (by omega) dX7_findBids_130 (by decide) (fun c_46 => ?_) (fun c_46 => ?_)
                        · refine lv_iload hx hb dX7_findBids_137 (lv_at hl 7 rfl) ?_
                          refine lv_iload hx hb dX7_findBids_139 (lv_at hl 0 rfl) ?_
                          refine r_isub hx hb dX7_findBids_141 ?_
                          refine lv_iload hx hb dX7_findBids_142 (lv_at hl 2 rfl) ?_
                          refine r_icmp_gt hx hb (tgt := 151) (by omega) (by omega) dX7_findBids_144 (by decide) (fun c_47 => ?_) (fun c_47 => ?_)
                          · refine lv_iconst (v := iI 0) hx hb dX7_findBids_151 rfl ?_
                            refine lv_istore (lv' := [(11, .int (iI 0)), (12, .int (iI kk)), (10, .int (iI tw)), (9, .int (iI on)), (8, .int (iI (rr % 10))), (7, .int (iI (rr / 10))), (6, .int (iI rr)), (5, .int (iI wb)), (4, .int (iI wa)), (0, .ref (gA g 18)), (1, .int (iI x)), (2, .int (iI y)), (3, .int (iI y2))]) hx hb dX7_findBids_152 hl (by decide) rfl (fun ls hl => ?_)
                            refine lv_iinc (v := iI (kk + 1)) (lv' := [(12, .int (iI (kk + 1))), (11, .int (iI 0)), (10, .int (iI tw)), (9, .int (iI on)), (8, .int (iI (rr % 10))), (7, .int (iI (rr / 10))), (6, .int (iI rr)), (5, .int (iI wb)), (4, .int (iI wa)), (0, .ref (gA g 18)), (1, .int (iI x)), (2, .int (iI y)), (3, .int (iI y2))]) hx hb dX7_findBids_154 hl (k := 1) rfl (iI_add _ _) (by decide) rfl (fun ls hl => ?_)
                            refine lv_goto (tgt := 93) hx hb dX7_findBids_157 (by decide) ?_
                            exact ih93 (kk + 1) 0 tw on (mm + 1) (by omega) (by exact n1) (by exact n2) (by first | exact Or.inl ⟨rfl, arN_1 (i2.elim id (fun q => absurd q.1 (by omega))).2 (by rw [← i1.1.1]; omega)⟩ | exact Or.inr ⟨rfl, arN_3 (i2.elim (fun q => absurd q.1 (by omega)) id).2⟩ | exact Or.inr ⟨rfl, arN_2 (by rw [← i1.1.1]; omega)⟩) (by omega) _ _ hI ls (lv_sub hl [0, 1, 2, 3, 4, 5, 6, 7, 8, 9, 10, 11, 12] rfl)
                          · refine lv_iconst (v := iI 1) hx hb dX7_findBids_147 rfl ?_
                            refine lv_goto (tgt := 152) hx hb dX7_findBids_148 (by decide) ?_
                            refine lv_istore (lv' := [(11, .int (iI 1)), (12, .int (iI kk)), (10, .int (iI tw)), (9, .int (iI on)), (8, .int (iI (rr % 10))), (7, .int (iI (rr / 10))), (6, .int (iI rr)), (5, .int (iI wb)), (4, .int (iI wa)), (0, .ref (gA g 18)), (1, .int (iI x)), (2, .int (iI y)), (3, .int (iI y2))]) hx hb dX7_findBids_152 hl (by decide) rfl (fun ls hl => ?_)
                            refine lv_iinc (v := iI (kk + 1)) (lv' := [(12, .int (iI (kk + 1))), (11, .int (iI 1)), (10, .int (iI tw)), (9, .int (iI on)), (8, .int (iI (rr % 10))), (7, .int (iI (rr / 10))), (6, .int (iI rr)), (5, .int (iI wb)), (4, .int (iI wa)), (0, .ref (gA g 18)), (1, .int (iI x)), (2, .int (iI y)), (3, .int (iI y2))]) hx hb dX7_findBids_154 hl (k := 1) rfl (iI_add _ _) (by decide) rfl (fun ls hl => ?_)
                            refine lv_goto (tgt := 93) hx hb dX7_findBids_157 (by decide) ?_
                            exact ih93 (kk + 1) 1 tw on (mm + 1) (by omega) (by exact n1) (by exact n2) (by first | exact Or.inl ⟨rfl, arN_1 (i2.elim id (fun q => absurd q.1 (by omega))).2 (by rw [← i1.1.1]; omega)⟩ | exact Or.inr ⟨rfl, arN_3 (i2.elim (fun q => absurd q.1 (by omega)) id).2⟩ | exact Or.inr ⟨rfl, arN_2 (by rw [← i1.1.1]; omega)⟩) (by omega) _ _ hI ls (lv_sub hl [0, 1, 2, 3, 4, 5, 6, 7, 8, 9, 10, 11, 12] rfl)
                        · refine lv_iconst (v := iI 0) hx hb dX7_findBids_133 rfl ?_
                          refine lv_goto (tgt := 142) hx hb dX7_findBids_134 (by decide) ?_
                          refine lv_iload hx hb dX7_findBids_142 (lv_at hl 2 rfl) ?_
                          refine r_icmp_gt hx hb (tgt := 151) (by decide) (by omega) dX7_findBids_144 (by decide) (fun c_48 => ?_) (fun c_48 => ?_)
                          · refine lv_iconst (v := iI 0) hx hb dX7_findBids_151 rfl ?_
                            refine lv_istore (lv' := [(11, .int (iI 0)), (12, .int (iI kk)), (10, .int (iI tw)), (9, .int (iI on)), (8, .int (iI (rr % 10))), (7, .int (iI (rr / 10))), (6, .int (iI rr)), (5, .int (iI wb)), (4, .int (iI wa)), (0, .ref (gA g 18)), (1, .int (iI x)), (2, .int (iI y)), (3, .int (iI y2))]) hx hb dX7_findBids_152 hl (by decide) rfl (fun ls hl => ?_)
                            refine lv_iinc (v := iI (kk + 1)) (lv' := [(12, .int (iI (kk + 1))), (11, .int (iI 0)), (10, .int (iI tw)), (9, .int (iI on)), (8, .int (iI (rr % 10))), (7, .int (iI (rr / 10))), (6, .int (iI rr)), (5, .int (iI wb)), (4, .int (iI wa)), (0, .ref (gA g 18)), (1, .int (iI x)), (2, .int (iI y)), (3, .int (iI y2))]) hx hb dX7_findBids_154 hl (k := 1) rfl (iI_add _ _) (by decide) rfl (fun ls hl => ?_)
                            refine lv_goto (tgt := 93) hx hb dX7_findBids_157 (by decide) ?_
                            exact ih93 (kk + 1) 0 tw on (mm + 1) (by omega) (by exact n1) (by exact n2) (by first | exact Or.inl ⟨rfl, arN_1 (i2.elim id (fun q => absurd q.1 (by omega))).2 (by rw [← i1.1.1]; omega)⟩ | exact Or.inr ⟨rfl, arN_3 (i2.elim (fun q => absurd q.1 (by omega)) id).2⟩ | exact Or.inr ⟨rfl, arN_2 (by rw [← i1.1.1]; omega)⟩) (by omega) _ _ hI ls (lv_sub hl [0, 1, 2, 3, 4, 5, 6, 7, 8, 9, 10, 11, 12] rfl)
                          · refine lv_iconst (v := iI 1) hx hb dX7_findBids_147 rfl ?_
                            refine lv_goto (tgt := 152) hx hb dX7_findBids_148 (by decide) ?_
                            refine lv_istore (lv' := [(11, .int (iI 1)), (12, .int (iI kk)), (10, .int (iI tw)), (9, .int (iI on)), (8, .int (iI (rr % 10))), (7, .int (iI (rr / 10))), (6, .int (iI rr)), (5, .int (iI wb)), (4, .int (iI wa)), (0, .ref (gA g 18)), (1, .int (iI x)), (2, .int (iI y)), (3, .int (iI y2))]) hx hb dX7_findBids_152 hl (by decide) rfl (fun ls hl => ?_)
                            refine lv_iinc (v := iI (kk + 1)) (lv' := [(12, .int (iI (kk + 1))), (11, .int (iI 1)), (10, .int (iI tw)), (9, .int (iI on)), (8, .int (iI (rr % 10))), (7, .int (iI (rr / 10))), (6, .int (iI rr)), (5, .int (iI wb)), (4, .int (iI wa)), (0, .ref (gA g 18)), (1, .int (iI x)), (2, .int (iI y)), (3, .int (iI y2))]) hx hb dX7_findBids_154 hl (k := 1) rfl (iI_add _ _) (by decide) rfl (fun ls hl => ?_)
                            refine lv_goto (tgt := 93) hx hb dX7_findBids_157 (by decide) ?_
                            exact ih93 (kk + 1) 1 tw on (mm + 1) (by omega) (by exact n1) (by exact n2) (by first | exact Or.inl ⟨rfl, arN_1 (i2.elim id (fun q => absurd q.1 (by omega))).2 (by rw [← i1.1.1]; omega)⟩ | exact Or.inr ⟨rfl, arN_3 (i2.elim (fun q => absurd q.1 (by omega)) id).2⟩ | exact Or.inr ⟨rfl, arN_2 (by rw [← i1.1.1]; omega)⟩) (by omega) _ _ hI ls (lv_sub hl [0, 1, 2, 3, 4, 5, 6, 7, 8, 9, 10, 11, 12] rfl)
                    · refine lv_iload hx hb dX7_findBids_112 (lv_at hl 8 rfl) ?_
                      refine lv_iload hx hb dX7_findBids_114 (lv_at hl 0 rfl) ?_
                      refine r_isub hx hb dX7_findBids_116 ?_
                      refine lv_goto (tgt := 121) hx hb dX7_findBids_117 (by decide) ?_
                      refine lv_iload hx hb dX7_findBids_121 (lv_at hl 3 rfl) ?_
                      refine r_icmp_gt hx hb (tgt := 151) (by omega) (by omega) dX7_findBids_123 (by decide) (fun c_49 => ?_) (fun c_49 => ?_)
                      · refine lv_iconst (v := iI 0) hx hb dX7_findBids_151 rfl ?_
                        refine lv_istore (lv' := [(11, .int (iI 0)), (12, .int (iI kk)), (10, .int (iI tw)), (9, .int (iI on)), (8, .int (iI (rr % 10))), (7, .int (iI (rr / 10))), (6, .int (iI rr)), (5, .int (iI wb)), (4, .int (iI wa)), (0, .ref (gA g 18)), (1, .int (iI x)), (2, .int (iI y)), (3, .int (iI y2))]) hx hb dX7_findBids_152 hl (by decide) rfl (fun ls hl => ?_)
                        refine lv_iinc (v := iI (kk + 1)) (lv' := [(12, .int (iI (kk + 1))), (11, .int (iI 0)), (10, .int (iI tw)), (9, .int (iI on)), (8, .int (iI (rr % 10))), (7, .int (iI (rr / 10))), (6, .int (iI rr)), (5, .int (iI wb)), (4, .int (iI wa)), (0, .ref (gA g 18)), (1, .int (iI x)), (2, .int (iI y)), (3, .int (iI y2))]) hx hb dX7_findBids_154 hl (k := 1) rfl (iI_add _ _) (by decide) rfl (fun ls hl => ?_)
                        refine lv_goto (tgt := 93) hx hb dX7_findBids_157 (by decide) ?_
                        exact ih93 (kk + 1) 0 tw on (mm + 1) (by omega) (by exact n1) (by exact n2) (by first | exact Or.inl ⟨rfl, arN_1 (i2.elim id (fun q => absurd q.1 (by omega))).2 (by rw [← i1.1.1]; omega)⟩ | exact Or.inr ⟨rfl, arN_3 (i2.elim (fun q => absurd q.1 (by omega)) id).2⟩ | exact Or.inr ⟨rfl, arN_2 (by rw [← i1.1.1]; omega)⟩) (by omega) _ _ hI ls (lv_sub hl [0, 1, 2, 3, 4, 5, 6, 7, 8, 9, 10, 11, 12] rfl)
                      · refine lv_iload hx hb dX7_findBids_126 (lv_at hl 5 rfl) ?_
                        refine lv_iload hx hb dX7_findBids_128 (lv_at hl 0 rfl) ?_
                        refine r_icmp_lt hx hb (tgt := 137) (by omega) (by omega) dX7_findBids_130 (by decide) (fun c_50 => ?_) (fun c_50 => ?_)
                        · refine lv_iload hx hb dX7_findBids_137 (lv_at hl 7 rfl) ?_
                          refine lv_iload hx hb dX7_findBids_139 (lv_at hl 0 rfl) ?_
                          refine r_isub hx hb dX7_findBids_141 ?_
                          refine lv_iload hx hb dX7_findBids_142 (lv_at hl 2 rfl) ?_
                          refine r_icmp_gt hx hb (tgt := 151) (by omega) (by omega) dX7_findBids_144 (by decide) (fun c_51 => ?_) (fun c_51 => ?_)
                          · refine lv_iconst (v := iI 0) hx hb dX7_findBids_151 rfl ?_
                            refine lv_istore (lv' := [(11, .int (iI 0)), (12, .int (iI kk)), (10, .int (iI tw)), (9, .int (iI on)), (8, .int (iI (rr % 10))), (7, .int (iI (rr / 10))), (6, .int (iI rr)), (5, .int (iI wb)), (4, .int (iI wa)), (0, .ref (gA g 18)), (1, .int (iI x)), (2, .int (iI y)), (3, .int (iI y2))]) hx hb dX7_findBids_152 hl (by decide) rfl (fun ls hl => ?_)
                            refine lv_iinc (v := iI (kk + 1)) (lv' := [(12, .int (iI (kk + 1))), (11, .int (iI 0)), (10, .int (iI tw)), (9, .int (iI on)), (8, .int (iI (rr % 10))), (7, .int (iI (rr / 10))), (6, .int (iI rr)), (5, .int (iI wb)), (4, .int (iI wa)), (0, .ref (gA g 18)), (1, .int (iI x)), (2, .int (iI y)), (3, .int (iI y2))]) hx hb dX7_findBids_154 hl (k := 1) rfl (iI_add _ _) (by decide) rfl (fun ls hl => ?_)
                            refine lv_goto (tgt := 93) hx hb dX7_findBids_157 (by decide) ?_
                            exact ih93 (kk + 1) 0 tw on (mm + 1) (by omega) (by exact n1) (by exact n2) (by first | exact Or.inl ⟨rfl, arN_1 (i2.elim id (fun q => absurd q.1 (by omega))).2 (by rw [← i1.1.1]; omega)⟩ | exact Or.inr ⟨rfl, arN_3 (i2.elim (fun q => absurd q.1 (by omega)) id).2⟩ | exact Or.inr ⟨rfl, arN_2 (by rw [← i1.1.1]; omega)⟩) (by omega) _ _ hI ls (lv_sub hl [0, 1, 2, 3, 4, 5, 6, 7, 8, 9, 10, 11, 12] rfl)
                          · refine lv_iconst (v := iI 1) hx hb dX7_findBids_147 rfl ?_
                            refine lv_goto (tgt := 152) hx hb dX7_findBids_148 (by decide) ?_
                            refine lv_istore (lv' := [(11, .int (iI 1)), (12, .int (iI kk)), (10, .int (iI tw)), (9, .int (iI on)), (8, .int (iI (rr % 10))), (7, .int (iI (rr / 10))), (6, .int (iI rr)), (5, .int (iI wb)), (4, .int (iI wa)), (0, .ref (gA g 18)), (1, .int (iI x)), (2, .int (iI y)), (3, .int (iI y2))]) hx hb dX7_findBids_152 hl (by decide) rfl (fun ls hl => ?_)
                            refine lv_iinc (v := iI (kk + 1)) (lv' := [(12, .int (iI (kk + 1))), (11, .int (iI 1)), (10, .int (iI tw)), (9, .int (iI on)), (8, .int (iI (rr % 10))), (7, .int (iI (rr / 10))), (6, .int (iI rr)), (5, .int (iI wb)), (4, .int (iI wa)), (0, .ref (gA g 18)), (1, .int (iI x)), (2, .int (iI y)), (3, .int (iI y2))]) hx hb dX7_findBids_154 hl (k := 1) rfl (iI_add _ _) (by decide) rfl (fun ls hl => ?_)
                            refine lv_goto (tgt := 93) hx hb dX7_findBids_157 (by decide) ?_
                            exact ih93 (kk + 1) 1 tw on (mm + 1) (by omega) (by exact n1) (by exact n2) (by first | exact Or.inl ⟨rfl, arN_1 (i2.elim id (fun q => absurd q.1 (by omega))).2 (by rw [← i1.1.1]; omega)⟩ | exact Or.inr ⟨rfl, arN_3 (i2.elim (fun q => absurd q.1 (by omega)) id).2⟩ | exact Or.inr ⟨rfl, arN_2 (by rw [← i1.1.1]; omega)⟩) (by omega) _ _ hI ls (lv_sub hl [0, 1, 2, 3, 4, 5, 6, 7, 8, 9, 10, 11, 12] rfl)
                        · refine lv_iconst (v := iI 0) hx hb dX7_findBids_133 rfl ?_
                          refine lv_goto (tgt := 142) hx hb dX7_findBids_134 (by decide) ?_
                          refine lv_iload hx hb dX7_findBids_142 (lv_at hl 2 rfl) ?_
                          refine r_icmp_gt hx hb (tgt := 151) (by decide) (by omega) dX7_findBids_144 (by decide) (fun c_52 => ?_) (fun c_52 => ?_)
                          · refine lv_iconst (v := iI 0) hx hb dX7_findBids_151 rfl ?_
                            refine lv_istore (lv' := [(11, .int (iI 0)), (12, .int (iI kk)), (10, .int (iI tw)), (9, .int (iI on)), (8, .int (iI (rr % 10))), (7, .int (iI (rr / 10))), (6, .int (iI rr)), (5, .int (iI wb)), (4, .int (iI wa)), (0, .ref (gA g 18)), (1, .int (iI x)), (2, .int (iI y)), (3, .int (iI y2))]) hx hb dX7_findBids_152 hl (by decide) rfl (fun ls hl => ?_)
                            refine lv_iinc (v := iI (kk + 1)) (lv' := [(12, .int (iI (kk + 1))), (11, .int (iI 0)), (10, .int (iI tw)), (9, .int (iI on)), (8, .int (iI (rr % 10))), (7, .int (iI (rr / 10))), (6, .int (iI rr)), (5, .int (iI wb)), (4, .int (iI wa)), (0, .ref (gA g 18)), (1, .int (iI x)), (2, .int (iI y)), (3, .int (iI y2))]) hx hb dX7_findBids_154 hl (k := 1) rfl (iI_add _ _) (by decide) rfl (fun ls hl => ?_)
                            refine lv_goto (tgt := 93) hx hb dX7_findBids_157 (by decide) ?_
                            exact ih93 (kk + 1) 0 tw on (mm + 1) (by omega) (by exact n1) (by exact n2) (by first | exact Or.inl ⟨rfl, arN_1 (i2.elim id (fun q => absurd q.1 (by omega))).2 (by rw [← i1.1.1]; omega)⟩ | exact Or.inr ⟨rfl, arN_3 (i2.elim (fun q => absurd q.1 (by omega)) id).2⟩ | exact Or.inr ⟨rfl, arN_2 (by rw [← i1.1.1]; omega)⟩) (by omega) _ _ hI ls (lv_sub hl [0, 1, 2, 3, 4, 5, 6, 7, 8, 9, 10, 11, 12] rfl)
                          · refine lv_iconst (v := iI 1) hx hb dX7_findBids_147 rfl ?_
                            refine lv_goto (tgt := 152) hx hb dX7_findBids_148 (by decide) ?_
                            refine lv_istore (lv' := [(11, .int (iI 1)), (12, .int (iI kk)), (10, .int (iI tw)), (9, .int (iI on)), (8, .int (iI (rr % 10))), (7, .int (iI (rr / 10))), (6, .int (iI rr)), (5, .int (iI wb)), (4, .int (iI wa)), (0, .ref (gA g 18)), (1, .int (iI x)), (2, .int (iI y)), (3, .int (iI y2))]) hx hb dX7_findBids_152 hl (by decide) rfl (fun ls hl => ?_)
                            refine lv_iinc (v := iI (kk + 1)) (lv' := [(12, .int (iI (kk + 1))), (11, .int (iI 1)), (10, .int (iI tw)), (9, .int (iI on)), (8, .int (iI (rr % 10))), (7, .int (iI (rr / 10))), (6, .int (iI rr)), (5, .int (iI wb)), (4, .int (iI wa)), (0, .ref (gA g 18)), (1, .int (iI x)), (2, .int (iI y)), (3, .int (iI y2))]) hx hb dX7_findBids_154 hl (k := 1) rfl (iI_add _ _) (by decide) rfl (fun ls hl => ?_)
                            refine lv_goto (tgt := 93) hx hb dX7_findBids_157 (by decide) ?_
                            exact ih93 (kk + 1) 1 tw on (mm + 1) (by omega) (by exact n1) (by exact n2) (by first | exact Or.inl ⟨rfl, arN_1 (i2.elim id (fun q => absurd q.1 (by omega))).2 (by rw [← i1.1.1]; omega)⟩ | exact Or.inr ⟨rfl, arN_3 (i2.elim (fun q => absurd q.1 (by omega)) id).2⟩ | exact Or.inr ⟨rfl, arN_2 (by rw [← i1.1.1]; omega)⟩) (by omega) _ _ hI ls (lv_sub hl [0, 1, 2, 3, 4, 5, 6, 7, 8, 9, 10, 11, 12] rfl)
            exact lp93 _ 0 1 (wb - (rr % 10)) (wa - (rr / 10)) 0 (by omega) (by first | (rw [gF_1.1 (by omega)]; done) | (rw [gF_1.2 (by omega)]; done)) (by first | (rw [gO_1.1 (by omega)]; done) | (rw [gO_1.2 (by omega)]; done)) (by exact Or.inl ⟨rfl, rfl⟩) (Nat.lt_succ_self _) _ _ hI ls (lv_sub hl [0, 1, 2, 3, 4, 5, 6, 7, 8, 9, 10, 11, 12] rfl)
          · refine lv_iconst (v := iI 0) hx hb dX7_findBids_76 rfl ?_
            refine lv_goto (tgt := 85) hx hb dX7_findBids_77 (by decide) ?_
            refine lv_istore (lv' := [(10, .int (iI 0)), (9, .int (iI (wa - (rr / 10)))), (8, .int (iI (rr % 10))), (7, .int (iI (rr / 10))), (6, .int (iI rr)), (5, .int (iI wb)), (4, .int (iI wa)), (0, .ref (gA g 18)), (1, .int (iI x)), (2, .int (iI y)), (3, .int (iI y2))]) hx hb dX7_findBids_85 hl (by decide) rfl (fun ls hl => ?_)
            refine lv_iconst (v := iI 1) hx hb dX7_findBids_87 rfl ?_
            refine lv_istore (lv' := [(11, .int (iI 1)), (10, .int (iI 0)), (9, .int (iI (wa - (rr / 10)))), (8, .int (iI (rr % 10))), (7, .int (iI (rr / 10))), (6, .int (iI rr)), (5, .int (iI wb)), (4, .int (iI wa)), (0, .ref (gA g 18)), (1, .int (iI x)), (2, .int (iI y)), (3, .int (iI y2))]) hx hb dX7_findBids_88 hl (by decide) rfl (fun ls hl => ?_)
            refine lv_iconst (v := iI 0) hx hb dX7_findBids_90 rfl ?_
            refine lv_istore (lv' := [(12, .int (iI 0)), (11, .int (iI 1)), (10, .int (iI 0)), (9, .int (iI (wa - (rr / 10)))), (8, .int (iI (rr % 10))), (7, .int (iI (rr / 10))), (6, .int (iI rr)), (5, .int (iI wb)), (4, .int (iI wa)), (0, .ref (gA g 18)), (1, .int (iI x)), (2, .int (iI y)), (3, .int (iI y2))]) hx hb dX7_findBids_91 hl (by decide) rfl (fun ls hl => ?_)
            have lp93 : ∀ (n93 : Nat) (kk : Int) (ii : Int) (tw : Int) (on : Int) (mm : Nat), ((kk = (mm : Int) ∧ mm ≤ 10) ∧ (ii = 0 ∨ ii = 1)) → (on = gFst (rr / 10) (rr % 10) wa) → (tw = gOth (rr / 10) (rr % 10) wb) → ((ii = 1 ∧ arN (rr / 10) (rr % 10) wa wb mm = true) ∨ (ii = 0 ∧ arN (rr / 10) (rr % 10) wa wb mm = false)) → 10 - mm < n93 → ∀ (H : Heap) (locs : List Loc), HI g s H locs ND → ∀ ls : Array Slot, lv_has ls 13 [(12, .int (iI kk)), (11, .int (iI ii)), (10, .int (iI tw)), (9, .int (iI on)), (8, .int (iI (rr % 10))), (7, .int (iI (rr / 10))), (6, .int (iI rr)), (5, .int (iI wb)), (4, .int (iI wa)), (0, .ref (gA g 18)), (1, .int (iI x)), (2, .int (iI y)), (3, .int (iI y2))] → W p l e ({ frames := 3, cells := 0, slots := 0, locals := 68 } : Room) s m ([.ref (gA g 18), .int (iI x), .int (iI y), .int (iI y2)] : List Value).toArray below meth c H locs 0 0 (MQ below (QV g (pX (fun u => FR M u ∧ u 18 29 = ((flN (bA (woO A x y) (woO A x y2)) 10).length : Int) ∧ u 18 30 = (flN (bA (woO A x y) (woO A x y2)) 10).headD (-9)))) ([.ref (gA g 18), .int (iI x), .int (iI y), .int (iI y2)] : List Value).toArray s 0 0 (AA g)) (F0 m 93 ls []) := by
              intro n93
              induction n93 with
              | zero => intro kk ii tw on mm i1 n1 n2 i2 hn93; exact absurd hn93 (Nat.not_lt_zero _)
              | succ n93 ih93 =>
                intro kk ii tw on mm i1 n1 n2 i2 hn93 H locs hI ls hl
                have a1 := gF_1 (a := kk) (b := rr % 10) (w := wa)
                have a2 := gO_1 (a := rr / 10) (b := kk) (w := wb)
                have a3 := gF_1 (a := rr / 10) (b := rr % 10) (w := wa)
                have a4 := gO_1 (a := rr / 10) (b := rr % 10) (w := wb)
                refine lv_iload hx hb dX7_findBids_93 (lv_at hl 0 rfl) ?_
                refine lv_bipush (v := iI 10) hx hb dX7_findBids_95 (by decide +kernel) ?_
                refine r_icmp_ge hx hb (tgt := 160) (by omega) (by decide) dX7_findBids_97 (by decide) (fun c_53 => ?_) (fun c_53 => ?_)
                · have e10 : mm = 10 := by omega
                  rw [e10] at i2
                  have hz0 : ii = 0 → bO wa wb (rr / 10) (rr % 10) = [] := fun q => by
                    unfold bO
                    rw [if_neg (by rw [(i2.elim (fun q2 => absurd q2.1 (by omega)) id).2]; decide)]
                  have hz1 : ¬ ii = 0 → bO wa wb (rr / 10) (rr % 10) = [rr] := fun q => by
                    unfold bO
                    rw [if_pos (i2.elim id (fun q2 => absurd q2.1 q)).2, show 10 * (rr / 10) + rr % 10 = rr by omega]
                  refine lv_aload_n hx hb dX7_findBids_160 rfl (lv_at hl 9 rfl) ?_
                  refine lv_iload hx hb dX7_findBids_161 (lv_at hl 1 rfl) ?_
                  refine r_if_eq hx hb (tgt := 178) (by omega) dX7_findBids_163 (by decide) (fun c_54 => ?_) (fun c_54 => ?_)
                  · refine lv_aload_n hx hb dX7_findBids_178 rfl (lv_at hl 9 rfl) ?_
                    refine r_get C hI 18 (by decide) rfl rfl hin7 30 (by decide) (fn := "bidFirst") (fd := "I") (index := 199) (by decide +kernel) ⟨rfl, rfl, rfl⟩ (v := .int (iI (ND 18 30))) rfl dX7_findBids_179 ?_
                    refine r_put C hI 18 (by decide) rfl rfl tyX7 tyX7_ok nmX7 hin7 30 (by decide) (fn := "bidFirst") (fd := "I") (index := 199) (by decide +kernel) ⟨rfl, rfl, rfl⟩ rfl (z := ND 18 30) rfl rfl (Nat.le_of_ble_eq_true rfl) rfl dX7_findBids_182 (fun H locs hI => ?_)
                    refine lv_aload_n hx hb dX7_findBids_185 rfl (lv_at hl 9 rfl) ?_
                    refine lv_dup hx hb dX7_findBids_186 rfl ?_
                    refine r_get C hI 18 (by decide) rfl rfl hin7 29 (by decide) (fn := "bidMany") (fd := "I") (index := 196) (by decide +kernel) ⟨rfl, rfl, rfl⟩ (v := .int (iI (ND 18 29))) rfl dX7_findBids_187 ?_
                    refine r_eqI (z2 := ND 18 29) (by first | rfl | (repeat first | rw [mset_s, rw1_s] | rw [mset_s, rw1_n _ _ (by omega)] | rw [mset_n _ _ _ (by decide)])) ?_
                    refine lv_iload hx hb dX7_findBids_190 (lv_at hl 1 rfl) ?_
                    refine r_if_eq hx hb (tgt := 199) (by omega) dX7_findBids_192 (by decide) (fun c_55 => ?_) (fun c_55 => ?_)
                    · refine lv_iconst (v := iI 0) hx hb dX7_findBids_199 rfl ?_
                      refine r_iadd hx hb dX7_findBids_200 ?_
                      refine r_put C hI 18 (by decide) rfl rfl tyX7 tyX7_ok nmX7 hin7 29 (by decide) (fn := "bidMany") (fd := "I") (index := 196) (by decide +kernel) ⟨rfl, rfl, rfl⟩ rfl (z := (ND 18 29) + 0) rfl rfl (Nat.le_of_ble_eq_true rfl) rfl dX7_findBids_201 (fun H locs hI => ?_)
                      refine lv_iinc (v := iI (rr + 1)) (lv' := [(6, .int (iI (rr + 1))), (12, .int (iI kk)), (11, .int (iI ii)), (10, .int (iI tw)), (9, .int (iI on)), (8, .int (iI (rr % 10))), (7, .int (iI (rr / 10))), (5, .int (iI wb)), (4, .int (iI wa)), (0, .ref (gA g 18)), (1, .int (iI x)), (2, .int (iI y)), (3, .int (iI y2))]) hx hb dX7_findBids_204 hl (k := 6) rfl (iI_add _ _) (by decide) rfl (fun ls hl => ?_)
                      refine lv_goto (tgt := 30) hx hb dX7_findBids_207 (by decide) ?_
                      exact ih30 (rr + 1) (mset (mset ND 18 30 (ND 18 30)) 18 29 ((ND 18 29) + 0)) (jj + 1) (by omega) (by exact FR.trans hF (FR.trans (FR_m (by decide)) (FR_m (by decide)))) (by (simp only [flN, ← h1.1]; first | (exfalso; omega) | (rw [hz0 (by omega), List.append_nil, mset_s, rw1_s, k1]; simp) | (rw [hz1 (by omega), List.length_append, mset_s, rw1_s, k1]; simp))) (by (simp only [flN, ← h1.1]; first | (exfalso; omega) | (rw [hz0 (by omega), List.append_nil, mset_s, rw1_n _ _ (by decide), mset_s, rw1_s]; exact k2) | (rw [hz1 (by omega), mset_s, rw1_n _ _ (by decide), mset_s, rw1_s, hd_app]; first | (rw [if_pos (by omega)]; done) | (rw [if_neg (by omega)]; exact k2)))) (by omega) _ _ hI ls (lv_sub hl [0, 7, 8, 9, 10, 11, 12] rfl)
                    · refine lv_iconst (v := iI 1) hx hb dX7_findBids_195 rfl ?_
                      refine lv_goto (tgt := 200) hx hb dX7_findBids_196 (by decide) ?_
                      refine r_iadd hx hb dX7_findBids_200 ?_
                      refine r_put C hI 18 (by decide) rfl rfl tyX7 tyX7_ok nmX7 hin7 29 (by decide) (fn := "bidMany") (fd := "I") (index := 196) (by decide +kernel) ⟨rfl, rfl, rfl⟩ rfl (z := (ND 18 29) + 1) rfl rfl (Nat.le_of_ble_eq_true rfl) rfl dX7_findBids_201 (fun H locs hI => ?_)
                      refine lv_iinc (v := iI (rr + 1)) (lv' := [(6, .int (iI (rr + 1))), (12, .int (iI kk)), (11, .int (iI ii)), (10, .int (iI tw)), (9, .int (iI on)), (8, .int (iI (rr % 10))), (7, .int (iI (rr / 10))), (5, .int (iI wb)), (4, .int (iI wa)), (0, .ref (gA g 18)), (1, .int (iI x)), (2, .int (iI y)), (3, .int (iI y2))]) hx hb dX7_findBids_204 hl (k := 6) rfl (iI_add _ _) (by decide) rfl (fun ls hl => ?_)
                      refine lv_goto (tgt := 30) hx hb dX7_findBids_207 (by decide) ?_
                      exact ih30 (rr + 1) (mset (mset ND 18 30 (ND 18 30)) 18 29 ((ND 18 29) + 1)) (jj + 1) (by omega) (by exact FR.trans hF (FR.trans (FR_m (by decide)) (FR_m (by decide)))) (by (simp only [flN, ← h1.1]; first | (exfalso; omega) | (rw [hz0 (by omega), List.append_nil, mset_s, rw1_s, k1]; simp) | (rw [hz1 (by omega), List.length_append, mset_s, rw1_s, k1]; simp))) (by (simp only [flN, ← h1.1]; first | (exfalso; omega) | (rw [hz0 (by omega), List.append_nil, mset_s, rw1_n _ _ (by decide), mset_s, rw1_s]; exact k2) | (rw [hz1 (by omega), mset_s, rw1_n _ _ (by decide), mset_s, rw1_s, hd_app]; first | (rw [if_pos (by omega)]; done) | (rw [if_neg (by omega)]; exact k2)))) (by omega) _ _ hI ls (lv_sub hl [0, 7, 8, 9, 10, 11, 12] rfl)
                  · refine lv_aload_n hx hb dX7_findBids_166 rfl (lv_at hl 9 rfl) ?_
                    refine r_get C hI 18 (by decide) rfl rfl hin7 29 (by decide) (fn := "bidMany") (fd := "I") (index := 196) (by decide +kernel) ⟨rfl, rfl, rfl⟩ (v := .int (iI (ND 18 29))) rfl dX7_findBids_167 ?_
                    refine r_if_ne hx hb (tgt := 178) (by omega) dX7_findBids_170 (by decide) (fun c_56 => ?_) (fun c_56 => ?_)
                    · refine lv_aload_n hx hb dX7_findBids_178 rfl (lv_at hl 9 rfl) ?_
                      refine r_get C hI 18 (by decide) rfl rfl hin7 30 (by decide) (fn := "bidFirst") (fd := "I") (index := 199) (by decide +kernel) ⟨rfl, rfl, rfl⟩ (v := .int (iI (ND 18 30))) rfl dX7_findBids_179 ?_
                      refine r_put C hI 18 (by decide) rfl rfl tyX7 tyX7_ok nmX7 hin7 30 (by decide) (fn := "bidFirst") (fd := "I") (index := 199) (by decide +kernel) ⟨rfl, rfl, rfl⟩ rfl (z := ND 18 30) rfl rfl (Nat.le_of_ble_eq_true rfl) rfl dX7_findBids_182 (fun H locs hI => ?_)
                      refine lv_aload_n hx hb dX7_findBids_185 rfl (lv_at hl 9 rfl) ?_
                      refine lv_dup hx hb dX7_findBids_186 rfl ?_
                      refine r_get C hI 18 (by decide) rfl rfl hin7 29 (by decide) (fn := "bidMany") (fd := "I") (index := 196) (by decide +kernel) ⟨rfl, rfl, rfl⟩ (v := .int (iI (ND 18 29))) rfl dX7_findBids_187 ?_
                      refine r_eqI (z2 := ND 18 29) (by first | rfl | (repeat first | rw [mset_s, rw1_s] | rw [mset_s, rw1_n _ _ (by omega)] | rw [mset_n _ _ _ (by decide)])) ?_
                      refine lv_iload hx hb dX7_findBids_190 (lv_at hl 1 rfl) ?_
                      refine r_if_eq hx hb (tgt := 199) (by omega) dX7_findBids_192 (by decide) (fun c_57 => ?_) (fun c_57 => ?_)
                      · refine lv_iconst (v := iI 0) hx hb dX7_findBids_199 rfl ?_
                        refine r_iadd hx hb dX7_findBids_200 ?_
                        refine r_put C hI 18 (by decide) rfl rfl tyX7 tyX7_ok nmX7 hin7 29 (by decide) (fn := "bidMany") (fd := "I") (index := 196) (by decide +kernel) ⟨rfl, rfl, rfl⟩ rfl (z := (ND 18 29) + 0) rfl rfl (Nat.le_of_ble_eq_true rfl) rfl dX7_findBids_201 (fun H locs hI => ?_)
                        refine lv_iinc (v := iI (rr + 1)) (lv' := [(6, .int (iI (rr + 1))), (12, .int (iI kk)), (11, .int (iI ii)), (10, .int (iI tw)), (9, .int (iI on)), (8, .int (iI (rr % 10))), (7, .int (iI (rr / 10))), (5, .int (iI wb)), (4, .int (iI wa)), (0, .ref (gA g 18)), (1, .int (iI x)), (2, .int (iI y)), (3, .int (iI y2))]) hx hb dX7_findBids_204 hl (k := 6) rfl (iI_add _ _) (by decide) rfl (fun ls hl => ?_)
                        refine lv_goto (tgt := 30) hx hb dX7_findBids_207 (by decide) ?_
                        exact ih30 (rr + 1) (mset (mset ND 18 30 (ND 18 30)) 18 29 ((ND 18 29) + 0)) (jj + 1) (by omega) (by exact FR.trans hF (FR.trans (FR_m (by decide)) (FR_m (by decide)))) (by (simp only [flN, ← h1.1]; first | (exfalso; omega) | (rw [hz0 (by omega), List.append_nil, mset_s, rw1_s, k1]; simp) | (rw [hz1 (by omega), List.length_append, mset_s, rw1_s, k1]; simp))) (by (simp only [flN, ← h1.1]; first | (exfalso; omega) | (rw [hz0 (by omega), List.append_nil, mset_s, rw1_n _ _ (by decide), mset_s, rw1_s]; exact k2) | (rw [hz1 (by omega), mset_s, rw1_n _ _ (by decide), mset_s, rw1_s, hd_app]; first | (rw [if_pos (by omega)]; done) | (rw [if_neg (by omega)]; exact k2)))) (by omega) _ _ hI ls (lv_sub hl [0, 7, 8, 9, 10, 11, 12] rfl)
                      · refine lv_iconst (v := iI 1) hx hb dX7_findBids_195 rfl ?_
                        refine lv_goto (tgt := 200) hx hb dX7_findBids_196 (by decide) ?_
                        refine r_iadd hx hb dX7_findBids_200 ?_
                        refine r_put C hI 18 (by decide) rfl rfl tyX7 tyX7_ok nmX7 hin7 29 (by decide) (fn := "bidMany") (fd := "I") (index := 196) (by decide +kernel) ⟨rfl, rfl, rfl⟩ rfl (z := (ND 18 29) + 1) rfl rfl (Nat.le_of_ble_eq_true rfl) rfl dX7_findBids_201 (fun H locs hI => ?_)
                        refine lv_iinc (v := iI (rr + 1)) (lv' := [(6, .int (iI (rr + 1))), (12, .int (iI kk)), (11, .int (iI ii)), (10, .int (iI tw)), (9, .int (iI on)), (8, .int (iI (rr % 10))), (7, .int (iI (rr / 10))), (5, .int (iI wb)), (4, .int (iI wa)), (0, .ref (gA g 18)), (1, .int (iI x)), (2, .int (iI y)), (3, .int (iI y2))]) hx hb dX7_findBids_204 hl (k := 6) rfl (iI_add _ _) (by decide) rfl (fun ls hl => ?_)
                        refine lv_goto (tgt := 30) hx hb dX7_findBids_207 (by decide) ?_
                        exact ih30 (rr + 1) (mset (mset ND 18 30 (ND 18 30)) 18 29 ((ND 18 29) + 1)) (jj + 1) (by omega) (by exact FR.trans hF (FR.trans (FR_m (by decide)) (FR_m (by decide)))) (by (simp only [flN, ← h1.1]; first | (exfalso; omega) | (rw [hz0 (by omega), List.append_nil, mset_s, rw1_s, k1]; simp) | (rw [hz1 (by omega), List.length_append, mset_s, rw1_s, k1]; simp))) (by (simp only [flN, ← h1.1]; first | (exfalso; omega) | (rw [hz0 (by omega), List.append_nil, mset_s, rw1_n _ _ (by decide), mset_s, rw1_s]; exact k2) | (rw [hz1 (by omega), mset_s, rw1_n _ _ (by decide), mset_s, rw1_s, hd_app]; first | (rw [if_pos (by omega)]; done) | (rw [if_neg (by omega)]; exact k2)))) (by omega) _ _ hI ls (lv_sub hl [0, 7, 8, 9, 10, 11, 12] rfl)
                    · refine lv_iload hx hb dX7_findBids_173 (lv_at hl 6 rfl) ?_
                      refine lv_goto (tgt := 182) hx hb dX7_findBids_175 (by decide) ?_
                      refine r_put C hI 18 (by decide) rfl rfl tyX7 tyX7_ok nmX7 hin7 30 (by decide) (fn := "bidFirst") (fd := "I") (index := 199) (by decide +kernel) ⟨rfl, rfl, rfl⟩ rfl (z := rr) rfl rfl (Nat.le_of_ble_eq_true rfl) rfl dX7_findBids_182 (fun H locs hI => ?_)
                      refine lv_aload_n hx hb dX7_findBids_185 rfl (lv_at hl 9 rfl) ?_
                      refine lv_dup hx hb dX7_findBids_186 rfl ?_
                      refine r_get C hI 18 (by decide) rfl rfl hin7 29 (by decide) (fn := "bidMany") (fd := "I") (index := 196) (by decide +kernel) ⟨rfl, rfl, rfl⟩ (v := .int (iI (ND 18 29))) rfl dX7_findBids_187 ?_
                      refine r_eqI (z2 := ND 18 29) (by first | rfl | (repeat first | rw [mset_s, rw1_s] | rw [mset_s, rw1_n _ _ (by omega)] | rw [mset_n _ _ _ (by decide)])) ?_
                      refine lv_iload hx hb dX7_findBids_190 (lv_at hl 1 rfl) ?_
                      refine r_if_eq hx hb (tgt := 199) (by omega) dX7_findBids_192 (by decide) (fun c_58 => ?_) (fun c_58 => ?_)
                      · refine lv_iconst (v := iI 0) hx hb dX7_findBids_199 rfl ?_
                        refine r_iadd hx hb dX7_findBids_200 ?_
                        refine r_put C hI 18 (by decide) rfl rfl tyX7 tyX7_ok nmX7 hin7 29 (by decide) (fn := "bidMany") (fd := "I") (index := 196) (by decide +kernel) ⟨rfl, rfl, rfl⟩ rfl (z := (ND 18 29) + 0) rfl rfl (Nat.le_of_ble_eq_true rfl) rfl dX7_findBids_201 (fun H locs hI => ?_)
                        refine lv_iinc (v := iI (rr + 1)) (lv' := [(6, .int (iI (rr + 1))), (12, .int (iI kk)), (11, .int (iI ii)), (10, .int (iI tw)), (9, .int (iI on)), (8, .int (iI (rr % 10))), (7, .int (iI (rr / 10))), (5, .int (iI wb)), (4, .int (iI wa)), (0, .ref (gA g 18)), (1, .int (iI x)), (2, .int (iI y)), (3, .int (iI y2))]) hx hb dX7_findBids_204 hl (k := 6) rfl (iI_add _ _) (by decide) rfl (fun ls hl => ?_)
                        refine lv_goto (tgt := 30) hx hb dX7_findBids_207 (by decide) ?_
                        exact ih30 (rr + 1) (mset (mset ND 18 30 rr) 18 29 ((ND 18 29) + 0)) (jj + 1) (by omega) (by exact FR.trans hF (FR.trans (FR_m (by decide)) (FR_m (by decide)))) (by (simp only [flN, ← h1.1]; first | (exfalso; omega) | (rw [hz0 (by omega), List.append_nil, mset_s, rw1_s, k1]; simp) | (rw [hz1 (by omega), List.length_append, mset_s, rw1_s, k1]; simp))) (by (simp only [flN, ← h1.1]; first | (exfalso; omega) | (rw [hz0 (by omega), List.append_nil, mset_s, rw1_n _ _ (by decide), mset_s, rw1_s]; exact k2) | (rw [hz1 (by omega), mset_s, rw1_n _ _ (by decide), mset_s, rw1_s, hd_app]; first | (rw [if_pos (by omega)]; done) | (rw [if_neg (by omega)]; exact k2)))) (by omega) _ _ hI ls (lv_sub hl [0, 7, 8, 9, 10, 11, 12] rfl)
                      · refine lv_iconst (v := iI 1) hx hb dX7_findBids_195 rfl ?_
                        refine lv_goto (tgt := 200) hx hb dX7_findBids_196 (by decide) ?_
                        refine r_iadd hx hb dX7_findBids_200 ?_
                        refine r_put C hI 18 (by decide) rfl rfl tyX7 tyX7_ok nmX7 hin7 29 (by decide) (fn := "bidMany") (fd := "I") (index := 196) (by decide +kernel) ⟨rfl, rfl, rfl⟩ rfl (z := (ND 18 29) + 1) rfl rfl (Nat.le_of_ble_eq_true rfl) rfl dX7_findBids_201 (fun H locs hI => ?_)
                        refine lv_iinc (v := iI (rr + 1)) (lv' := [(6, .int (iI (rr + 1))), (12, .int (iI kk)), (11, .int (iI ii)), (10, .int (iI tw)), (9, .int (iI on)), (8, .int (iI (rr % 10))), (7, .int (iI (rr / 10))), (5, .int (iI wb)), (4, .int (iI wa)), (0, .ref (gA g 18)), (1, .int (iI x)), (2, .int (iI y)), (3, .int (iI y2))]) hx hb dX7_findBids_204 hl (k := 6) rfl (iI_add _ _) (by decide) rfl (fun ls hl => ?_)
                        refine lv_goto (tgt := 30) hx hb dX7_findBids_207 (by decide) ?_
                        exact ih30 (rr + 1) (mset (mset ND 18 30 rr) 18 29 ((ND 18 29) + 1)) (jj + 1) (by omega) (by exact FR.trans hF (FR.trans (FR_m (by decide)) (FR_m (by decide)))) (by (simp only [flN, ← h1.1]; first | (exfalso; omega) | (rw [hz0 (by omega), List.append_nil, mset_s, rw1_s, k1]; simp) | (rw [hz1 (by omega), List.length_append, mset_s, rw1_s, k1]; simp))) (by (simp only [flN, ← h1.1]; first | (exfalso; omega) | (rw [hz0 (by omega), List.append_nil, mset_s, rw1_n _ _ (by decide), mset_s, rw1_s]; exact k2) | (rw [hz1 (by omega), mset_s, rw1_n _ _ (by decide), mset_s, rw1_s, hd_app]; first | (rw [if_pos (by omega)]; done) | (rw [if_neg (by omega)]; exact k2)))) (by omega) _ _ hI ls (lv_sub hl [0, 7, 8, 9, 10, 11, 12] rfl)
                · refine lv_iload hx hb dX7_findBids_100 (lv_at hl 1 rfl) ?_
                  refine r_if_eq hx hb (tgt := 151) (by omega) dX7_findBids_102 (by decide) (fun c_59 => ?_) (fun c_59 => ?_)
                  · refine lv_iconst (v := iI 0) hx hb dX7_findBids_151 rfl ?_
                    refine lv_istore (lv' := [(11, .int (iI 0)), (12, .int (iI kk)), (10, .int (iI tw)), (9, .int (iI on)), (8, .int (iI (rr % 10))), (7, .int (iI (rr / 10))), (6, .int (iI rr)), (5, .int (iI wb)), (4, .int (iI wa)), (0, .ref (gA g 18)), (1, .int (iI x)), (2, .int (iI y)), (3, .int (iI y2))]) hx hb dX7_findBids_152 hl (by decide) rfl (fun ls hl => ?_)
                    refine lv_iinc (v := iI (kk + 1)) (lv' := [(12, .int (iI (kk + 1))), (11, .int (iI 0)), (10, .int (iI tw)), (9, .int (iI on)), (8, .int (iI (rr % 10))), (7, .int (iI (rr / 10))), (6, .int (iI rr)), (5, .int (iI wb)), (4, .int (iI wa)), (0, .ref (gA g 18)), (1, .int (iI x)), (2, .int (iI y)), (3, .int (iI y2))]) hx hb dX7_findBids_154 hl (k := 1) rfl (iI_add _ _) (by decide) rfl (fun ls hl => ?_)
                    refine lv_goto (tgt := 93) hx hb dX7_findBids_157 (by decide) ?_
                    exact ih93 (kk + 1) 0 tw on (mm + 1) (by omega) (by exact n1) (by exact n2) (by first | exact Or.inl ⟨rfl, arN_1 (i2.elim id (fun q => absurd q.1 (by omega))).2 (by rw [← i1.1.1]; omega)⟩ | exact Or.inr ⟨rfl, arN_3 (i2.elim (fun q => absurd q.1 (by omega)) id).2⟩ | exact Or.inr ⟨rfl, arN_2 (by rw [← i1.1.1]; omega)⟩) (by omega) _ _ hI ls (lv_sub hl [0, 1, 2, 3, 4, 5, 6, 7, 8, 9, 10, 11, 12] rfl)
                  · refine lv_iload hx hb dX7_findBids_105 (lv_at hl 0 rfl) ?_
                    refine lv_iload hx hb dX7_findBids_107 (lv_at hl 4 rfl) ?_
                    refine r_icmp_lt hx hb (tgt := 120) (by omega) (by omega) dX7_findBids_109 (by decide) (fun c_60 => ?_) (fun c_60 => ?_)
                    · refine lv_iconst (v := iI 0) hx hb dX7_findBids_120 rfl ?_
                      refine lv_iload hx hb dX7_findBids_121 (lv_at hl 3 rfl) ?_
                      refine r_icmp_gt hx hb (tgt := 151) (by decide) (by omega) dX7_findBids_123 (by decide) (fun c_61 => ?_) (fun c_61 => ?_)
                      · refine lv_iconst (v := iI 0) hx hb dX7_findBids_151 rfl ?_
                        refine lv_istore (lv' := [(11, .int (iI 0)), (12, .int (iI kk)), (10, .int (iI tw)), (9, .int (iI on)), (8, .int (iI (rr % 10))), (7, .int (iI (rr / 10))), (6, .int (iI rr)), (5, .int (iI wb)), (4, .int (iI wa)), (0, .ref (gA g 18)), (1, .int (iI x)), (2, .int (iI y)), (3, .int (iI y2))]) hx hb dX7_findBids_152 hl (by decide) rfl (fun ls hl => ?_)
                        refine lv_iinc (v := iI (kk + 1)) (lv' := [(12, .int (iI (kk + 1))), (11, .int (iI 0)), (10, .int (iI tw)), (9, .int (iI on)), (8, .int (iI (rr % 10))), (7, .int (iI (rr / 10))), (6, .int (iI rr)), (5, .int (iI wb)), (4, .int (iI wa)), (0, .ref (gA g 18)), (1, .int (iI x)), (2, .int (iI y)), (3, .int (iI y2))]) hx hb dX7_findBids_154 hl (k := 1) rfl (iI_add _ _) (by decide) rfl (fun ls hl => ?_)
                        refine lv_goto (tgt := 93) hx hb dX7_findBids_157 (by decide) ?_
                        exact ih93 (kk + 1) 0 tw on (mm + 1) (by omega) (by exact n1) (by exact n2) (by first | exact Or.inl ⟨rfl, arN_1 (i2.elim id (fun q => absurd q.1 (by omega))).2 (by rw [← i1.1.1]; omega)⟩ | exact Or.inr ⟨rfl, arN_3 (i2.elim (fun q => absurd q.1 (by omega)) id).2⟩ | exact Or.inr ⟨rfl, arN_2 (by rw [← i1.1.1]; omega)⟩) (by omega) _ _ hI ls (lv_sub hl [0, 1, 2, 3, 4, 5, 6, 7, 8, 9, 10, 11, 12] rfl)
                      · refine lv_iload hx hb dX7_findBids_126 (lv_at hl 5 rfl) ?_
                        refine lv_iload hx hb dX7_findBids_128 (lv_at hl 0 rfl) ?_
                        refine r_icmp_lt hx hb (tgt := 137) (by omega) (by omega) dX7_findBids_130 (by decide) (fun c_62 => ?_) (fun c_62 => ?_)
                        · refine lv_iload hx hb dX7_findBids_137 (lv_at hl 7 rfl) ?_
                          refine lv_iload hx hb dX7_findBids_139 (lv_at hl 0 rfl) ?_
                          refine r_isub hx hb dX7_findBids_141 ?_
                          refine lv_iload hx hb dX7_findBids_142 (lv_at hl 2 rfl) ?_
                          refine r_icmp_gt hx hb (tgt := 151) (by omega) (by omega) dX7_findBids_144 (by decide) (fun c_63 => ?_) (fun c_63 => ?_)
                          · refine lv_iconst (v := iI 0) hx hb dX7_findBids_151 rfl ?_
                            refine lv_istore (lv' := [(11, .int (iI 0)), (12, .int (iI kk)), (10, .int (iI tw)), (9, .int (iI on)), (8, .int (iI (rr % 10))), (7, .int (iI (rr / 10))), (6, .int (iI rr)), (5, .int (iI wb)), (4, .int (iI wa)), (0, .ref (gA g 18)), (1, .int (iI x)), (2, .int (iI y)), (3, .int (iI y2))]) hx hb dX7_findBids_152 hl (by decide) rfl (fun ls hl => ?_)
                            refine lv_iinc (v := iI (kk + 1)) (lv' := [(12, .int (iI (kk + 1))), (11, .int (iI 0)), (10, .int (iI tw)), (9, .int (iI on)), (8, .int (iI (rr % 10))), (7, .int (iI (rr / 10))), (6, .int (iI rr)), (5, .int (iI wb)), (4, .int (iI wa)), (0, .ref (gA g 18)), (1, .int (iI x)), (2, .int (iI y)), (3, .int (iI y2))]) hx hb dX7_findBids_154 hl (k := 1) rfl (iI_add _ _) (by decide) rfl (fun ls hl => ?_)
                            refine lv_goto (tgt := 93) hx hb dX7_findBids_157 (by decide) ?_
                            exact ih93 (kk + 1) 0 tw on (mm + 1) (by omega) (by exact n1) (by exact n2) (by first | exact Or.inl ⟨rfl, arN_1 (i2.elim id (fun q => absurd q.1 (by omega))).2 (by rw [← i1.1.1]; omega)⟩ | exact Or.inr ⟨rfl, arN_3 (i2.elim (fun q => absurd q.1 (by omega)) id).2⟩ | exact Or.inr ⟨rfl, arN_2 (by rw [← i1.1.1]; omega)⟩) (by omega) _ _ hI ls (lv_sub hl [0, 1, 2, 3, 4, 5, 6, 7, 8, 9, 10, 11, 12] rfl)
                          · refine lv_iconst (v := iI 1) hx hb dX7_findBids_147 rfl ?_
                            refine lv_goto (tgt := 152) hx hb dX7_findBids_148 (by decide) ?_
                            refine lv_istore (lv' := [(11, .int (iI 1)), (12, .int (iI kk)), (10, .int (iI tw)), (9, .int (iI on)), (8, .int (iI (rr % 10))), (7, .int (iI (rr / 10))), (6, .int (iI rr)), (5, .int (iI wb)), (4, .int (iI wa)), (0, .ref (gA g 18)), (1, .int (iI x)), (2, .int (iI y)), (3, .int (iI y2))]) hx hb dX7_findBids_152 hl (by decide) rfl (fun ls hl => ?_)
                            refine lv_iinc (v := iI (kk + 1)) (lv' := [(12, .int (iI (kk + 1))), (11, .int (iI 1)), (10, .int (iI tw)), (9, .int (iI on)), (8, .int (iI (rr % 10))), (7, .int (iI (rr / 10))), (6, .int (iI rr)), (5, .int (iI wb)), (4, .int (iI wa)), (0, .ref (gA g 18)), (1, .int (iI x)), (2, .int (iI y)), (3, .int (iI y2))]) hx hb dX7_findBids_154 hl (k := 1) rfl (iI_add _ _) (by decide) rfl (fun ls hl => ?_)
                            refine lv_goto (tgt := 93) hx hb dX7_findBids_157 (by decide) ?_
                            exact ih93 (kk + 1) 1 tw on (mm + 1) (by omega) (by exact n1) (by exact n2) (by first | exact Or.inl ⟨rfl, arN_1 (i2.elim id (fun q => absurd q.1 (by omega))).2 (by rw [← i1.1.1]; omega)⟩ | exact Or.inr ⟨rfl, arN_3 (i2.elim (fun q => absurd q.1 (by omega)) id).2⟩ | exact Or.inr ⟨rfl, arN_2 (by rw [← i1.1.1]; omega)⟩) (by omega) _ _ hI ls (lv_sub hl [0, 1, 2, 3, 4, 5, 6, 7, 8, 9, 10, 11, 12] rfl)
                        · refine lv_iconst (v := iI 0) hx hb dX7_findBids_133 rfl ?_
                          refine lv_goto (tgt := 142) hx hb dX7_findBids_134 (by decide) ?_
                          refine lv_iload hx hb dX7_findBids_142 (lv_at hl 2 rfl) ?_
                          refine r_icmp_gt hx hb (tgt := 151) (by decide) (by omega) dX7_findBids_144 (by decide) (fun c_64 => ?_) (fun c_64 => ?_)
                          · refine lv_iconst (v := iI 0) hx hb dX7_findBids_151 rfl ?_
                            refine lv_istore (lv' := [(11, .int (iI 0)), (12, .int (iI kk)), (10, .int (iI tw)), (9, .int (iI on)), (8, .int (iI (rr % 10))), (7, .int (iI (rr / 10))), (6, .int (iI rr)), (5, .int (iI wb)), (4, .int (iI wa)), (0, .ref (gA g 18)), (1, .int (iI x)), (2, .int (iI y)), (3, .int (iI y2))]) hx hb dX7_findBids_152 hl (by decide) rfl (fun ls hl => ?_)
                            refine lv_iinc (v := iI (kk + 1)) (lv' := [(12, .int (iI (kk + 1))), (11, .int (iI 0)), (10, .int (iI tw)), (9, .int (iI on)), (8, .int (iI (rr % 10))), (7, .int (iI (rr / 10))), (6, .int (iI rr)), (5, .int (iI wb)), (4, .int (iI wa)), (0, .ref (gA g 18)), (1, .int (iI x)), (2, .int (iI y)), (3, .int (iI y2))]) hx hb dX7_findBids_154 hl (k := 1) rfl (iI_add _ _) (by decide) rfl (fun ls hl => ?_)
                            refine lv_goto (tgt := 93) hx hb dX7_findBids_157 (by decide) ?_
                            exact ih93 (kk + 1) 0 tw on (mm + 1) (by omega) (by exact n1) (by exact n2) (by first | exact Or.inl ⟨rfl, arN_1 (i2.elim id (fun q => absurd q.1 (by omega))).2 (by rw [← i1.1.1]; omega)⟩ | exact Or.inr ⟨rfl, arN_3 (i2.elim (fun q => absurd q.1 (by omega)) id).2⟩ | exact Or.inr ⟨rfl, arN_2 (by rw [← i1.1.1]; omega)⟩) (by omega) _ _ hI ls (lv_sub hl [0, 1, 2, 3, 4, 5, 6, 7, 8, 9, 10, 11, 12] rfl)
                          · refine lv_iconst (v := iI 1) hx hb dX7_findBids_147 rfl ?_
                            refine lv_goto (tgt := 152) hx hb dX7_findBids_148 (by decide) ?_
                            refine lv_istore (lv' := [(11, .int (iI 1)), (12, .int (iI kk)), (10, .int (iI tw)), (9, .int (iI on)), (8, .int (iI (rr % 10))), (7, .int (iI (rr / 10))), (6, .int (iI rr)), (5, .int (iI wb)), (4, .int (iI wa)), (0, .ref (gA g 18)), (1, .int (iI x)), (2, .int (iI y)), (3, .int (iI y2))]) hx hb dX7_findBids_152 hl (by decide) rfl (fun ls hl => ?_)
                            refine lv_iinc (v := iI (kk + 1)) (lv' := [(12, .int (iI (kk + 1))), (11, .int (iI 1)), (10, .int (iI tw)), (9, .int (iI on)), (8, .int (iI (rr % 10))), (7, .int (iI (rr / 10))), (6, .int (iI rr)), (5, .int (iI wb)), (4, .int (iI wa)), (0, .ref (gA g 18)), (1, .int (iI x)), (2, .int (iI y)), (3, .int (iI y2))]) hx hb dX7_findBids_154 hl (k := 1) rfl (iI_add _ _) (by decide) rfl (fun ls hl => ?_)
                            refine lv_goto (tgt := 93) hx hb dX7_findBids_157 (by decide) ?_
                            exact ih93 (kk + 1) 1 tw on (mm + 1) (by omega) (by exact n1) (by exact n2) (by first | exact Or.inl ⟨rfl, arN_1 (i2.elim id (fun q => absurd q.1 (by omega))).2 (by rw [← i1.1.1]; omega)⟩ | exact Or.inr ⟨rfl, arN_3 (i2.elim (fun q => absurd q.1 (by omega)) id).2⟩ | exact Or.inr ⟨rfl, arN_2 (by rw [← i1.1.1]; omega)⟩) (by omega) _ _ hI ls (lv_sub hl [0, 1, 2, 3, 4, 5, 6, 7, 8, 9, 10, 11, 12] rfl)
                    · refine lv_iload hx hb dX7_findBids_112 (lv_at hl 8 rfl) ?_
                      refine lv_iload hx hb dX7_findBids_114 (lv_at hl 0 rfl) ?_
                      refine r_isub hx hb dX7_findBids_116 ?_
                      refine lv_goto (tgt := 121) hx hb dX7_findBids_117 (by decide) ?_
                      refine lv_iload hx hb dX7_findBids_121 (lv_at hl 3 rfl) ?_
                      refine r_icmp_gt hx hb (tgt := 151) (by omega) (by omega) dX7_findBids_123 (by decide) (fun c_65 => ?_) (fun c_65 => ?_)
                      · refine lv_iconst (v := iI 0) hx hb dX7_findBids_151 rfl ?_
                        refine lv_istore (lv' := [(11, .int (iI 0)), (12, .int (iI kk)), (10, .int (iI tw)), (9, .int (iI on)), (8, .int (iI (rr % 10))), (7, .int (iI (rr / 10))), (6, .int (iI rr)), (5, .int (iI wb)), (4, .int (iI wa)), (0, .ref (gA g 18)), (1, .int (iI x)), (2, .int (iI y)), (3, .int (iI y2))]) hx hb dX7_findBids_152 hl (by decide) rfl (fun ls hl => ?_)
                        refine lv_iinc (v := iI (kk + 1)) (lv' := [(12, .int (iI (kk + 1))), (11, .int (iI 0)), (10, .int (iI tw)), (9, .int (iI on)), (8, .int (iI (rr % 10))), (7, .int (iI (rr / 10))), (6, .int (iI rr)), (5, .int (iI wb)), (4, .int (iI wa)), (0, .ref (gA g 18)), (1, .int (iI x)), (2, .int (iI y)), (3, .int (iI y2))]) hx hb dX7_findBids_154 hl (k := 1) rfl (iI_add _ _) (by decide) rfl (fun ls hl => ?_)
                        refine lv_goto (tgt := 93) hx hb dX7_findBids_157 (by decide) ?_
                        exact ih93 (kk + 1) 0 tw on (mm + 1) (by omega) (by exact n1) (by exact n2) (by first | exact Or.inl ⟨rfl, arN_1 (i2.elim id (fun q => absurd q.1 (by omega))).2 (by rw [← i1.1.1]; omega)⟩ | exact Or.inr ⟨rfl, arN_3 (i2.elim (fun q => absurd q.1 (by omega)) id).2⟩ | exact Or.inr ⟨rfl, arN_2 (by rw [← i1.1.1]; omega)⟩) (by omega) _ _ hI ls (lv_sub hl [0, 1, 2, 3, 4, 5, 6, 7, 8, 9, 10, 11, 12] rfl)
                      · refine lv_iload hx hb dX7_findBids_126 (lv_at hl 5 rfl) ?_
                        refine lv_iload hx hb dX7_findBids_128 (lv_at hl 0 rfl) ?_
                        refine r_icmp_lt hx hb (tgt := 137) (by omega) (by omega) dX7_findBids_130 (by decide) (fun c_66 => ?_) (fun c_66 => ?_)
                        · refine lv_iload hx hb dX7_findBids_137 (lv_at hl 7 rfl) ?_
                          refine lv_iload hx hb dX7_findBids_139 (lv_at hl 0 rfl) ?_
                          refine r_isub hx hb dX7_findBids_141 ?_
                          refine lv_iload hx hb dX7_findBids_142 (lv_at hl 2 rfl) ?_
                          refine r_icmp_gt hx hb (tgt := 151) (by omega) (by omega) dX7_findBids_144 (by decide) (fun c_67 => ?_) (fun c_67 => ?_)
                          · refine lv_iconst (v := iI 0) hx hb dX7_findBids_151 rfl ?_
                            refine lv_istore (lv' := [(11, .int (iI 0)), (12, .int (iI kk)), (10, .int (iI tw)), (9, .int (iI on)), (8, .int (iI (rr % 10))), (7, .int (iI (rr / 10))), (6, .int (iI rr)), (5, .int (iI wb)), (4, .int (iI wa)), (0, .ref (gA g 18)), (1, .int (iI x)), (2, .int (iI y)), (3, .int (iI y2))]) hx hb dX7_findBids_152 hl (by decide) rfl (fun ls hl => ?_)
                            refine lv_iinc (v := iI (kk + 1)) (lv' := [(12, .int (iI (kk + 1))), (11, .int (iI 0)), (10, .int (iI tw)), (9, .int (iI on)), (8, .int (iI (rr % 10))), (7, .int (iI (rr / 10))), (6, .int (iI rr)), (5, .int (iI wb)), (4, .int (iI wa)), (0, .ref (gA g 18)), (1, .int (iI x)), (2, .int (iI y)), (3, .int (iI y2))]) hx hb dX7_findBids_154 hl (k := 1) rfl (iI_add _ _) (by decide) rfl (fun ls hl => ?_)
                            refine lv_goto (tgt := 93) hx hb dX7_findBids_157 (by decide) ?_
                            exact ih93 (kk + 1) 0 tw on (mm + 1) (by omega) (by exact n1) (by exact n2) (by first | exact Or.inl ⟨rfl, arN_1 (i2.elim id (fun q => absurd q.1 (by omega))).2 (by rw [← i1.1.1]; omega)⟩ | exact Or.inr ⟨rfl, arN_3 (i2.elim (fun q => absurd q.1 (by omega)) id).2⟩ | exact Or.inr ⟨rfl, arN_2 (by rw [← i1.1.1]; omega)⟩) (by omega) _ _ hI ls (lv_sub hl [0, 1, 2, 3, 4, 5, 6, 7, 8, 9, 10, 11, 12] rfl)
                          · refine lv_iconst (v := iI 1) hx hb dX7_findBids_147 rfl ?_
                            refine lv_goto (tgt := 152) hx hb dX7_findBids_148 (by decide) ?_
                            refine lv_istore (lv' := [(11, .int (iI 1)), (12, .int (iI kk)), (10, .int (iI tw)), (9, .int (iI on)), (8, .int (iI (rr % 10))), (7, .int (iI (rr / 10))), (6, .int (iI rr)), (5, .int (iI wb)), (4, .int (iI wa)), (0, .ref (gA g 18)), (1, .int (iI x)), (2, .int (iI y)), (3, .int (iI y2))]) hx hb dX7_findBids_152 hl (by decide) rfl (fun ls hl => ?_)
                            refine lv_iinc (v := iI (kk + 1)) (lv' := [(12, .int (iI (kk + 1))), (11, .int (iI 1)), (10, .int (iI tw)), (9, .int (iI on)), (8, .int (iI (rr % 10))), (7, .int (iI (rr / 10))), (6, .int (iI rr)), (5, .int (iI wb)), (4, .int (iI wa)), (0, .ref (gA g 18)), (1, .int (iI x)), (2, .int (iI y)), (3, .int (iI y2))]) hx hb dX7_findBids_154 hl (k := 1) rfl (iI_add _ _) (by decide) rfl (fun ls hl => ?_)
                            refine lv_goto (tgt := 93) hx hb dX7_findBids_157 (by decide) ?_
                            exact ih93 (kk + 1) 1 tw on (mm + 1) (by omega) (by exact n1) (by exact n2) (by first | exact Or.inl ⟨rfl, arN_1 (i2.elim id (fun q => absurd q.1 (by omega))).2 (by rw [← i1.1.1]; omega)⟩ | exact Or.inr ⟨rfl, arN_3 (i2.elim (fun q => absurd q.1 (by omega)) id).2⟩ | exact Or.inr ⟨rfl, arN_2 (by rw [← i1.1.1]; omega)⟩) (by omega) _ _ hI ls (lv_sub hl [0, 1, 2, 3, 4, 5, 6, 7, 8, 9, 10, 11, 12] rfl)
                        · refine lv_iconst (v := iI 0) hx hb dX7_findBids_133 rfl ?_
                          refine lv_goto (tgt := 142) hx hb dX7_findBids_134 (by decide) ?_
                          refine lv_iload hx hb dX7_findBids_142 (lv_at hl 2 rfl) ?_
                          refine r_icmp_gt hx hb (tgt := 151) (by decide) (by omega) dX7_findBids_144 (by decide) (fun c_68 => ?_) (fun c_68 => ?_)
                          · refine lv_iconst (v := iI 0) hx hb dX7_findBids_151 rfl ?_
                            refine lv_istore (lv' := [(11, .int (iI 0)), (12, .int (iI kk)), (10, .int (iI tw)), (9, .int (iI on)), (8, .int (iI (rr % 10))), (7, .int (iI (rr / 10))), (6, .int (iI rr)), (5, .int (iI wb)), (4, .int (iI wa)), (0, .ref (gA g 18)), (1, .int (iI x)), (2, .int (iI y)), (3, .int (iI y2))]) hx hb dX7_findBids_152 hl (by decide) rfl (fun ls hl => ?_)
                            refine lv_iinc (v := iI (kk + 1)) (lv' := [(12, .int (iI (kk + 1))), (11, .int (iI 0)), (10, .int (iI tw)), (9, .int (iI on)), (8, .int (iI (rr % 10))), (7, .int (iI (rr / 10))), (6, .int (iI rr)), (5, .int (iI wb)), (4, .int (iI wa)), (0, .ref (gA g 18)), (1, .int (iI x)), (2, .int (iI y)), (3, .int (iI y2))]) hx hb dX7_findBids_154 hl (k := 1) rfl (iI_add _ _) (by decide) rfl (fun ls hl => ?_)
                            refine lv_goto (tgt := 93) hx hb dX7_findBids_157 (by decide) ?_
                            exact ih93 (kk + 1) 0 tw on (mm + 1) (by omega) (by exact n1) (by exact n2) (by first | exact Or.inl ⟨rfl, arN_1 (i2.elim id (fun q => absurd q.1 (by omega))).2 (by rw [← i1.1.1]; omega)⟩ | exact Or.inr ⟨rfl, arN_3 (i2.elim (fun q => absurd q.1 (by omega)) id).2⟩ | exact Or.inr ⟨rfl, arN_2 (by rw [← i1.1.1]; omega)⟩) (by omega) _ _ hI ls (lv_sub hl [0, 1, 2, 3, 4, 5, 6, 7, 8, 9, 10, 11, 12] rfl)
                          · refine lv_iconst (v := iI 1) hx hb dX7_findBids_147 rfl ?_
                            refine lv_goto (tgt := 152) hx hb dX7_findBids_148 (by decide) ?_
                            refine lv_istore (lv' := [(11, .int (iI 1)), (12, .int (iI kk)), (10, .int (iI tw)), (9, .int (iI on)), (8, .int (iI (rr % 10))), (7, .int (iI (rr / 10))), (6, .int (iI rr)), (5, .int (iI wb)), (4, .int (iI wa)), (0, .ref (gA g 18)), (1, .int (iI x)), (2, .int (iI y)), (3, .int (iI y2))]) hx hb dX7_findBids_152 hl (by decide) rfl (fun ls hl => ?_)
                            refine lv_iinc (v := iI (kk + 1)) (lv' := [(12, .int (iI (kk + 1))), (11, .int (iI 1)), (10, .int (iI tw)), (9, .int (iI on)), (8, .int (iI (rr % 10))), (7, .int (iI (rr / 10))), (6, .int (iI rr)), (5, .int (iI wb)), (4, .int (iI wa)), (0, .ref (gA g 18)), (1, .int (iI x)), (2, .int (iI y)), (3, .int (iI y2))]) hx hb dX7_findBids_154 hl (k := 1) rfl (iI_add _ _) (by decide) rfl (fun ls hl => ?_)
                            refine lv_goto (tgt := 93) hx hb dX7_findBids_157 (by decide) ?_
                            exact ih93 (kk + 1) 1 tw on (mm + 1) (by omega) (by exact n1) (by exact n2) (by first | exact Or.inl ⟨rfl, arN_1 (i2.elim id (fun q => absurd q.1 (by omega))).2 (by rw [← i1.1.1]; omega)⟩ | exact Or.inr ⟨rfl, arN_3 (i2.elim (fun q => absurd q.1 (by omega)) id).2⟩ | exact Or.inr ⟨rfl, arN_2 (by rw [← i1.1.1]; omega)⟩) (by omega) _ _ hI ls (lv_sub hl [0, 1, 2, 3, 4, 5, 6, 7, 8, 9, 10, 11, 12] rfl)
            exact lp93 _ 0 1 0 (wa - (rr / 10)) 0 (by omega) (by first | (rw [gF_1.1 (by omega)]; done) | (rw [gF_1.2 (by omega)]; done)) (by first | (rw [gO_1.1 (by omega)]; done) | (rw [gO_1.2 (by omega)]; done)) (by exact Or.inl ⟨rfl, rfl⟩) (Nat.lt_succ_self _) _ _ hI ls (lv_sub hl [0, 1, 2, 3, 4, 5, 6, 7, 8, 9, 10, 11, 12] rfl)
  exact lp30 _ 0 (mset (mset M 18 29 0) 18 30 (-9)) 0 (by omega) (by exact FR.trans (FR_m (by decide)) (FR_m (by decide))) (by rfl) (by rfl) (Nat.lt_succ_self _) _ _ hI ls (lv_sub hl [0, 1, 2, 3, 4, 5, 6] rfl)
set_option maxHeartbeats 4000000 in
set_option maxRecDepth 100000 in
theorem c_X7_bids (l : Launch) (g : GT) (M : Mem) (x : Int) (y : Int) (y2 : Int) (v : Int) (A : Mem) (wf : WF A) (rm : RM A M) (h_x : -2147483648 ≤ x ∧ x < 2147483648) (h_y : -2147483648 ≤ y ∧ y < 2147483648) (h_y2 : -2147483648 ≤ y2 ∧ y2 < 2147483648) (h_v : -2147483648 ≤ v ∧ v < 2147483648) : Ctr l g yX7_bids wsX7_bids ({ frames := 4, cells := 0, slots := 0, locals := 100 } : Room) [.ref (gA g 18), .int (iI x), .int (iI y), .int (iI y2), .int (iI v)] M (pE (fun z u => z = zBid A x y y2 v ∧ QC M u ∧ RM (A) u)) := by
  refine Ctr.mk (cc := cX7_bids) (maxL := 5) (ret := some .int) (lv := [(0, .ref (gA g 18)), (1, .int (iI x)), (2, .int (iI y)), (3, .int (iI y2)), (4, .int (iI v))]) (by decide) rfl (Nat.le_of_ble_eq_true rfl) rfl ?_
  intro p e s m below meth c C hr hlk hI ls hl
  have C : CallFix p m c cX7_bids 5 s ([.ref (gA g 18), .int (iI x), .int (iI y), .int (iI y2), .int (iI v)] : List Value).toArray wsX7_bids RX7 := C
  have hx := C.1
  have hb := C.2.1
  have hts := C.2.2.2.2
  have hin7 : ∀ w ∈ u_ws RX7 TX7 31, w ∈ wsX7_bids := by decide +kernel
  have wf0 := wf
  obtain ⟨w_txt, hL, w_cnt, w_per, w_glo, w_now, w_act, w_rng, w_slo, w_see, w_sa⟩ := wf
  have rm0 := rm
  obtain ⟨⟨t_n, t_l⟩, ⟨⟨p_p, p_g⟩, p_r, g_r⟩, pgn, ⟨a_n, a_r⟩, k_r, ⟨s_n, s_r⟩, sd⟩ := rm
  have w_gx := w_glo x
  have w_nx : 0 ≤ x ∧ x < 4 → (0 ≤ A 33 x ∧ A 33 x < 1000) ∧ (A 34 x = -9 ∨ (0 ≤ A 34 x ∧ A 34 x < A 3 6 ∧ x < A 3 7)) := fun q => ⟨(w_now.1 x q).1, (w_now.1 x q).2.1⟩
  have w_kx : 0 ≤ x ∧ x < A 3 7 → KOK (A 33 x) (A 7 x) := fun q => (w_now.1 x (by omega)).2.2 q.2
  have r_kx : 0 ≤ x ∧ x < A 3 7 → KG (A 33 x) (M 24) (5 * x) := fun q => (PG_0 pgn x q).1
  have r_wx : 0 ≤ x ∧ x < A 3 7 → M 24 (5 * x + 4) = A 34 x := fun q => (PG_0 pgn x q).2
  have g_x := g_r x
  have r_fx : 0 ≤ x ∧ x < A 3 7 → M 24 (5 * x) = figs (A 33 x) := fun q => (PG_0 pgn x q).1.1
  have f_x := figs_b (A 33 x)
  have rp1 : RP A (mset M 18 0 0) := (RO rm0).2.2.1
  refine lv_aload_n hx hb dX7_bids_0 rfl (lv_at hl 0 rfl) ?_
  refine lv_iconst (v := iI 0) hx hb dX7_bids_1 rfl ?_
  refine r_put C hI 18 (by decide) rfl rfl tyX7 tyX7_ok nmX7 hin7 0 (by decide) (fn := "thrown") (fd := "I") (index := 50) (by decide +kernel) ⟨rfl, rfl, rfl⟩ rfl (z := 0) rfl rfl (Nat.le_of_ble_eq_true rfl) rfl dX7_bids_2 (fun H locs hI => ?_)
  refine lv_aload_n hx hb dX7_bids_5 rfl (lv_at hl 0 rfl) ?_
  refine lv_iload_n hx hb dX7_bids_6 rfl (lv_at hl 1 rfl) ?_
  refine r_iv C hI (As := [.int (iI x)]) (rest := []) (c_X7_noGlove l g (mset M 18 0 0) x (by omega) (show 0 ≤ (M 18 5) ∧ (M 18 5) ≤ 4 from by omega)) (cwV 1 hts gX7_bids_X7_noGlove rfl rfl rfl (by decide +kernel) ⟨Nat.le_of_ble_eq_true rfl, Nat.le_of_ble_eq_true rfl⟩) (by decide) rfl rfl rfl hl.1 rfl (Nat.le_of_ble_eq_true rfl) dX7_bids_7 ⟨Nat.zero_le _, Nat.zero_le _⟩ (k_I (fun H locs hI => ?_))
  refine r_eqI (z2 := bI (¬ (0 ≤ x ∧ x ≤ (M 18 5) - 1))) rfl ?_
  refine r_b_ne hx hb (tgt := 29) dX7_bids_10 (by decide) (fun c_1 => ?_) (fun c_1 => ?_)
  · refine lv_iconst (v := iI (-1)) hx hb dX7_bids_29 rfl ?_
    refine r_iret C hr hlk hI ?_ dX7_bids_30
    exact ⟨_, rfl, (show (fun z u => z = zBid A x y y2 v ∧ QC M u ∧ RM (A) u) (-1) (mset M 18 0 0) from by exact ⟨(by unfold zBid; (repeat' split) <;> first | rfl | omega | (simp_all; done) | (simp_all; omega)), (by exact RO rm0)⟩)⟩
  · refine lv_aload_n hx hb dX7_bids_13 rfl (lv_at hl 0 rfl) ?_
    refine lv_iload_n hx hb dX7_bids_14 rfl (lv_at hl 2 rfl) ?_
    refine r_iv C hI (As := [.int (iI y)]) (rest := []) (c_X7_noPerson l g (mset M 18 0 0) y (by omega) (show 0 ≤ (M 18 4) ∧ (M 18 4) ≤ 5 from by omega)) (cwV 1 hts gX7_bids_X7_noPerson rfl rfl rfl (by decide +kernel) ⟨Nat.le_of_ble_eq_true rfl, Nat.le_of_ble_eq_true rfl⟩) (by decide) rfl rfl rfl hl.1 rfl (Nat.le_of_ble_eq_true rfl) dX7_bids_15 ⟨Nat.zero_le _, Nat.zero_le _⟩ (k_I (fun H locs hI => ?_))
    refine r_eqI (z2 := bI (¬ (0 ≤ y ∧ y ≤ (M 18 4) - 1))) rfl ?_
    refine r_b_ne hx hb (tgt := 29) dX7_bids_18 (by decide) (fun c_2 => ?_) (fun c_2 => ?_)
    · refine lv_iconst (v := iI (-1)) hx hb dX7_bids_29 rfl ?_
      refine r_iret C hr hlk hI ?_ dX7_bids_30
      exact ⟨_, rfl, (show (fun z u => z = zBid A x y y2 v ∧ QC M u ∧ RM (A) u) (-1) (mset M 18 0 0) from by exact ⟨(by unfold zBid; (repeat' split) <;> first | rfl | omega | (simp_all; done) | (simp_all; omega)), (by exact RO rm0)⟩)⟩
    · refine lv_aload_n hx hb dX7_bids_21 rfl (lv_at hl 0 rfl) ?_
      refine lv_iload_n hx hb dX7_bids_22 rfl (lv_at hl 3 rfl) ?_
      refine r_iv C hI (As := [.int (iI y2)]) (rest := []) (c_X7_noPerson l g (mset M 18 0 0) y2 (by omega) (show 0 ≤ (M 18 4) ∧ (M 18 4) ≤ 5 from by omega)) (cwV 1 hts gX7_bids_X7_noPerson rfl rfl rfl (by decide +kernel) ⟨Nat.le_of_ble_eq_true rfl, Nat.le_of_ble_eq_true rfl⟩) (by decide) rfl rfl rfl hl.1 rfl (Nat.le_of_ble_eq_true rfl) dX7_bids_23 ⟨Nat.zero_le _, Nat.zero_le _⟩ (k_I (fun H locs hI => ?_))
      refine r_eqI (z2 := bI (¬ (0 ≤ y2 ∧ y2 ≤ (M 18 4) - 1))) rfl ?_
      refine r_b_eq hx hb (tgt := 31) dX7_bids_26 (by decide) (fun c_3 => ?_) (fun c_3 => ?_)
      · refine lv_iload_n hx hb dX7_bids_31 rfl (lv_at hl 2 rfl) ?_
        refine lv_iload_n hx hb dX7_bids_32 rfl (lv_at hl 3 rfl) ?_
        refine r_icmp_eq hx hb (tgt := 47) (by omega) (by omega) dX7_bids_33 (by decide) (fun c_4 => ?_) (fun c_4 => ?_)
        · refine lv_bipush (v := iI (-2)) hx hb dX7_bids_47 (by decide +kernel) ?_
          refine r_iret C hr hlk hI ?_ dX7_bids_49
          exact ⟨_, rfl, (show (fun z u => z = zBid A x y y2 v ∧ QC M u ∧ RM (A) u) (-2) (mset M 18 0 0) from by exact ⟨(by unfold zBid; (repeat' split) <;> first | rfl | omega | (simp_all; done) | (simp_all; omega)), (by exact RO rm0)⟩)⟩
        · refine lv_iload hx hb dX7_bids_36 (lv_at hl 4 rfl) ?_
          refine r_i2l hx hb (by omega) dX7_bids_38 ?_
          refine lv_lconst (v := iL 0) hx hb dX7_bids_39 (by decide +kernel) ?_
          refine lv_lconst (v := iL 1) hx hb dX7_bids_40 (by decide +kernel) ?_
          refine r_is C hI (As := [.long (iL v), .long (iL 0), .long (iL 1)]) (rest := []) (c_X7_in l g (mset M 18 0 0) v 0 1 (by omega) (by omega) (by omega)) (va_cwS 3 hts gX7_bids_X7_in rfl rfl rfl (by decide +kernel) ⟨Nat.le_of_ble_eq_true rfl, Nat.le_of_ble_eq_true rfl⟩) rfl hl.1 rfl (Nat.le_of_ble_eq_true rfl) dX7_bids_41 ⟨Nat.zero_le _, Nat.zero_le _⟩ (k_I (fun H locs hI => ?_))
          refine r_b_ne hx hb (tgt := 50) dX7_bids_44 (by decide) (fun c_5 => ?_) (fun c_5 => ?_)
          · refine lv_aload_n hx hb dX7_bids_50 rfl (lv_at hl 0 rfl) ?_
            refine lv_aload_n hx hb dX7_bids_51 rfl (lv_at hl 0 rfl) ?_
            refine r_get C hI 18 (by decide) rfl rfl hin7 12 (by decide) (fn := "page") (fd := "[I") (index := 25) (by decide +kernel) ⟨rfl, rfl, rfl⟩ (v := .ref (gA g 24)) rfl dX7_bids_52 ?_
            refine lv_iload_n hx hb dX7_bids_55 rfl (lv_at hl 1 rfl) ?_
            refine r_iv C hI (As := [.ref (gA g 24), .int (iI x)]) (rest := []) (c_X7_isWorn_24 l g (mset M 18 0 0) x (by omega) (show -2147483648 ≤ (M 24 (5 * x + 4)) ∧ (M 24 (5 * x + 4)) < 2147483648 from by omega)) (cwV 2 hts gX7_bids_X7_isWorn rfl rfl rfl (by decide +kernel) ⟨Nat.le_of_ble_eq_true rfl, Nat.le_of_ble_eq_true rfl⟩) (by decide) rfl rfl rfl hl.1 rfl (Nat.le_of_ble_eq_true rfl) dX7_bids_56 ⟨Nat.zero_le _, Nat.zero_le _⟩ (k_I (fun H locs hI => ?_))
            refine r_eqI (z2 := bI (¬ (M 24 (5 * x + 4)) = -9)) rfl ?_
            refine r_b_eq hx hb (tgt := 65) dX7_bids_59 (by decide) (fun c_6 => ?_) (fun c_6 => ?_)
            · refine lv_aload_n hx hb dX7_bids_65 rfl (lv_at hl 0 rfl) ?_
              refine lv_iload_n hx hb dX7_bids_66 rfl (lv_at hl 1 rfl) ?_
              refine lv_iload_n hx hb dX7_bids_67 rfl (lv_at hl 2 rfl) ?_
              refine lv_iload_n hx hb dX7_bids_68 rfl (lv_at hl 3 rfl) ?_
              refine r_iv C hI (As := [.int (iI x), .int (iI y), .int (iI y2)]) (rest := []) (c_X7_findBids l g (mset M 18 0 0) x y y2 A wf0 rp1 (by omega) (r_kx (by omega)) (by omega) (by omega)) (cwV 3 hts gX7_bids_X7_findBids rfl rfl rfl (by decide +kernel) ⟨Nat.le_of_ble_eq_true rfl, Nat.le_of_ble_eq_true rfl⟩) (by decide) rfl rfl rfl hl.1 rfl (Nat.le_of_ble_eq_true rfl) dX7_bids_69 ⟨Nat.zero_le _, Nat.zero_le _⟩ (k_X (fun M_1 H locs q_1 hI => ?_))
              have rfr := RM_FR rm0 q_1.1
              refine lv_iload hx hb dX7_bids_72 (lv_at hl 4 rfl) ?_
              refine r_if_ne hx hb (tgt := 84) (by omega) dX7_bids_74 (by decide) (fun c_7 => ?_) (fun c_7 => ?_)
              · refine lv_aload_n hx hb dX7_bids_84 rfl (lv_at hl 0 rfl) ?_
                refine r_get C hI 18 (by decide) rfl rfl hin7 30 (by decide) (fn := "bidFirst") (fd := "I") (index := 199) (by decide +kernel) ⟨rfl, rfl, rfl⟩ (v := .int (iI (M_1 18 30))) rfl dX7_bids_85 ?_
                refine r_iret C hr hlk hI ?_ dX7_bids_88
                exact ⟨_, rfl, (show (fun z u => z = zBid A x y y2 v ∧ QC M u ∧ RM (A) u) (M_1 18 30) M_1 from by exact ⟨(by unfold zBid tdO; rw [if_neg (by omega), if_neg (by omega), if_neg (by omega)]; first | (rw [if_pos (by omega)]; exact q_1.2.1) | (rw [if_neg (by omega)]; exact q_1.2.2)), (by exact rfr)⟩)⟩
              · refine lv_aload_n hx hb dX7_bids_77 rfl (lv_at hl 0 rfl) ?_
                refine r_get C hI 18 (by decide) rfl rfl hin7 29 (by decide) (fn := "bidMany") (fd := "I") (index := 196) (by decide +kernel) ⟨rfl, rfl, rfl⟩ (v := .int (iI (M_1 18 29))) rfl dX7_bids_78 ?_
                refine lv_goto (tgt := 88) hx hb dX7_bids_81 (by decide) ?_
                refine r_iret C hr hlk hI ?_ dX7_bids_88
                exact ⟨_, rfl, (show (fun z u => z = zBid A x y y2 v ∧ QC M u ∧ RM (A) u) (M_1 18 29) M_1 from by exact ⟨(by unfold zBid tdO; rw [if_neg (by omega), if_neg (by omega), if_neg (by omega)]; first | (rw [if_pos (by omega)]; exact q_1.2.1) | (rw [if_neg (by omega)]; exact q_1.2.2)), (by exact rfr)⟩)⟩
            · refine lv_bipush (v := iI (-3)) hx hb dX7_bids_62 (by decide +kernel) ?_
              refine r_iret C hr hlk hI ?_ dX7_bids_64
              exact ⟨_, rfl, (show (fun z u => z = zBid A x y y2 v ∧ QC M u ∧ RM (A) u) (-3) (mset M 18 0 0) from by exact ⟨(by unfold zBid; (repeat' split) <;> first | rfl | omega | (simp_all; done) | (simp_all; omega)), (by exact RO rm0)⟩)⟩
          · refine lv_bipush (v := iI (-2)) hx hb dX7_bids_47 (by decide +kernel) ?_
            refine r_iret C hr hlk hI ?_ dX7_bids_49
            exact ⟨_, rfl, (show (fun z u => z = zBid A x y y2 v ∧ QC M u ∧ RM (A) u) (-2) (mset M 18 0 0) from by exact ⟨(by unfold zBid; (repeat' split) <;> first | rfl | omega | (simp_all; done) | (simp_all; omega)), (by exact RO rm0)⟩)⟩
      · refine lv_iconst (v := iI (-1)) hx hb dX7_bids_29 rfl ?_
        refine r_iret C hr hlk hI ?_ dX7_bids_30
        exact ⟨_, rfl, (show (fun z u => z = zBid A x y y2 v ∧ QC M u ∧ RM (A) u) (-1) (mset M 18 0 0) from by exact ⟨(by unfold zBid; (repeat' split) <;> first | rfl | omega | (simp_all; done) | (simp_all; omega)), (by exact RO rm0)⟩)⟩
set_option maxHeartbeats 4000000 in
set_option maxRecDepth 100000 in
theorem c_X7_givesAway (l : Launch) (g : GT) (M : Mem) (x : Int) (A : Mem) (wf : WF A) (rm : RM A M) (h_x : -2147483648 ≤ x ∧ x < 2147483648) : Ctr l g yX7_givesAway wsX7_givesAway ({ frames := 2, cells := 0, slots := 0, locals := 46 } : Room) [.ref (gA g 18), .int (iI x)] M (pE (fun z u => z = zGiv A x ∧ QC M u ∧ RM (A) u)) := by
  refine Ctr.mk (cc := cX7_givesAway) (maxL := 7) (ret := some .int) (lv := [(0, .ref (gA g 18)), (1, .int (iI x))]) (by decide) rfl (Nat.le_of_ble_eq_true rfl) rfl ?_
  intro p e s m below meth c C hr hlk hI ls hl
  have C : CallFix p m c cX7_givesAway 7 s ([.ref (gA g 18), .int (iI x)] : List Value).toArray wsX7_givesAway RX7 := C
  have hx := C.1
  have hb := C.2.1
  have hts := C.2.2.2.2
  have hin7 : ∀ w ∈ u_ws RX7 TX7 31, w ∈ wsX7_givesAway := by decide +kernel
  have wf0 := wf
  obtain ⟨w_txt, hL, w_cnt, w_per, w_glo, w_now, w_act, w_rng, w_slo, w_see, w_sa⟩ := wf
  have rm0 := rm
  obtain ⟨⟨t_n, t_l⟩, ⟨⟨p_p, p_g⟩, p_r, g_r⟩, pgn, ⟨a_n, a_r⟩, k_r, ⟨s_n, s_r⟩, sd⟩ := rm
  have w_gx := w_glo x
  have w_nx : 0 ≤ x ∧ x < 4 → (0 ≤ A 33 x ∧ A 33 x < 1000) ∧ (A 34 x = -9 ∨ (0 ≤ A 34 x ∧ A 34 x < A 3 6 ∧ x < A 3 7)) := fun q => ⟨(w_now.1 x q).1, (w_now.1 x q).2.1⟩
  have w_kx : 0 ≤ x ∧ x < A 3 7 → KOK (A 33 x) (A 7 x) := fun q => (w_now.1 x (by omega)).2.2 q.2
  have r_kx : 0 ≤ x ∧ x < A 3 7 → KG (A 33 x) (M 24) (5 * x) := fun q => (PG_0 pgn x q).1
  have r_wx : 0 ≤ x ∧ x < A 3 7 → M 24 (5 * x + 4) = A 34 x := fun q => (PG_0 pgn x q).2
  have g_x := g_r x
  have r_fx : 0 ≤ x ∧ x < A 3 7 → M 24 (5 * x) = figs (A 33 x) := fun q => (PG_0 pgn x q).1.1
  have f_x := figs_b (A 33 x)
  refine lv_aload_n hx hb dX7_givesAway_0 rfl (lv_at hl 0 rfl) ?_
  refine lv_iconst (v := iI 0) hx hb dX7_givesAway_1 rfl ?_
  refine r_put C hI 18 (by decide) rfl rfl tyX7 tyX7_ok nmX7 hin7 0 (by decide) (fn := "thrown") (fd := "I") (index := 50) (by decide +kernel) ⟨rfl, rfl, rfl⟩ rfl (z := 0) rfl rfl (Nat.le_of_ble_eq_true rfl) rfl dX7_givesAway_2 (fun H locs hI => ?_)
  refine lv_aload_n hx hb dX7_givesAway_5 rfl (lv_at hl 0 rfl) ?_
  refine lv_iload_n hx hb dX7_givesAway_6 rfl (lv_at hl 1 rfl) ?_
  refine r_iv C hI (As := [.int (iI x)]) (rest := []) (c_X7_noGlove l g (mset M 18 0 0) x (by omega) (show 0 ≤ (M 18 5) ∧ (M 18 5) ≤ 4 from by omega)) (cwV 1 hts gX7_givesAway_X7_noGlove rfl rfl rfl (by decide +kernel) ⟨Nat.le_of_ble_eq_true rfl, Nat.le_of_ble_eq_true rfl⟩) (by decide) rfl rfl rfl hl.1 rfl (Nat.le_of_ble_eq_true rfl) dX7_givesAway_7 ⟨Nat.zero_le _, Nat.zero_le _⟩ (k_I (fun H locs hI => ?_))
  refine r_eqI (z2 := bI (¬ (0 ≤ x ∧ x ≤ (M 18 5) - 1))) rfl ?_
  refine r_b_eq hx hb (tgt := 15) dX7_givesAway_10 (by decide) (fun c_1 => ?_) (fun c_1 => ?_)
  · refine lv_aload_n hx hb dX7_givesAway_15 rfl (lv_at hl 0 rfl) ?_
    refine lv_aload_n hx hb dX7_givesAway_16 rfl (lv_at hl 0 rfl) ?_
    refine r_get C hI 18 (by decide) rfl rfl hin7 12 (by decide) (fn := "page") (fd := "[I") (index := 25) (by decide +kernel) ⟨rfl, rfl, rfl⟩ (v := .ref (gA g 24)) rfl dX7_givesAway_17 ?_
    refine lv_iload_n hx hb dX7_givesAway_20 rfl (lv_at hl 1 rfl) ?_
    refine r_iv C hI (As := [.ref (gA g 24), .int (iI x)]) (rest := []) (c_X7_isWorn_24 l g (mset M 18 0 0) x (by omega) (show -2147483648 ≤ (M 24 (5 * x + 4)) ∧ (M 24 (5 * x + 4)) < 2147483648 from by omega)) (cwV 2 hts gX7_givesAway_X7_isWorn rfl rfl rfl (by decide +kernel) ⟨Nat.le_of_ble_eq_true rfl, Nat.le_of_ble_eq_true rfl⟩) (by decide) rfl rfl rfl hl.1 rfl (Nat.le_of_ble_eq_true rfl) dX7_givesAway_21 ⟨Nat.zero_le _, Nat.zero_le _⟩ (k_I (fun H locs hI => ?_))
    refine r_eqI (z2 := bI (¬ (M 24 (5 * x + 4)) = -9)) rfl ?_
    refine r_b_eq hx hb (tgt := 30) dX7_givesAway_24 (by decide) (fun c_2 => ?_) (fun c_2 => ?_)
    · refine lv_iconst (v := iI 0) hx hb dX7_givesAway_30 rfl ?_
      refine lv_istore_n (lv' := [(2, .int (iI 0)), (0, .ref (gA g 18)), (1, .int (iI x))]) hx hb dX7_givesAway_31 rfl hl (by decide) rfl (fun ls hl => ?_)
      refine lv_iconst (v := iI 0) hx hb dX7_givesAway_32 rfl ?_
      refine lv_istore_n (lv' := [(3, .int (iI 0)), (2, .int (iI 0)), (0, .ref (gA g 18)), (1, .int (iI x))]) hx hb dX7_givesAway_33 rfl hl (by decide) rfl (fun ls hl => ?_)
      have lp34 : ∀ (n34 : Nat) (pp : Int) (ss : Int) (jj : Nat), (pp = (jj : Int) ∧ (jj : Int) ≤ A 3 6) → (ss = gvN A x jj) → (A 3 6).toNat - jj < n34 → ∀ (H : Heap) (locs : List Loc), HI g s H locs (mset M 18 0 0) → ∀ ls : Array Slot, lv_has ls 7 [(3, .int (iI pp)), (2, .int (iI ss)), (0, .ref (gA g 18)), (1, .int (iI x))] → W p l e ({ frames := 2, cells := 0, slots := 0, locals := 46 } : Room) s m ([.ref (gA g 18), .int (iI x)] : List Value).toArray below meth c H locs 0 0 (MQ below (QV g (pE (fun z u => z = zGiv A x ∧ QC M u ∧ RM (A) u))) ([.ref (gA g 18), .int (iI x)] : List Value).toArray s 0 0 (AA g)) (F0 m 34 ls []) := by
        intro n34
        induction n34 with
        | zero => intro pp ss jj h1 h3 hn34; exact absurd hn34 (Nat.not_lt_zero _)
        | succ n34 ih34 =>
          intro pp ss jj h1 h3 hn34 H locs hI ls hl
          have p_p0 := p_r pp
          have w_p0 := w_per pp
          refine lv_iload_n hx hb dX7_givesAway_34 rfl (lv_at hl 0 rfl) ?_
          refine lv_aload_n hx hb dX7_givesAway_35 rfl (lv_at hl 2 rfl) ?_
          refine r_get C hI 18 (by decide) rfl rfl hin7 4 (by decide) (fn := "people") (fd := "I") (index := 54) (by decide +kernel) ⟨rfl, rfl, rfl⟩ (v := .int (iI (M 18 4))) rfl dX7_givesAway_36 ?_
          refine r_eqI (z2 := M 18 4) (by first | rfl | (repeat first | rw [mset_s, rw1_s] | rw [mset_s, rw1_n _ _ (by omega)] | rw [mset_n _ _ _ (by decide)])) ?_
          refine r_icmp_ge hx hb (tgt := 141) (by omega) (by omega) dX7_givesAway_39 (by decide) (fun c_3 => ?_) (fun c_3 => ?_)
          · refine lv_iload_n hx hb dX7_givesAway_141 rfl (lv_at hl 1 rfl) ?_
            refine r_iret C hr hlk hI ?_ dX7_givesAway_142
            exact ⟨_, rfl, (show (fun z u => z = zGiv A x ∧ QC M u ∧ RM (A) u) ss (mset M 18 0 0) from by exact ⟨(by unfold zGiv; rw [if_neg (by omega), if_neg (by omega), h3, show (A 3 6).toNat = jj from by omega]), (by exact RO rm0)⟩)⟩
          · refine lv_aload_n hx hb dX7_givesAway_42 rfl (lv_at hl 2 rfl) ?_
            refine lv_aload_n hx hb dX7_givesAway_43 rfl (lv_at hl 2 rfl) ?_
            refine r_get C hI 18 (by decide) rfl rfl hin7 12 (by decide) (fn := "page") (fd := "[I") (index := 25) (by decide +kernel) ⟨rfl, rfl, rfl⟩ (v := .ref (gA g 24)) rfl dX7_givesAway_44 ?_
            refine lv_iload_n hx hb dX7_givesAway_47 rfl (lv_at hl 3 rfl) ?_
            refine lv_iload_n hx hb dX7_givesAway_48 rfl (lv_at hl 0 rfl) ?_
            refine r_iv C hI (As := [.ref (gA g 24), .int (iI x), .int (iI pp)]) (rest := []) (c_X7_doesOn_24 l g (mset M 18 0 0) x pp (A 33 x) (by omega) (by omega) (by omega) (r_kx (by omega)) (show -2147483648 ≤ (M 21 (3 * x + 1)) ∧ (M 21 (3 * x + 1)) < 2147483648 from by omega) (show -2147483648 ≤ (M 20 (3 * pp)) ∧ (M 20 (3 * pp)) < 2147483648 from by omega)) (cwV 3 hts gX7_givesAway_X7_doesOn rfl rfl rfl (by decide +kernel) ⟨Nat.le_of_ble_eq_true rfl, Nat.le_of_ble_eq_true rfl⟩) (by decide) rfl rfl rfl hl.1 rfl (Nat.le_of_ble_eq_true rfl) dX7_givesAway_49 ⟨Nat.zero_le _, Nat.zero_le _⟩ (k_I (fun H locs hI => ?_))
            refine r_eqI (z2 := repO (M 21 (3 * x + 1)) (A 33 x) (M 20 (3 * pp))) rfl ?_
            have ff_1 := repO_b (M 21 (3 * x + 1)) (A 33 x) (M 20 (3 * pp))
            refine r_nm (fun vv evv => ?_)
            refine lv_istore (lv' := [(4, .int (iI vv)), (3, .int (iI pp)), (2, .int (iI ss)), (0, .ref (gA g 18)), (1, .int (iI x))]) hx hb dX7_givesAway_52 hl (by decide) rfl (fun ls hl => ?_)
            have evA : vv = repO (A 8 x) (A 33 x) (A 4 pp) := by rw [evv]; rw [g_x.2.1, (p_r pp).1]
            have vvb := repO_b (A 8 x) (A 33 x) (A 4 pp) (by omega)
            refine lv_iconst (v := iI 0) hx hb dX7_givesAway_54 rfl ?_
            refine lv_istore (lv' := [(5, .int (iI 0)), (4, .int (iI vv)), (3, .int (iI pp)), (2, .int (iI ss)), (0, .ref (gA g 18)), (1, .int (iI x))]) hx hb dX7_givesAway_55 hl (by decide) rfl (fun ls hl => ?_)
            refine lv_iconst (v := iI 0) hx hb dX7_givesAway_57 rfl ?_
            refine lv_istore (lv' := [(6, .int (iI 0)), (5, .int (iI 0)), (4, .int (iI vv)), (3, .int (iI pp)), (2, .int (iI ss)), (0, .ref (gA g 18)), (1, .int (iI x))]) hx hb dX7_givesAway_58 hl (by decide) rfl (fun ls hl => ?_)
            have lp60 : ∀ (n60 : Nat) (oo : Int) (ot : Int) (mm : Nat), ((oo = (mm : Int) ∧ (mm : Int) ≤ A 3 6) ∧ (ot = 0 ∨ ot = 1)) → ((ot = 1 ∧ ohB (A 4) vv pp mm = true) ∨ (ot = 0 ∧ ohB (A 4) vv pp mm = false)) → (A 3 6).toNat - mm < n60 → ∀ (H : Heap) (locs : List Loc), HI g s H locs (mset M 18 0 0) → ∀ ls : Array Slot, lv_has ls 7 [(6, .int (iI oo)), (5, .int (iI ot)), (4, .int (iI vv)), (3, .int (iI pp)), (2, .int (iI ss)), (0, .ref (gA g 18)), (1, .int (iI x))] → W p l e ({ frames := 2, cells := 0, slots := 0, locals := 46 } : Room) s m ([.ref (gA g 18), .int (iI x)] : List Value).toArray below meth c H locs 0 0 (MQ below (QV g (pE (fun z u => z = zGiv A x ∧ QC M u ∧ RM (A) u))) ([.ref (gA g 18), .int (iI x)] : List Value).toArray s 0 0 (AA g)) (F0 m 60 ls []) := by
              intro n60
              induction n60 with
              | zero => intro oo ot mm i1 i2 hn60; exact absurd hn60 (Nat.not_lt_zero _)
              | succ n60 ih60 =>
                intro oo ot mm i1 i2 hn60 H locs hI ls hl
                have p_o0 := p_r oo
                have w_o0 := w_per oo
                refine lv_iload hx hb dX7_givesAway_60 (lv_at hl 0 rfl) ?_
                refine lv_aload_n hx hb dX7_givesAway_62 rfl (lv_at hl 5 rfl) ?_
                refine r_get C hI 18 (by decide) rfl rfl hin7 4 (by decide) (fn := "people") (fd := "I") (index := 54) (by decide +kernel) ⟨rfl, rfl, rfl⟩ (v := .int (iI (M 18 4))) rfl dX7_givesAway_63 ?_
                refine r_eqI (z2 := M 18 4) (by first | rfl | (repeat first | rw [mset_s, rw1_s] | rw [mset_s, rw1_n _ _ (by omega)] | rw [mset_n _ _ _ (by decide)])) ?_
                refine r_icmp_ge hx hb (tgt := 107) (by omega) (by omega) dX7_givesAway_66 (by decide) (fun c_4 => ?_) (fun c_4 => ?_)
                · refine lv_iload_n hx hb dX7_givesAway_107 rfl (lv_at hl 4 rfl) ?_
                  refine lv_iload hx hb dX7_givesAway_108 (lv_at hl 1 rfl) ?_
                  refine r_if_eq hx hb (tgt := 132) (by omega) dX7_givesAway_110 (by decide) (fun c_5 => ?_) (fun c_5 => ?_)
                  · refine lv_iconst (v := iI 0) hx hb dX7_givesAway_132 rfl ?_
                    refine r_ior hx hb (by exact ⟨by rw [h3]; exact gvN_b A x _, by first | decide | (unfold shlI; exact Int.mul_nonneg (by decide) (Int.pow_nonneg (by decide)))⟩) dX7_givesAway_133 ?_
                    refine lv_istore_n (lv' := [(2, .int (iI (orI ss 0))), (6, .int (iI oo)), (5, .int (iI ot)), (4, .int (iI vv)), (3, .int (iI pp)), (0, .ref (gA g 18)), (1, .int (iI x))]) hx hb dX7_givesAway_134 rfl hl (by decide) rfl (fun ls hl => ?_)
                    refine lv_iinc (v := iI (pp + 1)) (lv' := [(3, .int (iI (pp + 1))), (2, .int (iI (orI ss 0))), (6, .int (iI oo)), (5, .int (iI ot)), (4, .int (iI vv)), (0, .ref (gA g 18)), (1, .int (iI x))]) hx hb dX7_givesAway_135 hl (k := 4) rfl (iI_add _ _) (by decide) rfl (fun ls hl => ?_)
                    refine lv_goto (tgt := 34) hx hb dX7_givesAway_138 (by decide) ?_
                    exact ih34 (pp + 1) (orI ss 0) (jj + 1) (by omega) (by (have hm : mm = (A 3 6).toNat := by omega); rw [hm] at i2; rw [h3]; simp only [gvN, ← h1.1, ← evA]; first | (rw [if_pos ⟨by omega, by rw [← oh_some (r := A 4) (w := pp) (by omega)]; exact (i2.elim id (fun q => absurd q.1 (by omega))).2⟩]; done) | (rw [if_neg (fun q => q.1 (by omega)), or0 _ (gvN_b A x jj)]; done) | (rw [if_neg (fun q => by (have q2 := q.2); rw [← oh_some (r := A 4) (w := pp) q.1, (i2.elim (fun q => absurd q.1 (by omega)) id).2] at q2; exact absurd q2 (by decide)), or0 _ (gvN_b A x jj)]; done)) (by omega) _ _ hI ls (lv_sub hl [0, 1, 5, 6] rfl)
                  · refine lv_iload hx hb dX7_givesAway_113 (lv_at hl 2 rfl) ?_
                    refine lv_aload_n hx hb dX7_givesAway_115 rfl (lv_at hl 5 rfl) ?_
                    refine r_get C hI 18 (by decide) rfl rfl hin7 6 (by decide) (fn := "person") (fd := "[I") (index := 13) (by decide +kernel) ⟨rfl, rfl, rfl⟩ (v := .ref (gA g 20)) rfl dX7_givesAway_116 ?_
                    refine lv_iconst (v := iI 3) hx hb dX7_givesAway_119 rfl ?_
                    refine lv_iload_n hx hb dX7_givesAway_120 rfl (lv_at hl 3 rfl) ?_
                    refine r_imul hx hb dX7_givesAway_121 ?_
                    refine r_ald C hI 20 (by decide) rfl (by omega) (by decide) dX7_givesAway_122 ?_
                    refine r_eqI (z2 := M 20 (3 * pp)) (by first | rfl | (repeat first | rw [mset_s, rw1_s] | rw [mset_s, rw1_n _ _ (by omega)] | rw [mset_n _ _ _ (by decide)])) ?_
                    refine r_icmp_eq hx hb (tgt := 132) (by omega) (by omega) dX7_givesAway_123 (by decide) (fun c_6 => ?_) (fun c_6 => ?_)
                    · refine lv_iconst (v := iI 0) hx hb dX7_givesAway_132 rfl ?_
                      refine r_ior hx hb (by exact ⟨by rw [h3]; exact gvN_b A x _, by first | decide | (unfold shlI; exact Int.mul_nonneg (by decide) (Int.pow_nonneg (by decide)))⟩) dX7_givesAway_133 ?_
                      refine lv_istore_n (lv' := [(2, .int (iI (orI ss 0))), (6, .int (iI oo)), (5, .int (iI ot)), (4, .int (iI vv)), (3, .int (iI pp)), (0, .ref (gA g 18)), (1, .int (iI x))]) hx hb dX7_givesAway_134 rfl hl (by decide) rfl (fun ls hl => ?_)
                      refine lv_iinc (v := iI (pp + 1)) (lv' := [(3, .int (iI (pp + 1))), (2, .int (iI (orI ss 0))), (6, .int (iI oo)), (5, .int (iI ot)), (4, .int (iI vv)), (0, .ref (gA g 18)), (1, .int (iI x))]) hx hb dX7_givesAway_135 hl (k := 4) rfl (iI_add _ _) (by decide) rfl (fun ls hl => ?_)
                      refine lv_goto (tgt := 34) hx hb dX7_givesAway_138 (by decide) ?_
                      exact ih34 (pp + 1) (orI ss 0) (jj + 1) (by omega) (by (have hm : mm = (A 3 6).toNat := by omega); rw [hm] at i2; rw [h3]; simp only [gvN, ← h1.1, ← evA]; first | (rw [if_pos ⟨by omega, by rw [← oh_some (r := A 4) (w := pp) (by omega)]; exact (i2.elim id (fun q => absurd q.1 (by omega))).2⟩]; done) | (rw [if_neg (fun q => q.1 (by omega)), or0 _ (gvN_b A x jj)]; done) | (rw [if_neg (fun q => by (have q2 := q.2); rw [← oh_some (r := A 4) (w := pp) q.1, (i2.elim (fun q => absurd q.1 (by omega)) id).2] at q2; exact absurd q2 (by decide)), or0 _ (gvN_b A x jj)]; done)) (by omega) _ _ hI ls (lv_sub hl [0, 1, 5, 6] rfl)
                    · refine lv_iconst (v := iI 1) hx hb dX7_givesAway_126 rfl ?_
                      refine lv_iload_n hx hb dX7_givesAway_127 rfl (lv_at hl 3 rfl) ?_
                      refine r_ishl hx hb (by omega) dX7_givesAway_128 ?_
                      refine lv_goto (tgt := 133) hx hb dX7_givesAway_129 (by decide) ?_
                      refine r_ior hx hb (by exact ⟨by rw [h3]; exact gvN_b A x _, by first | decide | (unfold shlI; exact Int.mul_nonneg (by decide) (Int.pow_nonneg (by decide)))⟩) dX7_givesAway_133 ?_
                      refine lv_istore_n (lv' := [(2, .int (iI (orI ss (shlI 1 pp)))), (6, .int (iI oo)), (5, .int (iI ot)), (4, .int (iI vv)), (3, .int (iI pp)), (0, .ref (gA g 18)), (1, .int (iI x))]) hx hb dX7_givesAway_134 rfl hl (by decide) rfl (fun ls hl => ?_)
                      refine lv_iinc (v := iI (pp + 1)) (lv' := [(3, .int (iI (pp + 1))), (2, .int (iI (orI ss (shlI 1 pp)))), (6, .int (iI oo)), (5, .int (iI ot)), (4, .int (iI vv)), (0, .ref (gA g 18)), (1, .int (iI x))]) hx hb dX7_givesAway_135 hl (k := 4) rfl (iI_add _ _) (by decide) rfl (fun ls hl => ?_)
                      refine lv_goto (tgt := 34) hx hb dX7_givesAway_138 (by decide) ?_
                      exact ih34 (pp + 1) (orI ss (shlI 1 pp)) (jj + 1) (by omega) (by (have hm : mm = (A 3 6).toNat := by omega); rw [hm] at i2; rw [h3]; simp only [gvN, ← h1.1, ← evA]; first | (rw [if_pos ⟨by omega, by rw [← oh_some (r := A 4) (w := pp) (by omega)]; exact (i2.elim id (fun q => absurd q.1 (by omega))).2⟩]; done) | (rw [if_neg (fun q => q.1 (by omega)), or0 _ (gvN_b A x jj)]; done) | (rw [if_neg (fun q => by (have q2 := q.2); rw [← oh_some (r := A 4) (w := pp) q.1, (i2.elim (fun q => absurd q.1 (by omega)) id).2] at q2; exact absurd q2 (by decide)), or0 _ (gvN_b A x jj)]; done)) (by omega) _ _ hI ls (lv_sub hl [0, 1, 5, 6] rfl)
                · refine lv_iload hx hb dX7_givesAway_69 (lv_at hl 1 rfl) ?_
                  refine r_if_ne hx hb (tgt := 94) (by omega) dX7_givesAway_71 (by decide) (fun c_7 => ?_) (fun c_7 => ?_)
                  · refine lv_iconst (v := iI 1) hx hb dX7_givesAway_94 rfl ?_
                    refine lv_goto (tgt := 99) hx hb dX7_givesAway_95 (by decide) ?_
                    refine lv_istore (lv' := [(5, .int (iI 1)), (6, .int (iI oo)), (4, .int (iI vv)), (3, .int (iI pp)), (2, .int (iI ss)), (0, .ref (gA g 18)), (1, .int (iI x))]) hx hb dX7_givesAway_99 hl (by decide) rfl (fun ls hl => ?_)
                    refine lv_iinc (v := iI (oo + 1)) (lv' := [(6, .int (iI (oo + 1))), (5, .int (iI 1)), (4, .int (iI vv)), (3, .int (iI pp)), (2, .int (iI ss)), (0, .ref (gA g 18)), (1, .int (iI x))]) hx hb dX7_givesAway_101 hl (k := 1) rfl (iI_add _ _) (by decide) rfl (fun ls hl => ?_)
                    refine lv_goto (tgt := 60) hx hb dX7_givesAway_104 (by decide) ?_
                    exact ih60 (oo + 1) 1 (mm + 1) (by omega) (by first | exact Or.inl ⟨rfl, ohB_1 (i2.elim id (fun q => absurd q.1 (by omega))).2⟩ | exact Or.inl ⟨rfl, ohB_2 i1.1.1 (by omega) (by omega)⟩ | exact Or.inr ⟨rfl, ohB_3 (i2.elim (fun q => absurd q.1 (by omega)) id).2 i1.1.1 (by omega)⟩) (by omega) _ _ hI ls (lv_sub hl [0, 1, 2, 3, 4, 5, 6] rfl)
                  · refine lv_iload hx hb dX7_givesAway_74 (lv_at hl 0 rfl) ?_
                    refine lv_iload_n hx hb dX7_givesAway_76 rfl (lv_at hl 3 rfl) ?_
                    refine r_icmp_eq hx hb (tgt := 98) (by omega) (by omega) dX7_givesAway_77 (by decide) (fun c_8 => ?_) (fun c_8 => ?_)
                    · refine lv_iconst (v := iI 0) hx hb dX7_givesAway_98 rfl ?_
                      refine lv_istore (lv' := [(5, .int (iI 0)), (6, .int (iI oo)), (4, .int (iI vv)), (3, .int (iI pp)), (2, .int (iI ss)), (0, .ref (gA g 18)), (1, .int (iI x))]) hx hb dX7_givesAway_99 hl (by decide) rfl (fun ls hl => ?_)
                      refine lv_iinc (v := iI (oo + 1)) (lv' := [(6, .int (iI (oo + 1))), (5, .int (iI 0)), (4, .int (iI vv)), (3, .int (iI pp)), (2, .int (iI ss)), (0, .ref (gA g 18)), (1, .int (iI x))]) hx hb dX7_givesAway_101 hl (k := 1) rfl (iI_add _ _) (by decide) rfl (fun ls hl => ?_)
                      refine lv_goto (tgt := 60) hx hb dX7_givesAway_104 (by decide) ?_
                      exact ih60 (oo + 1) 0 (mm + 1) (by omega) (by first | exact Or.inl ⟨rfl, ohB_1 (i2.elim id (fun q => absurd q.1 (by omega))).2⟩ | exact Or.inl ⟨rfl, ohB_2 i1.1.1 (by omega) (by omega)⟩ | exact Or.inr ⟨rfl, ohB_3 (i2.elim (fun q => absurd q.1 (by omega)) id).2 i1.1.1 (by omega)⟩) (by omega) _ _ hI ls (lv_sub hl [0, 1, 2, 3, 4, 5, 6] rfl)
                    · refine lv_aload_n hx hb dX7_givesAway_80 rfl (lv_at hl 5 rfl) ?_
                      refine r_get C hI 18 (by decide) rfl rfl hin7 6 (by decide) (fn := "person") (fd := "[I") (index := 13) (by decide +kernel) ⟨rfl, rfl, rfl⟩ (v := .ref (gA g 20)) rfl dX7_givesAway_81 ?_
                      refine lv_iconst (v := iI 3) hx hb dX7_givesAway_84 rfl ?_
                      refine lv_iload hx hb dX7_givesAway_85 (lv_at hl 0 rfl) ?_
                      refine r_imul hx hb dX7_givesAway_87 ?_
                      refine r_ald C hI 20 (by decide) rfl (by omega) (by decide) dX7_givesAway_88 ?_
                      refine r_eqI (z2 := M 20 (3 * oo)) (by first | rfl | (repeat first | rw [mset_s, rw1_s] | rw [mset_s, rw1_n _ _ (by omega)] | rw [mset_n _ _ _ (by decide)])) ?_
                      refine lv_iload hx hb dX7_givesAway_89 (lv_at hl 2 rfl) ?_
                      refine r_icmp_ne hx hb (tgt := 98) (by omega) (by omega) dX7_givesAway_91 (by decide) (fun c_9 => ?_) (fun c_9 => ?_)
                      · refine lv_iconst (v := iI 0) hx hb dX7_givesAway_98 rfl ?_
                        refine lv_istore (lv' := [(5, .int (iI 0)), (6, .int (iI oo)), (4, .int (iI vv)), (3, .int (iI pp)), (2, .int (iI ss)), (0, .ref (gA g 18)), (1, .int (iI x))]) hx hb dX7_givesAway_99 hl (by decide) rfl (fun ls hl => ?_)
                        refine lv_iinc (v := iI (oo + 1)) (lv' := [(6, .int (iI (oo + 1))), (5, .int (iI 0)), (4, .int (iI vv)), (3, .int (iI pp)), (2, .int (iI ss)), (0, .ref (gA g 18)), (1, .int (iI x))]) hx hb dX7_givesAway_101 hl (k := 1) rfl (iI_add _ _) (by decide) rfl (fun ls hl => ?_)
                        refine lv_goto (tgt := 60) hx hb dX7_givesAway_104 (by decide) ?_
                        exact ih60 (oo + 1) 0 (mm + 1) (by omega) (by first | exact Or.inl ⟨rfl, ohB_1 (i2.elim id (fun q => absurd q.1 (by omega))).2⟩ | exact Or.inl ⟨rfl, ohB_2 i1.1.1 (by omega) (by omega)⟩ | exact Or.inr ⟨rfl, ohB_3 (i2.elim (fun q => absurd q.1 (by omega)) id).2 i1.1.1 (by omega)⟩) (by omega) _ _ hI ls (lv_sub hl [0, 1, 2, 3, 4, 5, 6] rfl)
                      · refine lv_iconst (v := iI 1) hx hb dX7_givesAway_94 rfl ?_
                        refine lv_goto (tgt := 99) hx hb dX7_givesAway_95 (by decide) ?_
                        refine lv_istore (lv' := [(5, .int (iI 1)), (6, .int (iI oo)), (4, .int (iI vv)), (3, .int (iI pp)), (2, .int (iI ss)), (0, .ref (gA g 18)), (1, .int (iI x))]) hx hb dX7_givesAway_99 hl (by decide) rfl (fun ls hl => ?_)
                        refine lv_iinc (v := iI (oo + 1)) (lv' := [(6, .int (iI (oo + 1))), (5, .int (iI 1)), (4, .int (iI vv)), (3, .int (iI pp)), (2, .int (iI ss)), (0, .ref (gA g 18)), (1, .int (iI x))]) hx hb dX7_givesAway_101 hl (k := 1) rfl (iI_add _ _) (by decide) rfl (fun ls hl => ?_)
                        refine lv_goto (tgt := 60) hx hb dX7_givesAway_104 (by decide) ?_
                        exact ih60 (oo + 1) 1 (mm + 1) (by omega) (by first | exact Or.inl ⟨rfl, ohB_1 (i2.elim id (fun q => absurd q.1 (by omega))).2⟩ | exact Or.inl ⟨rfl, ohB_2 i1.1.1 (by omega) (by omega)⟩ | exact Or.inr ⟨rfl, ohB_3 (i2.elim (fun q => absurd q.1 (by omega)) id).2 i1.1.1 (by omega)⟩) (by omega) _ _ hI ls (lv_sub hl [0, 1, 2, 3, 4, 5, 6] rfl)
            exact lp60 _ 0 0 0 (by omega) (by exact Or.inr ⟨rfl, rfl⟩) (Nat.lt_succ_self _) _ _ hI ls (lv_sub hl [0, 1, 2, 3, 4, 5, 6] rfl)
      exact lp34 _ 0 0 0 (by omega) (by rfl) (Nat.lt_succ_self _) _ _ hI ls (lv_sub hl [0, 1, 2, 3] rfl)
    · refine lv_bipush (v := iI (-3)) hx hb dX7_givesAway_27 (by decide +kernel) ?_
      refine r_iret C hr hlk hI ?_ dX7_givesAway_29
      exact ⟨_, rfl, (show (fun z u => z = zGiv A x ∧ QC M u ∧ RM (A) u) (-3) (mset M 18 0 0) from by exact ⟨(by unfold zGiv; (repeat' split) <;> first | rfl | omega | (simp_all; done) | (simp_all; omega)), (by exact RO rm0)⟩)⟩
  · refine lv_iconst (v := iI (-1)) hx hb dX7_givesAway_13 rfl ?_
    refine r_iret C hr hlk hI ?_ dX7_givesAway_14
    exact ⟨_, rfl, (show (fun z u => z = zGiv A x ∧ QC M u ∧ RM (A) u) (-1) (mset M 18 0 0) from by exact ⟨(by unfold zGiv; (repeat' split) <;> first | rfl | omega | (simp_all; done) | (simp_all; omega)), (by exact RO rm0)⟩)⟩
