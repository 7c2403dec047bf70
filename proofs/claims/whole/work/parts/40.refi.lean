
theorem five_b {P : Int} (hP : 1 ≤ P ∧ P ≤ 5) {n : Nat} (h : n ≤ 4) : 1 ≤ pwN P n ∧ pwN P n ≤ 625 := by
  have h1 := pwN_b hP n
  obtain rfl | rfl | rfl | rfl | rfl : n = 0 ∨ n = 1 ∨ n = 2 ∨ n = 3 ∨ n = 4 := by omega
  all_goals (refine ⟨h1.1, Int.le_trans h1.2 (by decide)⟩)
set_option maxHeartbeats 4000000 in
set_option maxRecDepth 100000 in
theorem c_X7_lost (l : Launch) (g : GT) (M : Mem) (x : Int) (y : Int) (dd : Int) (n : Int) (Pu : Prop) [Decidable Pu] (A : Mem) (wf : WF A) (rm : RM A M) (h_x : -2147483648 ≤ x ∧ x < 2147483648) (h_y : -2147483648 ≤ y ∧ y < 2147483648) (h_dd : -2147483648 ≤ dd ∧ dd < 2147483648) (h_n : -2147483648 ≤ n ∧ n < 2147483648) : Ctr l g yX7_lost wsX7_lost ({ frames := 3, cells := 0, slots := 0, locals := 70 } : Room) [.ref (gA g 18), .int (iI x), .int (iI y), .int (iI dd), .int (iI n), .int (iI (bI Pu))] M (pE (fun z u => z = zLos A x y dd n Pu ∧ QC M u ∧ RM A u)) := by
  refine Ctr.mk (cc := cX7_lost) (maxL := 10) (ret := some .int) (lv := [(0, .ref (gA g 18)), (1, .int (iI x)), (2, .int (iI y)), (3, .int (iI dd)), (4, .int (iI n)), (5, .int (iI (bI Pu)))]) (by decide) rfl (Nat.le_of_ble_eq_true rfl) rfl ?_
  intro p e s m below meth c C hr hlk hI ls hl
  have C : CallFix p m c cX7_lost 10 s ([.ref (gA g 18), .int (iI x), .int (iI y), .int (iI dd), .int (iI n), .int (iI (bI Pu))] : List Value).toArray wsX7_lost RX7 := C
  have hx := C.1
  have hb := C.2.1
  have hts := C.2.2.2.2
  have hin7 : ∀ w ∈ u_ws RX7 TX7 31, w ∈ wsX7_lost := by decide +kernel
  have wf0 := wf
  obtain ⟨w_txt, hL, w_cnt, w_per, w_glo, w_now, w_act, w_rng, w_slo, w_see, w_sa⟩ := wf
  have rm0 := rm
  obtain ⟨⟨t_n, t_l⟩, ⟨⟨p_p, p_g⟩, p_r, g_r⟩, pgn, ⟨a_n, a_r⟩, k_r, ⟨s_n, s_r⟩, sd⟩ := rm
  have w_gx := w_glo x
  have w_nx : 0 ≤ x ∧ x < 4 → (0 ≤ A 33 x ∧ A 33 x < 1000) ∧ (A 34 x = -9 ∨ (0 ≤ A 34 x ∧ A 34 x < A 3 6 ∧ x < A 3 7)) := fun q => ⟨(w_now.1 x q).1, (w_now.1 x q).2.1⟩
  have w_kx : 0 ≤ x ∧ x < A 3 7 → KOK (A 33 x) (A 7 x) := fun q => (w_now.1 x (by omega)).2.2 q.2
  have r_kx : 0 ≤ x ∧ x < A 3 7 → KG (A 33 x) (M 24) (5 * x) := fun q => (PG_0 pgn x q).1
  have r_wx : 0 ≤ x ∧ x < A 3 7 → M 24 (5 * x + 4) = A 34 x := fun q => (PG_0 pgn x q).2
  have g_x := g_r x
  have r_fx : 0 ≤ x ∧ x < A 3 7 → M 24 (5 * x) = figs (A 33 x) := fun q => (PG_0 pgn x q).1.1
  have f_x := figs_b (A 33 x)
  have w_py := w_per y
  have w_own : ∀ q : Int, 0 ≤ q ∧ q < A 3 6 → 1 ≤ A 4 q ∧ A 4 q ≤ 7 := fun q hq => (w_per q hq).1
  refine lv_aload_n hx hb dX7_lost_0 rfl (lv_at hl 0 rfl) ?_
  refine lv_iconst (v := iI 0) hx hb dX7_lost_1 rfl ?_
  refine r_put C hI 18 (by decide) rfl rfl tyX7 tyX7_ok nmX7 hin7 0 (by decide) (fn := "thrown") (fd := "I") (index := 50) (by decide +kernel) ⟨rfl, rfl, rfl⟩ rfl (z := 0) rfl rfl (Nat.le_of_ble_eq_true rfl) rfl dX7_lost_2 (fun H locs hI => ?_)
  refine lv_aload_n hx hb dX7_lost_5 rfl (lv_at hl 0 rfl) ?_
  refine lv_iload_n hx hb dX7_lost_6 rfl (lv_at hl 1 rfl) ?_
  refine r_iv C hI (As := [.int (iI x)]) (rest := []) (c_X7_noGlove l g (mset M 18 0 0) x (by omega) (show 0 ≤ (M 18 5) ∧ (M 18 5) ≤ 4 from by omega)) (cwV 1 hts gX7_lost_X7_noGlove rfl rfl rfl (by decide +kernel) ⟨Nat.le_of_ble_eq_true rfl, Nat.le_of_ble_eq_true rfl⟩) (by decide) rfl rfl rfl hl.1 rfl (Nat.le_of_ble_eq_true rfl) dX7_lost_7 ⟨Nat.zero_le _, Nat.zero_le _⟩ (k_I (fun H locs hI => ?_))
  refine r_eqI (z2 := bI (¬ (0 ≤ x ∧ x ≤ (M 18 5) - 1))) rfl ?_
  refine r_b_ne hx hb (tgt := 21) dX7_lost_10 (by decide) (fun c_1 => ?_) (fun c_1 => ?_)
  · refine lv_iconst (v := iI (-1)) hx hb dX7_lost_21 rfl ?_
    refine r_iret C hr hlk hI ?_ dX7_lost_22
    exact ⟨_, rfl, (show (fun z u => z = zLos A x y dd n Pu ∧ QC M u ∧ RM A u) (-1) (mset M 18 0 0) from by exact ⟨(by unfold zLos; (repeat' split) <;> first | rfl | omega | (simp_all; done) | (simp_all; omega)), (by exact RO rm0)⟩)⟩
  · refine lv_aload_n hx hb dX7_lost_13 rfl (lv_at hl 0 rfl) ?_
    refine lv_iload_n hx hb dX7_lost_14 rfl (lv_at hl 2 rfl) ?_
    refine r_iv C hI (As := [.int (iI y)]) (rest := []) (c_X7_noPerson l g (mset M 18 0 0) y (by omega) (show 0 ≤ (M 18 4) ∧ (M 18 4) ≤ 5 from by omega)) (cwV 1 hts gX7_lost_X7_noPerson rfl rfl rfl (by decide +kernel) ⟨Nat.le_of_ble_eq_true rfl, Nat.le_of_ble_eq_true rfl⟩) (by decide) rfl rfl rfl hl.1 rfl (Nat.le_of_ble_eq_true rfl) dX7_lost_15 ⟨Nat.zero_le _, Nat.zero_le _⟩ (k_I (fun H locs hI => ?_))
    refine r_eqI (z2 := bI (¬ (0 ≤ y ∧ y ≤ (M 18 4) - 1))) rfl ?_
    refine r_b_eq hx hb (tgt := 23) dX7_lost_18 (by decide) (fun c_2 => ?_) (fun c_2 => ?_)
    · refine lv_iload_n hx hb dX7_lost_23 rfl (lv_at hl 3 rfl) ?_
      refine r_i2l hx hb (by omega) dX7_lost_24 ?_
      refine lv_lconst (v := iL 0) hx hb dX7_lost_25 (by decide +kernel) ?_
      refine r_ldc2 C (n := 7) (v := (7 : Int64)) (index := 160) (by decide +kernel) (by decide +kernel) dX7_lost_26 ?_
      refine r_is C hI (As := [.long (iL dd), .long (iL 0), .long (iL 7)]) (rest := []) (c_X7_in l g (mset M 18 0 0) dd 0 7 (by omega) (by omega) (by omega)) (va_cwS 3 hts gX7_lost_X7_in rfl rfl rfl (by decide +kernel) ⟨Nat.le_of_ble_eq_true rfl, Nat.le_of_ble_eq_true rfl⟩) rfl hl.1 rfl (Nat.le_of_ble_eq_true rfl) dX7_lost_29 ⟨Nat.zero_le _, Nat.zero_le _⟩ (k_I (fun H locs hI => ?_))
      refine r_b_eq hx hb (tgt := 48) dX7_lost_32 (by decide) (fun c_3 => ?_) (fun c_3 => ?_)
      · refine lv_bipush (v := iI (-2)) hx hb dX7_lost_48 (by decide +kernel) ?_
        refine r_iret C hr hlk hI ?_ dX7_lost_50
        exact ⟨_, rfl, (show (fun z u => z = zLos A x y dd n Pu ∧ QC M u ∧ RM A u) (-2) (mset M 18 0 0) from by exact ⟨(by unfold zLos; (repeat' split) <;> first | rfl | omega | (simp_all; done) | (simp_all; omega)), (by exact RO rm0)⟩)⟩
      · refine lv_iload hx hb dX7_lost_35 (lv_at hl 4 rfl) ?_
        refine r_i2l hx hb (by omega) dX7_lost_37 ?_
        refine lv_lconst (v := iL 0) hx hb dX7_lost_38 (by decide +kernel) ?_
        refine r_ldc2 C (n := 3) (v := (3 : Int64)) (index := 179) (by decide +kernel) (by decide +kernel) dX7_lost_39 ?_
        refine r_is C hI (As := [.long (iL n), .long (iL 0), .long (iL 3)]) (rest := []) (c_X7_in l g (mset M 18 0 0) n 0 3 (by omega) (by omega) (by omega)) (va_cwS 3 hts gX7_lost_X7_in rfl rfl rfl (by decide +kernel) ⟨Nat.le_of_ble_eq_true rfl, Nat.le_of_ble_eq_true rfl⟩) rfl hl.1 rfl (Nat.le_of_ble_eq_true rfl) dX7_lost_42 ⟨Nat.zero_le _, Nat.zero_le _⟩ (k_I (fun H locs hI => ?_))
        refine r_b_ne hx hb (tgt := 51) dX7_lost_45 (by decide) (fun c_4 => ?_) (fun c_4 => ?_)
        · refine lv_aload_n hx hb dX7_lost_51 rfl (lv_at hl 0 rfl) ?_
          refine lv_aload_n hx hb dX7_lost_52 rfl (lv_at hl 0 rfl) ?_
          refine r_get C hI 18 (by decide) rfl rfl hin7 12 (by decide) (fn := "page") (fd := "[I") (index := 25) (by decide +kernel) ⟨rfl, rfl, rfl⟩ (v := .ref (gA g 24)) rfl dX7_lost_53 ?_
          refine lv_iload_n hx hb dX7_lost_56 rfl (lv_at hl 1 rfl) ?_
          refine r_iv C hI (As := [.ref (gA g 24), .int (iI x)]) (rest := []) (c_X7_isWorn_24 l g (mset M 18 0 0) x (by omega) (show -2147483648 ≤ (M 24 (5 * x + 4)) ∧ (M 24 (5 * x + 4)) < 2147483648 from by omega)) (cwV 2 hts gX7_lost_X7_isWorn rfl rfl rfl (by decide +kernel) ⟨Nat.le_of_ble_eq_true rfl, Nat.le_of_ble_eq_true rfl⟩) (by decide) rfl rfl rfl hl.1 rfl (Nat.le_of_ble_eq_true rfl) dX7_lost_57 ⟨Nat.zero_le _, Nat.zero_le _⟩ (k_I (fun H locs hI => ?_))
          refine r_eqI (z2 := bI (¬ (M 24 (5 * x + 4)) = -9)) rfl ?_
          refine r_b_eq hx hb (tgt := 66) dX7_lost_60 (by decide) (fun c_5 => ?_) (fun c_5 => ?_)
          · refine lv_iconst (v := iI 0) hx hb dX7_lost_66 rfl ?_
            refine lv_istore (lv' := [(6, .int (iI 0)), (0, .ref (gA g 18)), (1, .int (iI x)), (2, .int (iI y)), (3, .int (iI dd)), (4, .int (iI n)), (5, .int (iI (bI Pu)))]) hx hb dX7_lost_67 hl (by decide) rfl (fun ls hl => ?_)
            refine lv_aload_n hx hb dX7_lost_69 rfl (lv_at hl 1 rfl) ?_
            refine r_get C hI 18 (by decide) rfl rfl hin7 4 (by decide) (fn := "people") (fd := "I") (index := 54) (by decide +kernel) ⟨rfl, rfl, rfl⟩ (v := .int (iI (M 18 4))) rfl dX7_lost_70 ?_
            refine r_eqI (z2 := M 18 4) (by first | rfl | (repeat first | rw [mset_s, rw1_s] | rw [mset_s, rw1_n _ _ (by omega)] | rw [mset_n _ _ _ (by decide)])) ?_
            refine lv_iload hx hb dX7_lost_73 (lv_at hl 5 rfl) ?_
            refine r_is C hI (As := [.int (iI (M 18 4)), .int (iI n)]) (rest := []) (c_X7_power l g (mset M 18 0 0) (M 18 4) n (by omega)) (va_cwS 2 hts gX7_lost_X7_power rfl rfl rfl (by decide +kernel) ⟨Nat.le_of_ble_eq_true rfl, Nat.le_of_ble_eq_true rfl⟩) rfl hl.1 rfl (Nat.le_of_ble_eq_true rfl) dX7_lost_75 ⟨Nat.zero_le _, Nat.zero_le _⟩ (k_I (fun H locs hI => ?_))
            refine r_nm (fun lw elw => ?_)
            refine lv_istore (lv' := [(7, .int (iI lw)), (6, .int (iI 0)), (0, .ref (gA g 18)), (1, .int (iI x)), (2, .int (iI y)), (3, .int (iI dd)), (4, .int (iI n)), (5, .int (iI (bI Pu)))]) hx hb dX7_lost_78 hl (by decide) rfl (fun ls hl => ?_)
            have hP1 : 1 ≤ A 3 6 ∧ A 3 6 ≤ 5 := by omega
            have elw : lw = pwN (A 3 6) n.toNat := by rw [elw, p_p]
            have five := five_b hP1 (n := n.toNat) (by omega)
            rw [← elw] at five
            have hpn : ((A 3 6).toNat : Int) = A 3 6 := Int.toNat_of_nonneg (by omega)
            have elN : lw = (((A 3 6).toNat ^ n.toNat : Nat) : Int) := by rw [elw]; have h9 := pwN_nat (A 3 6).toNat n.toNat; rw [hpn] at h9; exact h9
            have r_k1 := r_kx (by omega)
            have w_k1 := w_kx (by omega)
            refine lv_iconst (v := iI 0) hx hb dX7_lost_80 rfl ?_
            refine lv_istore (lv' := [(8, .int (iI 0)), (7, .int (iI lw)), (6, .int (iI 0)), (0, .ref (gA g 18)), (1, .int (iI x)), (2, .int (iI y)), (3, .int (iI dd)), (4, .int (iI n)), (5, .int (iI (bI Pu)))]) hx hb dX7_lost_81 hl (by decide) rfl (fun ls hl => ?_)
            have lp83 : ∀ (n83 : Nat) (rr : Int) (up : Int) (NO : Mem) (jj : Nat), ((rr = (jj : Int) ∧ (jj : Int) ≤ lw) ∧ (0 ≤ up ∧ up ≤ (jj : Int))) → (∀ c : Nat, c ≠ 25 → NO c = mset M 18 0 0 c) → (up = sumN (fun s => if repO (A 8 x) (kbN (A 4) (A 3 6) (A 7 x) n.toNat (A 33 x) s) (A 4 y) = dd then 1 else 0) jj) → (lw - jj).toNat < n83 → ∀ (H : Heap) (locs : List Loc), HI g s H locs NO → ∀ ls : Array Slot, lv_has ls 10 [(8, .int (iI rr)), (7, .int (iI lw)), (6, .int (iI up)), (0, .ref (gA g 18)), (1, .int (iI x)), (2, .int (iI y)), (3, .int (iI dd)), (4, .int (iI n)), (5, .int (iI (bI Pu)))] → W p l e ({ frames := 3, cells := 0, slots := 0, locals := 70 } : Room) s m ([.ref (gA g 18), .int (iI x), .int (iI y), .int (iI dd), .int (iI n), .int (iI (bI Pu))] : List Value).toArray below meth c H locs 0 0 (MQ below (QV g (pE (fun z u => z = zLos A x y dd n Pu ∧ QC M u ∧ RM A u))) ([.ref (gA g 18), .int (iI x), .int (iI y), .int (iI dd), .int (iI n), .int (iI (bI Pu))] : List Value).toArray s 0 0 (AA g)) (F0 m 83 ls []) := by
              intro n83
              induction n83 with
              | zero => intro rr up NO jj o1 oN o2 hn83; exact absurd hn83 (Nat.not_lt_zero _)
              | succ n83 ih83 =>
                intro rr up NO jj o1 oN o2 hn83 H locs hI ls hl
                refine lv_iload hx hb dX7_lost_83 (lv_at hl 0 rfl) ?_
                refine lv_iload hx hb dX7_lost_85 (lv_at hl 1 rfl) ?_
                refine r_icmp_ge hx hb (tgt := 168) (by omega) (by omega) dX7_lost_87 (by decide) (fun c_6 => ?_) (fun c_6 => ?_)
                · refine lv_iload hx hb dX7_lost_168 (lv_at hl 2 rfl) ?_
                  refine lv_iload hx hb dX7_lost_170 (lv_at hl 1 rfl) ?_
                  refine r_is C hI (As := [.int (iI up), .int (iI lw)]) (rest := []) (c_X7_divisor l g NO up lw (by omega) (by omega)) (va_cwS 2 hts gX7_lost_X7_divisor rfl rfl rfl (by decide +kernel) ⟨Nat.le_of_ble_eq_true rfl, Nat.le_of_ble_eq_true rfl⟩) rfl hl.1 rfl (Nat.le_of_ble_eq_true rfl) dX7_lost_172 ⟨Nat.zero_le _, Nat.zero_le _⟩ (k_I (fun H locs hI => ?_))
                  have ff_1 : 1 ≤ ((Nat.gcd (Int.toNat up) (Int.toNat lw) : Nat) : Int) := by have := Nat.gcd_pos_of_pos_right (Int.toNat up) (show 0 < Int.toNat lw by omega); omega
                  have gf_1 : ((Nat.gcd (Int.toNat up) (Int.toNat lw) : Nat) : Int) ≤ lw := by have := Nat.gcd_le_right (n := Int.toNat lw) (Int.toNat up) (by omega); omega
                  refine lv_istore (lv' := [(8, .int (iI ((Nat.gcd (Int.toNat up) (Int.toNat lw) : Nat) : Int))), (7, .int (iI lw)), (6, .int (iI up)), (0, .ref (gA g 18)), (1, .int (iI x)), (2, .int (iI y)), (3, .int (iI dd)), (4, .int (iI n)), (5, .int (iI (bI Pu)))]) hx hb dX7_lost_175 hl (by decide) rfl (fun ls hl => ?_)
                  refine lv_iload hx hb dX7_lost_177 (lv_at hl 8 rfl) ?_
                  refine r_b_eq hx hb (tgt := 190) dX7_lost_179 (by decide) (fun c_7 => ?_) (fun c_7 => ?_)
                  · refine lv_iload hx hb dX7_lost_190 (lv_at hl 1 rfl) ?_
                    refine lv_iload hx hb dX7_lost_192 (lv_at hl 0 rfl) ?_
                    refine r_idiv hx hb (by omega) (by omega) dX7_lost_194 ?_
                    refine r_iret C hr hlk hI ?_ dX7_lost_195
                    exact ⟨_, rfl, (show (fun z u => z = zLos A x y dd n Pu ∧ QC M u ∧ RM A u) (lw / ((Nat.gcd (Int.toNat up) (Int.toNat lw) : Nat) : Int)) NO from by (have hjn : jj = (A 3 6).toNat ^ n.toNat := by omega); (have hup : up = wyO (A 4) (A 3 6) (A 8 x) (A 7 x) (A 4 y) dd n.toNat (A 33 x) := by rw [o2, ← wy_eqI hP1.1, hjn]); exact ⟨by (unfold zLos; rw [if_neg (by omega), if_neg (by omega), if_neg (by omega), ← hup, ← elw, cd_eqI (by omega) (by omega)]; first | (rw [if_pos (by assumption)]; done) | (rw [if_neg (by assumption)]; done)), RM_25 rm0 oN⟩)⟩
                  · refine lv_iload hx hb dX7_lost_182 (lv_at hl 2 rfl) ?_
                    refine lv_iload hx hb dX7_lost_184 (lv_at hl 0 rfl) ?_
                    refine r_idiv hx hb (by omega) (by omega) dX7_lost_186 ?_
                    refine lv_goto (tgt := 195) hx hb dX7_lost_187 (by decide) ?_
                    refine r_iret C hr hlk hI ?_ dX7_lost_195
                    exact ⟨_, rfl, (show (fun z u => z = zLos A x y dd n Pu ∧ QC M u ∧ RM A u) (up / ((Nat.gcd (Int.toNat up) (Int.toNat lw) : Nat) : Int)) NO from by (have hjn : jj = (A 3 6).toNat ^ n.toNat := by omega); (have hup : up = wyO (A 4) (A 3 6) (A 8 x) (A 7 x) (A 4 y) dd n.toNat (A 33 x) := by rw [o2, ← wy_eqI hP1.1, hjn]); exact ⟨by (unfold zLos; rw [if_neg (by omega), if_neg (by omega), if_neg (by omega), ← hup, ← elw, cd_eqI (by omega) (by omega)]; first | (rw [if_pos (by assumption)]; done) | (rw [if_neg (by assumption)]; done)), RM_25 rm0 oN⟩)⟩
                · refine lv_aload_n hx hb dX7_lost_90 rfl (lv_at hl 3 rfl) ?_
                  refine r_iv C hI (As := []) (rest := []) (c_X7_begin l g NO) (cwV 0 hts gX7_lost_X7_begin rfl rfl rfl (by decide +kernel) ⟨Nat.le_of_ble_eq_true rfl, Nat.le_of_ble_eq_true rfl⟩) (by decide) rfl rfl rfl hl.1 rfl (Nat.le_of_ble_eq_true rfl) dX7_lost_91 ⟨Nat.zero_le _, Nat.zero_le _⟩ (k_X (fun M_1 H locs q_1 hI => ?_))
                  have b_c : ∀ c : Nat, c ≠ 25 → M_1 c = mset M 18 0 0 c := fun c hc => by rw [q_1, cpA_n hc]; exact oN c hc
                  have b_k : KG (A 33 x) (M_1 25) (5 * x) := by rw [q_1]; exact KG_begin (by rw [oN 24 (by decide)]; exact r_k1) (by omega)
                  refine lv_iload hx hb dX7_lost_94 (lv_at hl 7 rfl) ?_
                  refine lv_iconst (v := iI 1) hx hb dX7_lost_96 rfl ?_
                  refine r_isub hx hb dX7_lost_97 ?_
                  refine lv_istore (lv' := [(9, .int (iI (n - 1))), (8, .int (iI rr)), (7, .int (iI lw)), (6, .int (iI up)), (0, .ref (gA g 18)), (1, .int (iI x)), (2, .int (iI y)), (3, .int (iI dd)), (4, .int (iI n)), (5, .int (iI (bI Pu)))]) hx hb dX7_lost_98 hl (by decide) rfl (fun ls hl => ?_)
                  have lp100 : ∀ (n100 : Nat) (kk : Int) (ND : Mem) (kc : Int), (-1 ≤ kk ∧ kk < n ∨ kk = n - 1) → (∀ c : Nat, c ≠ 25 → ND c = mset M 18 0 0 c) → (KG kc (ND 25) (5 * x)) → (KOK kc (A 7 x)) → (kbN (A 4) (A 3 6) (A 7 x) (kk + 1).toNat kc rr = kbN (A 4) (A 3 6) (A 7 x) n.toNat (A 33 x) rr) → (kk + 1).toNat < n100 → ∀ (H : Heap) (locs : List Loc), HI g s H locs ND → ∀ ls : Array Slot, lv_has ls 10 [(9, .int (iI kk)), (8, .int (iI rr)), (7, .int (iI lw)), (6, .int (iI up)), (0, .ref (gA g 18)), (1, .int (iI x)), (2, .int (iI y)), (3, .int (iI dd)), (4, .int (iI n)), (5, .int (iI (bI Pu)))] → W p l e ({ frames := 3, cells := 0, slots := 0, locals := 70 } : Room) s m ([.ref (gA g 18), .int (iI x), .int (iI y), .int (iI dd), .int (iI n), .int (iI (bI Pu))] : List Value).toArray below meth c H locs 0 0 (MQ below (QV g (pE (fun z u => z = zLos A x y dd n Pu ∧ QC M u ∧ RM A u))) ([.ref (gA g 18), .int (iI x), .int (iI y), .int (iI dd), .int (iI n), .int (iI (bI Pu))] : List Value).toArray s 0 0 (AA g)) (F0 m 100 ls []) := by
                    intro n100
                    induction n100 with
                    | zero => intro kk ND kc i1 iN iK iO iE hn100; exact absurd hn100 (Nat.not_lt_zero _)
                    | succ n100 ih100 =>
                      intro kk ND kc i1 iN iK iO iE hn100 H locs hI ls hl
                      have e20 : ∀ q : Int, ND 20 (3 * q) = A 4 q := fun q => by rw [iN 20 (by decide)]; exact (p_r q).1
                      have e21x : ND 21 (3 * x) = A 7 x := by rw [iN 21 (by decide)]; exact g_x.1
                      have e21b : ND 21 (3 * x + 1) = A 8 x := by rw [iN 21 (by decide)]; exact g_x.2.1
                      have e20y := e20 y
                      have kcb := KOK_b iO
                      have e18 : ND 18 4 = A 3 6 := by rw [iN 18 (by decide)]; exact p_p
                      have w_gx1 := (w_gx (by omega)).1
                      have t8 := five_b hP1 (n := kk.toNat) (by omega)
                      have t7 : 0 ≤ rr / pwN (A 3 6) kk.toNat ∧ rr / pwN (A 3 6) kk.toNat ≤ rr := ⟨Int.ediv_nonneg (by omega) (by omega), Int.ediv_le_self _ (by omega)⟩
                      have t6 : 0 ≤ rr / pwN (A 3 6) kk.toNat % A 3 6 ∧ rr / pwN (A 3 6) kk.toNat % A 3 6 < A 3 6 := ⟨Int.emod_nonneg _ (by omega), Int.emod_lt_of_pos _ (by omega)⟩
                      have t9 := w_per (rr / pwN (A 3 6) kk.toNat % A 3 6)
                      have t5 : 0 ≤ rr / pwN (ND 18 4) kk.toNat ∧ rr / pwN (ND 18 4) kk.toNat ≤ rr := by rw [e18]; exact t7
                      have t4 : 1 ≤ pwN (ND 18 4) kk.toNat ∧ pwN (ND 18 4) kk.toNat ≤ 625 := by rw [e18]; exact t8
                      have t3 : 0 ≤ rr / pwN (ND 18 4) kk.toNat % ND 18 4 ∧ rr / pwN (ND 18 4) kk.toNat % ND 18 4 < A 3 6 := by rw [e18]; exact t6
                      have t2 := w_per (rr / pwN (ND 18 4) kk.toNat % ND 18 4)
                      refine lv_iload hx hb dX7_lost_100 (lv_at hl 0 rfl) ?_
                      refine r_if_lt hx hb (tgt := 138) (by omega) dX7_lost_102 (by decide) (fun c_8 => ?_) (fun c_8 => ?_)
                      · refine lv_iload hx hb dX7_lost_138 (lv_at hl 3 rfl) ?_
                        refine lv_aload_n hx hb dX7_lost_140 rfl (lv_at hl 4 rfl) ?_
                        refine lv_aload_n hx hb dX7_lost_141 rfl (lv_at hl 4 rfl) ?_
                        refine r_get C hI 18 (by decide) rfl rfl hin7 13 (by decide) (fn := "trial") (fd := "[I") (index := 28) (by decide +kernel) ⟨rfl, rfl, rfl⟩ (v := .ref (gA g 25)) rfl dX7_lost_142 ?_
                        refine lv_iload_n hx hb dX7_lost_145 rfl (lv_at hl 5 rfl) ?_
                        refine lv_iload_n hx hb dX7_lost_146 rfl (lv_at hl 6 rfl) ?_
                        refine r_iv C hI (As := [.ref (gA g 25), .int (iI x), .int (iI y)]) (rest := [.int (iI up)]) (c_X7_doesOn_25 l g ND x y kc (by omega) (by omega) (KOK_b iO) iK (show -2147483648 ≤ (ND 21 (3 * x + 1)) ∧ (ND 21 (3 * x + 1)) < 2147483648 from by omega) (show -2147483648 ≤ (ND 20 (3 * y)) ∧ (ND 20 (3 * y)) < 2147483648 from by omega)) (cwV 3 hts gX7_lost_X7_doesOn rfl rfl rfl (by decide +kernel) ⟨Nat.le_of_ble_eq_true rfl, Nat.le_of_ble_eq_true rfl⟩) (by decide) rfl rfl rfl hl.1 rfl (Nat.le_of_ble_eq_true rfl) dX7_lost_147 ⟨Nat.zero_le _, Nat.zero_le _⟩ (k_I (fun H locs hI => ?_))
                        have ff_2 := repO_b (ND 21 (3 * x + 1)) kc (ND 20 (3 * y))
                        refine lv_iload_n hx hb dX7_lost_150 rfl (lv_at hl 7 rfl) ?_
                        refine r_icmp_ne hx hb (tgt := 158) (by omega) (by omega) dX7_lost_151 (by decide) (fun c_9 => ?_) (fun c_9 => ?_)
                        · refine lv_iconst (v := iI 0) hx hb dX7_lost_158 rfl ?_
                          refine r_iadd hx hb dX7_lost_159 ?_
                          refine lv_istore (lv' := [(6, .int (iI (up + 0))), (9, .int (iI kk)), (8, .int (iI rr)), (7, .int (iI lw)), (0, .ref (gA g 18)), (1, .int (iI x)), (2, .int (iI y)), (3, .int (iI dd)), (4, .int (iI n)), (5, .int (iI (bI Pu)))]) hx hb dX7_lost_160 hl (by decide) rfl (fun ls hl => ?_)
                          refine lv_iinc (v := iI (rr + 1)) (lv' := [(8, .int (iI (rr + 1))), (6, .int (iI (up + 0))), (9, .int (iI kk)), (7, .int (iI lw)), (0, .ref (gA g 18)), (1, .int (iI x)), (2, .int (iI y)), (3, .int (iI dd)), (4, .int (iI n)), (5, .int (iI (bI Pu)))]) hx hb dX7_lost_162 hl (k := 2) rfl (iI_add _ _) (by decide) rfl (fun ls hl => ?_)
                          refine lv_goto (tgt := 83) hx hb dX7_lost_165 (by decide) ?_
                          exact ih83 (rr + 1) (up + 0) ND (jj + 1) (by omega) (by exact iN) (by (have hj : kk = -1 := by omega); rw [hj] at iE; (have iE2 : kc = kbN (A 4) (A 3 6) (A 7 x) n.toNat (A 33 x) rr := iE); rw [o2]; simp only [sumN, ← o1.1.1]; rw [← iE2, ← e21b, ← e20]; first | (rw [if_pos (by assumption)]; done) | (rw [if_neg (by assumption)]; done)) (by omega) _ _ hI ls (lv_sub hl [0, 3, 1, 4, 5, 6, 7, 8, 9] rfl)
                        · refine lv_iconst (v := iI 1) hx hb dX7_lost_154 rfl ?_
                          refine lv_goto (tgt := 159) hx hb dX7_lost_155 (by decide) ?_
                          refine r_iadd hx hb dX7_lost_159 ?_
                          refine lv_istore (lv' := [(6, .int (iI (up + 1))), (9, .int (iI kk)), (8, .int (iI rr)), (7, .int (iI lw)), (0, .ref (gA g 18)), (1, .int (iI x)), (2, .int (iI y)), (3, .int (iI dd)), (4, .int (iI n)), (5, .int (iI (bI Pu)))]) hx hb dX7_lost_160 hl (by decide) rfl (fun ls hl => ?_)
                          refine lv_iinc (v := iI (rr + 1)) (lv' := [(8, .int (iI (rr + 1))), (6, .int (iI (up + 1))), (9, .int (iI kk)), (7, .int (iI lw)), (0, .ref (gA g 18)), (1, .int (iI x)), (2, .int (iI y)), (3, .int (iI dd)), (4, .int (iI n)), (5, .int (iI (bI Pu)))]) hx hb dX7_lost_162 hl (k := 2) rfl (iI_add _ _) (by decide) rfl (fun ls hl => ?_)
                          refine lv_goto (tgt := 83) hx hb dX7_lost_165 (by decide) ?_
                          exact ih83 (rr + 1) (up + 1) ND (jj + 1) (by omega) (by exact iN) (by (have hj : kk = -1 := by omega); rw [hj] at iE; (have iE2 : kc = kbN (A 4) (A 3 6) (A 7 x) n.toNat (A 33 x) rr := iE); rw [o2]; simp only [sumN, ← o1.1.1]; rw [← iE2, ← e21b, ← e20]; first | (rw [if_pos (by assumption)]; done) | (rw [if_neg (by assumption)]; done)) (by omega) _ _ hI ls (lv_sub hl [0, 3, 1, 4, 5, 6, 7, 8, 9] rfl)
                      · refine lv_aload_n hx hb dX7_lost_105 rfl (lv_at hl 4 rfl) ?_
                        refine lv_aload_n hx hb dX7_lost_106 rfl (lv_at hl 4 rfl) ?_
                        refine r_get C hI 18 (by decide) rfl rfl hin7 13 (by decide) (fn := "trial") (fd := "[I") (index := 28) (by decide +kernel) ⟨rfl, rfl, rfl⟩ (v := .ref (gA g 25)) rfl dX7_lost_107 ?_
                        refine lv_iload_n hx hb dX7_lost_110 rfl (lv_at hl 5 rfl) ?_
                        refine lv_iload hx hb dX7_lost_111 (lv_at hl 1 rfl) ?_
                        refine lv_aload_n hx hb dX7_lost_113 rfl (lv_at hl 4 rfl) ?_
                        refine r_get C hI 18 (by decide) rfl rfl hin7 4 (by decide) (fn := "people") (fd := "I") (index := 54) (by decide +kernel) ⟨rfl, rfl, rfl⟩ (v := .int (iI (ND 18 4))) rfl dX7_lost_114 ?_
                        refine lv_iload hx hb dX7_lost_117 (lv_at hl 0 rfl) ?_
                        refine r_is C hI (As := [.int (iI (ND 18 4)), .int (iI kk)]) (rest := [.int (iI rr), .int (iI x), .ref (gA g 25), .ref (gA g 18)]) (c_X7_power l g ND (ND 18 4) kk (by omega)) (va_cwS 2 hts gX7_lost_X7_power rfl rfl rfl (by decide +kernel) ⟨Nat.le_of_ble_eq_true rfl, Nat.le_of_ble_eq_true rfl⟩) rfl hl.1 rfl (Nat.le_of_ble_eq_true rfl) dX7_lost_119 ⟨Nat.zero_le _, Nat.zero_le _⟩ (k_I (fun H locs hI => ?_))
                        refine r_idiv hx hb (by omega) (by omega) dX7_lost_122 ?_
                        refine lv_aload_n hx hb dX7_lost_123 rfl (lv_at hl 4 rfl) ?_
                        refine r_get C hI 18 (by decide) rfl rfl hin7 4 (by decide) (fn := "people") (fd := "I") (index := 54) (by decide +kernel) ⟨rfl, rfl, rfl⟩ (v := .int (iI (ND 18 4))) rfl dX7_lost_124 ?_
                        refine r_irem hx hb (by omega) (by omega) dX7_lost_127 ?_
                        refine r_iv C hI (As := [.ref (gA g 25), .int (iI x), .int (iI ((rr / (pwN (ND 18 4) (Int.toNat kk))) % (ND 18 4)))]) (rest := []) (c_X7_goHand l g ND x ((rr / (pwN (ND 18 4) (Int.toNat kk))) % (ND 18 4)) kc (by omega) (by omega) (show KOK kc (ND 21 (3 * x)) from by rw [e21x]; exact iO) (KOK_b iO) (show 1 ≤ (ND 21 (3 * x)) ∧ (ND 21 (3 * x)) ≤ 3 from by rw [e21x]; omega) (show -2147483648 ≤ (ND 21 (3 * x + 1)) ∧ (ND 21 (3 * x + 1)) < 2147483648 from by omega) (show 1 ≤ (ND 20 (3 * ((rr / (pwN (ND 18 4) (Int.toNat kk))) % (ND 18 4)))) ∧ (ND 20 (3 * ((rr / (pwN (ND 18 4) (Int.toNat kk))) % (ND 18 4)))) ≤ 7 from by rw [e20]; omega) iK) (cwV 3 hts gX7_lost_X7_goHand rfl rfl rfl (by decide +kernel) ⟨Nat.le_of_ble_eq_true rfl, Nat.le_of_ble_eq_true rfl⟩) (by decide) rfl rfl rfl hl.1 rfl (Nat.le_of_ble_eq_true rfl) dX7_lost_128 ⟨Nat.zero_le _, Nat.zero_le _⟩ (k_E (fun z_2 M_2 H locs q_2 hI => ?_))
                        refine lv_pop hx hb dX7_lost_131 rfl ?_
                        refine lv_iinc (v := iI (kk + (-1))) (lv' := [(9, .int (iI (kk + (-1)))), (8, .int (iI rr)), (7, .int (iI lw)), (6, .int (iI up)), (0, .ref (gA g 18)), (1, .int (iI x)), (2, .int (iI y)), (3, .int (iI dd)), (4, .int (iI n)), (5, .int (iI (bI Pu)))]) hx hb dX7_lost_132 hl (k := 0) rfl (iI_add _ _) (by decide) rfl (fun ls hl => ?_)
                        refine lv_goto (tgt := 100) hx hb dX7_lost_135 (by decide) ?_
                        exact ih100 (kk + (-1)) M_2 (behO kc (A 4 (rr / pwN (A 3 6) kk.toNat % A 3 6)) (A 7 x)) (by omega) (by exact fun c hc => (q_2.2.1 c hc).trans (iN c hc)) (by (have v4 := q_2.2.2.1); rw [e20, e21x, e18] at v4; exact v4) (by exact KOK_beh iO w_gx1 (w_own _ (by omega))) (by rw [← iE, show (kk + 1).toNat = kk.toNat + 1 from by omega, show (kk + -1 + 1).toNat = kk.toNat from by omega]; rfl) (by omega) _ _ hI ls (lv_sub hl [0, 1, 2, 3, 4, 5, 6, 7, 8, 9] rfl)
                  exact lp100 _ (n - 1) M_1 (A 33 x) (by omega) (by exact b_c) (by exact b_k) (by exact w_k1) (by rw [show n - 1 + 1 = n from by omega]) (Nat.lt_succ_self _) _ _ hI ls (lv_sub hl [0, 1, 2, 3, 4, 5, 6, 7, 8, 9] rfl)
            exact lp83 _ 0 0 (mset M 18 0 0) 0 (by omega) (by exact fun c _ => rfl) (by rfl) (Nat.lt_succ_self _) _ _ hI ls (lv_sub hl [0, 1, 2, 3, 4, 5, 6, 7, 8] rfl)
          · refine lv_bipush (v := iI (-3)) hx hb dX7_lost_63 (by decide +kernel) ?_
            refine r_iret C hr hlk hI ?_ dX7_lost_65
            exact ⟨_, rfl, (show (fun z u => z = zLos A x y dd n Pu ∧ QC M u ∧ RM A u) (-3) (mset M 18 0 0) from by exact ⟨(by unfold zLos; (repeat' split) <;> first | rfl | omega | (simp_all; done) | (simp_all; omega)), (by exact RO rm0)⟩)⟩
        · refine lv_bipush (v := iI (-2)) hx hb dX7_lost_48 (by decide +kernel) ?_
          refine r_iret C hr hlk hI ?_ dX7_lost_50
          exact ⟨_, rfl, (show (fun z u => z = zLos A x y dd n Pu ∧ QC M u ∧ RM A u) (-2) (mset M 18 0 0) from by exact ⟨(by unfold zLos; (repeat' split) <;> first | rfl | omega | (simp_all; done) | (simp_all; omega)), (by exact RO rm0)⟩)⟩
    · refine lv_iconst (v := iI (-1)) hx hb dX7_lost_21 rfl ?_
      refine r_iret C hr hlk hI ?_ dX7_lost_22
      exact ⟨_, rfl, (show (fun z u => z = zLos A x y dd n Pu ∧ QC M u ∧ RM A u) (-1) (mset M 18 0 0) from by exact ⟨(by unfold zLos; (repeat' split) <;> first | rfl | omega | (simp_all; done) | (simp_all; omega)), (by exact RO rm0)⟩)⟩
