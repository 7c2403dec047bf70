
theorem dyC_b (M : Mem) : ∀ n : Nat, 0 ≤ dyC M n ∧ dyC M n ≤ n
  | 0 => by simp [dyC]
  | n + 1 => by
    have := dyC_b M n
    unfold dyC
    split <;> omega
/-- what the trial is, in the memory behind some weeks -/
theorem plM_k {M : Mem} {x y : Int} (h : ∀ j : Int, 0 ≤ j ∧ j < 4 → 0 ≤ M 36 j ∧ M 36 j < 1000) (hp : ∀ q : Int, 0 ≤ q ∧ q < M 3 6 → (1 ≤ M 4 q ∧ M 4 q ≤ 7) ∧ (1 ≤ M 5 q ∧ M 5 q ≤ 7) ∧ (0 ≤ M 6 q ∧ M 6 q ≤ 9)) : ∀ j : Int, 0 ≤ j ∧ j < 4 → 0 ≤ plM M x y 36 j ∧ plM M x y 36 j < 1000 := by
  intro j hj
  unfold plM
  split
  · rename_i hk
    rw [mset_s]
    by_cases e : j = x
    · subst e
      rw [rw1_s]
      have := hp y hk.1.2
      exact behO_b (h j hj) (by omega)
    · rw [rw1_n _ _ e]; exact h j hj
  · exact h j hj
set_option maxHeartbeats 4000000 in
set_option maxRecDepth 100000 in
theorem c_X6_bids (l : Launch) (g : GT) (M : Mem) (x : Int) (y : Int) (y2 : Int) (v : Int) (wf : WF M) (h_x : -2147483648 ≤ x ∧ x < 2147483648) (h_y : -2147483648 ≤ y ∧ y < 2147483648) (h_y2 : -2147483648 ≤ y2 ∧ y2 < 2147483648) (h_v : -2147483648 ≤ v ∧ v < 2147483648) : Ctr l g yX6_bids wsX6_bids ({ frames := 4, cells := 0, slots := 0, locals := 89 } : Room) [.ref (gA g 0), .int (iI x), .int (iI y), .int (iI y2), .int (iI v)] M (pE (fun z u => z = zBid M x y y2 v ∧ ∀ c : Nat, c ≠ 14 → u c = M c)) := by
  refine Ctr.mk (cc := cX6_bids) (maxL := 9) (ret := some .int) (lv := [(0, .ref (gA g 0)), (1, .int (iI x)), (2, .int (iI y)), (3, .int (iI y2)), (4, .int (iI v))]) (by decide) rfl (Nat.le_of_ble_eq_true rfl) rfl ?_
  intro p e s m below meth c C hr hlk hI ls hl
  have C : CallFix p m c cX6_bids 9 s ([.ref (gA g 0), .int (iI x), .int (iI y), .int (iI y2), .int (iI v)] : List Value).toArray wsX6_bids RX6 := C
  have hx := C.1
  have hb := C.2.1
  have hts := C.2.2.2.2
  have hin6 : ∀ w ∈ u_ws RX6 TX6 9, w ∈ wsX6_bids := by decide +kernel
  have wf0 := wf
  obtain ⟨w_txt, hL, w_cnt, w_per, w_glo, w_now, w_act, w_rng, w_slo, w_see, w_sa⟩ := wf
  have w_gx := w_glo x
  have w_nx := w_now.1 x
  have w_hw := WF_hw w_now (by omega)
  have w_nx : 0 ≤ x ∧ x < 4 → (0 ≤ M 33 x ∧ M 33 x < 1000) ∧ (M 34 x = -9 ∨ (0 ≤ M 34 x ∧ M 34 x < M 3 6 ∧ x < M 3 7)) ∧ (x < M 3 7 → KOK (M 33 x) (M 7 x)) := w_nx
  have w_p1 := w_per y
  have w_p2 := w_per y2
  refine lv_aload_n hx hb dX6_bids_0 rfl (lv_at hl 0 rfl) ?_
  refine r_get C hI 0 (by decide) rfl rfl hin6 1 (by decide) (fn := "theDesk") (fd := "LGloveReply$Desk;") (index := 19) (by decide +kernel) ⟨rfl, rfl, rfl⟩ (v := .ref (gA g 3)) rfl dX6_bids_1 ?_
  refine lv_iload_n hx hb dX6_bids_4 rfl (lv_at hl 1 rfl) ?_
  refine r_iv C hI (As := [.int (iI x)]) (rest := []) (c_X1_hasGlove l g M x (by omega) (show -2147483648 ≤ (M 3 7) ∧ (M 3 7) < 2147483648 from by omega)) (cwV 1 hts gX6_bids_X1_hasGlove rfl rfl rfl (by decide +kernel) ⟨Nat.le_of_ble_eq_true rfl, Nat.le_of_ble_eq_true rfl⟩) (by decide) rfl rfl rfl hl.1 rfl (Nat.le_of_ble_eq_true rfl) dX6_bids_5 ⟨Nat.zero_le _, Nat.zero_le _⟩ (k_I (fun H locs hI => ?_))
  refine r_b_eq hx hb (tgt := 33) dX6_bids_8 (by decide) (fun c_1 => ?_) (fun c_1 => ?_)
  · refine lv_iconst (v := iI (-1)) hx hb dX6_bids_33 rfl ?_
    refine r_iret C hr hlk hI ?_ dX6_bids_34
    exact ⟨_, rfl, by refine ⟨?_, fun _ _ => rfl⟩; unfold zBid; (repeat' split) <;> first | rfl | omega | (simp_all; done) | (simp_all; omega)⟩
  · refine lv_aload_n hx hb dX6_bids_11 rfl (lv_at hl 0 rfl) ?_
    refine r_get C hI 0 (by decide) rfl rfl hin6 1 (by decide) (fn := "theDesk") (fd := "LGloveReply$Desk;") (index := 19) (by decide +kernel) ⟨rfl, rfl, rfl⟩ (v := .ref (gA g 3)) rfl dX6_bids_12 ?_
    refine lv_iload_n hx hb dX6_bids_15 rfl (lv_at hl 2 rfl) ?_
    refine r_iv C hI (As := [.int (iI y)]) (rest := []) (c_X1_hasPerson l g M y (by omega) (show -2147483648 ≤ (M 3 6) ∧ (M 3 6) < 2147483648 from by omega)) (cwV 1 hts gX6_bids_X1_hasPerson rfl rfl rfl (by decide +kernel) ⟨Nat.le_of_ble_eq_true rfl, Nat.le_of_ble_eq_true rfl⟩) (by decide) rfl rfl rfl hl.1 rfl (Nat.le_of_ble_eq_true rfl) dX6_bids_16 ⟨Nat.zero_le _, Nat.zero_le _⟩ (k_I (fun H locs hI => ?_))
    refine r_b_eq hx hb (tgt := 33) dX6_bids_19 (by decide) (fun c_2 => ?_) (fun c_2 => ?_)
    · refine lv_iconst (v := iI (-1)) hx hb dX6_bids_33 rfl ?_
      refine r_iret C hr hlk hI ?_ dX6_bids_34
      exact ⟨_, rfl, by refine ⟨?_, fun _ _ => rfl⟩; unfold zBid; (repeat' split) <;> first | rfl | omega | (simp_all; done) | (simp_all; omega)⟩
    · refine lv_aload_n hx hb dX6_bids_22 rfl (lv_at hl 0 rfl) ?_
      refine r_get C hI 0 (by decide) rfl rfl hin6 1 (by decide) (fn := "theDesk") (fd := "LGloveReply$Desk;") (index := 19) (by decide +kernel) ⟨rfl, rfl, rfl⟩ (v := .ref (gA g 3)) rfl dX6_bids_23 ?_
      refine lv_iload_n hx hb dX6_bids_26 rfl (lv_at hl 3 rfl) ?_
      refine r_iv C hI (As := [.int (iI y2)]) (rest := []) (c_X1_hasPerson l g M y2 (by omega) (show -2147483648 ≤ (M 3 6) ∧ (M 3 6) < 2147483648 from by omega)) (cwV 1 hts gX6_bids_X1_hasPerson rfl rfl rfl (by decide +kernel) ⟨Nat.le_of_ble_eq_true rfl, Nat.le_of_ble_eq_true rfl⟩) (by decide) rfl rfl rfl hl.1 rfl (Nat.le_of_ble_eq_true rfl) dX6_bids_27 ⟨Nat.zero_le _, Nat.zero_le _⟩ (k_I (fun H locs hI => ?_))
      refine r_b_ne hx hb (tgt := 35) dX6_bids_30 (by decide) (fun c_3 => ?_) (fun c_3 => ?_)
      · refine lv_iload_n hx hb dX6_bids_35 rfl (lv_at hl 2 rfl) ?_
        refine lv_iload_n hx hb dX6_bids_36 rfl (lv_at hl 3 rfl) ?_
        refine r_icmp_eq hx hb (tgt := 48) (by omega) (by omega) dX6_bids_37 (by decide) (fun c_4 => ?_) (fun c_4 => ?_)
        · refine lv_bipush (v := iI (-2)) hx hb dX6_bids_48 (by decide +kernel) ?_
          refine r_iret C hr hlk hI ?_ dX6_bids_50
          exact ⟨_, rfl, by refine ⟨?_, fun _ _ => rfl⟩; unfold zBid; (repeat' split) <;> first | rfl | omega | (simp_all; done) | (simp_all; omega)⟩
        · refine lv_iload hx hb dX6_bids_40 (lv_at hl 4 rfl) ?_
          refine r_is C hI (As := [.int (iI v)]) (rest := []) (c_X6_isChoice l g M v (by omega)) (va_cwS 1 hts gX6_bids_X6_isChoice rfl rfl rfl (by decide +kernel) ⟨Nat.le_of_ble_eq_true rfl, Nat.le_of_ble_eq_true rfl⟩) rfl hl.1 rfl (Nat.le_of_ble_eq_true rfl) dX6_bids_42 ⟨Nat.zero_le _, Nat.zero_le _⟩ (k_I (fun H locs hI => ?_))
          refine r_b_ne hx hb (tgt := 51) dX6_bids_45 (by decide) (fun c_5 => ?_) (fun c_5 => ?_)
          · refine lv_aload_n hx hb dX6_bids_51 rfl (lv_at hl 0 rfl) ?_
            refine r_get C hI 0 (by decide) rfl rfl hin6 2 (by decide) (fn := "now") (fd := "LGloveReply$Moment;") (index := 26) (by decide +kernel) ⟨rfl, rfl, rfl⟩ (v := .ref (gA g 32)) rfl dX6_bids_52 ?_
            refine lv_iload_n hx hb dX6_bids_55 rfl (lv_at hl 1 rfl) ?_
            refine r_iv C hI (As := [.int (iI x)]) (rest := []) (c_X2_isWorn l g M 32 x (by decide) (by omega) (show -2147483648 ≤ (M 34 x) ∧ (M 34 x) < 2147483648 from by omega)) (cwV 1 hts gX6_bids_X2_isWorn rfl rfl rfl (by decide +kernel) ⟨Nat.le_of_ble_eq_true rfl, Nat.le_of_ble_eq_true rfl⟩) (by decide) (ceMo (show isMo 32 from by decide) _) rfl rfl hl.1 rfl (Nat.le_of_ble_eq_true rfl) dX6_bids_56 ⟨Nat.zero_le _, Nat.zero_le _⟩ (k_I (fun H locs hI => ?_))
            refine r_eqI (z2 := bI (¬ (M 34 x) = -9)) rfl ?_
            refine r_b_eq hx hb (tgt := 65) dX6_bids_59 (by decide) (fun c_6 => ?_) (fun c_6 => ?_)
            · refine lv_aload_n hx hb dX6_bids_65 rfl (lv_at hl 0 rfl) ?_
              refine lv_iload_n hx hb dX6_bids_66 rfl (lv_at hl 1 rfl) ?_
              refine lv_iload_n hx hb dX6_bids_67 rfl (lv_at hl 2 rfl) ?_
              refine r_iv C hI (As := [.int (iI x), .int (iI y)]) (rest := []) (c_X6_worthOn l g M x y (by omega) (by omega) (show 0 ≤ (M 33 x) ∧ (M 33 x) < 1000 from by omega) (show -2147483648 ≤ (M 8 x) ∧ (M 8 x) < 2147483648 from by omega) (show 0 ≤ (M 4 y) ∧ (M 4 y) ≤ 7 from by omega) (show 0 ≤ (M 5 y) ∧ (M 5 y) ≤ 7 from by omega) (show 0 ≤ (M 6 y) ∧ (M 6 y) ≤ 9 from by omega)) (cwV 2 hts gX6_bids_X6_worthOn rfl rfl rfl (by decide +kernel) ⟨Nat.le_of_ble_eq_true rfl, Nat.le_of_ble_eq_true rfl⟩) (by decide) rfl rfl rfl hl.1 rfl (Nat.le_of_ble_eq_true rfl) dX6_bids_68 ⟨Nat.zero_le _, Nat.zero_le _⟩ (k_I (fun H locs hI => ?_))
              have ff_1 : 0 ≤ woO (M) x y ∧ woO (M) x y ≤ 9 := woO_b (by omega)
              refine lv_istore (lv' := [(5, .int (iI (woO (M) x y))), (0, .ref (gA g 0)), (1, .int (iI x)), (2, .int (iI y)), (3, .int (iI y2)), (4, .int (iI v))]) hx hb dX6_bids_71 hl (by decide) rfl (fun ls hl => ?_)
              refine lv_aload_n hx hb dX6_bids_73 rfl (lv_at hl 1 rfl) ?_
              refine lv_iload_n hx hb dX6_bids_74 rfl (lv_at hl 2 rfl) ?_
              refine lv_iload_n hx hb dX6_bids_75 rfl (lv_at hl 4 rfl) ?_
              refine r_iv C hI (As := [.int (iI x), .int (iI y2)]) (rest := []) (c_X6_worthOn l g M x y2 (by omega) (by omega) (show 0 ≤ (M 33 x) ∧ (M 33 x) < 1000 from by omega) (show -2147483648 ≤ (M 8 x) ∧ (M 8 x) < 2147483648 from by omega) (show 0 ≤ (M 4 y2) ∧ (M 4 y2) ≤ 7 from by omega) (show 0 ≤ (M 5 y2) ∧ (M 5 y2) ≤ 7 from by omega) (show 0 ≤ (M 6 y2) ∧ (M 6 y2) ≤ 9 from by omega)) (cwV 2 hts gX6_bids_X6_worthOn rfl rfl rfl (by decide +kernel) ⟨Nat.le_of_ble_eq_true rfl, Nat.le_of_ble_eq_true rfl⟩) (by decide) rfl rfl rfl hl.1 rfl (Nat.le_of_ble_eq_true rfl) dX6_bids_76 ⟨Nat.zero_le _, Nat.zero_le _⟩ (k_I (fun H locs hI => ?_))
              have ff_2 : 0 ≤ woO (M) x y2 ∧ woO (M) x y2 ≤ 9 := woO_b (by omega)
              refine lv_istore (lv' := [(6, .int (iI (woO (M) x y2))), (5, .int (iI (woO (M) x y))), (0, .ref (gA g 0)), (1, .int (iI x)), (2, .int (iI y)), (3, .int (iI y2)), (4, .int (iI v))]) hx hb dX6_bids_79 hl (by decide) rfl (fun ls hl => ?_)
              refine lv_aload_n hx hb dX6_bids_81 rfl (lv_at hl 2 rfl) ?_
              refine r_get C hI 0 (by decide) rfl rfl hin6 6 (by decide) (fn := "tally") (fd := "LGloveReply$Tally;") (index := 50) (by decide +kernel) ⟨rfl, rfl, rfl⟩ (v := .ref (gA g 14)) rfl dX6_bids_82 ?_
              refine r_iv C hI (As := []) (rest := []) (c_X4_start l g M) (cwV 0 hts gX6_bids_X4_start rfl rfl rfl (by decide +kernel) ⟨Nat.le_of_ble_eq_true rfl, Nat.le_of_ble_eq_true rfl⟩) (by decide) rfl rfl rfl hl.1 rfl (Nat.le_of_ble_eq_true rfl) dX6_bids_85 ⟨Nat.zero_le _, Nat.zero_le _⟩ (k_V (fun H locs hI => ?_))
              obtain ⟨wa, hwa⟩ : ∃ wa, wa = woO M x y := ⟨_, rfl⟩
              obtain ⟨wb, hwb⟩ : ∃ wb, wb = woO M x y2 := ⟨_, rfl⟩
              refine lv_iconst (v := iI 0) hx hb dX6_bids_88 rfl ?_
              refine lv_istore (lv' := [(7, .int (iI 0)), (6, .int (iI (woO (M) x y2))), (5, .int (iI (woO (M) x y))), (0, .ref (gA g 0)), (1, .int (iI x)), (2, .int (iI y)), (3, .int (iI y2)), (4, .int (iI v))]) hx hb dX6_bids_89 hl (by decide) rfl (fun ls hl => ?_)
              have lp91 : ∀ (n91 : Nat) (aa : Int) (N1 : Mem) (ii : Nat), (aa = (ii : Int) ∧ ii ≤ 10) → (N1 = tAdds (tS M) (flN (bA (woO M x y) (woO M x y2)) ii)) → 10 - ii < n91 → ∀ (H : Heap) (locs : List Loc), HI g s H locs N1 → ∀ ls : Array Slot, lv_has ls 9 [(7, .int (iI aa)), (6, .int (iI (woO (M) x y2))), (5, .int (iI (woO (M) x y))), (0, .ref (gA g 0)), (1, .int (iI x)), (2, .int (iI y)), (3, .int (iI y2)), (4, .int (iI v))] → W p l e ({ frames := 4, cells := 0, slots := 0, locals := 89 } : Room) s m ([.ref (gA g 0), .int (iI x), .int (iI y), .int (iI y2), .int (iI v)] : List Value).toArray below meth c H locs 0 0 (MQ below (QV g (pE (fun z u => z = zBid M x y y2 v ∧ ∀ c : Nat, c ≠ 14 → u c = M c))) ([.ref (gA g 0), .int (iI x), .int (iI y), .int (iI y2), .int (iI v)] : List Value).toArray s 0 0 (AA g)) (F0 m 91 ls []) := by
                intro n91
                induction n91 with
                | zero => intro aa N1 ii k1 k2 hn91; exact absurd hn91 (Nat.not_lt_zero _)
                | succ n91 ih91 =>
                  intro aa N1 ii k1 k2 hn91 H locs hI ls hl
                  have hl1 := flN_len (bA_len (woO M x y) (woO M x y2)) ii
                  refine lv_iload hx hb dX6_bids_91 (lv_at hl 0 rfl) ?_
                  refine lv_bipush (v := iI 9) hx hb dX6_bids_93 (by decide +kernel) ?_
                  refine r_icmp_gt hx hb (tgt := 149) (by omega) (by decide) dX6_bids_95 (by decide) (fun c_7 => ?_) (fun c_7 => ?_)
                  · refine lv_aload_n hx hb dX6_bids_149 rfl (lv_at hl 3 rfl) ?_
                    refine r_get C hI 0 (by decide) rfl rfl hin6 6 (by decide) (fn := "tally") (fd := "LGloveReply$Tally;") (index := 50) (by decide +kernel) ⟨rfl, rfl, rfl⟩ (v := .ref (gA g 14)) rfl dX6_bids_150 ?_
                    refine lv_iload hx hb dX6_bids_153 (lv_at hl 7 rfl) ?_
                    refine r_iv C hI (As := [.int (iI v)]) (rest := []) (c_X4_told l g N1 v (by omega)) (cwV 1 hts gX6_bids_X4_told rfl rfl rfl (by decide +kernel) ⟨Nat.le_of_ble_eq_true rfl, Nat.le_of_ble_eq_true rfl⟩) (by decide) rfl rfl rfl hl.1 rfl (Nat.le_of_ble_eq_true rfl) dX6_bids_155 ⟨Nat.zero_le _, Nat.zero_le _⟩ (k_I (fun H locs hI => ?_))
                    refine r_iret C hr hlk hI ?_ dX6_bids_158
                    exact ⟨_, rfl, by (have e10 : ii = 10 := by omega); subst e10; rw [k2]; refine ⟨(tS_w M _ v).trans ?_, fun c hc => tS_n M _ hc⟩; unfold zBid; rw [if_neg (by omega), if_neg (by omega), if_neg (by omega)]; try rfl⟩
                  · refine lv_iconst (v := iI 0) hx hb dX6_bids_98 rfl ?_
                    refine lv_istore (lv' := [(8, .int (iI 0)), (7, .int (iI aa)), (6, .int (iI (woO (M) x y2))), (5, .int (iI (woO (M) x y))), (0, .ref (gA g 0)), (1, .int (iI x)), (2, .int (iI y)), (3, .int (iI y2)), (4, .int (iI v))]) hx hb dX6_bids_99 hl (by decide) rfl (fun ls hl => ?_)
                    have lp101 : ∀ (n101 : Nat) (bb : Int) (N2 : Mem) (jj : Nat), (bb = (jj : Int) ∧ jj ≤ 10) → (N2 = tAdds (tS M) (flN (bA (woO M x y) (woO M x y2)) ii ++ flN (bO (woO M x y) (woO M x y2) aa) jj)) → 10 - jj < n101 → ∀ (H : Heap) (locs : List Loc), HI g s H locs N2 → ∀ ls : Array Slot, lv_has ls 9 [(8, .int (iI bb)), (7, .int (iI aa)), (6, .int (iI (woO (M) x y2))), (5, .int (iI (woO (M) x y))), (0, .ref (gA g 0)), (1, .int (iI x)), (2, .int (iI y)), (3, .int (iI y2)), (4, .int (iI v))] → W p l e ({ frames := 4, cells := 0, slots := 0, locals := 89 } : Room) s m ([.ref (gA g 0), .int (iI x), .int (iI y), .int (iI y2), .int (iI v)] : List Value).toArray below meth c H locs 0 0 (MQ below (QV g (pE (fun z u => z = zBid M x y y2 v ∧ ∀ c : Nat, c ≠ 14 → u c = M c))) ([.ref (gA g 0), .int (iI x), .int (iI y), .int (iI y2), .int (iI v)] : List Value).toArray s 0 0 (AA g)) (F0 m 101 ls []) := by
                      intro n101
                      induction n101 with
                      | zero => intro bb N2 jj m1 m2 hn101; exact absurd hn101 (Nat.not_lt_zero _)
                      | succ n101 ih101 =>
                        intro bb N2 jj m1 m2 hn101 H locs hI ls hl
                        have hl2 := flN_len (bO_len (woO M x y) (woO M x y2) aa) jj
                        have hN14 : N2 14 0 = ((flN (bA (woO M x y) (woO M x y2)) ii ++ flN (bO (woO M x y) (woO M x y2) aa) jj).length : Int) := by rw [m2, tS_0]
                        rw [List.length_append] at hN14
                        refine lv_iload hx hb dX6_bids_101 (lv_at hl 0 rfl) ?_
                        refine lv_bipush (v := iI 9) hx hb dX6_bids_103 (by decide +kernel) ?_
                        refine r_icmp_gt hx hb (tgt := 143) (by omega) (by decide) dX6_bids_105 (by decide) (fun c_8 => ?_) (fun c_8 => ?_)
                        · refine lv_iinc (v := iI (aa + 1)) (lv' := [(7, .int (iI (aa + 1))), (8, .int (iI bb)), (6, .int (iI (woO (M) x y2))), (5, .int (iI (woO (M) x y))), (0, .ref (gA g 0)), (1, .int (iI x)), (2, .int (iI y)), (3, .int (iI y2)), (4, .int (iI v))]) hx hb dX6_bids_143 hl (k := 1) rfl (iI_add _ _) (by decide) rfl (fun ls hl => ?_)
                          refine lv_goto (tgt := 91) hx hb dX6_bids_146 (by decide) ?_
                          exact ih91 (aa + 1) N2 (ii + 1) (by omega) (by (rw [m2, show jj = 10 from by omega]; simp only [flN, bA, ← k1.1])) (by omega) _ _ hI ls (lv_sub hl [0, 2, 3, 4, 5, 6, 7, 8] rfl)
                        · refine lv_iload hx hb dX6_bids_108 (lv_at hl 1 rfl) ?_
                          refine lv_iload hx hb dX6_bids_110 (lv_at hl 0 rfl) ?_
                          refine lv_iload hx hb dX6_bids_112 (lv_at hl 3 rfl) ?_
                          refine lv_iload hx hb dX6_bids_114 (lv_at hl 2 rfl) ?_
                          refine r_is C hI (As := [.int (iI aa), .int (iI bb), .int (iI (woO (M) x y)), .int (iI (woO (M) x y2))]) (rest := []) (c_X6_isAtRest l g N2 aa bb (woO (M) x y) (woO (M) x y2) (by omega) (by omega) (by omega) (by omega)) (va_cwS 4 hts gX6_bids_X6_isAtRest rfl rfl rfl (by decide +kernel) ⟨Nat.le_of_ble_eq_true rfl, Nat.le_of_ble_eq_true rfl⟩) rfl hl.1 rfl (Nat.le_of_ble_eq_true rfl) dX6_bids_116 ⟨Nat.zero_le _, Nat.zero_le _⟩ (k_I (fun H locs hI => ?_))
                          refine r_b_eq hx hb (tgt := 137) dX6_bids_119 (by decide) (fun c_9 => ?_) (fun c_9 => ?_)
                          · refine lv_iinc (v := iI (bb + 1)) (lv' := [(8, .int (iI (bb + 1))), (7, .int (iI aa)), (6, .int (iI (woO (M) x y2))), (5, .int (iI (woO (M) x y))), (0, .ref (gA g 0)), (1, .int (iI x)), (2, .int (iI y)), (3, .int (iI y2)), (4, .int (iI v))]) hx hb dX6_bids_137 hl (k := 0) rfl (iI_add _ _) (by decide) rfl (fun ls hl => ?_)
                            refine lv_goto (tgt := 101) hx hb dX6_bids_140 (by decide) ?_
                            exact ih101 (bb + 1) N2 (jj + 1) (by omega) (by first | (rw [m2]; simp only [flN, ← m1.1]; rw [show bO (woO M x y) (woO M x y2) aa bb = [] from by unfold bO; exact if_neg (by assumption), List.append_nil]) | (rw [m2, show ∀ (L : Mem) (z : Int), tAdd L z = tAdds L [z] from fun _ _ => rfl, tAdds_app]; simp only [flN, ← m1.1]; rw [show bO (woO M x y) (woO M x y2) aa bb = [10 * aa + bb] from by unfold bO; exact if_pos (by assumption), List.append_assoc])) (by omega) _ _ hI ls (lv_sub hl [0, 1, 2, 3, 4, 5, 6, 7, 8] rfl)
                          · refine lv_aload_n hx hb dX6_bids_122 rfl (lv_at hl 4 rfl) ?_
                            refine r_get C hI 0 (by decide) rfl rfl hin6 6 (by decide) (fn := "tally") (fd := "LGloveReply$Tally;") (index := 50) (by decide +kernel) ⟨rfl, rfl, rfl⟩ (v := .ref (gA g 14)) rfl dX6_bids_123 ?_
                            refine lv_bipush (v := iI 10) hx hb dX6_bids_126 (by decide +kernel) ?_
                            refine lv_iload hx hb dX6_bids_128 (lv_at hl 1 rfl) ?_
                            refine r_imul hx hb dX6_bids_130 ?_
                            refine lv_iload hx hb dX6_bids_131 (lv_at hl 0 rfl) ?_
                            refine r_iadd hx hb dX6_bids_133 ?_
                            refine r_iv C hI (As := [.int (iI ((10 * aa) + bb))]) (rest := []) (c_X4_add l g N2 ((10 * aa) + bb) (show -2147483648 ≤ (N2 14 0) ∧ (N2 14 0) < 2147483648 from by omega)) (cwV 1 hts gX6_bids_X4_add rfl rfl rfl (by decide +kernel) ⟨Nat.le_of_ble_eq_true rfl, Nat.le_of_ble_eq_true rfl⟩) (by decide) rfl rfl rfl hl.1 rfl (Nat.le_of_ble_eq_true rfl) dX6_bids_134 ⟨Nat.zero_le _, Nat.zero_le _⟩ (k_V (fun H locs hI => ?_))
                            refine lv_iinc (v := iI (bb + 1)) (lv' := [(8, .int (iI (bb + 1))), (7, .int (iI aa)), (6, .int (iI (woO (M) x y2))), (5, .int (iI (woO (M) x y))), (0, .ref (gA g 0)), (1, .int (iI x)), (2, .int (iI y)), (3, .int (iI y2)), (4, .int (iI v))]) hx hb dX6_bids_137 hl (k := 0) rfl (iI_add _ _) (by decide) rfl (fun ls hl => ?_)
                            refine lv_goto (tgt := 101) hx hb dX6_bids_140 (by decide) ?_
                            exact ih101 (bb + 1) (tAdd N2 ((10 * aa) + bb)) (jj + 1) (by omega) (by first | (rw [m2]; simp only [flN, ← m1.1]; rw [show bO (woO M x y) (woO M x y2) aa bb = [] from by unfold bO; exact if_neg (by assumption), List.append_nil]) | (rw [m2, show ∀ (L : Mem) (z : Int), tAdd L z = tAdds L [z] from fun _ _ => rfl, tAdds_app]; simp only [flN, ← m1.1]; rw [show bO (woO M x y) (woO M x y2) aa bb = [10 * aa + bb] from by unfold bO; exact if_pos (by assumption), List.append_assoc])) (by omega) _ _ hI ls (lv_sub hl [0, 1, 2, 3, 4, 5, 6, 7, 8] rfl)
                    exact lp101 _ 0 N1 0 (by omega) (by rw [k2]; simp only [flN, List.append_nil]) (Nat.lt_succ_self _) _ _ hI ls (lv_sub hl [0, 1, 2, 3, 4, 5, 6, 7, 8] rfl)
              exact lp91 _ 0 (mset (mset M 14 0 0) 14 1 (-9)) 0 (by omega) (by rfl) (Nat.lt_succ_self _) _ _ hI ls (lv_sub hl [0, 1, 2, 3, 4, 5, 6, 7] rfl)
            · refine lv_bipush (v := iI (-3)) hx hb dX6_bids_62 (by decide +kernel) ?_
              refine r_iret C hr hlk hI ?_ dX6_bids_64
              exact ⟨_, rfl, by refine ⟨?_, fun _ _ => rfl⟩; unfold zBid; (repeat' split) <;> first | rfl | omega | (simp_all; done) | (simp_all; omega)⟩
          · refine lv_bipush (v := iI (-2)) hx hb dX6_bids_48 (by decide +kernel) ?_
            refine r_iret C hr hlk hI ?_ dX6_bids_50
            exact ⟨_, rfl, by refine ⟨?_, fun _ _ => rfl⟩; unfold zBid; (repeat' split) <;> first | rfl | omega | (simp_all; done) | (simp_all; omega)⟩
      · refine lv_iconst (v := iI (-1)) hx hb dX6_bids_33 rfl ?_
        refine r_iret C hr hlk hI ?_ dX6_bids_34
        exact ⟨_, rfl, by refine ⟨?_, fun _ _ => rfl⟩; unfold zBid; (repeat' split) <;> first | rfl | omega | (simp_all; done) | (simp_all; omega)⟩
set_option maxHeartbeats 4000000 in
set_option maxRecDepth 100000 in
theorem c_X6_lost (l : Launch) (g : GT) (M : Mem) (x : Int) (y : Int) (dd : Int) (n : Int) (P : Prop) [Decidable P] (wf : WF M) (h_x : -2147483648 ≤ x ∧ x < 2147483648) (h_y : -2147483648 ≤ y ∧ y < 2147483648) (h_dd : -2147483648 ≤ dd ∧ dd < 2147483648) (h_n : -2147483648 ≤ n ∧ n < 2147483648) : Ctr l g yX6_lost wsX6_lost ({ frames := 15, cells := 0, slots := 0, locals := 358 } : Room) [.ref (gA g 0), .int (iI x), .int (iI y), .int (iI dd), .int (iI n), .int (iI (bI P))] M (pI (zLos (M) x y dd n P) M) := by
  refine Ctr.mk (cc := cX6_lost) (maxL := 9) (ret := some .int) (lv := [(0, .ref (gA g 0)), (1, .int (iI x)), (2, .int (iI y)), (3, .int (iI dd)), (4, .int (iI n)), (5, .int (iI (bI P)))]) (by decide) rfl (Nat.le_of_ble_eq_true rfl) rfl ?_
  intro p e s m below meth c C hr hlk hI ls hl
  have C : CallFix p m c cX6_lost 9 s ([.ref (gA g 0), .int (iI x), .int (iI y), .int (iI dd), .int (iI n), .int (iI (bI P))] : List Value).toArray wsX6_lost RX6 := C
  have hx := C.1
  have hb := C.2.1
  have hts := C.2.2.2.2
  have hin6 : ∀ w ∈ u_ws RX6 TX6 9, w ∈ wsX6_lost := by decide +kernel
  have wf0 := wf
  obtain ⟨w_txt, hL, w_cnt, w_per, w_glo, w_now, w_act, w_rng, w_slo, w_see, w_sa⟩ := wf
  have w_gx := w_glo x
  have w_nx := w_now.1 x
  have w_hw := WF_hw w_now (by omega)
  have w_nx : 0 ≤ x ∧ x < 4 → (0 ≤ M 33 x ∧ M 33 x < 1000) ∧ (M 34 x = -9 ∨ (0 ≤ M 34 x ∧ M 34 x < M 3 6 ∧ x < M 3 7)) ∧ (x < M 3 7 → KOK (M 33 x) (M 7 x)) := w_nx
  have hDK := fun q => WF_dk (x := x) wf0 q
  have w_py := w_per y
  refine lv_aload_n hx hb dX6_lost_0 rfl (lv_at hl 0 rfl) ?_
  refine r_get C hI 0 (by decide) rfl rfl hin6 1 (by decide) (fn := "theDesk") (fd := "LGloveReply$Desk;") (index := 19) (by decide +kernel) ⟨rfl, rfl, rfl⟩ (v := .ref (gA g 3)) rfl dX6_lost_1 ?_
  refine lv_iload_n hx hb dX6_lost_4 rfl (lv_at hl 1 rfl) ?_
  refine r_iv C hI (As := [.int (iI x)]) (rest := []) (c_X1_hasGlove l g M x (by omega) (show -2147483648 ≤ (M 3 7) ∧ (M 3 7) < 2147483648 from by omega)) (cwV 1 hts gX6_lost_X1_hasGlove rfl rfl rfl (by decide +kernel) ⟨Nat.le_of_ble_eq_true rfl, Nat.le_of_ble_eq_true rfl⟩) (by decide) rfl rfl rfl hl.1 rfl (Nat.le_of_ble_eq_true rfl) dX6_lost_5 ⟨Nat.zero_le _, Nat.zero_le _⟩ (k_I (fun H locs hI => ?_))
  refine r_b_eq hx hb (tgt := 22) dX6_lost_8 (by decide) (fun c_1 => ?_) (fun c_1 => ?_)
  · refine lv_iconst (v := iI (-1)) hx hb dX6_lost_22 rfl ?_
    refine r_iret C hr hlk hI ?_ dX6_lost_23
    exact ⟨congrArg (fun q => some (Value.int (iI q))) (show (-1) = zLos (M) x y dd n P from by unfold zLos; (repeat' split) <;> first | rfl | omega | (simp_all; done) | (simp_all; omega)), rfl⟩
  · refine lv_aload_n hx hb dX6_lost_11 rfl (lv_at hl 0 rfl) ?_
    refine r_get C hI 0 (by decide) rfl rfl hin6 1 (by decide) (fn := "theDesk") (fd := "LGloveReply$Desk;") (index := 19) (by decide +kernel) ⟨rfl, rfl, rfl⟩ (v := .ref (gA g 3)) rfl dX6_lost_12 ?_
    refine lv_iload_n hx hb dX6_lost_15 rfl (lv_at hl 2 rfl) ?_
    refine r_iv C hI (As := [.int (iI y)]) (rest := []) (c_X1_hasPerson l g M y (by omega) (show -2147483648 ≤ (M 3 6) ∧ (M 3 6) < 2147483648 from by omega)) (cwV 1 hts gX6_lost_X1_hasPerson rfl rfl rfl (by decide +kernel) ⟨Nat.le_of_ble_eq_true rfl, Nat.le_of_ble_eq_true rfl⟩) (by decide) rfl rfl rfl hl.1 rfl (Nat.le_of_ble_eq_true rfl) dX6_lost_16 ⟨Nat.zero_le _, Nat.zero_le _⟩ (k_I (fun H locs hI => ?_))
    refine r_b_ne hx hb (tgt := 24) dX6_lost_19 (by decide) (fun c_2 => ?_) (fun c_2 => ?_)
    · refine lv_iload_n hx hb dX6_lost_24 rfl (lv_at hl 3 rfl) ?_
      refine lv_iconst (v := iI 0) hx hb dX6_lost_25 rfl ?_
      refine lv_bipush (v := iI 7) hx hb dX6_lost_26 (by decide +kernel) ?_
      refine r_is C hI (As := [.int (iI dd), .int (iI 0), .int (iI 7)]) (rest := []) (c_X6_within l g M dd 0 7 (by omega) (by omega) (by omega)) (va_cwS 3 hts gX6_lost_X6_within rfl rfl rfl (by decide +kernel) ⟨Nat.le_of_ble_eq_true rfl, Nat.le_of_ble_eq_true rfl⟩) rfl hl.1 rfl (Nat.le_of_ble_eq_true rfl) dX6_lost_28 ⟨Nat.zero_le _, Nat.zero_le _⟩ (k_I (fun H locs hI => ?_))
      refine r_b_eq hx hb (tgt := 44) dX6_lost_31 (by decide) (fun c_3 => ?_) (fun c_3 => ?_)
      · refine lv_bipush (v := iI (-2)) hx hb dX6_lost_44 (by decide +kernel) ?_
        refine r_iret C hr hlk hI ?_ dX6_lost_46
        exact ⟨congrArg (fun q => some (Value.int (iI q))) (show (-2) = zLos (M) x y dd n P from by unfold zLos; (repeat' split) <;> first | rfl | omega | (simp_all; done) | (simp_all; omega)), rfl⟩
      · refine lv_iload hx hb dX6_lost_34 (lv_at hl 4 rfl) ?_
        refine lv_iconst (v := iI 0) hx hb dX6_lost_36 rfl ?_
        refine lv_iconst (v := iI 3) hx hb dX6_lost_37 rfl ?_
        refine r_is C hI (As := [.int (iI n), .int (iI 0), .int (iI 3)]) (rest := []) (c_X6_within l g M n 0 3 (by omega) (by omega) (by omega)) (va_cwS 3 hts gX6_lost_X6_within rfl rfl rfl (by decide +kernel) ⟨Nat.le_of_ble_eq_true rfl, Nat.le_of_ble_eq_true rfl⟩) rfl hl.1 rfl (Nat.le_of_ble_eq_true rfl) dX6_lost_38 ⟨Nat.zero_le _, Nat.zero_le _⟩ (k_I (fun H locs hI => ?_))
        refine r_b_ne hx hb (tgt := 47) dX6_lost_41 (by decide) (fun c_4 => ?_) (fun c_4 => ?_)
        · refine lv_aload_n hx hb dX6_lost_47 rfl (lv_at hl 0 rfl) ?_
          refine r_get C hI 0 (by decide) rfl rfl hin6 2 (by decide) (fn := "now") (fd := "LGloveReply$Moment;") (index := 26) (by decide +kernel) ⟨rfl, rfl, rfl⟩ (v := .ref (gA g 32)) rfl dX6_lost_48 ?_
          refine lv_iload_n hx hb dX6_lost_51 rfl (lv_at hl 1 rfl) ?_
          refine r_iv C hI (As := [.int (iI x)]) (rest := []) (c_X2_isWorn l g M 32 x (by decide) (by omega) (show -2147483648 ≤ (M 34 x) ∧ (M 34 x) < 2147483648 from by omega)) (cwV 1 hts gX6_lost_X2_isWorn rfl rfl rfl (by decide +kernel) ⟨Nat.le_of_ble_eq_true rfl, Nat.le_of_ble_eq_true rfl⟩) (by decide) (ceMo (show isMo 32 from by decide) _) rfl rfl hl.1 rfl (Nat.le_of_ble_eq_true rfl) dX6_lost_52 ⟨Nat.zero_le _, Nat.zero_le _⟩ (k_I (fun H locs hI => ?_))
          refine r_eqI (z2 := bI (¬ (M 34 x) = -9)) rfl ?_
          refine r_b_eq hx hb (tgt := 61) dX6_lost_55 (by decide) (fun c_5 => ?_) (fun c_5 => ?_)
          · have dk := hDK (by omega)
            refine lv_aload_n hx hb dX6_lost_61 rfl (lv_at hl 0 rfl) ?_
            refine r_get C hI 0 (by decide) rfl rfl hin6 1 (by decide) (fn := "theDesk") (fd := "LGloveReply$Desk;") (index := 19) (by decide +kernel) ⟨rfl, rfl, rfl⟩ (v := .ref (gA g 3)) rfl dX6_lost_62 ?_
            refine lv_iload_n hx hb dX6_lost_65 rfl (lv_at hl 1 rfl) ?_
            refine lv_aload_n hx hb dX6_lost_66 rfl (lv_at hl 0 rfl) ?_
            refine r_get C hI 0 (by decide) rfl rfl hin6 2 (by decide) (fn := "now") (fd := "LGloveReply$Moment;") (index := 26) (by decide +kernel) ⟨rfl, rfl, rfl⟩ (v := .ref (gA g 32)) rfl dX6_lost_67 ?_
            refine lv_iload_n hx hb dX6_lost_70 rfl (lv_at hl 1 rfl) ?_
            refine r_iv C hI (As := [.int (iI x)]) (rest := [.int (iI x), .ref (gA g 3)]) (c_X2_keptBy l g M 32 x (by decide) (by omega)) (cwV 1 hts gX6_lost_X2_keptBy rfl rfl rfl (by decide +kernel) ⟨Nat.le_of_ble_eq_true rfl, Nat.le_of_ble_eq_true rfl⟩) (by decide) (ceMo (show isMo 32 from by decide) _) rfl rfl hl.1 rfl (Nat.le_of_ble_eq_true rfl) dX6_lost_71 ⟨Nat.zero_le _, Nat.zero_le _⟩ (k_I (fun H locs hI => ?_))
            refine r_eqI (z2 := M 33 x) rfl ?_
            refine lv_iload_n hx hb dX6_lost_74 rfl (lv_at hl 2 rfl) ?_
            refine lv_iload_n hx hb dX6_lost_75 rfl (lv_at hl 3 rfl) ?_
            refine lv_iload hx hb dX6_lost_76 (lv_at hl 4 rfl) ?_
            refine r_is C hI (As := [.ref (gA g 3), .int (iI x), .int (iI (M 33 x)), .int (iI y), .int (iI dd), .int (iI n)]) (rest := []) (c_X6_waysToDoI l g M x (M 33 x) y dd n (show DK (M) x from by assumption) (show 0 ≤ y ∧ y < (M 3 6) from by omega) (by omega) (by omega) (by omega)) (va_cwS 6 hts gX6_lost_X6_waysToDo rfl rfl rfl (by decide +kernel) ⟨by simp only [rmF]; omega, by simp only [rmF]; omega⟩) rfl hl.1 rfl (Nat.le_of_ble_eq_true rfl) dX6_lost_78 ⟨Nat.zero_le _, Nat.zero_le _⟩ (k_I (fun H locs hI => ?_))
            have ff_1 := wyO_b (M 4) (M 3 6) (M 8 x) (M 7 x) (M 4 y) dd dk.1.2 n.toNat (M 33 x)
            have gf_1 := five3 (n := n.toNat) (by omega)
            refine lv_istore (lv' := [(6, .int (iI (wyO (M 4) (M 3 6) (M 8 x) (M 7 x) (M 4 y) dd n.toNat (M 33 x)))), (0, .ref (gA g 0)), (1, .int (iI x)), (2, .int (iI y)), (3, .int (iI dd)), (4, .int (iI n)), (5, .int (iI (bI P)))]) hx hb dX6_lost_81 hl (by decide) rfl (fun ls hl => ?_)
            refine lv_iconst (v := iI 1) hx hb dX6_lost_83 rfl ?_
            refine lv_istore (lv' := [(7, .int (iI 1)), (6, .int (iI (wyO (M 4) (M 3 6) (M 8 x) (M 7 x) (M 4 y) dd n.toNat (M 33 x)))), (0, .ref (gA g 0)), (1, .int (iI x)), (2, .int (iI y)), (3, .int (iI dd)), (4, .int (iI n)), (5, .int (iI (bI P)))]) hx hb dX6_lost_84 hl (by decide) rfl (fun ls hl => ?_)
            refine lv_iconst (v := iI 0) hx hb dX6_lost_86 rfl ?_
            refine lv_istore (lv' := [(8, .int (iI 0)), (7, .int (iI 1)), (6, .int (iI (wyO (M 4) (M 3 6) (M 8 x) (M 7 x) (M 4 y) dd n.toNat (M 33 x)))), (0, .ref (gA g 0)), (1, .int (iI x)), (2, .int (iI y)), (3, .int (iI dd)), (4, .int (iI n)), (5, .int (iI (bI P)))]) hx hb dX6_lost_87 hl (by decide) rfl (fun ls hl => ?_)
            have lp89 : ∀ (n89 : Nat) (tt : Int) (aa : Int) (jj : Nat), (tt = (jj : Int) ∧ (jj : Int) ≤ n) → (aa = pwN (M 3 6) jj) → (n - tt).toNat < n89 → ∀ (H : Heap) (locs : List Loc), HI g s H locs M → ∀ ls : Array Slot, lv_has ls 9 [(8, .int (iI tt)), (7, .int (iI aa)), (6, .int (iI (wyO (M 4) (M 3 6) (M 8 x) (M 7 x) (M 4 y) dd n.toNat (M 33 x)))), (0, .ref (gA g 0)), (1, .int (iI x)), (2, .int (iI y)), (3, .int (iI dd)), (4, .int (iI n)), (5, .int (iI (bI P)))] → W p l e ({ frames := 15, cells := 0, slots := 0, locals := 358 } : Room) s m ([.ref (gA g 0), .int (iI x), .int (iI y), .int (iI dd), .int (iI n), .int (iI (bI P))] : List Value).toArray below meth c H locs 0 0 (MQ below (QV g (pI (zLos (M) x y dd n P) M)) ([.ref (gA g 0), .int (iI x), .int (iI y), .int (iI dd), .int (iI n), .int (iI (bI P))] : List Value).toArray s 0 0 (AA g)) (F0 m 89 ls []) := by
              intro n89
              induction n89 with
              | zero => intro tt aa jj k1 k2 hn89; exact absurd hn89 (Nat.not_lt_zero _)
              | succ n89 ih89 =>
                intro tt aa jj k1 k2 hn89 H locs hI ls hl
                have pb := pwN_b (P := M 3 6) (by omega) jj
                have p5 := five3 (n := jj) (by omega)
                refine lv_iload hx hb dX6_lost_89 (lv_at hl 0 rfl) ?_
                refine lv_iload hx hb dX6_lost_91 (lv_at hl 7 rfl) ?_
                refine r_icmp_ge hx hb (tgt := 114) (by omega) (by omega) dX6_lost_93 (by decide) (fun c_6 => ?_) (fun c_6 => ?_)
                · refine lv_iload hx hb dX6_lost_114 (lv_at hl 2 rfl) ?_
                  refine lv_iload hx hb dX6_lost_116 (lv_at hl 1 rfl) ?_
                  refine lv_iload hx hb dX6_lost_118 (lv_at hl 8 rfl) ?_
                  refine r_is C hI (As := [.int (iI (wyO (M 4) (M 3 6) (M 8 x) (M 7 x) (M 4 y) dd n.toNat (M 33 x))), .int (iI aa), .int (iI (bI P))]) (rest := []) (c_X6_partInLeastTerms l g M (wyO (M 4) (M 3 6) (M 8 x) (M 7 x) (M 4 y) dd n.toNat (M 33 x)) aa P (by omega) (by omega)) (va_cwS 3 hts gX6_lost_X6_partInLeastTerms rfl rfl rfl (by decide +kernel) ⟨Nat.le_of_ble_eq_true rfl, Nat.le_of_ble_eq_true rfl⟩) rfl hl.1 rfl (Nat.le_of_ble_eq_true rfl) dX6_lost_120 ⟨Nat.zero_le _, Nat.zero_le _⟩ (k_I (fun H locs hI => ?_))
                  refine r_iret C hr hlk hI ?_ dX6_lost_123
                  exact ⟨congrArg (fun q => some (Value.int (iI q))) (show (if P then (wyO (M 4) (M 3 6) (M 8 x) (M 7 x) (M 4 y) dd n.toNat (M 33 x)) else aa) / cdO (wyO (M 4) (M 3 6) (M 8 x) (M 7 x) (M 4 y) dd n.toNat (M 33 x)) aa aa.toNat = zLos (M) x y dd n P from by symm; unfold zLos; rw [if_neg (by omega), if_neg (by omega), if_neg (by omega), show n.toNat = jj from by omega, k2]), rfl⟩
                · refine lv_iload hx hb dX6_lost_96 (lv_at hl 1 rfl) ?_
                  refine lv_aload_n hx hb dX6_lost_98 rfl (lv_at hl 3 rfl) ?_
                  refine r_get C hI 0 (by decide) rfl rfl hin6 1 (by decide) (fn := "theDesk") (fd := "LGloveReply$Desk;") (index := 19) (by decide +kernel) ⟨rfl, rfl, rfl⟩ (v := .ref (gA g 3)) rfl dX6_lost_99 ?_
                  refine r_iv C hI (As := []) (rest := [.int (iI aa)]) (c_X1_people l g M) (cwV 0 hts gX6_lost_X1_people rfl rfl rfl (by decide +kernel) ⟨Nat.le_of_ble_eq_true rfl, Nat.le_of_ble_eq_true rfl⟩) (by decide) rfl rfl rfl hl.1 rfl (Nat.le_of_ble_eq_true rfl) dX6_lost_102 ⟨Nat.zero_le _, Nat.zero_le _⟩ (k_I (fun H locs hI => ?_))
                  refine r_imul hx hb dX6_lost_105 ?_
                  refine lv_istore (lv' := [(7, .int (iI (aa * (M 3 6)))), (8, .int (iI tt)), (6, .int (iI (wyO (M 4) (M 3 6) (M 8 x) (M 7 x) (M 4 y) dd n.toNat (M 33 x)))), (0, .ref (gA g 0)), (1, .int (iI x)), (2, .int (iI y)), (3, .int (iI dd)), (4, .int (iI n)), (5, .int (iI (bI P)))]) hx hb dX6_lost_106 hl (by decide) rfl (fun ls hl => ?_)
                  refine lv_iinc (v := iI (tt + 1)) (lv' := [(8, .int (iI (tt + 1))), (7, .int (iI (aa * (M 3 6)))), (6, .int (iI (wyO (M 4) (M 3 6) (M 8 x) (M 7 x) (M 4 y) dd n.toNat (M 33 x)))), (0, .ref (gA g 0)), (1, .int (iI x)), (2, .int (iI y)), (3, .int (iI dd)), (4, .int (iI n)), (5, .int (iI (bI P)))]) hx hb dX6_lost_108 hl (k := 1) rfl (iI_add _ _) (by decide) rfl (fun ls hl => ?_)
                  refine lv_goto (tgt := 89) hx hb dX6_lost_111 (by decide) ?_
                  exact ih89 (tt + 1) (aa * (M 3 6)) (jj + 1) (by omega) (by (rw [k2]; rfl)) (by omega) _ _ hI ls (lv_sub hl [0, 1, 2, 3, 4, 5, 6, 7, 8] rfl)
            exact lp89 _ 0 1 0 (by omega) (by rfl) (Nat.lt_succ_self _) _ _ hI ls (lv_sub hl [0, 1, 2, 3, 4, 5, 6, 7, 8] rfl)
          · refine lv_bipush (v := iI (-3)) hx hb dX6_lost_58 (by decide +kernel) ?_
            refine r_iret C hr hlk hI ?_ dX6_lost_60
            exact ⟨congrArg (fun q => some (Value.int (iI q))) (show (-3) = zLos (M) x y dd n P from by unfold zLos; (repeat' split) <;> first | rfl | omega | (simp_all; done) | (simp_all; omega)), rfl⟩
        · refine lv_bipush (v := iI (-2)) hx hb dX6_lost_44 (by decide +kernel) ?_
          refine r_iret C hr hlk hI ?_ dX6_lost_46
          exact ⟨congrArg (fun q => some (Value.int (iI q))) (show (-2) = zLos (M) x y dd n P from by unfold zLos; (repeat' split) <;> first | rfl | omega | (simp_all; done) | (simp_all; omega)), rfl⟩
    · refine lv_iconst (v := iI (-1)) hx hb dX6_lost_22 rfl ?_
      refine r_iret C hr hlk hI ?_ dX6_lost_23
      exact ⟨congrArg (fun q => some (Value.int (iI q))) (show (-1) = zLos (M) x y dd n P from by unfold zLos; (repeat' split) <;> first | rfl | omega | (simp_all; done) | (simp_all; omega)), rfl⟩
set_option maxHeartbeats 4000000 in
set_option maxRecDepth 100000 in
theorem c_X6_day (l : Launch) (g : GT) (M : Mem) (wf : WF M) : Ctr l g yX6_day wsX6_day ({ frames := 4, cells := 0, slots := 0, locals := 87 } : Room) [.ref (gA g 0)] M (pI (zDay (M)) (gDay M)) := by
  refine Ctr.mk (cc := cX6_day) (maxL := 3) (ret := some .int) (lv := [(0, .ref (gA g 0))]) (by decide) rfl (Nat.le_of_ble_eq_true rfl) rfl ?_
  intro p e s m below meth c C hr hlk hI ls hl
  have C : CallFix p m c cX6_day 3 s ([.ref (gA g 0)] : List Value).toArray wsX6_day RX6 := C
  have hx := C.1
  have hb := C.2.1
  have hts := C.2.2.2.2
  have hin6 : ∀ w ∈ u_ws RX6 TX6 9, w ∈ wsX6_day := by decide +kernel
  have wf0 := wf
  obtain ⟨w_txt, hL, w_cnt, w_per, w_glo, w_now, w_act, w_rng, w_slo, w_see, w_sa⟩ := wf
  refine lv_aload_n hx hb dX6_day_0 rfl (lv_at hl 0 rfl) ?_
  refine r_get C hI 0 (by decide) rfl rfl hin6 4 (by decide) (fn := "acts") (fd := "LGloveReply$Acts;") (index := 36) (by decide +kernel) ⟨rfl, rfl, rfl⟩ (v := .ref (gA g 15)) rfl dX6_day_1 ?_
  refine lv_aload_n hx hb dX6_day_4 rfl (lv_at hl 0 rfl) ?_
  refine r_get C hI 0 (by decide) rfl rfl hin6 2 (by decide) (fn := "now") (fd := "LGloveReply$Moment;") (index := 26) (by decide +kernel) ⟨rfl, rfl, rfl⟩ (v := .ref (gA g 32)) rfl dX6_day_5 ?_
  refine r_iv C hI (As := [.ref (gA g 32)]) (rest := []) (c_X0_add l g M (show 0 ≤ (M 15 1) ∧ (M 15 1) < 14 from by omega) (show 0 ≤ (M 15 2) ∧ (M 15 2) ≤ 14 from by omega)) (cwV 1 hts gX6_day_X0_add rfl rfl rfl (by decide +kernel) ⟨Nat.le_of_ble_eq_true rfl, Nat.le_of_ble_eq_true rfl⟩) (by decide) rfl rfl rfl hl.1 rfl (Nat.le_of_ble_eq_true rfl) dX6_day_8 ⟨Nat.zero_le _, Nat.zero_le _⟩ (k_V (fun H locs hI => ?_))
  have ea : ∀ c : Nat, c ≠ 15 → c < 38 → aAdd M c = M c := fun c h1 h2 => aAdd_n h1 h2
  refine lv_iconst (v := iI 0) hx hb dX6_day_11 rfl ?_
  refine lv_istore_n (lv' := [(1, .int (iI 0)), (0, .ref (gA g 0))]) hx hb dX6_day_12 rfl hl (by decide) rfl (fun ls hl => ?_)
  refine lv_iconst (v := iI 0) hx hb dX6_day_13 rfl ?_
  refine lv_istore_n (lv' := [(2, .int (iI 0)), (1, .int (iI 0)), (0, .ref (gA g 0))]) hx hb dX6_day_14 rfl hl (by decide) rfl (fun ls hl => ?_)
  have lp15 : ∀ (n15 : Nat) (vv : Int) (cc : Int) (N : Mem) (jj : Nat), (vv = (jj : Int) ∧ (jj : Int) ≤ M 3 7) → (N = dyM (aAdd M) jj) → (cc = dyC (aAdd M) jj) → (M 3 7).toNat - jj < n15 → ∀ (H : Heap) (locs : List Loc), HI g s H locs N → ∀ ls : Array Slot, lv_has ls 3 [(2, .int (iI vv)), (1, .int (iI cc)), (0, .ref (gA g 0))] → W p l e ({ frames := 4, cells := 0, slots := 0, locals := 87 } : Room) s m ([.ref (gA g 0)] : List Value).toArray below meth c H locs 0 0 (MQ below (QV g (pI (zDay (M)) (gDay M))) ([.ref (gA g 0)] : List Value).toArray s 0 0 (AA g)) (F0 m 15 ls []) := by
    intro n15
    induction n15 with
    | zero => intro vv cc N jj k1 k2 k3 hn15; exact absurd hn15 (Nat.not_lt_zero _)
    | succ n15 ih15 =>
      intro vv cc N jj k1 k2 k3 hn15 H locs hI ls hl
      have eN : ∀ c : Nat, c ≠ 33 → c ≠ 34 → c ≠ 15 → c < 38 → N c = M c := fun c h1 h2 h3 h4 => by rw [k2, dyM_n _ h1 h2, ea c h3 h4]
      have eN37 : N 3 7 = M 3 7 := by rw [eN 3 (by decide) (by decide) (by decide) (by decide)]
      have eN7 : N 7 vv = M 7 vv := by rw [eN 7 (by decide) (by decide) (by decide) (by decide)]
      have eu := dyM_u (aAdd M) jj vv (by omega)
      rw [← k2, ea 33 (by decide) (by decide), ea 34 (by decide) (by decide)] at eu
      have eu1 := eu.1
      have eu2 := eu.2
      have w_nv : 0 ≤ vv ∧ vv < 4 → (0 ≤ M 33 vv ∧ M 33 vv < 1000) ∧ (M 34 vv = -9 ∨ (0 ≤ M 34 vv ∧ M 34 vv < M 3 6 ∧ vv < M 3 7)) ∧ (vv < M 3 7 → KOK (M 33 vv) (M 7 vv)) := w_now.1 vv
      have w_gv := w_glo vv
      refine lv_iload_n hx hb dX6_day_15 rfl (lv_at hl 0 rfl) ?_
      refine lv_aload_n hx hb dX6_day_16 rfl (lv_at hl 2 rfl) ?_
      refine r_get C hI 0 (by decide) rfl rfl hin6 1 (by decide) (fn := "theDesk") (fd := "LGloveReply$Desk;") (index := 19) (by decide +kernel) ⟨rfl, rfl, rfl⟩ (v := .ref (gA g 3)) rfl dX6_day_17 ?_
      refine r_iv C hI (As := []) (rest := [.int (iI vv)]) (c_X1_gloves l g N) (cwV 0 hts gX6_day_X1_gloves rfl rfl rfl (by decide +kernel) ⟨Nat.le_of_ble_eq_true rfl, Nat.le_of_ble_eq_true rfl⟩) (by decide) rfl rfl rfl hl.1 rfl (Nat.le_of_ble_eq_true rfl) dX6_day_20 ⟨Nat.zero_le _, Nat.zero_le _⟩ (k_I (fun H locs hI => ?_))
      refine r_icmp_ge hx hb (tgt := 51) (by omega) (by omega) dX6_day_23 (by decide) (fun c_1 => ?_) (fun c_1 => ?_)
      · refine lv_aload_n hx hb dX6_day_51 rfl (lv_at hl 2 rfl) ?_
        refine r_get C hI 0 (by decide) rfl rfl hin6 2 (by decide) (fn := "now") (fd := "LGloveReply$Moment;") (index := 26) (by decide +kernel) ⟨rfl, rfl, rfl⟩ (v := .ref (gA g 32)) rfl dX6_day_52 ?_
        refine r_iv C hI (As := []) (rest := []) (c_X2_nextDay l g N 32 (by decide)) (cwV 0 hts gX6_day_X2_nextDay rfl rfl rfl (by decide +kernel) ⟨Nat.le_of_ble_eq_true rfl, Nat.le_of_ble_eq_true rfl⟩) (by decide) (ceMo (show isMo 32 from by decide) _) rfl rfl hl.1 rfl (Nat.le_of_ble_eq_true rfl) dX6_day_55 ⟨Nat.zero_le _, Nat.zero_le _⟩ (k_V (fun H locs hI => ?_))
        refine lv_iload_n hx hb dX6_day_58 rfl (lv_at hl 1 rfl) ?_
        refine r_iret C hr hlk hI ?_ dX6_day_59
        exact ⟨congrArg (fun q => some (Value.int (iI q))) (show cc = zDay (M)  from by unfold zDay; rw [k3, show (M 3 7).toNat = jj from by omega]), (show mset N 32 2 ((N 32 2) + 1) = gDay M  from by unfold gDay; rw [k2, show (M 3 7).toNat = jj from by omega])⟩
      · refine lv_aload_n hx hb dX6_day_26 rfl (lv_at hl 2 rfl) ?_
        refine r_get C hI 0 (by decide) rfl rfl hin6 2 (by decide) (fn := "now") (fd := "LGloveReply$Moment;") (index := 26) (by decide +kernel) ⟨rfl, rfl, rfl⟩ (v := .ref (gA g 32)) rfl dX6_day_27 ?_
        refine lv_iload_n hx hb dX6_day_30 rfl (lv_at hl 0 rfl) ?_
        refine r_iv C hI (As := [.int (iI vv)]) (rest := []) (c_X2_isWorn l g N 32 vv (by decide) (by omega) (show -2147483648 ≤ (N 34 vv) ∧ (N 34 vv) < 2147483648 from by omega)) (cwV 1 hts gX6_day_X2_isWorn rfl rfl rfl (by decide +kernel) ⟨Nat.le_of_ble_eq_true rfl, Nat.le_of_ble_eq_true rfl⟩) (by decide) (ceMo (show isMo 32 from by decide) _) rfl rfl hl.1 rfl (Nat.le_of_ble_eq_true rfl) dX6_day_31 ⟨Nat.zero_le _, Nat.zero_le _⟩ (k_I (fun H locs hI => ?_))
        refine r_eqI (z2 := bI (¬ (N 34 vv) = -9)) rfl ?_
        refine r_b_eq hx hb (tgt := 45) dX6_day_34 (by decide) (fun c_2 => ?_) (fun c_2 => ?_)
        · refine lv_iinc (v := iI (vv + 1)) (lv' := [(2, .int (iI (vv + 1))), (1, .int (iI cc)), (0, .ref (gA g 0))]) hx hb dX6_day_45 hl (k := 0) rfl (iI_add _ _) (by decide) rfl (fun ls hl => ?_)
          refine lv_goto (tgt := 15) hx hb dX6_day_48 (by decide) ?_
          exact ih15 (vv + 1) cc N (jj + 1) (by omega) (by (rw [k2]; simp only [dyM, ← k1.1]; rw [← k2]; first | rw [if_pos (by omega)] | rw [if_neg (by assumption)])) (by (rw [k3]; simp only [dyC, ← k1.1]; rw [← k2]; first | rw [if_pos (by omega)] | rw [if_neg (by assumption)])) (by omega) _ _ hI ls (lv_sub hl [0, 1, 2] rfl)
        · refine lv_aload_n hx hb dX6_day_37 rfl (lv_at hl 2 rfl) ?_
          refine lv_iload_n hx hb dX6_day_38 rfl (lv_at hl 0 rfl) ?_
          refine r_iv C hI (As := [.int (iI vv)]) (rest := []) (c_X6_layDown l g N vv (by omega) (show 0 ≤ (N 33 vv) ∧ (N 33 vv) < 1000 from by omega) (show 0 ≤ (N 34 vv) ∧ (N 34 vv) < 5 from by omega) (show -2147483648 ≤ (N 7 vv) ∧ (N 7 vv) < 2147483648 from by omega)) (cwV 1 hts gX6_day_X6_layDown rfl rfl rfl (by decide +kernel) ⟨Nat.le_of_ble_eq_true rfl, Nat.le_of_ble_eq_true rfl⟩) (by decide) rfl rfl rfl hl.1 rfl (Nat.le_of_ble_eq_true rfl) dX6_day_39 ⟨Nat.zero_le _, Nat.zero_le _⟩ (k_V (fun H locs hI => ?_))
          refine lv_iinc (v := iI (cc + 1)) (lv' := [(1, .int (iI (cc + 1))), (2, .int (iI vv)), (0, .ref (gA g 0))]) hx hb dX6_day_42 hl (k := 1) rfl (iI_add _ _) (by decide) rfl (fun ls hl => ?_)
          refine lv_iinc (v := iI (vv + 1)) (lv' := [(2, .int (iI (vv + 1))), (1, .int (iI (cc + 1))), (0, .ref (gA g 0))]) hx hb dX6_day_45 hl (k := 1) rfl (iI_add _ _) (by decide) rfl (fun ls hl => ?_)
          refine lv_goto (tgt := 15) hx hb dX6_day_48 (by decide) ?_
          exact ih15 (vv + 1) (cc + 1) (ldM N vv) (jj + 1) (by omega) (by (rw [k2]; simp only [dyM, ← k1.1]; rw [← k2]; first | rw [if_pos (by omega)] | rw [if_neg (by assumption)])) (by (rw [k3]; simp only [dyC, ← k1.1]; rw [← k2]; first | rw [if_pos (by omega)] | rw [if_neg (by assumption)])) (by omega) _ _ hI ls (lv_sub hl [0, 1, 2] rfl)
  exact lp15 _ 0 0 (aAdd M) 0 (by omega) (by rfl) (by rfl) (Nat.lt_succ_self _) _ _ hI ls (lv_sub hl [0, 1, 2] rfl)
set_option maxHeartbeats 4000000 in
set_option maxRecDepth 100000 in
theorem c_X6_weeks (l : Launch) (g : GT) (M : Mem) (v : Int) (wf : WF M) (h_v : -2147483648 ≤ v ∧ v < 2147483648) : Ctr l g yX6_weeks wsX6_weeks ({ frames := 4, cells := 0, slots := 0, locals := 89 } : Room) [.ref (gA g 0), .int (iI v)] M (pI (zWek (M) v) (gWek M v)) := by
  refine Ctr.mk (cc := cX6_weeks) (maxL := 5) (ret := some .int) (lv := [(0, .ref (gA g 0)), (1, .int (iI v))]) (by decide) rfl (Nat.le_of_ble_eq_true rfl) rfl ?_
  intro p e s m below meth c C hr hlk hI ls hl
  have C : CallFix p m c cX6_weeks 5 s ([.ref (gA g 0), .int (iI v)] : List Value).toArray wsX6_weeks RX6 := C
  have hx := C.1
  have hb := C.2.1
  have hts := C.2.2.2.2
  have hin6 : ∀ w ∈ u_ws RX6 TX6 9, w ∈ wsX6_weeks := by decide +kernel
  have wf0 := wf
  obtain ⟨w_txt, hL, w_cnt, w_per, w_glo, w_now, w_act, w_rng, w_slo, w_see, w_sa⟩ := wf
  refine lv_iload_n hx hb dX6_weeks_0 rfl (lv_at hl 1 rfl) ?_
  refine lv_iconst (v := iI 1) hx hb dX6_weeks_1 rfl ?_
  refine lv_bipush (v := iI 30) hx hb dX6_weeks_2 (by decide +kernel) ?_
  refine r_is C hI (As := [.int (iI v), .int (iI 1), .int (iI 30)]) (rest := []) (c_X6_within l g M v 1 30 (by omega) (by omega) (by omega)) (va_cwS 3 hts gX6_weeks_X6_within rfl rfl rfl (by decide +kernel) ⟨Nat.le_of_ble_eq_true rfl, Nat.le_of_ble_eq_true rfl⟩) rfl hl.1 rfl (Nat.le_of_ble_eq_true rfl) dX6_weeks_4 ⟨Nat.zero_le _, Nat.zero_le _⟩ (k_I (fun H locs hI => ?_))
  refine r_b_ne hx hb (tgt := 13) dX6_weeks_7 (by decide) (fun c_1 => ?_) (fun c_1 => ?_)
  · refine lv_aload_n hx hb dX6_weeks_13 rfl (lv_at hl 0 rfl) ?_
    refine r_get C hI 0 (by decide) rfl rfl hin6 3 (by decide) (fn := "trial") (fd := "LGloveReply$Moment;") (index := 30) (by decide +kernel) ⟨rfl, rfl, rfl⟩ (v := .ref (gA g 35)) rfl dX6_weeks_14 ?_
    refine lv_aload_n hx hb dX6_weeks_17 rfl (lv_at hl 0 rfl) ?_
    refine r_get C hI 0 (by decide) rfl rfl hin6 2 (by decide) (fn := "now") (fd := "LGloveReply$Moment;") (index := 26) (by decide +kernel) ⟨rfl, rfl, rfl⟩ (v := .ref (gA g 32)) rfl dX6_weeks_18 ?_
    refine r_iv C hI (As := [.ref (gA g 32)]) (rest := []) (c_X2_copy l g M 35 32 (by decide) (by decide) (by omega)) (cwV 1 hts gX6_weeks_X2_copy rfl rfl rfl (by decide +kernel) ⟨Nat.le_of_ble_eq_true rfl, Nat.le_of_ble_eq_true rfl⟩) (by decide) (ceMo (show isMo 35 from by decide) _) rfl rfl hl.1 rfl (Nat.le_of_ble_eq_true rfl) dX6_weeks_21 ⟨Nat.zero_le _, Nat.zero_le _⟩ (k_V (fun H locs hI => ?_))
    have ec : ∀ c : Nat, c ≠ 35 → c ≠ 36 → c ≠ 37 → cpM M 32 35 c = M c := fun c h1 h2 h3 => cpM_n (by omega)
    have ec36 : ∀ j : Int, 0 ≤ j ∧ j < 4 → cpM M 32 35 36 j = M 33 j := fun j hj => by simp [cpM, mix4, hj]
    have ec37 : ∀ j : Int, 0 ≤ j ∧ j < 4 → cpM M 32 35 37 j = M 34 j := fun j hj => by simp [cpM, mix4, hj]
    have w_hw := WF_hw w_now (by omega)
    refine lv_iconst (v := iI 0) hx hb dX6_weeks_24 rfl ?_
    refine lv_istore_n (lv' := [(2, .int (iI 0)), (0, .ref (gA g 0)), (1, .int (iI v))]) hx hb dX6_weeks_25 rfl hl (by decide) rfl (fun ls hl => ?_)
    refine lv_iconst (v := iI 0) hx hb dX6_weeks_26 rfl ?_
    refine lv_istore_n (lv' := [(3, .int (iI 0)), (2, .int (iI 0)), (0, .ref (gA g 0)), (1, .int (iI v))]) hx hb dX6_weeks_27 rfl hl (by decide) rfl (fun ls hl => ?_)
    have lp28 : ∀ (n28 : Nat) (tt : Int) (cc : Int) (N : Mem) (jj : Nat), (tt = (jj : Int) ∧ (jj : Int) ≤ v) → (N = wkM (cpM M 32 35) jj) → (cc = wkC (cpM M 32 35) jj) → (∀ j : Int, 0 ≤ j ∧ j < 4 → 0 ≤ N 36 j ∧ N 36 j < 1000) → (v - tt).toNat < n28 → ∀ (H : Heap) (locs : List Loc), HI g s H locs N → ∀ ls : Array Slot, lv_has ls 5 [(3, .int (iI tt)), (2, .int (iI cc)), (0, .ref (gA g 0)), (1, .int (iI v))] → W p l e ({ frames := 4, cells := 0, slots := 0, locals := 89 } : Room) s m ([.ref (gA g 0), .int (iI v)] : List Value).toArray below meth c H locs 0 0 (MQ below (QV g (pI (zWek (M) v) (gWek M v))) ([.ref (gA g 0), .int (iI v)] : List Value).toArray s 0 0 (AA g)) (F0 m 28 ls []) := by
      intro n28
      induction n28 with
      | zero => intro tt cc N jj k1 k2 k3 k4 hn28; exact absurd hn28 (Nat.not_lt_zero _)
      | succ n28 ih28 =>
        intro tt cc N jj k1 k2 k3 k4 hn28 H locs hI ls hl
        have eN : ∀ c : Nat, c ≠ 35 → c ≠ 36 → c ≠ 37 → c ≠ 0 → N c = M c := fun c h1 h2 h3 h4 => by rw [k2, wkM_n _ h2 h4, ec c h1 h2 h3]
        have eN3 := eN 3 (by decide) (by decide) (by decide) (by decide)
        have eN4 := eN 4 (by decide) (by decide) (by decide) (by decide)
        have eN5 := eN 5 (by decide) (by decide) (by decide) (by decide)
        have eN6 := eN 6 (by decide) (by decide) (by decide) (by decide)
        have eN7 := eN 7 (by decide) (by decide) (by decide) (by decide)
        have eN8 := eN 8 (by decide) (by decide) (by decide) (by decide)
        have eN9 := eN 9 (by decide) (by decide) (by decide) (by decide)
        have hdp : ∀ q : Int, 0 ≤ q ∧ q < N 3 6 → (1 ≤ N 4 q ∧ N 4 q ≤ 7) ∧ (1 ≤ N 5 q ∧ N 5 q ≤ 7) ∧ (0 ≤ N 6 q ∧ N 6 q ≤ 9) := by rw [eN3, eN4, eN5, eN6]; exact w_per
        have hdg : ∀ q : Int, 0 ≤ q ∧ q < N 3 7 → (1 ≤ N 7 q ∧ N 7 q ≤ 3) ∧ (0 ≤ N 8 q ∧ N 8 q ≤ 3) ∧ (0 ≤ N 9 q ∧ N 9 q ≤ 7) := by rw [eN3, eN7, eN8, eN9]; exact w_glo
        have h37 : ∀ j : Int, 0 ≤ j ∧ j < 4 → -2147483648 ≤ N 37 j ∧ N 37 j < 2147483648 := by intro j hj; rw [k2, wkM_n _ (by decide) (by decide), ec37 j hj]; exact w_hw j hj
        have eP : N 3 6 = M 3 6 := by rw [eN3]
        have eG : N 3 7 = M 3 7 := by rw [eN3]
        refine lv_iload_n hx hb dX6_weeks_28 rfl (lv_at hl 0 rfl) ?_
        refine lv_iload_n hx hb dX6_weeks_29 rfl (lv_at hl 3 rfl) ?_
        refine r_icmp_ge hx hb (tgt := 87) (by omega) (by omega) dX6_weeks_30 (by decide) (fun c_2 => ?_) (fun c_2 => ?_)
        · refine lv_iload_n hx hb dX6_weeks_87 rfl (lv_at hl 1 rfl) ?_
          refine r_iret C hr hlk hI ?_ dX6_weeks_88
          exact ⟨congrArg (fun q => some (Value.int (iI q))) (show cc = zWek (M) v from by unfold zWek; rw [if_neg (by omega), k3, show v.toNat = jj from by omega]), (show N = gWek M v from by unfold gWek; first | rw [if_pos (by assumption)] | rw [if_neg (by omega), k2, show v.toNat = jj from by omega])⟩
        · refine lv_aload_n hx hb dX6_weeks_33 rfl (lv_at hl 2 rfl) ?_
          refine lv_aload_n hx hb dX6_weeks_34 rfl (lv_at hl 2 rfl) ?_
          refine r_get C hI 0 (by decide) rfl rfl hin6 8 (by decide) (fn := "theSeed") (fd := "J") (index := 58) (by decide +kernel) ⟨rfl, rfl, rfl⟩ (v := .long (iL (N 0 8))) rfl dX6_weeks_35 ?_
          refine r_ldc2 C (n := 6364136223846793005) (v := (6364136223846793005 : Int64)) (index := 232) (by decide +kernel) (by decide +kernel) dX6_weeks_38 ?_
          refine r_lmul hx hb dX6_weeks_41 ?_
          refine r_ldc2 C (n := 1442695040888963407) (v := (1442695040888963407 : Int64)) (index := 234) (by decide +kernel) (by decide +kernel) dX6_weeks_42 ?_
          refine r_ladd hx hb dX6_weeks_45 ?_
          refine r_put C hI 0 (by decide) rfl rfl tyX6 tyX6_ok nmX6 hin6 8 (by decide) (fn := "theSeed") (fd := "J") (index := 58) (by decide +kernel) ⟨rfl, rfl, rfl⟩ rfl (z := ((N 0 8) * 6364136223846793005) + 1442695040888963407) rfl rfl (Nat.le_of_ble_eq_true rfl) rfl dX6_weeks_46 (fun H locs hI => ?_)
          refine lv_aload_n hx hb dX6_weeks_49 rfl (lv_at hl 2 rfl) ?_
          refine r_get C hI 0 (by decide) rfl rfl hin6 8 (by decide) (fn := "theSeed") (fd := "J") (index := 58) (by decide +kernel) ⟨rfl, rfl, rfl⟩ (v := .long (iL (((N 0 8) * 6364136223846793005) + 1442695040888963407))) rfl dX6_weeks_50 ?_
          refine lv_bipush (v := iI 33) hx hb dX6_weeks_53 (by decide +kernel) ?_
          refine r_lushr33 hx hb dX6_weeks_55 ?_
          refine r_ldc2 C (n := 20) (v := (20 : Int64)) (index := 236) (by decide +kernel) (by decide +kernel) dX6_weeks_56 ?_
          refine r_lrem20 hx hb (by omega) dX6_weeks_59 ?_
          refine r_l2i hx hb dX6_weeks_60 ?_
          refine lv_istore (lv' := [(4, .int (iI (((((N 0 8) * 6364136223846793005) + 1442695040888963407) % 18446744073709551616 / 8589934592) % 20))), (3, .int (iI tt)), (2, .int (iI cc)), (0, .ref (gA g 0)), (1, .int (iI v))]) hx hb dX6_weeks_61 hl (by decide) rfl (fun ls hl => ?_)
          refine lv_aload_n hx hb dX6_weeks_63 rfl (lv_at hl 3 rfl) ?_
          refine lv_iload hx hb dX6_weeks_64 (lv_at hl 0 rfl) ?_
          refine lv_iconst (v := iI 5) hx hb dX6_weeks_66 rfl ?_
          refine r_idiv hx hb (by omega) (by decide) dX6_weeks_67 ?_
          refine lv_iload hx hb dX6_weeks_68 (lv_at hl 0 rfl) ?_
          refine lv_iconst (v := iI 5) hx hb dX6_weeks_70 rfl ?_
          refine r_irem hx hb (by omega) (by decide) dX6_weeks_71 ?_
          refine r_iv C hI (As := [.int (iI ((((((N 0 8) * 6364136223846793005) + 1442695040888963407) % 18446744073709551616 / 8589934592) % 20) / 5)), .int (iI ((((((N 0 8) * 6364136223846793005) + 1442695040888963407) % 18446744073709551616 / 8589934592) % 20) % 5))]) (rest := []) (c_X6_pleasesOnTrial l g (mset N 0 8 (((N 0 8) * 6364136223846793005) + 1442695040888963407)) ((((((N 0 8) * 6364136223846793005) + 1442695040888963407) % 18446744073709551616 / 8589934592) % 20) / 5) ((((((N 0 8) * 6364136223846793005) + 1442695040888963407) % 18446744073709551616 / 8589934592) % 20) % 5) (by omega) (by omega) k4 h37 (show 0 ≤ (N 3 6) ∧ (N 3 6) ≤ 5 from by omega) (show 0 ≤ (N 3 7) ∧ (N 3 7) ≤ 4 from by omega) hdp hdg) (cwV 2 hts gX6_weeks_X6_pleasesOnTrial rfl rfl rfl (by decide +kernel) ⟨Nat.le_of_ble_eq_true rfl, Nat.le_of_ble_eq_true rfl⟩) (by decide) rfl rfl rfl hl.1 rfl (Nat.le_of_ble_eq_true rfl) dX6_weeks_72 ⟨Nat.zero_le _, Nat.zero_le _⟩ (k_I (fun H locs hI => ?_))
          refine r_b_eq hx hb (tgt := 81) dX6_weeks_75 (by decide) (fun c_3 => ?_) (fun c_3 => ?_)
          · refine lv_iinc (v := iI (tt + 1)) (lv' := [(3, .int (iI (tt + 1))), (4, .int (iI (((((N 0 8) * 6364136223846793005) + 1442695040888963407) % 18446744073709551616 / 8589934592) % 20))), (2, .int (iI cc)), (0, .ref (gA g 0)), (1, .int (iI v))]) hx hb dX6_weeks_81 hl (k := 1) rfl (iI_add _ _) (by decide) rfl (fun ls hl => ?_)
            refine lv_goto (tgt := 28) hx hb dX6_weeks_84 (by decide) ?_
            exact ih28 (tt + 1) cc (plM (mset N 0 8 (((N 0 8) * 6364136223846793005) + 1442695040888963407)) ((((((N 0 8) * 6364136223846793005) + 1442695040888963407) % 18446744073709551616 / 8589934592) % 20) / 5) ((((((N 0 8) * 6364136223846793005) + 1442695040888963407) % 18446744073709551616 / 8589934592) % 20) % 5)) (jj + 1) (by omega) (by (rw [k2]; rfl)) (by (rw [k3]; simp only [wkC]; rw [← k2]; first | rw [if_pos (by assumption)] | rw [if_neg (by assumption)])) (by exact plM_k k4 hdp) (by omega) _ _ hI ls (lv_sub hl [0, 2, 3, 4] rfl)
          · refine lv_iinc (v := iI (cc + 1)) (lv' := [(2, .int (iI (cc + 1))), (4, .int (iI (((((N 0 8) * 6364136223846793005) + 1442695040888963407) % 18446744073709551616 / 8589934592) % 20))), (3, .int (iI tt)), (0, .ref (gA g 0)), (1, .int (iI v))]) hx hb dX6_weeks_78 hl (k := 2) rfl (iI_add _ _) (by decide) rfl (fun ls hl => ?_)
            refine lv_iinc (v := iI (tt + 1)) (lv' := [(3, .int (iI (tt + 1))), (2, .int (iI (cc + 1))), (4, .int (iI (((((N 0 8) * 6364136223846793005) + 1442695040888963407) % 18446744073709551616 / 8589934592) % 20))), (0, .ref (gA g 0)), (1, .int (iI v))]) hx hb dX6_weeks_81 hl (k := 2) rfl (iI_add _ _) (by decide) rfl (fun ls hl => ?_)
            refine lv_goto (tgt := 28) hx hb dX6_weeks_84 (by decide) ?_
            exact ih28 (tt + 1) (cc + 1) (plM (mset N 0 8 (((N 0 8) * 6364136223846793005) + 1442695040888963407)) ((((((N 0 8) * 6364136223846793005) + 1442695040888963407) % 18446744073709551616 / 8589934592) % 20) / 5) ((((((N 0 8) * 6364136223846793005) + 1442695040888963407) % 18446744073709551616 / 8589934592) % 20) % 5)) (jj + 1) (by omega) (by (rw [k2]; rfl)) (by (rw [k3]; simp only [wkC]; rw [← k2]; first | rw [if_pos (by assumption)] | rw [if_neg (by assumption)])) (by exact plM_k k4 hdp) (by omega) _ _ hI ls (lv_sub hl [0, 1, 3, 4] rfl)
    exact lp28 _ 0 0 (cpM M 32 35) 0 (by omega) (by rfl) (by rfl) (by intro j hj; rw [ec36 j hj]; exact (w_now.1 j hj).1) (Nat.lt_succ_self _) _ _ hI ls (lv_sub hl [0, 1, 2, 3] rfl)
  · refine lv_bipush (v := iI (-2)) hx hb dX6_weeks_10 (by decide +kernel) ?_
    refine r_iret C hr hlk hI ?_ dX6_weeks_12
    exact ⟨congrArg (fun q => some (Value.int (iI q))) (show (-2) = zWek (M) v from by unfold zWek; (repeat' split) <;> first | rfl | omega | (simp_all; done) | (simp_all; omega)), (show M = gWek M v from by unfold gWek; first | rw [if_pos (by assumption)] | rw [if_neg (by omega), k2, show v.toNat = jj from by omega])⟩
