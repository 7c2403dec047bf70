
/-! WORDS of the calls that search, of days, weeks, slots -/
def zDoe (M : Mem) (x n row : Int) : Int := if ¬ (0 ≤ x ∧ x < M 3 7) then -1 else if ¬ ((1 ≤ n ∧ n ≤ 4) ∧ irO (M 3 6) n.toNat row = true) then -2 else if ¬ M 34 x = -9 then -3 else doN (M 4) (M 8 x) (M 7 x) n.toNat row (M 33 x)
def zCom (M : Mem) (x dd v : Int) : Int := if ¬ (0 ≤ x ∧ x < M 3 7) then -1 else if ¬ ((1 ≤ dd ∧ dd ≤ 7) ∧ (0 ≤ v ∧ v ≤ 1)) then -2 else if ¬ M 34 x = -9 then -3 else cmN (M 4) (M 3 6) (M 8 x) (M 7 x) dd (M 33 x) v 4 1
def zRou (M : Mem) (x v : Int) : Int := if ¬ (0 ≤ x ∧ x < M 3 7) then -1 else if ¬ (0 ≤ v ∧ v ≤ 1) then -2 else if ¬ M 34 x = -9 then -3 else tdO (rlO (M 4) (M 3 6) (M 8 x) (M 7 x) (M 3 6).toNat (M 33 x) (-1) 0) v
def gvN (M : Mem) (x : Int) : Nat → Int
  | 0 => 0
  | n + 1 => if ¬ repO (M 8 x) (M 33 x) (M 4 (n : Int)) = M 4 (n : Int) ∧ someB (M 4) (repO (M 8 x) (M 33 x) (M 4 (n : Int))) (M 3 6).toNat = true then orI (gvN M x n) (shlI 1 (n : Int)) else gvN M x n
theorem gvN_b (M : Mem) (x : Int) : ∀ n : Nat, 0 ≤ gvN M x n
  | 0 => by simp [gvN]
  | n + 1 => by
    unfold gvN
    split
    · unfold orI; omega
    · exact gvN_b M x n
theorem shlI_b {y : Int} : 0 ≤ shlI 1 y := by
  unfold shlI
  rw [Int.one_mul]
  exact Int.pow_nonneg (by decide)
def zGiv (M : Mem) (x : Int) : Int := if ¬ (0 ≤ x ∧ x < M 3 7) then -1 else if ¬ M 34 x = -9 then -3 else gvN M x (M 3 6).toNat
def zWor (M : Mem) (x v : Int) : Int := if ¬ (0 ≤ x ∧ x < M 3 7) then -1 else if ¬ (0 ≤ v ∧ v ≤ 1) then -2 else if ¬ M 34 x = -9 then -3 else tdO (wlO (M 11) (M 12) (M 13) (M 4) x (M 3 6) (M 10 3) (M 8 x) (M 7 x) 5 (M 33 x) 0 0) v
def woO (M : Mem) (x y : Int) : Int := if repO (M 8 x) (M 33 x) (M 4 y) = M 5 y then M 6 y else 0
theorem woO_b {M : Mem} {x y : Int} (h : 0 ≤ M 6 y ∧ M 6 y ≤ 9) : 0 ≤ woO M x y ∧ woO M x y ≤ 9 := by unfold woO; split <;> omega
def bO (w v a b : Int) : List Int := if arN a b w v 10 = true then [10 * a + b] else []
def bA (w v : Int) (a : Int) : List Int := flN (bO w v a) 10
theorem bO_len (w v a b : Int) : (bO w v a b).length ≤ 1 := by unfold bO; split <;> simp
theorem bA_len (w v a : Int) : (bA w v a).length ≤ 10 := flN_len (m := 1) (bO_len w v a) 10
def zBid (M : Mem) (x y y2 v : Int) : Int := if ¬ ((0 ≤ x ∧ x < M 3 7) ∧ (0 ≤ y ∧ y < M 3 6) ∧ (0 ≤ y2 ∧ y2 < M 3 6)) then -1 else if y = y2 ∨ ¬ (0 ≤ v ∧ v ≤ 1) then -2 else if ¬ M 34 x = -9 then -3 else tdO (flN (bA (woO M x y) (woO M x y2)) 10) v
def zLos (M : Mem) (x y dd n : Int) (P : Prop) [Decidable P] : Int := if ¬ ((0 ≤ x ∧ x < M 3 7) ∧ (0 ≤ y ∧ y < M 3 6)) then -1 else if ¬ ((0 ≤ dd ∧ dd ≤ 7) ∧ (0 ≤ n ∧ n ≤ 3)) then -2 else if ¬ M 34 x = -9 then -3 else (if P then wyO (M 4) (M 3 6) (M 8 x) (M 7 x) (M 4 y) dd n.toNat (M 33 x) else pwN (M 3 6) n.toNat) / cdO (wyO (M 4) (M 3 6) (M 8 x) (M 7 x) (M 4 y) dd n.toNat (M 33 x)) (pwN (M 3 6) n.toNat) (pwN (M 3 6) n.toNat).toNat
/-- gloves below n are taken off, of those that are worn -/
def dyM (M : Mem) : Nat → Mem
  | 0 => M
  | n + 1 => if dyM M n 34 (n : Int) = -9 then dyM M n else ldM (dyM M n) (n : Int)
def dyC (M : Mem) : Nat → Int
  | 0 => 0
  | n + 1 => if dyM M n 34 (n : Int) = -9 then dyC M n else dyC M n + 1
def zDay (M : Mem) : Int := dyC (aAdd M) (M 3 7).toNat
def gDay (M : Mem) : Mem := mset (dyM (aAdd M) (M 3 7).toNat) 32 2 (dyM (aAdd M) (M 3 7).toNat 32 2 + 1)
theorem dyM_n (M : Mem) {c : Nat} (h : c ≠ 33) (h2 : c ≠ 34) : ∀ n : Nat, dyM M n c = M c
  | 0 => rfl
  | n + 1 => by
    unfold dyM
    split
    · exact dyM_n M h h2 n
    · unfold ldM
      rw [mset_n _ _ _ h2, mset_n _ _ _ h, dyM_n M h h2 n]
/-- of a glove at its turn or behind it, nothing is changed yet -/
theorem dyM_u (M : Mem) : ∀ (n : Nat) (q : Int), (n : Int) ≤ q → dyM M n 33 q = M 33 q ∧ dyM M n 34 q = M 34 q
  | 0, _, _ => ⟨rfl, rfl⟩
  | n + 1, q, h => by
    have h1 := dyM_u M n q (by omega)
    have hq : q ≠ (n : Int) := by omega
    unfold dyM
    split
    · exact h1
    · unfold ldM
      rw [mset_n _ _ _ (by decide), mset_s, rw1_n _ _ hq, mset_s, rw1_n _ _ hq, mset_n _ _ _ (by decide)]
      exact h1
/-- the weeks' trial: whether a glove and a person are free in it; what is kept behind it -/
abbrev okP (M : Mem) (x y : Int) : Prop := ((0 ≤ x ∧ x < M 3 7) ∧ (0 ≤ y ∧ y < M 3 6)) ∧ M 37 x = -9 ∧ gOn (M 37) y = -9
def plM (M : Mem) (x y : Int) : Mem := if okP M x y then mset M 36 x (behO (M 36 x) (M 4 y) (M 7 x)) else M
abbrev plP (M : Mem) (x y : Int) : Prop := okP M x y ∧ repO (M 8 x) (M 36 x) (M 4 y) = M 5 y
def sdM (M : Mem) : Mem := mset M 0 8 (M 0 8 * 6364136223846793005 + 1442695040888963407)
def drM (M : Mem) : Int := sdM M 0 8 % 18446744073709551616 / 8589934592 % 20
def wkM (M : Mem) : Nat → Mem
  | 0 => M
  | n + 1 => plM (sdM (wkM M n)) (drM (wkM M n) / 5) (drM (wkM M n) % 5)
def wkC (M : Mem) : Nat → Int
  | 0 => 0
  | n + 1 => if plP (sdM (wkM M n)) (drM (wkM M n) / 5) (drM (wkM M n) % 5) then wkC M n + 1 else wkC M n
theorem plM_n {M : Mem} {x y : Int} {c : Nat} (h : c ≠ 36) : plM M x y c = M c := by
  unfold plM
  split
  · rw [mset_n _ _ _ h]
  · rfl
theorem wkM_n (M : Mem) {c : Nat} (h : c ≠ 36) (h0 : c ≠ 0) : ∀ n : Nat, wkM M n c = M c
  | 0 => rfl
  | n + 1 => by
    unfold wkM
    rw [plM_n h, sdM, mset_n _ _ _ h0, wkM_n M h h0 n]
def zWek (M : Mem) (v : Int) : Int := if ¬ (1 ≤ v ∧ v ≤ 30) then -2 else wkC (cpM M 32 35) v.toNat
def gWek (M : Mem) (v : Int) : Mem := if ¬ (1 ≤ v ∧ v ≤ 30) then M else wkM (cpM M 32 35) v.toNat
def sltO (v : Int) : Nat := 80 + 3 * v.toNat
theorem sltO_b {v : Int} (h : 0 ≤ v ∧ v < 2) : isMo (sltO v) ∧ (sltO v = 80 ∨ sltO v = 83) := by
  unfold sltO
  exact ⟨⟨by omega, by omega, by omega⟩, by omega⟩
def zKee (M : Mem) (v : Int) : Int := if ¬ (0 ≤ v ∧ v < 2) then -1 else M 32 2
def gKee (M : Mem) (v : Int) : Mem := if ¬ (0 ≤ v ∧ v < 2) then M else cpM M 32 (sltO v)
def zAga (M : Mem) (v : Int) : Int := if ¬ (0 ≤ v ∧ v < 2) then -1 else if ¬ M (sltO v) 3 = 1 then -3 else M (sltO v) 2
def gAga (M : Mem) (v : Int) : Mem := if ¬ (0 ≤ v ∧ v < 2) then M else if ¬ M (sltO v) 3 = 1 then M else mset (cpM M (sltO v) 32) 15 2 0
set_option maxHeartbeats 4000000 in
set_option maxRecDepth 100000 in
theorem c_X6_does (l : Launch) (g : GT) (M : Mem) (x : Int) (n : Int) (row : Int) (wf : WF M) (h_x : -2147483648 ≤ x ∧ x < 2147483648) (h_n : -2147483648 ≤ n ∧ n < 2147483648) (h_row : -2147483648 ≤ row ∧ row < 2147483648) : Ctr l g yX6_does wsX6_does ({ frames := 4, cells := 0, slots := 0, locals := 92 } : Room) [.ref (gA g 0), .int (iI x), .int (iI n), .int (iI row)] M (pI (zDoe (M) x n row) M) := by
  refine Ctr.mk (cc := cX6_does) (maxL := 4) (ret := some .int) (lv := [(0, .ref (gA g 0)), (1, .int (iI x)), (2, .int (iI n)), (3, .int (iI row))]) (by decide) rfl (Nat.le_of_ble_eq_true rfl) rfl ?_
  intro p e s m below meth c C hr hlk hI ls hl
  have C : CallFix p m c cX6_does 4 s ([.ref (gA g 0), .int (iI x), .int (iI n), .int (iI row)] : List Value).toArray wsX6_does RX6 := C
  have hx := C.1
  have hb := C.2.1
  have hts := C.2.2.2.2
  have hin6 : ∀ w ∈ u_ws RX6 TX6 9, w ∈ wsX6_does := by decide +kernel
  have wf0 := wf
  obtain ⟨w_txt, hL, w_cnt, w_per, w_glo, w_now, w_act, w_rng, w_slo, w_see, w_sa⟩ := wf
  have w_gx := w_glo x
  have w_nx := w_now.1 x
  have w_hw := WF_hw w_now (by omega)
  have w_nx : 0 ≤ x ∧ x < 4 → (0 ≤ M 33 x ∧ M 33 x < 1000) ∧ (M 34 x = -9 ∨ (0 ≤ M 34 x ∧ M 34 x < M 3 6 ∧ x < M 3 7)) ∧ (x < M 3 7 → KOK (M 33 x) (M 7 x)) := w_nx
  have hDK := fun q => WF_dk (x := x) wf0 q
  refine lv_aload_n hx hb dX6_does_0 rfl (lv_at hl 0 rfl) ?_
  refine r_get C hI 0 (by decide) rfl rfl hin6 1 (by decide) (fn := "theDesk") (fd := "LGloveReply$Desk;") (index := 19) (by decide +kernel) ⟨rfl, rfl, rfl⟩ (v := .ref (gA g 3)) rfl dX6_does_1 ?_
  refine lv_iload_n hx hb dX6_does_4 rfl (lv_at hl 1 rfl) ?_
  refine r_iv C hI (As := [.int (iI x)]) (rest := []) (c_X1_hasGlove l g M x (by omega) (show -2147483648 ≤ (M 3 7) ∧ (M 3 7) < 2147483648 from by omega)) (cwV 1 hts gX6_does_X1_hasGlove rfl rfl rfl (by decide +kernel) ⟨Nat.le_of_ble_eq_true rfl, Nat.le_of_ble_eq_true rfl⟩) (by decide) rfl rfl rfl hl.1 rfl (Nat.le_of_ble_eq_true rfl) dX6_does_5 ⟨Nat.zero_le _, Nat.zero_le _⟩ (k_I (fun H locs hI => ?_))
  refine r_b_ne hx hb (tgt := 13) dX6_does_8 (by decide) (fun c_1 => ?_) (fun c_1 => ?_)
  · refine lv_iload_n hx hb dX6_does_13 rfl (lv_at hl 2 rfl) ?_
    refine lv_iconst (v := iI 1) hx hb dX6_does_14 rfl ?_
    refine lv_iconst (v := iI 4) hx hb dX6_does_15 rfl ?_
    refine r_is C hI (As := [.int (iI n), .int (iI 1), .int (iI 4)]) (rest := []) (c_X6_within l g M n 1 4 (by omega) (by omega) (by omega)) (va_cwS 3 hts gX6_does_X6_within rfl rfl rfl (by decide +kernel) ⟨Nat.le_of_ble_eq_true rfl, Nat.le_of_ble_eq_true rfl⟩) rfl hl.1 rfl (Nat.le_of_ble_eq_true rfl) dX6_does_16 ⟨Nat.zero_le _, Nat.zero_le _⟩ (k_I (fun H locs hI => ?_))
    refine r_b_eq hx hb (tgt := 31) dX6_does_19 (by decide) (fun c_2 => ?_) (fun c_2 => ?_)
    · refine lv_bipush (v := iI (-2)) hx hb dX6_does_31 (by decide +kernel) ?_
      refine r_iret C hr hlk hI ?_ dX6_does_33
      exact ⟨congrArg (fun q => some (Value.int (iI q))) (show (-2) = zDoe (M) x n row from by unfold zDoe; (repeat' split) <;> first | rfl | omega | (simp_all; done) | (simp_all; omega)), rfl⟩
    · refine lv_aload_n hx hb dX6_does_22 rfl (lv_at hl 0 rfl) ?_
      refine lv_iload_n hx hb dX6_does_23 rfl (lv_at hl 2 rfl) ?_
      refine lv_iload_n hx hb dX6_does_24 rfl (lv_at hl 3 rfl) ?_
      refine r_iv C hI (As := [.int (iI n), .int (iI row)]) (rest := []) (c_X6_isRow l g M n row (by omega) (by omega) (show -2147483648 ≤ (M 3 6) ∧ (M 3 6) < 2147483648 from by omega)) (cwV 2 hts gX6_does_X6_isRow rfl rfl rfl (by decide +kernel) ⟨Nat.le_of_ble_eq_true rfl, Nat.le_of_ble_eq_true rfl⟩) (by decide) rfl rfl rfl hl.1 rfl (Nat.le_of_ble_eq_true rfl) dX6_does_25 ⟨Nat.zero_le _, Nat.zero_le _⟩ (k_I (fun H locs hI => ?_))
      refine r_b_ne hx hb (tgt := 34) dX6_does_28 (by decide) (fun c_3 => ?_) (fun c_3 => ?_)
      · refine lv_aload_n hx hb dX6_does_34 rfl (lv_at hl 0 rfl) ?_
        refine r_get C hI 0 (by decide) rfl rfl hin6 2 (by decide) (fn := "now") (fd := "LGloveReply$Moment;") (index := 26) (by decide +kernel) ⟨rfl, rfl, rfl⟩ (v := .ref (gA g 32)) rfl dX6_does_35 ?_
        refine lv_iload_n hx hb dX6_does_38 rfl (lv_at hl 1 rfl) ?_
        refine r_iv C hI (As := [.int (iI x)]) (rest := []) (c_X2_isWorn l g M 32 x (by decide) (by omega) (show -2147483648 ≤ (M 34 x) ∧ (M 34 x) < 2147483648 from by omega)) (cwV 1 hts gX6_does_X2_isWorn rfl rfl rfl (by decide +kernel) ⟨Nat.le_of_ble_eq_true rfl, Nat.le_of_ble_eq_true rfl⟩) (by decide) (ceMo (show isMo 32 from by decide) _) rfl rfl hl.1 rfl (Nat.le_of_ble_eq_true rfl) dX6_does_39 ⟨Nat.zero_le _, Nat.zero_le _⟩ (k_I (fun H locs hI => ?_))
        refine r_eqI (z2 := bI (¬ (M 34 x) = -9)) rfl ?_
        refine r_b_eq hx hb (tgt := 48) dX6_does_42 (by decide) (fun c_4 => ?_) (fun c_4 => ?_)
        · have hE := irO_E (P := M 3 6) (n := n.toNat) (r := row) (by assumption)
          have dk := hDK (by omega)
          have hL5 := irD_L hE.1 (by omega) (by omega) hE.2
          refine lv_aload_n hx hb dX6_does_48 rfl (lv_at hl 0 rfl) ?_
          refine lv_iload_n hx hb dX6_does_49 rfl (lv_at hl 1 rfl) ?_
          refine lv_iload_n hx hb dX6_does_50 rfl (lv_at hl 2 rfl) ?_
          refine lv_iload_n hx hb dX6_does_51 rfl (lv_at hl 3 rfl) ?_
          refine r_iv C hI (As := [.int (iI x), .int (iI n), .int (iI row)]) (rest := []) (c_X6_replyToRow l g M x n row (by omega) (show DK (M) x from by assumption) (show 0 ≤ (M 33 x) ∧ (M 33 x) < 1000 from by omega) (by omega) hE.2) (cwV 3 hts gX6_does_X6_replyToRow rfl rfl rfl (by decide +kernel) ⟨Nat.le_of_ble_eq_true rfl, Nat.le_of_ble_eq_true rfl⟩) (by decide) rfl rfl rfl hl.1 rfl (Nat.le_of_ble_eq_true rfl) dX6_does_52 ⟨Nat.zero_le _, Nat.zero_le _⟩ (k_I (fun H locs hI => ?_))
          refine r_iret C hr hlk hI ?_ dX6_does_55
          exact ⟨congrArg (fun q => some (Value.int (iI q))) (show doN (M 4) (M 8 x) (M 7 x) n.toNat row (M 33 x) = zDoe (M) x n row from by unfold zDoe; (repeat' split) <;> first | rfl | omega | (simp_all; done) | (simp_all; omega)), rfl⟩
        · refine lv_bipush (v := iI (-3)) hx hb dX6_does_45 (by decide +kernel) ?_
          refine r_iret C hr hlk hI ?_ dX6_does_47
          exact ⟨congrArg (fun q => some (Value.int (iI q))) (show (-3) = zDoe (M) x n row from by unfold zDoe; (repeat' split) <;> first | rfl | omega | (simp_all; done) | (simp_all; omega)), rfl⟩
      · refine lv_bipush (v := iI (-2)) hx hb dX6_does_31 (by decide +kernel) ?_
        refine r_iret C hr hlk hI ?_ dX6_does_33
        exact ⟨congrArg (fun q => some (Value.int (iI q))) (show (-2) = zDoe (M) x n row from by unfold zDoe; (repeat' split) <;> first | rfl | omega | (simp_all; done) | (simp_all; omega)), rfl⟩
  · refine lv_iconst (v := iI (-1)) hx hb dX6_does_11 rfl ?_
    refine r_iret C hr hlk hI ?_ dX6_does_12
    exact ⟨congrArg (fun q => some (Value.int (iI q))) (show (-1) = zDoe (M) x n row from by unfold zDoe; (repeat' split) <;> first | rfl | omega | (simp_all; done) | (simp_all; omega)), rfl⟩
set_option maxHeartbeats 4000000 in
set_option maxRecDepth 100000 in
theorem c_X6_comes (l : Launch) (g : GT) (M : Mem) (x : Int) (dd : Int) (v : Int) (wf : WF M) (h_x : -2147483648 ≤ x ∧ x < 2147483648) (h_dd : -2147483648 ≤ dd ∧ dd < 2147483648) (h_v : -2147483648 ≤ v ∧ v < 2147483648) : Ctr l g yX6_comes wsX6_comes ({ frames := 15, cells := 0, slots := 0, locals := 359 } : Room) [.ref (gA g 0), .int (iI x), .int (iI dd), .int (iI v)] M (pI (zCom (M) x dd v) M) := by
  refine Ctr.mk (cc := cX6_comes) (maxL := 6) (ret := some .int) (lv := [(0, .ref (gA g 0)), (1, .int (iI x)), (2, .int (iI dd)), (3, .int (iI v))]) (by decide) rfl (Nat.le_of_ble_eq_true rfl) rfl ?_
  intro p e s m below meth c C hr hlk hI ls hl
  have C : CallFix p m c cX6_comes 6 s ([.ref (gA g 0), .int (iI x), .int (iI dd), .int (iI v)] : List Value).toArray wsX6_comes RX6 := C
  have hx := C.1
  have hb := C.2.1
  have hts := C.2.2.2.2
  have hin6 : ∀ w ∈ u_ws RX6 TX6 9, w ∈ wsX6_comes := by decide +kernel
  have wf0 := wf
  obtain ⟨w_txt, hL, w_cnt, w_per, w_glo, w_now, w_act, w_rng, w_slo, w_see, w_sa⟩ := wf
  have w_gx := w_glo x
  have w_nx := w_now.1 x
  have w_hw := WF_hw w_now (by omega)
  have w_nx : 0 ≤ x ∧ x < 4 → (0 ≤ M 33 x ∧ M 33 x < 1000) ∧ (M 34 x = -9 ∨ (0 ≤ M 34 x ∧ M 34 x < M 3 6 ∧ x < M 3 7)) ∧ (x < M 3 7 → KOK (M 33 x) (M 7 x)) := w_nx
  have hDK := fun q => WF_dk (x := x) wf0 q
  refine lv_aload_n hx hb dX6_comes_0 rfl (lv_at hl 0 rfl) ?_
  refine r_get C hI 0 (by decide) rfl rfl hin6 1 (by decide) (fn := "theDesk") (fd := "LGloveReply$Desk;") (index := 19) (by decide +kernel) ⟨rfl, rfl, rfl⟩ (v := .ref (gA g 3)) rfl dX6_comes_1 ?_
  refine lv_iload_n hx hb dX6_comes_4 rfl (lv_at hl 1 rfl) ?_
  refine r_iv C hI (As := [.int (iI x)]) (rest := []) (c_X1_hasGlove l g M x (by omega) (show -2147483648 ≤ (M 3 7) ∧ (M 3 7) < 2147483648 from by omega)) (cwV 1 hts gX6_comes_X1_hasGlove rfl rfl rfl (by decide +kernel) ⟨Nat.le_of_ble_eq_true rfl, Nat.le_of_ble_eq_true rfl⟩) (by decide) rfl rfl rfl hl.1 rfl (Nat.le_of_ble_eq_true rfl) dX6_comes_5 ⟨Nat.zero_le _, Nat.zero_le _⟩ (k_I (fun H locs hI => ?_))
  refine r_b_ne hx hb (tgt := 13) dX6_comes_8 (by decide) (fun c_1 => ?_) (fun c_1 => ?_)
  · refine lv_iload_n hx hb dX6_comes_13 rfl (lv_at hl 2 rfl) ?_
    refine lv_iconst (v := iI 1) hx hb dX6_comes_14 rfl ?_
    refine lv_bipush (v := iI 7) hx hb dX6_comes_15 (by decide +kernel) ?_
    refine r_is C hI (As := [.int (iI dd), .int (iI 1), .int (iI 7)]) (rest := []) (c_X6_within l g M dd 1 7 (by omega) (by omega) (by omega)) (va_cwS 3 hts gX6_comes_X6_within rfl rfl rfl (by decide +kernel) ⟨Nat.le_of_ble_eq_true rfl, Nat.le_of_ble_eq_true rfl⟩) rfl hl.1 rfl (Nat.le_of_ble_eq_true rfl) dX6_comes_17 ⟨Nat.zero_le _, Nat.zero_le _⟩ (k_I (fun H locs hI => ?_))
    refine r_b_eq hx hb (tgt := 30) dX6_comes_20 (by decide) (fun c_2 => ?_) (fun c_2 => ?_)
    · refine lv_bipush (v := iI (-2)) hx hb dX6_comes_30 (by decide +kernel) ?_
      refine r_iret C hr hlk hI ?_ dX6_comes_32
      exact ⟨congrArg (fun q => some (Value.int (iI q))) (show (-2) = zCom (M) x dd v from by unfold zCom; (repeat' split) <;> first | rfl | omega | (simp_all; done) | (simp_all; omega)), rfl⟩
    · refine lv_iload_n hx hb dX6_comes_23 rfl (lv_at hl 3 rfl) ?_
      refine r_is C hI (As := [.int (iI v)]) (rest := []) (c_X6_isChoice l g M v (by omega)) (va_cwS 1 hts gX6_comes_X6_isChoice rfl rfl rfl (by decide +kernel) ⟨Nat.le_of_ble_eq_true rfl, Nat.le_of_ble_eq_true rfl⟩) rfl hl.1 rfl (Nat.le_of_ble_eq_true rfl) dX6_comes_24 ⟨Nat.zero_le _, Nat.zero_le _⟩ (k_I (fun H locs hI => ?_))
      refine r_b_ne hx hb (tgt := 33) dX6_comes_27 (by decide) (fun c_3 => ?_) (fun c_3 => ?_)
      · refine lv_aload_n hx hb dX6_comes_33 rfl (lv_at hl 0 rfl) ?_
        refine r_get C hI 0 (by decide) rfl rfl hin6 2 (by decide) (fn := "now") (fd := "LGloveReply$Moment;") (index := 26) (by decide +kernel) ⟨rfl, rfl, rfl⟩ (v := .ref (gA g 32)) rfl dX6_comes_34 ?_
        refine lv_iload_n hx hb dX6_comes_37 rfl (lv_at hl 1 rfl) ?_
        refine r_iv C hI (As := [.int (iI x)]) (rest := []) (c_X2_isWorn l g M 32 x (by decide) (by omega) (show -2147483648 ≤ (M 34 x) ∧ (M 34 x) < 2147483648 from by omega)) (cwV 1 hts gX6_comes_X2_isWorn rfl rfl rfl (by decide +kernel) ⟨Nat.le_of_ble_eq_true rfl, Nat.le_of_ble_eq_true rfl⟩) (by decide) (ceMo (show isMo 32 from by decide) _) rfl rfl hl.1 rfl (Nat.le_of_ble_eq_true rfl) dX6_comes_38 ⟨Nat.zero_le _, Nat.zero_le _⟩ (k_I (fun H locs hI => ?_))
        refine r_eqI (z2 := bI (¬ (M 34 x) = -9)) rfl ?_
        refine r_b_eq hx hb (tgt := 47) dX6_comes_41 (by decide) (fun c_4 => ?_) (fun c_4 => ?_)
        · have dk := hDK (by omega)
          refine lv_iconst (v := iI 1) hx hb dX6_comes_47 rfl ?_
          refine lv_istore (lv' := [(4, .int (iI 1)), (0, .ref (gA g 0)), (1, .int (iI x)), (2, .int (iI dd)), (3, .int (iI v))]) hx hb dX6_comes_48 hl (by decide) rfl (fun ls hl => ?_)
          have lp50 : ∀ (n50 : Nat) (hh : Int) (jj : Nat), (1 ≤ hh ∧ hh + (jj : Int) = 5) → (cmN (M 4) (M 3 6) (M 8 x) (M 7 x) dd (M 33 x) v jj hh = cmN (M 4) (M 3 6) (M 8 x) (M 7 x) dd (M 33 x) v 4 1) → jj < n50 → ∀ (H : Heap) (locs : List Loc), HI g s H locs M → ∀ ls : Array Slot, lv_has ls 6 [(4, .int (iI hh)), (0, .ref (gA g 0)), (1, .int (iI x)), (2, .int (iI dd)), (3, .int (iI v))] → W p l e ({ frames := 15, cells := 0, slots := 0, locals := 359 } : Room) s m ([.ref (gA g 0), .int (iI x), .int (iI dd), .int (iI v)] : List Value).toArray below meth c H locs 0 0 (MQ below (QV g (pI (zCom (M) x dd v) M)) ([.ref (gA g 0), .int (iI x), .int (iI dd), .int (iI v)] : List Value).toArray s 0 0 (AA g)) (F0 m 50 ls []) := by
            intro n50
            induction n50 with
            | zero => intro hh jj h1 h2 hn50; exact absurd hn50 (Nat.not_lt_zero _)
            | succ n50 ih50 =>
              intro hh jj h1 h2 hn50 H locs hI ls hl
              refine lv_iload hx hb dX6_comes_50 (lv_at hl 0 rfl) ?_
              refine lv_iconst (v := iI 4) hx hb dX6_comes_52 rfl ?_
              refine r_icmp_gt hx hb (tgt := 103) (by omega) (by decide) dX6_comes_53 (by decide) (fun c_5 => ?_) (fun c_5 => ?_)
              · refine lv_bipush (v := iI (-9)) hx hb dX6_comes_103 (by decide +kernel) ?_
                refine r_iret C hr hlk hI ?_ dX6_comes_105
                exact ⟨congrArg (fun q => some (Value.int (iI q))) (show (-9) = zCom (M) x dd v from by unfold zCom; (have : jj = 0 := by omega); subst this; rw [if_neg (by omega), if_neg (by omega), if_neg (by omega), ← h2]; rfl), rfl⟩
              · refine lv_aload_n hx hb dX6_comes_56 rfl (lv_at hl 1 rfl) ?_
                refine r_get C hI 0 (by decide) rfl rfl hin6 1 (by decide) (fn := "theDesk") (fd := "LGloveReply$Desk;") (index := 19) (by decide +kernel) ⟨rfl, rfl, rfl⟩ (v := .ref (gA g 3)) rfl dX6_comes_57 ?_
                refine lv_iload_n hx hb dX6_comes_60 rfl (lv_at hl 2 rfl) ?_
                refine lv_aload_n hx hb dX6_comes_61 rfl (lv_at hl 1 rfl) ?_
                refine r_get C hI 0 (by decide) rfl rfl hin6 2 (by decide) (fn := "now") (fd := "LGloveReply$Moment;") (index := 26) (by decide +kernel) ⟨rfl, rfl, rfl⟩ (v := .ref (gA g 32)) rfl dX6_comes_62 ?_
                refine lv_iload_n hx hb dX6_comes_65 rfl (lv_at hl 2 rfl) ?_
                refine r_iv C hI (As := [.int (iI x)]) (rest := [.int (iI x), .ref (gA g 3)]) (c_X2_keptBy l g M 32 x (by decide) (by omega)) (cwV 1 hts gX6_comes_X2_keptBy rfl rfl rfl (by decide +kernel) ⟨Nat.le_of_ble_eq_true rfl, Nat.le_of_ble_eq_true rfl⟩) (by decide) (ceMo (show isMo 32 from by decide) _) rfl rfl hl.1 rfl (Nat.le_of_ble_eq_true rfl) dX6_comes_66 ⟨Nat.zero_le _, Nat.zero_le _⟩ (k_I (fun H locs hI => ?_))
                refine r_eqI (z2 := M 33 x) rfl ?_
                refine lv_iload_n hx hb dX6_comes_69 rfl (lv_at hl 3 rfl) ?_
                refine lv_iconst (v := iI 0) hx hb dX6_comes_70 rfl ?_
                refine lv_iload hx hb dX6_comes_71 (lv_at hl 0 rfl) ?_
                refine r_is C hI (As := [.ref (gA g 3), .int (iI x), .int (iI (M 33 x)), .int (iI dd), .int (iI 0), .int (iI hh)]) (rest := []) (c_X6_firstRowI l g M x (M 33 x) dd hh (show DK (M) x from by assumption) (by omega) (by omega) (by omega)) (va_cwS 6 hts gX6_comes_X6_firstRow rfl rfl rfl (by decide +kernel) ⟨by simp only [rmF]; omega, by simp only [rmF]; omega⟩) rfl hl.1 rfl (Nat.le_of_ble_eq_true rfl) dX6_comes_73 ⟨Nat.zero_le _, Nat.zero_le _⟩ (k_I (fun H locs hI => ?_))
                have ff_1 := frO_b (M 4) (M 3 6) (M 8 x) (M 7 x) dd dk.1 hh.toNat (M 33 x) 0 (by decide) (ten4 (by omega))
                refine lv_istore (lv' := [(5, .int (iI (frO (M 4) (M 3 6) (M 8 x) (M 7 x) dd hh.toNat (M 33 x) 0))), (4, .int (iI hh)), (0, .ref (gA g 0)), (1, .int (iI x)), (2, .int (iI dd)), (3, .int (iI v))]) hx hb dX6_comes_76 hl (by decide) rfl (fun ls hl => ?_)
                refine lv_iload hx hb dX6_comes_78 (lv_at hl 0 rfl) ?_
                refine lv_bipush (v := iI (-9)) hx hb dX6_comes_80 (by decide +kernel) ?_
                refine r_icmp_eq hx hb (tgt := 97) (by omega) (by decide) dX6_comes_82 (by decide) (fun c_6 => ?_) (fun c_6 => ?_)
                · refine lv_iinc (v := iI (hh + 1)) (lv' := [(4, .int (iI (hh + 1))), (5, .int (iI (frO (M 4) (M 3 6) (M 8 x) (M 7 x) dd hh.toNat (M 33 x) 0))), (0, .ref (gA g 0)), (1, .int (iI x)), (2, .int (iI dd)), (3, .int (iI v))]) hx hb dX6_comes_97 hl (k := 1) rfl (iI_add _ _) (by decide) rfl (fun ls hl => ?_)
                  refine lv_goto (tgt := 50) hx hb dX6_comes_100 (by decide) ?_
                  exact ih50 (hh + 1) (jj - 1) (by omega) (by (obtain ⟨i0, hi0⟩ : ∃ i0, jj = i0 + 1 := ⟨jj - 1, by omega⟩); subst hi0; simp only [cmN] at h2; rw [if_pos (by assumption)] at h2; exact h2) (by omega) _ _ hI ls (lv_sub hl [0, 2, 3, 4, 5] rfl)
                · refine lv_iload_n hx hb dX6_comes_85 rfl (lv_at hl 5 rfl) ?_
                  refine r_if_ne hx hb (tgt := 94) (by omega) dX6_comes_86 (by decide) (fun c_7 => ?_) (fun c_7 => ?_)
                  · refine lv_iload hx hb dX6_comes_94 (lv_at hl 0 rfl) ?_
                    refine r_iret C hr hlk hI ?_ dX6_comes_96
                    exact ⟨congrArg (fun q => some (Value.int (iI q))) (show frO (M 4) (M 3 6) (M 8 x) (M 7 x) dd hh.toNat (M 33 x) 0 = zCom (M) x dd v from by unfold zCom; (obtain ⟨i0, hi0⟩ : ∃ i0, jj = i0 + 1 := ⟨jj - 1, by omega⟩); subst hi0; rw [if_neg (by omega), if_neg (by omega), if_neg (by omega), ← h2]; simp only [cmN]; rw [if_neg (by assumption)]; first | rw [if_pos (by assumption)] | rw [if_neg (by assumption)]), rfl⟩
                  · refine lv_iload hx hb dX6_comes_89 (lv_at hl 1 rfl) ?_
                    refine lv_goto (tgt := 96) hx hb dX6_comes_91 (by decide) ?_
                    refine r_iret C hr hlk hI ?_ dX6_comes_96
                    exact ⟨congrArg (fun q => some (Value.int (iI q))) (show hh = zCom (M) x dd v from by unfold zCom; (obtain ⟨i0, hi0⟩ : ∃ i0, jj = i0 + 1 := ⟨jj - 1, by omega⟩); subst hi0; rw [if_neg (by omega), if_neg (by omega), if_neg (by omega), ← h2]; simp only [cmN]; rw [if_neg (by assumption)]; first | rw [if_pos (by assumption)] | rw [if_neg (by assumption)]), rfl⟩
          exact lp50 _ 1 4 (by omega) (by rfl) (Nat.lt_succ_self _) _ _ hI ls (lv_sub hl [0, 1, 2, 3, 4] rfl)
        · refine lv_bipush (v := iI (-3)) hx hb dX6_comes_44 (by decide +kernel) ?_
          refine r_iret C hr hlk hI ?_ dX6_comes_46
          exact ⟨congrArg (fun q => some (Value.int (iI q))) (show (-3) = zCom (M) x dd v from by unfold zCom; (repeat' split) <;> first | rfl | omega | (simp_all; done) | (simp_all; omega)), rfl⟩
      · refine lv_bipush (v := iI (-2)) hx hb dX6_comes_30 (by decide +kernel) ?_
        refine r_iret C hr hlk hI ?_ dX6_comes_32
        exact ⟨congrArg (fun q => some (Value.int (iI q))) (show (-2) = zCom (M) x dd v from by unfold zCom; (repeat' split) <;> first | rfl | omega | (simp_all; done) | (simp_all; omega)), rfl⟩
  · refine lv_iconst (v := iI (-1)) hx hb dX6_comes_11 rfl ?_
    refine r_iret C hr hlk hI ?_ dX6_comes_12
    exact ⟨congrArg (fun q => some (Value.int (iI q))) (show (-1) = zCom (M) x dd v from by unfold zCom; (repeat' split) <;> first | rfl | omega | (simp_all; done) | (simp_all; omega)), rfl⟩
set_option maxHeartbeats 4000000 in
set_option maxRecDepth 100000 in
theorem c_X6_rounds (l : Launch) (g : GT) (M : Mem) (x : Int) (v : Int) (wf : WF M) (h_x : -2147483648 ≤ x ∧ x < 2147483648) (h_v : -2147483648 ≤ v ∧ v < 2147483648) : Ctr l g yX6_rounds wsX6_rounds ({ frames := 17, cells := 0, slots := 0, locals := 429 } : Room) [.ref (gA g 0), .int (iI x), .int (iI v)] M (pE (fun z u => z = zRou M x v ∧ ∀ c : Nat, c ≠ 14 → u c = M c)) := by
  refine Ctr.mk (cc := cX6_rounds) (maxL := 3) (ret := some .int) (lv := [(0, .ref (gA g 0)), (1, .int (iI x)), (2, .int (iI v))]) (by decide) rfl (Nat.le_of_ble_eq_true rfl) rfl ?_
  intro p e s m below meth c C hr hlk hI ls hl
  have C : CallFix p m c cX6_rounds 3 s ([.ref (gA g 0), .int (iI x), .int (iI v)] : List Value).toArray wsX6_rounds RX6 := C
  have hx := C.1
  have hb := C.2.1
  have hts := C.2.2.2.2
  have hin6 : ∀ w ∈ u_ws RX6 TX6 9, w ∈ wsX6_rounds := by decide +kernel
  have wf0 := wf
  obtain ⟨w_txt, hL, w_cnt, w_per, w_glo, w_now, w_act, w_rng, w_slo, w_see, w_sa⟩ := wf
  have w_gx := w_glo x
  have w_nx := w_now.1 x
  have w_hw := WF_hw w_now (by omega)
  have w_nx : 0 ≤ x ∧ x < 4 → (0 ≤ M 33 x ∧ M 33 x < 1000) ∧ (M 34 x = -9 ∨ (0 ≤ M 34 x ∧ M 34 x < M 3 6 ∧ x < M 3 7)) ∧ (x < M 3 7 → KOK (M 33 x) (M 7 x)) := w_nx
  have hDK := fun q => WF_dk (x := x) wf0 q
  refine lv_aload_n hx hb dX6_rounds_0 rfl (lv_at hl 0 rfl) ?_
  refine r_get C hI 0 (by decide) rfl rfl hin6 1 (by decide) (fn := "theDesk") (fd := "LGloveReply$Desk;") (index := 19) (by decide +kernel) ⟨rfl, rfl, rfl⟩ (v := .ref (gA g 3)) rfl dX6_rounds_1 ?_
  refine lv_iload_n hx hb dX6_rounds_4 rfl (lv_at hl 1 rfl) ?_
  refine r_iv C hI (As := [.int (iI x)]) (rest := []) (c_X1_hasGlove l g M x (by omega) (show -2147483648 ≤ (M 3 7) ∧ (M 3 7) < 2147483648 from by omega)) (cwV 1 hts gX6_rounds_X1_hasGlove rfl rfl rfl (by decide +kernel) ⟨Nat.le_of_ble_eq_true rfl, Nat.le_of_ble_eq_true rfl⟩) (by decide) rfl rfl rfl hl.1 rfl (Nat.le_of_ble_eq_true rfl) dX6_rounds_5 ⟨Nat.zero_le _, Nat.zero_le _⟩ (k_I (fun H locs hI => ?_))
  refine r_b_ne hx hb (tgt := 13) dX6_rounds_8 (by decide) (fun c_1 => ?_) (fun c_1 => ?_)
  · refine lv_iload_n hx hb dX6_rounds_13 rfl (lv_at hl 2 rfl) ?_
    refine r_is C hI (As := [.int (iI v)]) (rest := []) (c_X6_isChoice l g M v (by omega)) (va_cwS 1 hts gX6_rounds_X6_isChoice rfl rfl rfl (by decide +kernel) ⟨Nat.le_of_ble_eq_true rfl, Nat.le_of_ble_eq_true rfl⟩) rfl hl.1 rfl (Nat.le_of_ble_eq_true rfl) dX6_rounds_14 ⟨Nat.zero_le _, Nat.zero_le _⟩ (k_I (fun H locs hI => ?_))
    refine r_b_ne hx hb (tgt := 23) dX6_rounds_17 (by decide) (fun c_2 => ?_) (fun c_2 => ?_)
    · refine lv_aload_n hx hb dX6_rounds_23 rfl (lv_at hl 0 rfl) ?_
      refine r_get C hI 0 (by decide) rfl rfl hin6 2 (by decide) (fn := "now") (fd := "LGloveReply$Moment;") (index := 26) (by decide +kernel) ⟨rfl, rfl, rfl⟩ (v := .ref (gA g 32)) rfl dX6_rounds_24 ?_
      refine lv_iload_n hx hb dX6_rounds_27 rfl (lv_at hl 1 rfl) ?_
      refine r_iv C hI (As := [.int (iI x)]) (rest := []) (c_X2_isWorn l g M 32 x (by decide) (by omega) (show -2147483648 ≤ (M 34 x) ∧ (M 34 x) < 2147483648 from by omega)) (cwV 1 hts gX6_rounds_X2_isWorn rfl rfl rfl (by decide +kernel) ⟨Nat.le_of_ble_eq_true rfl, Nat.le_of_ble_eq_true rfl⟩) (by decide) (ceMo (show isMo 32 from by decide) _) rfl rfl hl.1 rfl (Nat.le_of_ble_eq_true rfl) dX6_rounds_28 ⟨Nat.zero_le _, Nat.zero_le _⟩ (k_I (fun H locs hI => ?_))
      refine r_eqI (z2 := bI (¬ (M 34 x) = -9)) rfl ?_
      refine r_b_eq hx hb (tgt := 37) dX6_rounds_31 (by decide) (fun c_3 => ?_) (fun c_3 => ?_)
      · have dk := hDK (by omega)
        have dkS : DK (tS M) x := dk
        refine lv_aload_n hx hb dX6_rounds_37 rfl (lv_at hl 0 rfl) ?_
        refine r_get C hI 0 (by decide) rfl rfl hin6 6 (by decide) (fn := "tally") (fd := "LGloveReply$Tally;") (index := 50) (by decide +kernel) ⟨rfl, rfl, rfl⟩ (v := .ref (gA g 14)) rfl dX6_rounds_38 ?_
        refine r_iv C hI (As := []) (rest := []) (c_X4_start l g M) (cwV 0 hts gX6_rounds_X4_start rfl rfl rfl (by decide +kernel) ⟨Nat.le_of_ble_eq_true rfl, Nat.le_of_ble_eq_true rfl⟩) (by decide) rfl rfl rfl hl.1 rfl (Nat.le_of_ble_eq_true rfl) dX6_rounds_41 ⟨Nat.zero_le _, Nat.zero_le _⟩ (k_V (fun H locs hI => ?_))
        refine lv_aload_n hx hb dX6_rounds_44 rfl (lv_at hl 0 rfl) ?_
        refine r_get C hI 0 (by decide) rfl rfl hin6 1 (by decide) (fn := "theDesk") (fd := "LGloveReply$Desk;") (index := 19) (by decide +kernel) ⟨rfl, rfl, rfl⟩ (v := .ref (gA g 3)) rfl dX6_rounds_45 ?_
        refine lv_aload_n hx hb dX6_rounds_48 rfl (lv_at hl 0 rfl) ?_
        refine r_get C hI 0 (by decide) rfl rfl hin6 6 (by decide) (fn := "tally") (fd := "LGloveReply$Tally;") (index := 50) (by decide +kernel) ⟨rfl, rfl, rfl⟩ (v := .ref (gA g 14)) rfl dX6_rounds_49 ?_
        refine lv_iload_n hx hb dX6_rounds_52 rfl (lv_at hl 1 rfl) ?_
        refine lv_aload_n hx hb dX6_rounds_53 rfl (lv_at hl 0 rfl) ?_
        refine r_get C hI 0 (by decide) rfl rfl hin6 2 (by decide) (fn := "now") (fd := "LGloveReply$Moment;") (index := 26) (by decide +kernel) ⟨rfl, rfl, rfl⟩ (v := .ref (gA g 32)) rfl dX6_rounds_54 ?_
        refine lv_iload_n hx hb dX6_rounds_57 rfl (lv_at hl 1 rfl) ?_
        refine r_iv C hI (As := [.int (iI x)]) (rest := [.int (iI x), .ref (gA g 14), .ref (gA g 3)]) (c_X2_keptBy l g (mset (mset M 14 0 0) 14 1 (-9)) 32 x (by decide) (by omega)) (cwV 1 hts gX6_rounds_X2_keptBy rfl rfl rfl (by decide +kernel) ⟨Nat.le_of_ble_eq_true rfl, Nat.le_of_ble_eq_true rfl⟩) (by decide) (ceMo (show isMo 32 from by decide) _) rfl rfl hl.1 rfl (Nat.le_of_ble_eq_true rfl) dX6_rounds_58 ⟨Nat.zero_le _, Nat.zero_le _⟩ (k_I (fun H locs hI => ?_))
        refine r_eqI (z2 := M 33 x) rfl ?_
        refine lv_iconst (v := iI (-1)) hx hb dX6_rounds_61 rfl ?_
        refine lv_iconst (v := iI 0) hx hb dX6_rounds_62 rfl ?_
        refine lv_aload_n hx hb dX6_rounds_63 rfl (lv_at hl 0 rfl) ?_
        refine r_get C hI 0 (by decide) rfl rfl hin6 1 (by decide) (fn := "theDesk") (fd := "LGloveReply$Desk;") (index := 19) (by decide +kernel) ⟨rfl, rfl, rfl⟩ (v := .ref (gA g 3)) rfl dX6_rounds_64 ?_
        refine r_iv C hI (As := []) (rest := [.int (iI 0), .int (iI (-1)), .int (iI (M 33 x)), .int (iI x), .ref (gA g 14), .ref (gA g 3)]) (c_X1_people l g (mset (mset M 14 0 0) 14 1 (-9))) (cwV 0 hts gX6_rounds_X1_people rfl rfl rfl (by decide +kernel) ⟨Nat.le_of_ble_eq_true rfl, Nat.le_of_ble_eq_true rfl⟩) (by decide) rfl rfl rfl hl.1 rfl (Nat.le_of_ble_eq_true rfl) dX6_rounds_67 ⟨Nat.zero_le _, Nat.zero_le _⟩ (k_I (fun H locs hI => ?_))
        refine r_eqI (z2 := M 3 6) rfl ?_
        refine r_is C hI (As := [.ref (gA g 3), .ref (gA g 14), .int (iI x), .int (iI (M 33 x)), .int (iI (-1)), .int (iI 0), .int (iI (M 3 6))]) (rest := []) (c_X6_tallyRoundsI l g (mset (mset M 14 0 0) 14 1 (-9)) x (M 33 x) (-1) (M 3 6) dkS (by omega) (by omega) (by omega) (show 0 = 0 from by rfl)) (va_cwS 7 hts gX6_rounds_X6_tallyRounds rfl rfl rfl (by decide +kernel) ⟨by simp only [rmF]; omega, by simp only [rmF]; omega⟩) rfl hl.1 rfl (Nat.le_of_ble_eq_true rfl) dX6_rounds_70 ⟨Nat.zero_le _, Nat.zero_le _⟩ (k_V (fun H locs hI => ?_))
        refine lv_aload_n hx hb dX6_rounds_73 rfl (lv_at hl 0 rfl) ?_
        refine r_get C hI 0 (by decide) rfl rfl hin6 6 (by decide) (fn := "tally") (fd := "LGloveReply$Tally;") (index := 50) (by decide +kernel) ⟨rfl, rfl, rfl⟩ (v := .ref (gA g 14)) rfl dX6_rounds_74 ?_
        refine lv_iload_n hx hb dX6_rounds_77 rfl (lv_at hl 2 rfl) ?_
        refine r_iv C hI (As := [.int (iI v)]) (rest := []) (c_X4_told l g (tAdds (mset (mset M 14 0 0) 14 1 (-9)) (rlO ((mset (mset M 14 0 0) 14 1 (-9)) 4) ((mset (mset M 14 0 0) 14 1 (-9)) 3 6) ((mset (mset M 14 0 0) 14 1 (-9)) 8 x) ((mset (mset M 14 0 0) 14 1 (-9)) 7 x) (M 3 6).toNat (M 33 x) (-1) 0)) v (by omega)) (cwV 1 hts gX6_rounds_X4_told rfl rfl rfl (by decide +kernel) ⟨Nat.le_of_ble_eq_true rfl, Nat.le_of_ble_eq_true rfl⟩) (by decide) rfl rfl rfl hl.1 rfl (Nat.le_of_ble_eq_true rfl) dX6_rounds_78 ⟨Nat.zero_le _, Nat.zero_le _⟩ (k_I (fun H locs hI => ?_))
        refine r_iret C hr hlk hI ?_ dX6_rounds_81
        exact ⟨_, rfl, by refine ⟨(tS_w M _ v).trans ?_, fun c hc => tS_n M _ hc⟩; unfold zRou; rw [if_neg (by omega), if_neg (by omega), if_neg (by omega)]; try rfl⟩
      · refine lv_bipush (v := iI (-3)) hx hb dX6_rounds_34 (by decide +kernel) ?_
        refine r_iret C hr hlk hI ?_ dX6_rounds_36
        exact ⟨_, rfl, by refine ⟨?_, fun _ _ => rfl⟩; unfold zRou; (repeat' split) <;> first | rfl | omega | (simp_all; done) | (simp_all; omega)⟩
    · refine lv_bipush (v := iI (-2)) hx hb dX6_rounds_20 (by decide +kernel) ?_
      refine r_iret C hr hlk hI ?_ dX6_rounds_22
      exact ⟨_, rfl, by refine ⟨?_, fun _ _ => rfl⟩; unfold zRou; (repeat' split) <;> first | rfl | omega | (simp_all; done) | (simp_all; omega)⟩
  · refine lv_iconst (v := iI (-1)) hx hb dX6_rounds_11 rfl ?_
    refine r_iret C hr hlk hI ?_ dX6_rounds_12
    exact ⟨_, rfl, by refine ⟨?_, fun _ _ => rfl⟩; unfold zRou; (repeat' split) <;> first | rfl | omega | (simp_all; done) | (simp_all; omega)⟩
set_option maxHeartbeats 4000000 in
set_option maxRecDepth 100000 in
theorem c_X6_wore (l : Launch) (g : GT) (M : Mem) (x : Int) (v : Int) (wf : WF M) (h_x : -2147483648 ≤ x ∧ x < 2147483648) (h_v : -2147483648 ≤ v ∧ v < 2147483648) : Ctr l g yX6_wore wsX6_wore ({ frames := 17, cells := 0, slots := 0, locals := 431 } : Room) [.ref (gA g 0), .int (iI x), .int (iI v)] M (pE (fun z u => z = zWor M x v ∧ ∀ c : Nat, c ≠ 14 → u c = M c)) := by
  refine Ctr.mk (cc := cX6_wore) (maxL := 3) (ret := some .int) (lv := [(0, .ref (gA g 0)), (1, .int (iI x)), (2, .int (iI v))]) (by decide) rfl (Nat.le_of_ble_eq_true rfl) rfl ?_
  intro p e s m below meth c C hr hlk hI ls hl
  have C : CallFix p m c cX6_wore 3 s ([.ref (gA g 0), .int (iI x), .int (iI v)] : List Value).toArray wsX6_wore RX6 := C
  have hx := C.1
  have hb := C.2.1
  have hts := C.2.2.2.2
  have hin6 : ∀ w ∈ u_ws RX6 TX6 9, w ∈ wsX6_wore := by decide +kernel
  have wf0 := wf
  obtain ⟨w_txt, hL, w_cnt, w_per, w_glo, w_now, w_act, w_rng, w_slo, w_see, w_sa⟩ := wf
  have w_gx := w_glo x
  have w_nx := w_now.1 x
  have w_hw := WF_hw w_now (by omega)
  have w_nx : 0 ≤ x ∧ x < 4 → (0 ≤ M 33 x ∧ M 33 x < 1000) ∧ (M 34 x = -9 ∨ (0 ≤ M 34 x ∧ M 34 x < M 3 6 ∧ x < M 3 7)) ∧ (x < M 3 7 → KOK (M 33 x) (M 7 x)) := w_nx
  have hDK := fun q => WF_dk (x := x) wf0 q
  refine lv_aload_n hx hb dX6_wore_0 rfl (lv_at hl 0 rfl) ?_
  refine r_get C hI 0 (by decide) rfl rfl hin6 1 (by decide) (fn := "theDesk") (fd := "LGloveReply$Desk;") (index := 19) (by decide +kernel) ⟨rfl, rfl, rfl⟩ (v := .ref (gA g 3)) rfl dX6_wore_1 ?_
  refine lv_iload_n hx hb dX6_wore_4 rfl (lv_at hl 1 rfl) ?_
  refine r_iv C hI (As := [.int (iI x)]) (rest := []) (c_X1_hasGlove l g M x (by omega) (show -2147483648 ≤ (M 3 7) ∧ (M 3 7) < 2147483648 from by omega)) (cwV 1 hts gX6_wore_X1_hasGlove rfl rfl rfl (by decide +kernel) ⟨Nat.le_of_ble_eq_true rfl, Nat.le_of_ble_eq_true rfl⟩) (by decide) rfl rfl rfl hl.1 rfl (Nat.le_of_ble_eq_true rfl) dX6_wore_5 ⟨Nat.zero_le _, Nat.zero_le _⟩ (k_I (fun H locs hI => ?_))
  refine r_b_ne hx hb (tgt := 13) dX6_wore_8 (by decide) (fun c_1 => ?_) (fun c_1 => ?_)
  · refine lv_iload_n hx hb dX6_wore_13 rfl (lv_at hl 2 rfl) ?_
    refine r_is C hI (As := [.int (iI v)]) (rest := []) (c_X6_isChoice l g M v (by omega)) (va_cwS 1 hts gX6_wore_X6_isChoice rfl rfl rfl (by decide +kernel) ⟨Nat.le_of_ble_eq_true rfl, Nat.le_of_ble_eq_true rfl⟩) rfl hl.1 rfl (Nat.le_of_ble_eq_true rfl) dX6_wore_14 ⟨Nat.zero_le _, Nat.zero_le _⟩ (k_I (fun H locs hI => ?_))
    refine r_b_ne hx hb (tgt := 23) dX6_wore_17 (by decide) (fun c_2 => ?_) (fun c_2 => ?_)
    · refine lv_aload_n hx hb dX6_wore_23 rfl (lv_at hl 0 rfl) ?_
      refine r_get C hI 0 (by decide) rfl rfl hin6 2 (by decide) (fn := "now") (fd := "LGloveReply$Moment;") (index := 26) (by decide +kernel) ⟨rfl, rfl, rfl⟩ (v := .ref (gA g 32)) rfl dX6_wore_24 ?_
      refine lv_iload_n hx hb dX6_wore_27 rfl (lv_at hl 1 rfl) ?_
      refine r_iv C hI (As := [.int (iI x)]) (rest := []) (c_X2_isWorn l g M 32 x (by decide) (by omega) (show -2147483648 ≤ (M 34 x) ∧ (M 34 x) < 2147483648 from by omega)) (cwV 1 hts gX6_wore_X2_isWorn rfl rfl rfl (by decide +kernel) ⟨Nat.le_of_ble_eq_true rfl, Nat.le_of_ble_eq_true rfl⟩) (by decide) (ceMo (show isMo 32 from by decide) _) rfl rfl hl.1 rfl (Nat.le_of_ble_eq_true rfl) dX6_wore_28 ⟨Nat.zero_le _, Nat.zero_le _⟩ (k_I (fun H locs hI => ?_))
      refine r_eqI (z2 := bI (¬ (M 34 x) = -9)) rfl ?_
      refine r_b_eq hx hb (tgt := 37) dX6_wore_31 (by decide) (fun c_3 => ?_) (fun c_3 => ?_)
      · have dk := hDK (by omega)
        have dkS : DK (tS M) x := dk
        refine lv_aload_n hx hb dX6_wore_37 rfl (lv_at hl 0 rfl) ?_
        refine r_get C hI 0 (by decide) rfl rfl hin6 6 (by decide) (fn := "tally") (fd := "LGloveReply$Tally;") (index := 50) (by decide +kernel) ⟨rfl, rfl, rfl⟩ (v := .ref (gA g 14)) rfl dX6_wore_38 ?_
        refine r_iv C hI (As := []) (rest := []) (c_X4_start l g M) (cwV 0 hts gX6_wore_X4_start rfl rfl rfl (by decide +kernel) ⟨Nat.le_of_ble_eq_true rfl, Nat.le_of_ble_eq_true rfl⟩) (by decide) rfl rfl rfl hl.1 rfl (Nat.le_of_ble_eq_true rfl) dX6_wore_41 ⟨Nat.zero_le _, Nat.zero_le _⟩ (k_V (fun H locs hI => ?_))
        refine lv_aload_n hx hb dX6_wore_44 rfl (lv_at hl 0 rfl) ?_
        refine r_get C hI 0 (by decide) rfl rfl hin6 1 (by decide) (fn := "theDesk") (fd := "LGloveReply$Desk;") (index := 19) (by decide +kernel) ⟨rfl, rfl, rfl⟩ (v := .ref (gA g 3)) rfl dX6_wore_45 ?_
        refine lv_aload_n hx hb dX6_wore_48 rfl (lv_at hl 0 rfl) ?_
        refine r_get C hI 0 (by decide) rfl rfl hin6 5 (by decide) (fn := "sightings") (fd := "LGloveReply$Sightings;") (index := 43) (by decide +kernel) ⟨rfl, rfl, rfl⟩ (v := .ref (gA g 10)) rfl dX6_wore_49 ?_
        refine lv_aload_n hx hb dX6_wore_52 rfl (lv_at hl 0 rfl) ?_
        refine r_get C hI 0 (by decide) rfl rfl hin6 6 (by decide) (fn := "tally") (fd := "LGloveReply$Tally;") (index := 50) (by decide +kernel) ⟨rfl, rfl, rfl⟩ (v := .ref (gA g 14)) rfl dX6_wore_53 ?_
        refine lv_iload_n hx hb dX6_wore_56 rfl (lv_at hl 1 rfl) ?_
        refine lv_aload_n hx hb dX6_wore_57 rfl (lv_at hl 0 rfl) ?_
        refine r_get C hI 0 (by decide) rfl rfl hin6 2 (by decide) (fn := "now") (fd := "LGloveReply$Moment;") (index := 26) (by decide +kernel) ⟨rfl, rfl, rfl⟩ (v := .ref (gA g 32)) rfl dX6_wore_58 ?_
        refine lv_iload_n hx hb dX6_wore_61 rfl (lv_at hl 1 rfl) ?_
        refine r_iv C hI (As := [.int (iI x)]) (rest := [.int (iI x), .ref (gA g 14), .ref (gA g 10), .ref (gA g 3)]) (c_X2_keptBy l g (mset (mset M 14 0 0) 14 1 (-9)) 32 x (by decide) (by omega)) (cwV 1 hts gX6_wore_X2_keptBy rfl rfl rfl (by decide +kernel) ⟨Nat.le_of_ble_eq_true rfl, Nat.le_of_ble_eq_true rfl⟩) (by decide) (ceMo (show isMo 32 from by decide) _) rfl rfl hl.1 rfl (Nat.le_of_ble_eq_true rfl) dX6_wore_62 ⟨Nat.zero_le _, Nat.zero_le _⟩ (k_I (fun H locs hI => ?_))
        refine r_eqI (z2 := M 33 x) rfl ?_
        refine lv_iconst (v := iI 0) hx hb dX6_wore_65 rfl ?_
        refine lv_iconst (v := iI 0) hx hb dX6_wore_66 rfl ?_
        refine r_is C hI (As := [.ref (gA g 3), .ref (gA g 10), .ref (gA g 14), .int (iI x), .int (iI (M 33 x)), .int (iI 0), .int (iI 0)]) (rest := []) (c_X6_tallyWearersI l g (mset (mset M 14 0 0) 14 1 (-9)) x (M 33 x) dkS (by omega) w_see w_sa (show 0 = 0 from by rfl)) (va_cwS 7 hts gX6_wore_X6_tallyWearers rfl rfl rfl (by decide +kernel) ⟨Nat.le_of_ble_eq_true rfl, Nat.le_of_ble_eq_true rfl⟩) rfl hl.1 rfl (Nat.le_of_ble_eq_true rfl) dX6_wore_67 ⟨Nat.zero_le _, Nat.zero_le _⟩ (k_V (fun H locs hI => ?_))
        refine lv_aload_n hx hb dX6_wore_70 rfl (lv_at hl 0 rfl) ?_
        refine r_get C hI 0 (by decide) rfl rfl hin6 6 (by decide) (fn := "tally") (fd := "LGloveReply$Tally;") (index := 50) (by decide +kernel) ⟨rfl, rfl, rfl⟩ (v := .ref (gA g 14)) rfl dX6_wore_71 ?_
        refine lv_iload_n hx hb dX6_wore_74 rfl (lv_at hl 2 rfl) ?_
        refine r_iv C hI (As := [.int (iI v)]) (rest := []) (c_X4_told l g (tAdds (mset (mset M 14 0 0) 14 1 (-9)) (wlO ((mset (mset M 14 0 0) 14 1 (-9)) 11) ((mset (mset M 14 0 0) 14 1 (-9)) 12) ((mset (mset M 14 0 0) 14 1 (-9)) 13) ((mset (mset M 14 0 0) 14 1 (-9)) 4) x ((mset (mset M 14 0 0) 14 1 (-9)) 3 6) ((mset (mset M 14 0 0) 14 1 (-9)) 10 3) ((mset (mset M 14 0 0) 14 1 (-9)) 8 x) ((mset (mset M 14 0 0) 14 1 (-9)) 7 x) 5 (M 33 x) 0 0)) v (by omega)) (cwV 1 hts gX6_wore_X4_told rfl rfl rfl (by decide +kernel) ⟨Nat.le_of_ble_eq_true rfl, Nat.le_of_ble_eq_true rfl⟩) (by decide) rfl rfl rfl hl.1 rfl (Nat.le_of_ble_eq_true rfl) dX6_wore_75 ⟨Nat.zero_le _, Nat.zero_le _⟩ (k_I (fun H locs hI => ?_))
        refine r_iret C hr hlk hI ?_ dX6_wore_78
        exact ⟨_, rfl, by refine ⟨(tS_w M _ v).trans ?_, fun c hc => tS_n M _ hc⟩; unfold zWor; rw [if_neg (by omega), if_neg (by omega), if_neg (by omega)]; try rfl⟩
      · refine lv_bipush (v := iI (-3)) hx hb dX6_wore_34 (by decide +kernel) ?_
        refine r_iret C hr hlk hI ?_ dX6_wore_36
        exact ⟨_, rfl, by refine ⟨?_, fun _ _ => rfl⟩; unfold zWor; (repeat' split) <;> first | rfl | omega | (simp_all; done) | (simp_all; omega)⟩
    · refine lv_bipush (v := iI (-2)) hx hb dX6_wore_20 (by decide +kernel) ?_
      refine r_iret C hr hlk hI ?_ dX6_wore_22
      exact ⟨_, rfl, by refine ⟨?_, fun _ _ => rfl⟩; unfold zWor; (repeat' split) <;> first | rfl | omega | (simp_all; done) | (simp_all; omega)⟩
  · refine lv_iconst (v := iI (-1)) hx hb dX6_wore_11 rfl ?_
    refine r_iret C hr hlk hI ?_ dX6_wore_12
    exact ⟨_, rfl, by refine ⟨?_, fun _ _ => rfl⟩; unfold zWor; (repeat' split) <;> first | rfl | omega | (simp_all; done) | (simp_all; omega)⟩
set_option maxHeartbeats 4000000 in
set_option maxRecDepth 100000 in
theorem c_X6_givesAway (l : Launch) (g : GT) (M : Mem) (x : Int) (wf : WF M) (h_x : -2147483648 ≤ x ∧ x < 2147483648) : Ctr l g yX6_givesAway wsX6_givesAway ({ frames := 3, cells := 0, slots := 0, locals := 66 } : Room) [.ref (gA g 0), .int (iI x)] M (pI (zGiv (M) x) M) := by
  refine Ctr.mk (cc := cX6_givesAway) (maxL := 5) (ret := some .int) (lv := [(0, .ref (gA g 0)), (1, .int (iI x))]) (by decide) rfl (Nat.le_of_ble_eq_true rfl) rfl ?_
  intro p e s m below meth c C hr hlk hI ls hl
  have C : CallFix p m c cX6_givesAway 5 s ([.ref (gA g 0), .int (iI x)] : List Value).toArray wsX6_givesAway RX6 := C
  have hx := C.1
  have hb := C.2.1
  have hts := C.2.2.2.2
  have hin6 : ∀ w ∈ u_ws RX6 TX6 9, w ∈ wsX6_givesAway := by decide +kernel
  have wf0 := wf
  obtain ⟨w_txt, hL, w_cnt, w_per, w_glo, w_now, w_act, w_rng, w_slo, w_see, w_sa⟩ := wf
  have w_gx := w_glo x
  have w_nx := w_now.1 x
  have w_hw := WF_hw w_now (by omega)
  have w_nx : 0 ≤ x ∧ x < 4 → (0 ≤ M 33 x ∧ M 33 x < 1000) ∧ (M 34 x = -9 ∨ (0 ≤ M 34 x ∧ M 34 x < M 3 6 ∧ x < M 3 7)) ∧ (x < M 3 7 → KOK (M 33 x) (M 7 x)) := w_nx
  refine lv_aload_n hx hb dX6_givesAway_0 rfl (lv_at hl 0 rfl) ?_
  refine r_get C hI 0 (by decide) rfl rfl hin6 1 (by decide) (fn := "theDesk") (fd := "LGloveReply$Desk;") (index := 19) (by decide +kernel) ⟨rfl, rfl, rfl⟩ (v := .ref (gA g 3)) rfl dX6_givesAway_1 ?_
  refine lv_iload_n hx hb dX6_givesAway_4 rfl (lv_at hl 1 rfl) ?_
  refine r_iv C hI (As := [.int (iI x)]) (rest := []) (c_X1_hasGlove l g M x (by omega) (show -2147483648 ≤ (M 3 7) ∧ (M 3 7) < 2147483648 from by omega)) (cwV 1 hts gX6_givesAway_X1_hasGlove rfl rfl rfl (by decide +kernel) ⟨Nat.le_of_ble_eq_true rfl, Nat.le_of_ble_eq_true rfl⟩) (by decide) rfl rfl rfl hl.1 rfl (Nat.le_of_ble_eq_true rfl) dX6_givesAway_5 ⟨Nat.zero_le _, Nat.zero_le _⟩ (k_I (fun H locs hI => ?_))
  refine r_b_ne hx hb (tgt := 13) dX6_givesAway_8 (by decide) (fun c_1 => ?_) (fun c_1 => ?_)
  · refine lv_aload_n hx hb dX6_givesAway_13 rfl (lv_at hl 0 rfl) ?_
    refine r_get C hI 0 (by decide) rfl rfl hin6 2 (by decide) (fn := "now") (fd := "LGloveReply$Moment;") (index := 26) (by decide +kernel) ⟨rfl, rfl, rfl⟩ (v := .ref (gA g 32)) rfl dX6_givesAway_14 ?_
    refine lv_iload_n hx hb dX6_givesAway_17 rfl (lv_at hl 1 rfl) ?_
    refine r_iv C hI (As := [.int (iI x)]) (rest := []) (c_X2_isWorn l g M 32 x (by decide) (by omega) (show -2147483648 ≤ (M 34 x) ∧ (M 34 x) < 2147483648 from by omega)) (cwV 1 hts gX6_givesAway_X2_isWorn rfl rfl rfl (by decide +kernel) ⟨Nat.le_of_ble_eq_true rfl, Nat.le_of_ble_eq_true rfl⟩) (by decide) (ceMo (show isMo 32 from by decide) _) rfl rfl hl.1 rfl (Nat.le_of_ble_eq_true rfl) dX6_givesAway_18 ⟨Nat.zero_le _, Nat.zero_le _⟩ (k_I (fun H locs hI => ?_))
    refine r_eqI (z2 := bI (¬ (M 34 x) = -9)) rfl ?_
    refine r_b_eq hx hb (tgt := 27) dX6_givesAway_21 (by decide) (fun c_2 => ?_) (fun c_2 => ?_)
    · refine lv_iconst (v := iI 0) hx hb dX6_givesAway_27 rfl ?_
      refine lv_istore_n (lv' := [(2, .int (iI 0)), (0, .ref (gA g 0)), (1, .int (iI x))]) hx hb dX6_givesAway_28 rfl hl (by decide) rfl (fun ls hl => ?_)
      refine lv_iconst (v := iI 0) hx hb dX6_givesAway_29 rfl ?_
      refine lv_istore_n (lv' := [(3, .int (iI 0)), (2, .int (iI 0)), (0, .ref (gA g 0)), (1, .int (iI x))]) hx hb dX6_givesAway_30 rfl hl (by decide) rfl (fun ls hl => ?_)
      have lp31 : ∀ (n31 : Nat) (vv : Int) (bb : Int) (jj : Nat), (vv = (jj : Int) ∧ (jj : Int) ≤ M 3 6) → (bb = gvN M x jj) → (M 3 6).toNat - jj < n31 → ∀ (H : Heap) (locs : List Loc), HI g s H locs M → ∀ ls : Array Slot, lv_has ls 5 [(3, .int (iI vv)), (2, .int (iI bb)), (0, .ref (gA g 0)), (1, .int (iI x))] → W p l e ({ frames := 3, cells := 0, slots := 0, locals := 66 } : Room) s m ([.ref (gA g 0), .int (iI x)] : List Value).toArray below meth c H locs 0 0 (MQ below (QV g (pI (zGiv (M) x) M)) ([.ref (gA g 0), .int (iI x)] : List Value).toArray s 0 0 (AA g)) (F0 m 31 ls []) := by
        intro n31
        induction n31 with
        | zero => intro vv bb jj h1 h2 hn31; exact absurd hn31 (Nat.not_lt_zero _)
        | succ n31 ih31 =>
          intro vv bb jj h1 h2 hn31 H locs hI ls hl
          have w_pv := w_per vv
          refine lv_iload_n hx hb dX6_givesAway_31 rfl (lv_at hl 0 rfl) ?_
          refine lv_aload_n hx hb dX6_givesAway_32 rfl (lv_at hl 2 rfl) ?_
          refine r_get C hI 0 (by decide) rfl rfl hin6 1 (by decide) (fn := "theDesk") (fd := "LGloveReply$Desk;") (index := 19) (by decide +kernel) ⟨rfl, rfl, rfl⟩ (v := .ref (gA g 3)) rfl dX6_givesAway_33 ?_
          refine r_iv C hI (As := []) (rest := [.int (iI vv)]) (c_X1_people l g M) (cwV 0 hts gX6_givesAway_X1_people rfl rfl rfl (by decide +kernel) ⟨Nat.le_of_ble_eq_true rfl, Nat.le_of_ble_eq_true rfl⟩) (by decide) rfl rfl rfl hl.1 rfl (Nat.le_of_ble_eq_true rfl) dX6_givesAway_36 ⟨Nat.zero_le _, Nat.zero_le _⟩ (k_I (fun H locs hI => ?_))
          refine r_icmp_ge hx hb (tgt := 98) (by omega) (by omega) dX6_givesAway_39 (by decide) (fun c_3 => ?_) (fun c_3 => ?_)
          · refine lv_iload_n hx hb dX6_givesAway_98 rfl (lv_at hl 1 rfl) ?_
            refine r_iret C hr hlk hI ?_ dX6_givesAway_99
            exact ⟨congrArg (fun q => some (Value.int (iI q))) (show bb = zGiv (M) x from by unfold zGiv; rw [if_neg (by omega), if_neg (by omega), h2, show (M 3 6).toNat = jj from by omega]), rfl⟩
          · refine lv_aload_n hx hb dX6_givesAway_42 rfl (lv_at hl 2 rfl) ?_
            refine r_get C hI 0 (by decide) rfl rfl hin6 1 (by decide) (fn := "theDesk") (fd := "LGloveReply$Desk;") (index := 19) (by decide +kernel) ⟨rfl, rfl, rfl⟩ (v := .ref (gA g 3)) rfl dX6_givesAway_43 ?_
            refine lv_iload_n hx hb dX6_givesAway_46 rfl (lv_at hl 3 rfl) ?_
            refine lv_aload_n hx hb dX6_givesAway_47 rfl (lv_at hl 2 rfl) ?_
            refine r_get C hI 0 (by decide) rfl rfl hin6 2 (by decide) (fn := "now") (fd := "LGloveReply$Moment;") (index := 26) (by decide +kernel) ⟨rfl, rfl, rfl⟩ (v := .ref (gA g 32)) rfl dX6_givesAway_48 ?_
            refine lv_iload_n hx hb dX6_givesAway_51 rfl (lv_at hl 3 rfl) ?_
            refine r_iv C hI (As := [.int (iI x)]) (rest := [.int (iI x), .ref (gA g 3)]) (c_X2_keptBy l g M 32 x (by decide) (by omega)) (cwV 1 hts gX6_givesAway_X2_keptBy rfl rfl rfl (by decide +kernel) ⟨Nat.le_of_ble_eq_true rfl, Nat.le_of_ble_eq_true rfl⟩) (by decide) (ceMo (show isMo 32 from by decide) _) rfl rfl hl.1 rfl (Nat.le_of_ble_eq_true rfl) dX6_givesAway_52 ⟨Nat.zero_le _, Nat.zero_le _⟩ (k_I (fun H locs hI => ?_))
            refine r_eqI (z2 := M 33 x) rfl ?_
            refine lv_iload_n hx hb dX6_givesAway_55 rfl (lv_at hl 0 rfl) ?_
            refine r_iv C hI (As := [.int (iI x), .int (iI (M 33 x)), .int (iI vv)]) (rest := []) (c_X1_reply l g M x (M 33 x) vv (by omega) (by omega) (by omega) (show -2147483648 ≤ (M 8 x) ∧ (M 8 x) < 2147483648 from by omega) (show -2147483648 ≤ (M 4 vv) ∧ (M 4 vv) < 2147483648 from by omega)) (cwV 3 hts gX6_givesAway_X1_reply rfl rfl rfl (by decide +kernel) ⟨Nat.le_of_ble_eq_true rfl, Nat.le_of_ble_eq_true rfl⟩) (by decide) rfl rfl rfl hl.1 rfl (Nat.le_of_ble_eq_true rfl) dX6_givesAway_56 ⟨Nat.zero_le _, Nat.zero_le _⟩ (k_I (fun H locs hI => ?_))
            have ff_1 := repO_b (M 8 x) (M 33 x) (M 4 vv)
            refine lv_istore (lv' := [(4, .int (iI (repO (M 8 x) (M 33 x) (M 4 vv)))), (3, .int (iI vv)), (2, .int (iI bb)), (0, .ref (gA g 0)), (1, .int (iI x))]) hx hb dX6_givesAway_59 hl (by decide) rfl (fun ls hl => ?_)
            refine lv_iload hx hb dX6_givesAway_61 (lv_at hl 0 rfl) ?_
            refine lv_aload_n hx hb dX6_givesAway_63 rfl (lv_at hl 3 rfl) ?_
            refine r_get C hI 0 (by decide) rfl rfl hin6 1 (by decide) (fn := "theDesk") (fd := "LGloveReply$Desk;") (index := 19) (by decide +kernel) ⟨rfl, rfl, rfl⟩ (v := .ref (gA g 3)) rfl dX6_givesAway_64 ?_
            refine lv_iload_n hx hb dX6_givesAway_67 rfl (lv_at hl 1 rfl) ?_
            refine r_iv C hI (As := [.int (iI vv)]) (rest := [.int (iI (repO (M 8 x) (M 33 x) (M 4 vv)))]) (c_X1_ownOf l g M vv (by omega)) (cwV 1 hts gX6_givesAway_X1_ownOf rfl rfl rfl (by decide +kernel) ⟨Nat.le_of_ble_eq_true rfl, Nat.le_of_ble_eq_true rfl⟩) (by decide) rfl rfl rfl hl.1 rfl (Nat.le_of_ble_eq_true rfl) dX6_givesAway_68 ⟨Nat.zero_le _, Nat.zero_le _⟩ (k_I (fun H locs hI => ?_))
            refine r_icmp_eq hx hb (tgt := 92) (by omega) (by omega) dX6_givesAway_71 (by decide) (fun c_4 => ?_) (fun c_4 => ?_)
            · refine lv_iinc (v := iI (vv + 1)) (lv' := [(3, .int (iI (vv + 1))), (4, .int (iI (repO (M 8 x) (M 33 x) (M 4 vv)))), (2, .int (iI bb)), (0, .ref (gA g 0)), (1, .int (iI x))]) hx hb dX6_givesAway_92 hl (k := 1) rfl (iI_add _ _) (by decide) rfl (fun ls hl => ?_)
              refine lv_goto (tgt := 31) hx hb dX6_givesAway_95 (by decide) ?_
              exact ih31 (vv + 1) bb (jj + 1) (by omega) (by (rw [h2]; simp only [gvN, ← h1.1]; first | rw [if_pos ⟨by assumption, by assumption⟩] | rw [if_neg (by first | exact fun q => q.1 (by assumption) | exact fun q => absurd q.2 (by assumption))])) (by omega) _ _ hI ls (lv_sub hl [0, 2, 3, 4] rfl)
            · refine lv_aload_n hx hb dX6_givesAway_74 rfl (lv_at hl 3 rfl) ?_
              refine r_get C hI 0 (by decide) rfl rfl hin6 1 (by decide) (fn := "theDesk") (fd := "LGloveReply$Desk;") (index := 19) (by decide +kernel) ⟨rfl, rfl, rfl⟩ (v := .ref (gA g 3)) rfl dX6_givesAway_75 ?_
              refine lv_iload hx hb dX6_givesAway_78 (lv_at hl 0 rfl) ?_
              refine r_iv C hI (As := [.int (iI (repO (M 8 x) (M 33 x) (M 4 vv)))]) (rest := []) (c_X1_isSomeonesOwn l g M (repO (M 8 x) (M 33 x) (M 4 vv)) (show 0 ≤ (M 3 6) ∧ (M 3 6) ≤ 5 from by omega) (fun j hj => by have := w_per j hj; omega) (by omega)) (cwV 1 hts gX6_givesAway_X1_isSomeonesOwn rfl rfl rfl (by decide +kernel) ⟨Nat.le_of_ble_eq_true rfl, Nat.le_of_ble_eq_true rfl⟩) (by decide) rfl rfl rfl hl.1 rfl (Nat.le_of_ble_eq_true rfl) dX6_givesAway_80 ⟨Nat.zero_le _, Nat.zero_le _⟩ (k_I (fun H locs hI => ?_))
              refine r_b_eq hx hb (tgt := 92) dX6_givesAway_83 (by decide) (fun c_5 => ?_) (fun c_5 => ?_)
              · refine lv_iinc (v := iI (vv + 1)) (lv' := [(3, .int (iI (vv + 1))), (4, .int (iI (repO (M 8 x) (M 33 x) (M 4 vv)))), (2, .int (iI bb)), (0, .ref (gA g 0)), (1, .int (iI x))]) hx hb dX6_givesAway_92 hl (k := 1) rfl (iI_add _ _) (by decide) rfl (fun ls hl => ?_)
                refine lv_goto (tgt := 31) hx hb dX6_givesAway_95 (by decide) ?_
                exact ih31 (vv + 1) bb (jj + 1) (by omega) (by (rw [h2]; simp only [gvN, ← h1.1]; first | rw [if_pos ⟨by assumption, by assumption⟩] | rw [if_neg (by first | exact fun q => q.1 (by assumption) | exact fun q => absurd q.2 (by assumption))])) (by omega) _ _ hI ls (lv_sub hl [0, 2, 3, 4] rfl)
              · refine lv_iload_n hx hb dX6_givesAway_86 rfl (lv_at hl 2 rfl) ?_
                refine lv_iconst (v := iI 1) hx hb dX6_givesAway_87 rfl ?_
                refine lv_iload_n hx hb dX6_givesAway_88 rfl (lv_at hl 1 rfl) ?_
                refine r_ishl hx hb (by omega) dX6_givesAway_89 ?_
                refine r_ior hx hb (by exact ⟨by rw [h2]; exact gvN_b M x _, shlI_b⟩) dX6_givesAway_90 ?_
                refine lv_istore_n (lv' := [(2, .int (iI (orI bb (shlI 1 vv)))), (4, .int (iI (repO (M 8 x) (M 33 x) (M 4 vv)))), (3, .int (iI vv)), (0, .ref (gA g 0)), (1, .int (iI x))]) hx hb dX6_givesAway_91 rfl hl (by decide) rfl (fun ls hl => ?_)
                refine lv_iinc (v := iI (vv + 1)) (lv' := [(3, .int (iI (vv + 1))), (2, .int (iI (orI bb (shlI 1 vv)))), (4, .int (iI (repO (M 8 x) (M 33 x) (M 4 vv)))), (0, .ref (gA g 0)), (1, .int (iI x))]) hx hb dX6_givesAway_92 hl (k := 2) rfl (iI_add _ _) (by decide) rfl (fun ls hl => ?_)
                refine lv_goto (tgt := 31) hx hb dX6_givesAway_95 (by decide) ?_
                exact ih31 (vv + 1) (orI bb (shlI 1 vv)) (jj + 1) (by omega) (by (rw [h2]; simp only [gvN, ← h1.1]; first | rw [if_pos ⟨by assumption, by assumption⟩] | rw [if_neg (by first | exact fun q => q.1 (by assumption) | exact fun q => absurd q.2 (by assumption))])) (by omega) _ _ hI ls (lv_sub hl [0, 1, 3, 4] rfl)
      exact lp31 _ 0 0 0 (by omega) (by rfl) (Nat.lt_succ_self _) _ _ hI ls (lv_sub hl [0, 1, 2, 3] rfl)
    · refine lv_bipush (v := iI (-3)) hx hb dX6_givesAway_24 (by decide +kernel) ?_
      refine r_iret C hr hlk hI ?_ dX6_givesAway_26
      exact ⟨congrArg (fun q => some (Value.int (iI q))) (show (-3) = zGiv (M) x from by unfold zGiv; (repeat' split) <;> first | rfl | omega | (simp_all; done) | (simp_all; omega)), rfl⟩
  · refine lv_iconst (v := iI (-1)) hx hb dX6_givesAway_11 rfl ?_
    refine r_iret C hr hlk hI ?_ dX6_givesAway_12
    exact ⟨congrArg (fun q => some (Value.int (iI q))) (show (-1) = zGiv (M) x from by unfold zGiv; (repeat' split) <;> first | rfl | omega | (simp_all; done) | (simp_all; omega)), rfl⟩
set_option maxHeartbeats 4000000 in
set_option maxRecDepth 100000 in
theorem c_X6_worthOn (l : Launch) (g : GT) (M : Mem) (x : Int) (y : Int) (hx0 : 0 ≤ x ∧ x < 4) (hy0 : 0 ≤ y ∧ y < 5) (hk : 0 ≤ M 33 x ∧ M 33 x < 1000) (hK : -2147483648 ≤ M 8 x ∧ M 8 x < 2147483648) (hO : 0 ≤ M 4 y ∧ M 4 y ≤ 7) (hd0 : 0 ≤ M 5 y ∧ M 5 y ≤ 7) (hv0 : 0 ≤ M 6 y ∧ M 6 y ≤ 9) : Ctr l g yX6_worthOn wsX6_worthOn ({ frames := 3, cells := 0, slots := 0, locals := 66 } : Room) [.ref (gA g 0), .int (iI x), .int (iI y)] M (pI (woO (M) x y) M) := by
  refine Ctr.mk (cc := cX6_worthOn) (maxL := 4) (ret := some .int) (lv := [(0, .ref (gA g 0)), (1, .int (iI x)), (2, .int (iI y))]) (by decide) rfl (Nat.le_of_ble_eq_true rfl) rfl ?_
  intro p e s m below meth c C hr hlk hI ls hl
  have C : CallFix p m c cX6_worthOn 4 s ([.ref (gA g 0), .int (iI x), .int (iI y)] : List Value).toArray wsX6_worthOn RX6 := C
  have hx := C.1
  have hb := C.2.1
  have hts := C.2.2.2.2
  have hin6 : ∀ w ∈ u_ws RX6 TX6 9, w ∈ wsX6_worthOn := by decide +kernel
  refine lv_aload_n hx hb dX6_worthOn_0 rfl (lv_at hl 0 rfl) ?_
  refine r_get C hI 0 (by decide) rfl rfl hin6 1 (by decide) (fn := "theDesk") (fd := "LGloveReply$Desk;") (index := 19) (by decide +kernel) ⟨rfl, rfl, rfl⟩ (v := .ref (gA g 3)) rfl dX6_worthOn_1 ?_
  refine lv_iload_n hx hb dX6_worthOn_4 rfl (lv_at hl 1 rfl) ?_
  refine lv_aload_n hx hb dX6_worthOn_5 rfl (lv_at hl 0 rfl) ?_
  refine r_get C hI 0 (by decide) rfl rfl hin6 2 (by decide) (fn := "now") (fd := "LGloveReply$Moment;") (index := 26) (by decide +kernel) ⟨rfl, rfl, rfl⟩ (v := .ref (gA g 32)) rfl dX6_worthOn_6 ?_
  refine lv_iload_n hx hb dX6_worthOn_9 rfl (lv_at hl 1 rfl) ?_
  refine r_iv C hI (As := [.int (iI x)]) (rest := [.int (iI x), .ref (gA g 3)]) (c_X2_keptBy l g M 32 x (by decide) (by omega)) (cwV 1 hts gX6_worthOn_X2_keptBy rfl rfl rfl (by decide +kernel) ⟨Nat.le_of_ble_eq_true rfl, Nat.le_of_ble_eq_true rfl⟩) (by decide) (ceMo (show isMo 32 from by decide) _) rfl rfl hl.1 rfl (Nat.le_of_ble_eq_true rfl) dX6_worthOn_10 ⟨Nat.zero_le _, Nat.zero_le _⟩ (k_I (fun H locs hI => ?_))
  refine r_eqI (z2 := M 33 x) rfl ?_
  refine lv_iload_n hx hb dX6_worthOn_13 rfl (lv_at hl 2 rfl) ?_
  refine r_iv C hI (As := [.int (iI x), .int (iI (M 33 x)), .int (iI y)]) (rest := []) (c_X1_reply l g M x (M 33 x) y (by omega) (by omega) (by omega) (show -2147483648 ≤ (M 8 x) ∧ (M 8 x) < 2147483648 from by omega) (show -2147483648 ≤ (M 4 y) ∧ (M 4 y) < 2147483648 from by omega)) (cwV 3 hts gX6_worthOn_X1_reply rfl rfl rfl (by decide +kernel) ⟨Nat.le_of_ble_eq_true rfl, Nat.le_of_ble_eq_true rfl⟩) (by decide) rfl rfl rfl hl.1 rfl (Nat.le_of_ble_eq_true rfl) dX6_worthOn_14 ⟨Nat.zero_le _, Nat.zero_le _⟩ (k_I (fun H locs hI => ?_))
  have ff_1 := repO_b (M 8 x) (M 33 x) (M 4 y)
  refine lv_istore_n (lv' := [(3, .int (iI (repO (M 8 x) (M 33 x) (M 4 y)))), (0, .ref (gA g 0)), (1, .int (iI x)), (2, .int (iI y))]) hx hb dX6_worthOn_17 rfl hl (by decide) rfl (fun ls hl => ?_)
  refine lv_iload_n hx hb dX6_worthOn_18 rfl (lv_at hl 0 rfl) ?_
  refine lv_aload_n hx hb dX6_worthOn_19 rfl (lv_at hl 1 rfl) ?_
  refine r_get C hI 0 (by decide) rfl rfl hin6 1 (by decide) (fn := "theDesk") (fd := "LGloveReply$Desk;") (index := 19) (by decide +kernel) ⟨rfl, rfl, rfl⟩ (v := .ref (gA g 3)) rfl dX6_worthOn_20 ?_
  refine lv_iload_n hx hb dX6_worthOn_23 rfl (lv_at hl 3 rfl) ?_
  refine r_iv C hI (As := [.int (iI y)]) (rest := [.int (iI (repO (M 8 x) (M 33 x) (M 4 y)))]) (c_X1_dearTo l g M y (by omega)) (cwV 1 hts gX6_worthOn_X1_dearTo rfl rfl rfl (by decide +kernel) ⟨Nat.le_of_ble_eq_true rfl, Nat.le_of_ble_eq_true rfl⟩) (by decide) rfl rfl rfl hl.1 rfl (Nat.le_of_ble_eq_true rfl) dX6_worthOn_24 ⟨Nat.zero_le _, Nat.zero_le _⟩ (k_I (fun H locs hI => ?_))
  refine r_icmp_ne hx hb (tgt := 41) (by omega) (by omega) dX6_worthOn_27 (by decide) (fun c_1 => ?_) (fun c_1 => ?_)
  · refine lv_iconst (v := iI 0) hx hb dX6_worthOn_41 rfl ?_
    refine r_iret C hr hlk hI ?_ dX6_worthOn_42
    exact ⟨congrArg (fun q => some (Value.int (iI q))) (show 0 = woO (M) x y from by unfold woO; split <;> first | rfl | omega | (simp_all; done)), rfl⟩
  · refine lv_aload_n hx hb dX6_worthOn_30 rfl (lv_at hl 1 rfl) ?_
    refine r_get C hI 0 (by decide) rfl rfl hin6 1 (by decide) (fn := "theDesk") (fd := "LGloveReply$Desk;") (index := 19) (by decide +kernel) ⟨rfl, rfl, rfl⟩ (v := .ref (gA g 3)) rfl dX6_worthOn_31 ?_
    refine lv_iload_n hx hb dX6_worthOn_34 rfl (lv_at hl 3 rfl) ?_
    refine r_iv C hI (As := [.int (iI y)]) (rest := []) (c_X1_worthTo l g M y (by omega)) (cwV 1 hts gX6_worthOn_X1_worthTo rfl rfl rfl (by decide +kernel) ⟨Nat.le_of_ble_eq_true rfl, Nat.le_of_ble_eq_true rfl⟩) (by decide) rfl rfl rfl hl.1 rfl (Nat.le_of_ble_eq_true rfl) dX6_worthOn_35 ⟨Nat.zero_le _, Nat.zero_le _⟩ (k_I (fun H locs hI => ?_))
    refine lv_goto (tgt := 42) hx hb dX6_worthOn_38 (by decide) ?_
    refine r_iret C hr hlk hI ?_ dX6_worthOn_42
    exact ⟨congrArg (fun q => some (Value.int (iI q))) (show M 6 y = woO (M) x y from by unfold woO; split <;> first | rfl | omega | (simp_all; done)), rfl⟩
set_option maxHeartbeats 4000000 in
set_option maxRecDepth 100000 in
theorem c_X6_isAtRest (l : Launch) (g : GT) (M : Mem) (xa : Int) (ya : Int) (wa : Int) (va : Int) (h1 : 0 ≤ xa ∧ xa ≤ 9) (h2 : 0 ≤ ya ∧ ya ≤ 9) (h3 : 0 ≤ wa ∧ wa ≤ 9) (h4 : 0 ≤ va ∧ va ≤ 9) : Ctr l g yX6_isAtRest wsX6_isAtRest ({ frames := 1, cells := 0, slots := 0, locals := 22 } : Room) [.int (iI xa), .int (iI ya), .int (iI wa), .int (iI va)] M (pI (bI (arN xa ya wa va 10 = true)) M) := by
  refine Ctr.mk (cc := cX6_isAtRest) (maxL := 7) (ret := some .boolean) (lv := [(0, .int (iI xa)), (1, .int (iI ya)), (2, .int (iI wa)), (3, .int (iI va))]) (by decide) rfl (Nat.le_of_ble_eq_true rfl) rfl ?_
  intro p e s m below meth c C hr hlk hI ls hl
  have C : CallFix p m c cX6_isAtRest 7 s ([.int (iI xa), .int (iI ya), .int (iI wa), .int (iI va)] : List Value).toArray wsX6_isAtRest RX6 := C
  have hx := C.1
  have hb := C.2.1
  have hts := C.2.2.2.2
  refine lv_iload_n hx hb dX6_isAtRest_0 rfl (lv_at hl 0 rfl) ?_
  refine lv_iload_n hx hb dX6_isAtRest_1 rfl (lv_at hl 1 rfl) ?_
  refine lv_iload_n hx hb dX6_isAtRest_2 rfl (lv_at hl 2 rfl) ?_
  refine r_is C hI (As := [.int (iI xa), .int (iI ya), .int (iI wa)]) (rest := []) (c_X6_gainOfFirst l g M xa ya wa (by omega) (by omega)) (va_cwS 3 hts gX6_isAtRest_X6_gainOfFirst rfl rfl rfl (by decide +kernel) ⟨Nat.le_of_ble_eq_true rfl, Nat.le_of_ble_eq_true rfl⟩) rfl hl.1 rfl (Nat.le_of_ble_eq_true rfl) dX6_isAtRest_3 ⟨Nat.zero_le _, Nat.zero_le _⟩ (k_I (fun H locs hI => ?_))
  have ff_1 := gFst_o xa ya wa
  refine lv_istore (lv' := [(4, .int (iI (gFst xa ya wa))), (0, .int (iI xa)), (1, .int (iI ya)), (2, .int (iI wa)), (3, .int (iI va))]) hx hb dX6_isAtRest_6 hl (by decide) rfl (fun ls hl => ?_)
  refine lv_iload_n hx hb dX6_isAtRest_8 rfl (lv_at hl 1 rfl) ?_
  refine lv_iload_n hx hb dX6_isAtRest_9 rfl (lv_at hl 2 rfl) ?_
  refine lv_iload_n hx hb dX6_isAtRest_10 rfl (lv_at hl 4 rfl) ?_
  refine r_is C hI (As := [.int (iI xa), .int (iI ya), .int (iI va)]) (rest := []) (c_X6_gainOfOther l g M xa ya va (by omega) (by omega)) (va_cwS 3 hts gX6_isAtRest_X6_gainOfOther rfl rfl rfl (by decide +kernel) ⟨Nat.le_of_ble_eq_true rfl, Nat.le_of_ble_eq_true rfl⟩) rfl hl.1 rfl (Nat.le_of_ble_eq_true rfl) dX6_isAtRest_11 ⟨Nat.zero_le _, Nat.zero_le _⟩ (k_I (fun H locs hI => ?_))
  have ff_2 := gOth_o xa ya va
  refine lv_istore (lv' := [(5, .int (iI (gOth xa ya va))), (4, .int (iI (gFst xa ya wa))), (0, .int (iI xa)), (1, .int (iI ya)), (2, .int (iI wa)), (3, .int (iI va))]) hx hb dX6_isAtRest_14 hl (by decide) rfl (fun ls hl => ?_)
  refine lv_iconst (v := iI 0) hx hb dX6_isAtRest_16 rfl ?_
  refine lv_istore (lv' := [(6, .int (iI 0)), (5, .int (iI (gOth xa ya va))), (4, .int (iI (gFst xa ya wa))), (0, .int (iI xa)), (1, .int (iI ya)), (2, .int (iI wa)), (3, .int (iI va))]) hx hb dX6_isAtRest_17 hl (by decide) rfl (fun ls hl => ?_)
  have lp19 : ∀ (n19 : Nat) (tt : Int) (jj : Nat), (tt = (jj : Int) ∧ jj ≤ 10) → (arN xa ya wa va jj = true) → 10 - jj < n19 → ∀ (H : Heap) (locs : List Loc), HI g s H locs M → ∀ ls : Array Slot, lv_has ls 7 [(6, .int (iI tt)), (5, .int (iI (gOth xa ya va))), (4, .int (iI (gFst xa ya wa))), (0, .int (iI xa)), (1, .int (iI ya)), (2, .int (iI wa)), (3, .int (iI va))] → W p l e ({ frames := 1, cells := 0, slots := 0, locals := 22 } : Room) s m ([.int (iI xa), .int (iI ya), .int (iI wa), .int (iI va)] : List Value).toArray below meth c H locs 0 0 (MQ below (QV g (pI (bI (arN xa ya wa va 10 = true)) M)) ([.int (iI xa), .int (iI ya), .int (iI wa), .int (iI va)] : List Value).toArray s 0 0 (AA g)) (F0 m 19 ls []) := by
    intro n19
    induction n19 with
    | zero => intro tt jj k1 k2 hn19; exact absurd hn19 (Nat.not_lt_zero _)
    | succ n19 ih19 =>
      intro tt jj k1 k2 hn19 H locs hI ls hl
      refine lv_iload hx hb dX6_isAtRest_19 (lv_at hl 0 rfl) ?_
      refine lv_bipush (v := iI 9) hx hb dX6_isAtRest_21 (by decide +kernel) ?_
      refine r_icmp_gt hx hb (tgt := 60) (by omega) (by decide) dX6_isAtRest_23 (by decide) (fun c_1 => ?_) (fun c_1 => ?_)
      · refine lv_iconst (v := iI 1) hx hb dX6_isAtRest_60 rfl ?_
        refine r_zret C hr hlk hI (by decide +kernel) ?_ dX6_isAtRest_61
        exact ⟨congrArg (fun q => some (Value.int (iI q))) (bI_t (by first | exact arN_f (j := jj) (by rw [← k1.1]; omega) 10 (by omega) | (rw [show (10 : Nat) = jj from by omega]; exact k2))).symm, rfl⟩
      · refine lv_iload hx hb dX6_isAtRest_26 (lv_at hl 0 rfl) ?_
        refine lv_iload_n hx hb dX6_isAtRest_28 rfl (lv_at hl 4 rfl) ?_
        refine lv_iload_n hx hb dX6_isAtRest_29 rfl (lv_at hl 5 rfl) ?_
        refine r_is C hI (As := [.int (iI tt), .int (iI ya), .int (iI wa)]) (rest := []) (c_X6_gainOfFirst l g M tt ya wa (by omega) (by omega)) (va_cwS 3 hts gX6_isAtRest_X6_gainOfFirst rfl rfl rfl (by decide +kernel) ⟨Nat.le_of_ble_eq_true rfl, Nat.le_of_ble_eq_true rfl⟩) rfl hl.1 rfl (Nat.le_of_ble_eq_true rfl) dX6_isAtRest_30 ⟨Nat.zero_le _, Nat.zero_le _⟩ (k_I (fun H locs hI => ?_))
        have ff_3 := gFst_o tt ya wa
        refine lv_iload hx hb dX6_isAtRest_33 (lv_at hl 2 rfl) ?_
        refine r_icmp_le hx hb (tgt := 40) (by omega) (by omega) dX6_isAtRest_35 (by decide) (fun c_2 => ?_) (fun c_2 => ?_)
        · refine lv_iload_n hx hb dX6_isAtRest_40 rfl (lv_at hl 3 rfl) ?_
          refine lv_iload hx hb dX6_isAtRest_41 (lv_at hl 0 rfl) ?_
          refine lv_iload_n hx hb dX6_isAtRest_43 rfl (lv_at hl 6 rfl) ?_
          refine r_is C hI (As := [.int (iI xa), .int (iI tt), .int (iI va)]) (rest := []) (c_X6_gainOfOther l g M xa tt va (by omega) (by omega)) (va_cwS 3 hts gX6_isAtRest_X6_gainOfOther rfl rfl rfl (by decide +kernel) ⟨Nat.le_of_ble_eq_true rfl, Nat.le_of_ble_eq_true rfl⟩) rfl hl.1 rfl (Nat.le_of_ble_eq_true rfl) dX6_isAtRest_44 ⟨Nat.zero_le _, Nat.zero_le _⟩ (k_I (fun H locs hI => ?_))
          have ff_4 := gOth_o xa tt va
          refine lv_iload hx hb dX6_isAtRest_47 (lv_at hl 1 rfl) ?_
          refine r_icmp_le hx hb (tgt := 54) (by omega) (by omega) dX6_isAtRest_49 (by decide) (fun c_3 => ?_) (fun c_3 => ?_)
          · refine lv_iinc (v := iI (tt + 1)) (lv' := [(6, .int (iI (tt + 1))), (5, .int (iI (gOth xa ya va))), (4, .int (iI (gFst xa ya wa))), (0, .int (iI xa)), (1, .int (iI ya)), (2, .int (iI wa)), (3, .int (iI va))]) hx hb dX6_isAtRest_54 hl (k := 0) rfl (iI_add _ _) (by decide) rfl (fun ls hl => ?_)
            refine lv_goto (tgt := 19) hx hb dX6_isAtRest_57 (by decide) ?_
            exact ih19 (tt + 1) (jj + 1) (by omega) (by simp only [arN, Bool.and_eq_true, decide_eq_true_eq, ← k1.1]; exact ⟨k2, by omega, by omega⟩) (by omega) _ _ hI ls (lv_sub hl [0, 1, 2, 3, 4, 5, 6] rfl)
          · refine lv_iconst (v := iI 0) hx hb dX6_isAtRest_52 rfl ?_
            refine r_zret C hr hlk hI (by decide +kernel) ?_ dX6_isAtRest_53
            exact ⟨congrArg (fun q => some (Value.int (iI q))) (bI_f (by first | exact arN_f (j := jj) (by rw [← k1.1]; omega) 10 (by omega) | (rw [show (10 : Nat) = jj from by omega]; exact k2))).symm, rfl⟩
        · refine lv_iconst (v := iI 0) hx hb dX6_isAtRest_38 rfl ?_
          refine r_zret C hr hlk hI (by decide +kernel) ?_ dX6_isAtRest_39
          exact ⟨congrArg (fun q => some (Value.int (iI q))) (bI_f (by first | exact arN_f (j := jj) (by rw [← k1.1]; omega) 10 (by omega) | (rw [show (10 : Nat) = jj from by omega]; exact k2))).symm, rfl⟩
  exact lp19 _ 0 0 (by omega) (by rfl) (Nat.lt_succ_self _) _ _ hI ls (lv_sub hl [0, 1, 2, 3, 4, 5, 6] rfl)
set_option maxHeartbeats 4000000 in
set_option maxRecDepth 100000 in
theorem c_X6_partInLeastTerms (l : Launch) (g : GT) (M : Mem) (aa : Int) (ba : Int) (P : Prop) [Decidable P] (h1 : 0 ≤ aa ∧ aa ≤ 125) (h2 : 1 ≤ ba ∧ ba ≤ 125) : Ctr l g yX6_partInLeastTerms wsX6_partInLeastTerms ({ frames := 0, cells := 0, slots := 0, locals := 0 } : Room) [.int (iI aa), .int (iI ba), .int (iI (bI P))] M (pI ((if P then aa else ba) / cdO aa ba ba.toNat) M) := by
  refine Ctr.mk (cc := cX6_partInLeastTerms) (maxL := 5) (ret := some .int) (lv := [(0, .int (iI aa)), (1, .int (iI ba)), (2, .int (iI (bI P)))]) (by decide) rfl (Nat.le_of_ble_eq_true rfl) rfl ?_
  intro p e s m below meth c C hr hlk hI ls hl
  have C : CallFix p m c cX6_partInLeastTerms 5 s ([.int (iI aa), .int (iI ba), .int (iI (bI P))] : List Value).toArray wsX6_partInLeastTerms RX6 := C
  have hx := C.1
  have hb := C.2.1
  have hts := C.2.2.2.2
  refine lv_iload_n hx hb dX6_partInLeastTerms_0 rfl (lv_at hl 2 rfl) ?_
  refine r_b_eq hx hb (tgt := 8) dX6_partInLeastTerms_1 (by decide) (fun c_1 => ?_) (fun c_1 => ?_)
  · have hpt : ba = (if P then aa else ba) := (if_neg c_1).symm
    refine lv_iload_n hx hb dX6_partInLeastTerms_8 rfl (lv_at hl 1 rfl) ?_
    refine lv_istore_n (lv' := [(3, .int (iI ba)), (0, .int (iI aa)), (1, .int (iI ba)), (2, .int (iI (bI P)))]) hx hb dX6_partInLeastTerms_9 rfl hl (by decide) rfl (fun ls hl => ?_)
    refine lv_iload_n hx hb dX6_partInLeastTerms_10 rfl (lv_at hl 2 rfl) ?_
    refine lv_istore (lv' := [(4, .int (iI ba)), (3, .int (iI ba)), (0, .int (iI aa)), (1, .int (iI ba)), (2, .int (iI (bI P)))]) hx hb dX6_partInLeastTerms_11 hl (by decide) rfl (fun ls hl => ?_)
    have lp13 : ∀ (n13 : Nat) (tt : Int) (jj : Nat), (tt = (jj : Int) ∧ tt ≤ 125) → (cdO aa ba jj = cdO aa ba ba.toNat) → jj < n13 → ∀ (H : Heap) (locs : List Loc), HI g s H locs M → ∀ ls : Array Slot, lv_has ls 5 [(4, .int (iI tt)), (3, .int (iI ba)), (0, .int (iI aa)), (1, .int (iI ba)), (2, .int (iI (bI P)))] → W p l e ({ frames := 0, cells := 0, slots := 0, locals := 0 } : Room) s m ([.int (iI aa), .int (iI ba), .int (iI (bI P))] : List Value).toArray below meth c H locs 0 0 (MQ below (QV g (pI ((if P then aa else ba) / cdO aa ba ba.toNat) M)) ([.int (iI aa), .int (iI ba), .int (iI (bI P))] : List Value).toArray s 0 0 (AA g)) (F0 m 13 ls []) := by
      intro n13
      induction n13 with
      | zero => intro tt jj k1 k2 hn13; exact absurd hn13 (Nat.not_lt_zero _)
      | succ n13 ih13 =>
        intro tt jj k1 k2 hn13 H locs hI ls hl
        have em1 : 0 < tt → 0 ≤ aa % tt ∧ aa % tt < tt := fun q => ⟨Int.emod_nonneg _ (by omega), Int.emod_lt_of_pos _ q⟩
        have em2 : 0 < tt → 0 ≤ ba % tt ∧ ba % tt < tt := fun q => ⟨Int.emod_nonneg _ (by omega), Int.emod_lt_of_pos _ q⟩
        refine lv_iload hx hb dX6_partInLeastTerms_13 (lv_at hl 0 rfl) ?_
        refine lv_iconst (v := iI 1) hx hb dX6_partInLeastTerms_15 rfl ?_
        refine r_icmp_le hx hb (tgt := 44) (by omega) (by decide) dX6_partInLeastTerms_16 (by decide) (fun c_2 => ?_) (fun c_2 => ?_)
        · refine lv_iload_n hx hb dX6_partInLeastTerms_44 rfl (lv_at hl 1 rfl) ?_
          refine r_iret C hr hlk hI ?_ dX6_partInLeastTerms_45
          exact ⟨congrArg (fun q => some (Value.int (iI q))) (show ba = (if P then aa else ba) / cdO aa ba ba.toNat from by rw [← k2, cdO_0 (by omega), ← hpt, Int.ediv_one]), rfl⟩
        · refine lv_iload_n hx hb dX6_partInLeastTerms_19 rfl (lv_at hl 2 rfl) ?_
          refine lv_iload hx hb dX6_partInLeastTerms_20 (lv_at hl 0 rfl) ?_
          refine r_irem hx hb (by omega) (by omega) dX6_partInLeastTerms_22 ?_
          refine r_if_ne hx hb (tgt := 38) (by omega) dX6_partInLeastTerms_23 (by decide) (fun c_3 => ?_) (fun c_3 => ?_)
          · refine lv_iinc (v := iI (tt + (-1))) (lv' := [(4, .int (iI (tt + (-1)))), (3, .int (iI ba)), (0, .int (iI aa)), (1, .int (iI ba)), (2, .int (iI (bI P)))]) hx hb dX6_partInLeastTerms_38 hl (k := 0) rfl (iI_add _ _) (by decide) rfl (fun ls hl => ?_)
            refine lv_goto (tgt := 13) hx hb dX6_partInLeastTerms_41 (by decide) ?_
            exact ih13 (tt + (-1)) (jj - 1) (by omega) (by (obtain ⟨i0, hi0⟩ : ∃ i0, jj = i0 + 1 := ⟨jj - 1, by omega⟩); subst hi0; rw [cdO_2 k1.1 (by omega) (by omega)] at k2; exact k2) (by omega) _ _ hI ls (lv_sub hl [0, 1, 2, 3, 4] rfl)
          · refine lv_iload_n hx hb dX6_partInLeastTerms_26 rfl (lv_at hl 3 rfl) ?_
            refine lv_iload hx hb dX6_partInLeastTerms_27 (lv_at hl 0 rfl) ?_
            refine r_irem hx hb (by omega) (by omega) dX6_partInLeastTerms_29 ?_
            refine r_if_ne hx hb (tgt := 38) (by omega) dX6_partInLeastTerms_30 (by decide) (fun c_4 => ?_) (fun c_4 => ?_)
            · refine lv_iinc (v := iI (tt + (-1))) (lv' := [(4, .int (iI (tt + (-1)))), (3, .int (iI ba)), (0, .int (iI aa)), (1, .int (iI ba)), (2, .int (iI (bI P)))]) hx hb dX6_partInLeastTerms_38 hl (k := 0) rfl (iI_add _ _) (by decide) rfl (fun ls hl => ?_)
              refine lv_goto (tgt := 13) hx hb dX6_partInLeastTerms_41 (by decide) ?_
              exact ih13 (tt + (-1)) (jj - 1) (by omega) (by (obtain ⟨i0, hi0⟩ : ∃ i0, jj = i0 + 1 := ⟨jj - 1, by omega⟩); subst hi0; rw [cdO_2 k1.1 (by omega) (by omega)] at k2; exact k2) (by omega) _ _ hI ls (lv_sub hl [0, 1, 2, 3, 4] rfl)
            · refine lv_iload_n hx hb dX6_partInLeastTerms_33 rfl (lv_at hl 1 rfl) ?_
              refine lv_iload hx hb dX6_partInLeastTerms_34 (lv_at hl 0 rfl) ?_
              refine r_idiv hx hb (by omega) (by omega) dX6_partInLeastTerms_36 ?_
              refine r_iret C hr hlk hI ?_ dX6_partInLeastTerms_37
              exact ⟨congrArg (fun q => some (Value.int (iI q))) (show ba / tt = (if P then aa else ba) / cdO aa ba ba.toNat from by (obtain ⟨i0, hi0⟩ : ∃ i0, jj = i0 + 1 := ⟨jj - 1, by omega⟩); subst hi0; rw [← k2, cdO_1 k1.1 (by omega) (by assumption) (by assumption), ← hpt]), rfl⟩
    exact lp13 _ ba (ba.toNat) (by omega) (by rfl) (Nat.lt_succ_self _) _ _ hI ls (lv_sub hl [0, 1, 2, 3, 4] rfl)
  · have hpt : aa = (if P then aa else ba) := (if_pos c_1).symm
    refine lv_iload_n hx hb dX6_partInLeastTerms_4 rfl (lv_at hl 0 rfl) ?_
    refine lv_goto (tgt := 9) hx hb dX6_partInLeastTerms_5 (by decide) ?_
    refine lv_istore_n (lv' := [(3, .int (iI aa)), (0, .int (iI aa)), (1, .int (iI ba)), (2, .int (iI (bI P)))]) hx hb dX6_partInLeastTerms_9 rfl hl (by decide) rfl (fun ls hl => ?_)
    refine lv_iload_n hx hb dX6_partInLeastTerms_10 rfl (lv_at hl 2 rfl) ?_
    refine lv_istore (lv' := [(4, .int (iI ba)), (3, .int (iI aa)), (0, .int (iI aa)), (1, .int (iI ba)), (2, .int (iI (bI P)))]) hx hb dX6_partInLeastTerms_11 hl (by decide) rfl (fun ls hl => ?_)
    have lp13 : ∀ (n13 : Nat) (tt : Int) (jj : Nat), (tt = (jj : Int) ∧ tt ≤ 125) → (cdO aa ba jj = cdO aa ba ba.toNat) → jj < n13 → ∀ (H : Heap) (locs : List Loc), HI g s H locs M → ∀ ls : Array Slot, lv_has ls 5 [(4, .int (iI tt)), (3, .int (iI aa)), (0, .int (iI aa)), (1, .int (iI ba)), (2, .int (iI (bI P)))] → W p l e ({ frames := 0, cells := 0, slots := 0, locals := 0 } : Room) s m ([.int (iI aa), .int (iI ba), .int (iI (bI P))] : List Value).toArray below meth c H locs 0 0 (MQ below (QV g (pI ((if P then aa else ba) / cdO aa ba ba.toNat) M)) ([.int (iI aa), .int (iI ba), .int (iI (bI P))] : List Value).toArray s 0 0 (AA g)) (F0 m 13 ls []) := by
      intro n13
      induction n13 with
      | zero => intro tt jj k1 k2 hn13; exact absurd hn13 (Nat.not_lt_zero _)
      | succ n13 ih13 =>
        intro tt jj k1 k2 hn13 H locs hI ls hl
        have em1 : 0 < tt → 0 ≤ aa % tt ∧ aa % tt < tt := fun q => ⟨Int.emod_nonneg _ (by omega), Int.emod_lt_of_pos _ q⟩
        have em2 : 0 < tt → 0 ≤ ba % tt ∧ ba % tt < tt := fun q => ⟨Int.emod_nonneg _ (by omega), Int.emod_lt_of_pos _ q⟩
        refine lv_iload hx hb dX6_partInLeastTerms_13 (lv_at hl 0 rfl) ?_
        refine lv_iconst (v := iI 1) hx hb dX6_partInLeastTerms_15 rfl ?_
        refine r_icmp_le hx hb (tgt := 44) (by omega) (by decide) dX6_partInLeastTerms_16 (by decide) (fun c_5 => ?_) (fun c_5 => ?_)
        · refine lv_iload_n hx hb dX6_partInLeastTerms_44 rfl (lv_at hl 1 rfl) ?_
          refine r_iret C hr hlk hI ?_ dX6_partInLeastTerms_45
          exact ⟨congrArg (fun q => some (Value.int (iI q))) (show aa = (if P then aa else ba) / cdO aa ba ba.toNat from by rw [← k2, cdO_0 (by omega), ← hpt, Int.ediv_one]), rfl⟩
        · refine lv_iload_n hx hb dX6_partInLeastTerms_19 rfl (lv_at hl 2 rfl) ?_
          refine lv_iload hx hb dX6_partInLeastTerms_20 (lv_at hl 0 rfl) ?_
          refine r_irem hx hb (by omega) (by omega) dX6_partInLeastTerms_22 ?_
          refine r_if_ne hx hb (tgt := 38) (by omega) dX6_partInLeastTerms_23 (by decide) (fun c_6 => ?_) (fun c_6 => ?_)
          · refine lv_iinc (v := iI (tt + (-1))) (lv' := [(4, .int (iI (tt + (-1)))), (3, .int (iI aa)), (0, .int (iI aa)), (1, .int (iI ba)), (2, .int (iI (bI P)))]) hx hb dX6_partInLeastTerms_38 hl (k := 0) rfl (iI_add _ _) (by decide) rfl (fun ls hl => ?_)
            refine lv_goto (tgt := 13) hx hb dX6_partInLeastTerms_41 (by decide) ?_
            exact ih13 (tt + (-1)) (jj - 1) (by omega) (by (obtain ⟨i0, hi0⟩ : ∃ i0, jj = i0 + 1 := ⟨jj - 1, by omega⟩); subst hi0; rw [cdO_2 k1.1 (by omega) (by omega)] at k2; exact k2) (by omega) _ _ hI ls (lv_sub hl [0, 1, 2, 3, 4] rfl)
          · refine lv_iload_n hx hb dX6_partInLeastTerms_26 rfl (lv_at hl 3 rfl) ?_
            refine lv_iload hx hb dX6_partInLeastTerms_27 (lv_at hl 0 rfl) ?_
            refine r_irem hx hb (by omega) (by omega) dX6_partInLeastTerms_29 ?_
            refine r_if_ne hx hb (tgt := 38) (by omega) dX6_partInLeastTerms_30 (by decide) (fun c_7 => ?_) (fun c_7 => ?_)
            · refine lv_iinc (v := iI (tt + (-1))) (lv' := [(4, .int (iI (tt + (-1)))), (3, .int (iI aa)), (0, .int (iI aa)), (1, .int (iI ba)), (2, .int (iI (bI P)))]) hx hb dX6_partInLeastTerms_38 hl (k := 0) rfl (iI_add _ _) (by decide) rfl (fun ls hl => ?_)
              refine lv_goto (tgt := 13) hx hb dX6_partInLeastTerms_41 (by decide) ?_
              exact ih13 (tt + (-1)) (jj - 1) (by omega) (by (obtain ⟨i0, hi0⟩ : ∃ i0, jj = i0 + 1 := ⟨jj - 1, by omega⟩); subst hi0; rw [cdO_2 k1.1 (by omega) (by omega)] at k2; exact k2) (by omega) _ _ hI ls (lv_sub hl [0, 1, 2, 3, 4] rfl)
            · refine lv_iload_n hx hb dX6_partInLeastTerms_33 rfl (lv_at hl 1 rfl) ?_
              refine lv_iload hx hb dX6_partInLeastTerms_34 (lv_at hl 0 rfl) ?_
              refine r_idiv hx hb (by omega) (by omega) dX6_partInLeastTerms_36 ?_
              refine r_iret C hr hlk hI ?_ dX6_partInLeastTerms_37
              exact ⟨congrArg (fun q => some (Value.int (iI q))) (show aa / tt = (if P then aa else ba) / cdO aa ba ba.toNat from by (obtain ⟨i0, hi0⟩ : ∃ i0, jj = i0 + 1 := ⟨jj - 1, by omega⟩); subst hi0; rw [← k2, cdO_1 k1.1 (by omega) (by assumption) (by assumption), ← hpt]), rfl⟩
    exact lp13 _ ba (ba.toNat) (by omega) (by rfl) (Nat.lt_succ_self _) _ _ hI ls (lv_sub hl [0, 1, 2, 3, 4] rfl)
set_option maxHeartbeats 4000000 in
set_option maxRecDepth 100000 in
theorem c_X6_slotAtN (l : Launch) (g : GT) (M : Mem) (v : Int) (h1 : ¬ (0 ≤ v ∧ v < 2)) (h2 : -2147483648 ≤ v ∧ v < 2147483648) : Ctr l g yX6_slotAt wsX6_slotAt ({ frames := 0, cells := 0, slots := 0, locals := 0 } : Room) [.ref (gA g 0), .int (iI v)] M (pN M) := by
  refine Ctr.mk (cc := cX6_slotAt) (maxL := 2) (ret := some (.object "GloveReply$Moment")) (lv := [(0, .ref (gA g 0)), (1, .int (iI v))]) (by decide) rfl (Nat.le_of_ble_eq_true rfl) rfl ?_
  intro p e s m below meth c C hr hlk hI ls hl
  have C : CallFix p m c cX6_slotAt 2 s ([.ref (gA g 0), .int (iI v)] : List Value).toArray wsX6_slotAt RX6 := C
  have hx := C.1
  have hb := C.2.1
  have hts := C.2.2.2.2
  have hin6 : ∀ w ∈ u_ws RX6 TX6 9, w ∈ wsX6_slotAt := by decide +kernel
  refine lv_iload_n hx hb dX6_slotAt_0 rfl (lv_at hl 1 rfl) ?_
  refine r_if_lt hx hb (tgt := 22) (by omega) dX6_slotAt_1 (by decide) (fun c_1 => ?_) (fun c_1 => ?_)
  · refine lv_null hx hb dX6_slotAt_22 ?_
    refine r_nret C hr hlk hI rfl ?_ dX6_slotAt_23
    exact ⟨rfl, rfl⟩
  · refine lv_iload_n hx hb dX6_slotAt_4 rfl (lv_at hl 1 rfl) ?_
    refine lv_aload_n hx hb dX6_slotAt_5 rfl (lv_at hl 0 rfl) ?_
    refine r_get C hI 0 (by decide) rfl rfl hin6 7 (by decide) (fn := "slots") (fd := "[LGloveReply$Moment;") (index := 54) (by decide +kernel) ⟨rfl, rfl, rfl⟩ (v := .ref (gA g 17)) rfl dX6_slotAt_6 ?_
    refine r_qlen C hI 17 (by decide) rfl dX6_slotAt_9 ?_
    refine r_icmp_ge hx hb (tgt := 22) (by omega) (by decide) dX6_slotAt_10 (by decide) (fun c_2 => ?_) (fun c_2 => ?_)
    · refine lv_null hx hb dX6_slotAt_22 ?_
      refine r_nret C hr hlk hI rfl ?_ dX6_slotAt_23
      exact ⟨rfl, rfl⟩
    · exact False.elim (by omega)
set_option maxHeartbeats 4000000 in
set_option maxRecDepth 100000 in
theorem c_X6_slotAtR (l : Launch) (g : GT) (M : Mem) (v : Int) (h1 : 0 ≤ v ∧ v < 2) : Ctr l g yX6_slotAt wsX6_slotAt ({ frames := 0, cells := 0, slots := 0, locals := 0 } : Room) [.ref (gA g 0), .int (iI v)] M (pR (gA g (sltO v)) M) := by
  refine Ctr.mk (cc := cX6_slotAt) (maxL := 2) (ret := some (.object "GloveReply$Moment")) (lv := [(0, .ref (gA g 0)), (1, .int (iI v))]) (by decide) rfl (Nat.le_of_ble_eq_true rfl) rfl ?_
  intro p e s m below meth c C hr hlk hI ls hl
  have C : CallFix p m c cX6_slotAt 2 s ([.ref (gA g 0), .int (iI v)] : List Value).toArray wsX6_slotAt RX6 := C
  have hx := C.1
  have hb := C.2.1
  have hts := C.2.2.2.2
  have hin6 : ∀ w ∈ u_ws RX6 TX6 9, w ∈ wsX6_slotAt := by decide +kernel
  refine lv_iload_n hx hb dX6_slotAt_0 rfl (lv_at hl 1 rfl) ?_
  refine r_if_lt hx hb (tgt := 22) (by omega) dX6_slotAt_1 (by decide) (fun c_1 => ?_) (fun c_1 => ?_)
  · exact False.elim (by omega)
  · refine lv_iload_n hx hb dX6_slotAt_4 rfl (lv_at hl 1 rfl) ?_
    refine lv_aload_n hx hb dX6_slotAt_5 rfl (lv_at hl 0 rfl) ?_
    refine r_get C hI 0 (by decide) rfl rfl hin6 7 (by decide) (fn := "slots") (fd := "[LGloveReply$Moment;") (index := 54) (by decide +kernel) ⟨rfl, rfl, rfl⟩ (v := .ref (gA g 17)) rfl dX6_slotAt_6 ?_
    refine r_qlen C hI 17 (by decide) rfl dX6_slotAt_9 ?_
    refine r_icmp_ge hx hb (tgt := 22) (by omega) (by decide) dX6_slotAt_10 (by decide) (fun c_2 => ?_) (fun c_2 => ?_)
    · exact False.elim (by omega)
    · refine lv_aload_n hx hb dX6_slotAt_13 rfl (lv_at hl 0 rfl) ?_
      refine r_get C hI 0 (by decide) rfl rfl hin6 7 (by decide) (fn := "slots") (fd := "[LGloveReply$Moment;") (index := 54) (by decide +kernel) ⟨rfl, rfl, rfl⟩ (v := .ref (gA g 17)) rfl dX6_slotAt_14 ?_
      refine lv_iload_n hx hb dX6_slotAt_17 rfl (lv_at hl 1 rfl) ?_
      refine r_qld C hI 17 (by decide) rfl (by omega) (by decide) (a := gA g (80 + 3 * (v).toNat)) rfl dX6_slotAt_18 ?_
      refine r_nmC (fun o_1 eo_1 => ?_)
      have mo_1 : isMo o_1 := ⟨by omega, by omega, by omega⟩
      have mo_1a := mo_1.1
      have mo_1b := mo_1.2.1
      have mo_1c := mo_1.2.2
      refine lv_goto (tgt := 23) hx hb dX6_slotAt_19 (by decide) ?_
      refine r_aret C hr hlk hI rfl ?_ dX6_slotAt_23
      exact ⟨by rw [eo_1]; rfl, rfl⟩
set_option maxHeartbeats 4000000 in
set_option maxRecDepth 100000 in
theorem c_X6_keepN (l : Launch) (g : GT) (M : Mem) (v : Int) (h1 : ¬ (0 ≤ v ∧ v < 2)) (h2 : -2147483648 ≤ v ∧ v < 2147483648) : Ctr l g yX6_keep wsX6_keep ({ frames := 2, cells := 0, slots := 0, locals := 43 } : Room) [.ref (gA g 0), .int (iI v)] M (pI (-1) M) := by
  refine Ctr.mk (cc := cX6_keep) (maxL := 3) (ret := some .int) (lv := [(0, .ref (gA g 0)), (1, .int (iI v))]) (by decide) rfl (Nat.le_of_ble_eq_true rfl) rfl ?_
  intro p e s m below meth c C hr hlk hI ls hl
  have C : CallFix p m c cX6_keep 3 s ([.ref (gA g 0), .int (iI v)] : List Value).toArray wsX6_keep RX6 := C
  have hx := C.1
  have hb := C.2.1
  have hts := C.2.2.2.2
  have hin6 : ∀ w ∈ u_ws RX6 TX6 9, w ∈ wsX6_keep := by decide +kernel
  refine lv_aload_n hx hb dX6_keep_0 rfl (lv_at hl 0 rfl) ?_
  refine lv_iload_n hx hb dX6_keep_1 rfl (lv_at hl 1 rfl) ?_
  refine r_iv C hI (As := [.int (iI v)]) (rest := []) (c_X6_slotAtN l g M v (by omega) (by omega)) (cwV 1 hts gX6_keep_X6_slotAt rfl rfl rfl (by decide +kernel) ⟨Nat.le_of_ble_eq_true rfl, Nat.le_of_ble_eq_true rfl⟩) (by decide) rfl rfl rfl hl.1 rfl (Nat.le_of_ble_eq_true rfl) dX6_keep_2 ⟨Nat.zero_le _, Nat.zero_le _⟩ (k_N (fun H locs hI => ?_))
  refine lv_astore_nN (lv' := [(2, .null), (0, .ref (gA g 0)), (1, .int (iI v))]) hx hb dX6_keep_5 rfl hl (by decide) rfl (fun ls hl => ?_)
  refine lv_aload_nN hx hb dX6_keep_6 rfl (lv_at hl 0 rfl) ?_
  refine lv_ifnonnullN hx hb dX6_keep_7 ?_
  refine lv_iconst (v := iI (-1)) hx hb dX6_keep_10 rfl ?_
  refine r_iret C hr hlk hI ?_ dX6_keep_11
  exact ⟨congrArg (fun q => some (Value.int (iI q))) (show (-1) = -1 from by rfl), (show M = M from by rfl)⟩
set_option maxHeartbeats 4000000 in
set_option maxRecDepth 100000 in
theorem c_X6_keepR (l : Launch) (g : GT) (M : Mem) (v : Int) (h1 : 0 ≤ v ∧ v < 2) : Ctr l g yX6_keep wsX6_keep ({ frames := 2, cells := 0, slots := 0, locals := 43 } : Room) [.ref (gA g 0), .int (iI v)] M (pI (M 32 2) (cpM M 32 (sltO v))) := by
  refine Ctr.mk (cc := cX6_keep) (maxL := 3) (ret := some .int) (lv := [(0, .ref (gA g 0)), (1, .int (iI v))]) (by decide) rfl (Nat.le_of_ble_eq_true rfl) rfl ?_
  intro p e s m below meth c C hr hlk hI ls hl
  have C : CallFix p m c cX6_keep 3 s ([.ref (gA g 0), .int (iI v)] : List Value).toArray wsX6_keep RX6 := C
  have hx := C.1
  have hb := C.2.1
  have hts := C.2.2.2.2
  have hin6 : ∀ w ∈ u_ws RX6 TX6 9, w ∈ wsX6_keep := by decide +kernel
  refine lv_aload_n hx hb dX6_keep_0 rfl (lv_at hl 0 rfl) ?_
  refine lv_iload_n hx hb dX6_keep_1 rfl (lv_at hl 1 rfl) ?_
  refine r_iv C hI (As := [.int (iI v)]) (rest := []) (c_X6_slotAtR l g M v (by omega)) (cwV 1 hts gX6_keep_X6_slotAt rfl rfl rfl (by decide +kernel) ⟨Nat.le_of_ble_eq_true rfl, Nat.le_of_ble_eq_true rfl⟩) (by decide) rfl rfl rfl hl.1 rfl (Nat.le_of_ble_eq_true rfl) dX6_keep_2 ⟨Nat.zero_le _, Nat.zero_le _⟩ (k_R (fun H locs hI => ?_))
  refine r_nmC (fun o_1 eo_1 => ?_)
  have mo_1 : isMo o_1 := by rw [eo_1]; exact (sltO_b (by omega)).1
  have bo_1 : o_1 = 80 ∨ o_1 = 83 := by rw [eo_1]; exact (sltO_b (by omega)).2
  have mo_1a := mo_1.1
  have mo_1b := mo_1.2.1
  have mo_1c := mo_1.2.2
  refine lv_astore_n (lv' := [(2, .ref (gA g o_1)), (0, .ref (gA g 0)), (1, .int (iI v))]) hx hb dX6_keep_5 rfl hl (by decide) rfl (fun ls hl => ?_)
  refine lv_aload_n hx hb dX6_keep_6 rfl (lv_at hl 0 rfl) ?_
  refine lv_ifnonnull (tgt := 12) hx hb dX6_keep_7 (by decide) ?_
  refine lv_aload_n hx hb dX6_keep_12 rfl (lv_at hl 0 rfl) ?_
  refine lv_aload_n hx hb dX6_keep_13 rfl (lv_at hl 1 rfl) ?_
  refine r_get C hI 0 (by decide) rfl rfl hin6 2 (by decide) (fn := "now") (fd := "LGloveReply$Moment;") (index := 26) (by decide +kernel) ⟨rfl, rfl, rfl⟩ (v := .ref (gA g 32)) rfl dX6_keep_14 ?_
  refine r_iv C hI (As := [.ref (gA g 32)]) (rest := []) (c_X2_copy l g M o_1 32 mo_1 (by decide) (by omega)) (cwV 1 hts gX6_keep_X2_copy rfl rfl rfl (by decide +kernel) ⟨Nat.le_of_ble_eq_true rfl, Nat.le_of_ble_eq_true rfl⟩) (by omega) (ceMo mo_1 _) rfl rfl hl.1 rfl (Nat.le_of_ble_eq_true rfl) dX6_keep_17 ⟨Nat.zero_le _, Nat.zero_le _⟩ (k_V (fun H locs hI => ?_))
  have ec : cpM M 32 o_1 32 2 = M 32 2 := by rw [cpM_n (by omega)]
  refine lv_aload_n hx hb dX6_keep_20 rfl (lv_at hl 1 rfl) ?_
  refine r_get C hI 0 (by decide) rfl rfl hin6 2 (by decide) (fn := "now") (fd := "LGloveReply$Moment;") (index := 26) (by decide +kernel) ⟨rfl, rfl, rfl⟩ (v := .ref (gA g 32)) rfl dX6_keep_21 ?_
  refine r_iv C hI (As := []) (rest := []) (c_X2_today l g (cpM M 32 o_1) 32 (by decide)) (cwV 0 hts gX6_keep_X2_today rfl rfl rfl (by decide +kernel) ⟨Nat.le_of_ble_eq_true rfl, Nat.le_of_ble_eq_true rfl⟩) (by decide) (ceMo (show isMo 32 from by decide) _) rfl rfl hl.1 rfl (Nat.le_of_ble_eq_true rfl) dX6_keep_24 ⟨Nat.zero_le _, Nat.zero_le _⟩ (k_I (fun H locs hI => ?_))
  refine r_iret C hr hlk hI ?_ dX6_keep_27
  exact ⟨congrArg (fun q => some (Value.int (iI q))) (show (cpM M 32 o_1) 32 2 = M 32 2 from by exact ec), (show cpM M 32 o_1 = cpM M 32 (sltO v) from by rw [eo_1])⟩
theorem c_X6_keep (l : Launch) (g : GT) (M : Mem) (v : Int) (wf : WF M) (h2 : -2147483648 ≤ v ∧ v < 2147483648) : Ctr l g yX6_keep wsX6_keep ({ frames := 2, cells := 0, slots := 0, locals := 43 } : Room) [.ref (gA g 0), .int (iI v)] M (pI (zKee (M) v) (gKee M v)) := by
  unfold zKee gKee
  by_cases h : 0 ≤ v ∧ v < 2
  · rw [if_neg (fun q => q h), if_neg (fun q => q h)]
    exact c_X6_keepR l g M v h
  · rw [if_pos h, if_pos h]
    exact c_X6_keepN l g M v h h2
set_option maxHeartbeats 4000000 in
set_option maxRecDepth 100000 in
theorem c_X6_againN (l : Launch) (g : GT) (M : Mem) (v : Int) (h1 : ¬ (0 ≤ v ∧ v < 2)) (h2 : -2147483648 ≤ v ∧ v < 2147483648) : Ctr l g yX6_again wsX6_again ({ frames := 2, cells := 0, slots := 0, locals := 43 } : Room) [.ref (gA g 0), .int (iI v)] M (pI (-1) M) := by
  refine Ctr.mk (cc := cX6_again) (maxL := 3) (ret := some .int) (lv := [(0, .ref (gA g 0)), (1, .int (iI v))]) (by decide) rfl (Nat.le_of_ble_eq_true rfl) rfl ?_
  intro p e s m below meth c C hr hlk hI ls hl
  have C : CallFix p m c cX6_again 3 s ([.ref (gA g 0), .int (iI v)] : List Value).toArray wsX6_again RX6 := C
  have hx := C.1
  have hb := C.2.1
  have hts := C.2.2.2.2
  have hin6 : ∀ w ∈ u_ws RX6 TX6 9, w ∈ wsX6_again := by decide +kernel
  refine lv_aload_n hx hb dX6_again_0 rfl (lv_at hl 0 rfl) ?_
  refine lv_iload_n hx hb dX6_again_1 rfl (lv_at hl 1 rfl) ?_
  refine r_iv C hI (As := [.int (iI v)]) (rest := []) (c_X6_slotAtN l g M v (by omega) (by omega)) (cwV 1 hts gX6_again_X6_slotAt rfl rfl rfl (by decide +kernel) ⟨Nat.le_of_ble_eq_true rfl, Nat.le_of_ble_eq_true rfl⟩) (by decide) rfl rfl rfl hl.1 rfl (Nat.le_of_ble_eq_true rfl) dX6_again_2 ⟨Nat.zero_le _, Nat.zero_le _⟩ (k_N (fun H locs hI => ?_))
  refine lv_astore_nN (lv' := [(2, .null), (0, .ref (gA g 0)), (1, .int (iI v))]) hx hb dX6_again_5 rfl hl (by decide) rfl (fun ls hl => ?_)
  refine lv_aload_nN hx hb dX6_again_6 rfl (lv_at hl 0 rfl) ?_
  refine lv_ifnonnullN hx hb dX6_again_7 ?_
  refine lv_iconst (v := iI (-1)) hx hb dX6_again_10 rfl ?_
  refine r_iret C hr hlk hI ?_ dX6_again_11
  exact ⟨congrArg (fun q => some (Value.int (iI q))) (show (-1) = -1 from by rfl), (show M = M from by rfl)⟩
set_option maxHeartbeats 4000000 in
set_option maxRecDepth 100000 in
theorem c_X6_againR (l : Launch) (g : GT) (M : Mem) (v : Int) (h1 : 0 ≤ v ∧ v < 2) (ht : M (sltO v) 3 = 0 ∨ M (sltO v) 3 = 1) : Ctr l g yX6_again wsX6_again ({ frames := 2, cells := 0, slots := 0, locals := 43 } : Room) [.ref (gA g 0), .int (iI v)] M (pI (if ¬ M (sltO v) 3 = 1 then -3 else M (sltO v) 2) (if ¬ M (sltO v) 3 = 1 then M else mset (cpM M (sltO v) 32) 15 2 0)) := by
  refine Ctr.mk (cc := cX6_again) (maxL := 3) (ret := some .int) (lv := [(0, .ref (gA g 0)), (1, .int (iI v))]) (by decide) rfl (Nat.le_of_ble_eq_true rfl) rfl ?_
  intro p e s m below meth c C hr hlk hI ls hl
  have C : CallFix p m c cX6_again 3 s ([.ref (gA g 0), .int (iI v)] : List Value).toArray wsX6_again RX6 := C
  have hx := C.1
  have hb := C.2.1
  have hts := C.2.2.2.2
  have hin6 : ∀ w ∈ u_ws RX6 TX6 9, w ∈ wsX6_again := by decide +kernel
  refine lv_aload_n hx hb dX6_again_0 rfl (lv_at hl 0 rfl) ?_
  refine lv_iload_n hx hb dX6_again_1 rfl (lv_at hl 1 rfl) ?_
  refine r_iv C hI (As := [.int (iI v)]) (rest := []) (c_X6_slotAtR l g M v (by omega)) (cwV 1 hts gX6_again_X6_slotAt rfl rfl rfl (by decide +kernel) ⟨Nat.le_of_ble_eq_true rfl, Nat.le_of_ble_eq_true rfl⟩) (by decide) rfl rfl rfl hl.1 rfl (Nat.le_of_ble_eq_true rfl) dX6_again_2 ⟨Nat.zero_le _, Nat.zero_le _⟩ (k_R (fun H locs hI => ?_))
  refine r_nmC (fun o_1 eo_1 => ?_)
  have mo_1 : isMo o_1 := by rw [eo_1]; exact (sltO_b (by omega)).1
  have bo_1 : o_1 = 80 ∨ o_1 = 83 := by rw [eo_1]; exact (sltO_b (by omega)).2
  have mo_1a := mo_1.1
  have mo_1b := mo_1.2.1
  have mo_1c := mo_1.2.2
  refine lv_astore_n (lv' := [(2, .ref (gA g o_1)), (0, .ref (gA g 0)), (1, .int (iI v))]) hx hb dX6_again_5 rfl hl (by decide) rfl (fun ls hl => ?_)
  refine lv_aload_n hx hb dX6_again_6 rfl (lv_at hl 0 rfl) ?_
  refine lv_ifnonnull (tgt := 12) hx hb dX6_again_7 (by decide) ?_
  refine lv_aload_n hx hb dX6_again_12 rfl (lv_at hl 0 rfl) ?_
  refine r_iv C hI (As := []) (rest := []) (c_X2_isTaken l g M o_1 mo_1 (show (M o_1 3) = 0 ∨ (M o_1 3) = 1 from by rw [eo_1]; exact ht)) (cwV 0 hts gX6_again_X2_isTaken rfl rfl rfl (by decide +kernel) ⟨Nat.le_of_ble_eq_true rfl, Nat.le_of_ble_eq_true rfl⟩) (by omega) (ceMo mo_1 _) rfl rfl hl.1 rfl (Nat.le_of_ble_eq_true rfl) dX6_again_13 ⟨Nat.zero_le _, Nat.zero_le _⟩ (k_I (fun H locs hI => ?_))
  refine r_b_ne hx hb (tgt := 22) dX6_again_16 (by decide) (fun c_1 => ?_) (fun c_1 => ?_)
  · refine lv_aload_n hx hb dX6_again_22 rfl (lv_at hl 1 rfl) ?_
    refine r_get C hI 0 (by decide) rfl rfl hin6 2 (by decide) (fn := "now") (fd := "LGloveReply$Moment;") (index := 26) (by decide +kernel) ⟨rfl, rfl, rfl⟩ (v := .ref (gA g 32)) rfl dX6_again_23 ?_
    refine lv_aload_n hx hb dX6_again_26 rfl (lv_at hl 0 rfl) ?_
    refine r_iv C hI (As := [.ref (gA g o_1)]) (rest := []) (c_X2_copy l g M 32 o_1 (by decide) mo_1 (by omega)) (cwV 1 hts gX6_again_X2_copy rfl rfl rfl (by decide +kernel) ⟨Nat.le_of_ble_eq_true rfl, Nat.le_of_ble_eq_true rfl⟩) (by decide) (ceMo (show isMo 32 from by decide) _) rfl rfl hl.1 rfl (Nat.le_of_ble_eq_true rfl) dX6_again_27 ⟨Nat.zero_le _, Nat.zero_le _⟩ (k_V (fun H locs hI => ?_))
    have ec : cpM M o_1 32 32 2 = M o_1 2 := by simp [cpM, rw1]
    refine lv_aload_n hx hb dX6_again_30 rfl (lv_at hl 1 rfl) ?_
    refine r_get C hI 0 (by decide) rfl rfl hin6 4 (by decide) (fn := "acts") (fd := "LGloveReply$Acts;") (index := 36) (by decide +kernel) ⟨rfl, rfl, rfl⟩ (v := .ref (gA g 15)) rfl dX6_again_31 ?_
    refine r_iv C hI (As := []) (rest := []) (c_X0_clear l g (cpM M o_1 32)) (cwV 0 hts gX6_again_X0_clear rfl rfl rfl (by decide +kernel) ⟨Nat.le_of_ble_eq_true rfl, Nat.le_of_ble_eq_true rfl⟩) (by decide) rfl rfl rfl hl.1 rfl (Nat.le_of_ble_eq_true rfl) dX6_again_34 ⟨Nat.zero_le _, Nat.zero_le _⟩ (k_V (fun H locs hI => ?_))
    refine lv_aload_n hx hb dX6_again_37 rfl (lv_at hl 1 rfl) ?_
    refine r_get C hI 0 (by decide) rfl rfl hin6 2 (by decide) (fn := "now") (fd := "LGloveReply$Moment;") (index := 26) (by decide +kernel) ⟨rfl, rfl, rfl⟩ (v := .ref (gA g 32)) rfl dX6_again_38 ?_
    refine r_iv C hI (As := []) (rest := []) (c_X2_today l g (mset (cpM M o_1 32) 15 2 0) 32 (by decide)) (cwV 0 hts gX6_again_X2_today rfl rfl rfl (by decide +kernel) ⟨Nat.le_of_ble_eq_true rfl, Nat.le_of_ble_eq_true rfl⟩) (by decide) (ceMo (show isMo 32 from by decide) _) rfl rfl hl.1 rfl (Nat.le_of_ble_eq_true rfl) dX6_again_41 ⟨Nat.zero_le _, Nat.zero_le _⟩ (k_I (fun H locs hI => ?_))
    refine r_eqI (z2 := (cpM M o_1 32) 32 2) rfl ?_
    refine r_iret C hr hlk hI ?_ dX6_again_44
    exact ⟨congrArg (fun q => some (Value.int (iI q))) (show (cpM M o_1 32) 32 2 = if ¬ M (sltO v) 3 = 1 then -3 else M (sltO v) 2 from by rw [if_neg (fun q => q (by rw [← eo_1]; assumption)), ← eo_1]; exact ec), (show mset (cpM M o_1 32) 15 2 0 = if ¬ M (sltO v) 3 = 1 then M else mset (cpM M (sltO v) 32) 15 2 0 from by first | rw [if_pos (by rw [← eo_1]; assumption)] | rw [if_neg (fun q => q (by rw [← eo_1]; assumption)), eo_1])⟩
  · refine lv_bipush (v := iI (-3)) hx hb dX6_again_19 (by decide +kernel) ?_
    refine r_iret C hr hlk hI ?_ dX6_again_21
    exact ⟨congrArg (fun q => some (Value.int (iI q))) (show (-3) = if ¬ M (sltO v) 3 = 1 then -3 else M (sltO v) 2 from by rw [if_pos (by rw [← eo_1]; assumption)]), (show M = if ¬ M (sltO v) 3 = 1 then M else mset (cpM M (sltO v) 32) 15 2 0 from by first | rw [if_pos (by rw [← eo_1]; assumption)] | rw [if_neg (fun q => q (by rw [← eo_1]; assumption)), eo_1])⟩
theorem c_X6_again (l : Launch) (g : GT) (M : Mem) (v : Int) (wf : WF M) (h2 : -2147483648 ≤ v ∧ v < 2147483648) : Ctr l g yX6_again wsX6_again ({ frames := 2, cells := 0, slots := 0, locals := 43 } : Room) [.ref (gA g 0), .int (iI v)] M (pI (zAga (M) v) (gAga M v)) := by
  unfold zAga gAga
  by_cases h : 0 ≤ v ∧ v < 2
  · simp only [if_neg (show ¬¬(0 ≤ v ∧ v < 2) from fun q => q h)]
    refine c_X6_againR l g M v h ?_
    have w9 := wf.2.2.2.2.2.2.2.2.1
    rcases (sltO_b h).2 with e | e
    · rw [e]; exact w9.1.imp id And.left
    · rw [e]; exact w9.2.imp id And.left
  · rw [if_pos h, if_pos h]
    exact c_X6_againN l g M v h h2
set_option maxHeartbeats 4000000 in
set_option maxRecDepth 100000 in
theorem c_X6_pleasesOnTrial (l : Launch) (g : GT) (M : Mem) (x : Int) (y : Int) (hx1 : 0 ≤ x ∧ x < 4) (hy1 : 0 ≤ y ∧ y < 5) (ht36 : ∀ j : Int, 0 ≤ j ∧ j < 4 → 0 ≤ M 36 j ∧ M 36 j < 1000) (ht37 : ∀ j : Int, 0 ≤ j ∧ j < 4 → -2147483648 ≤ M 37 j ∧ M 37 j < 2147483648) (hdP : 0 ≤ M 3 6 ∧ M 3 6 ≤ 5) (hdG : 0 ≤ M 3 7 ∧ M 3 7 ≤ 4) (hdp : ∀ q : Int, 0 ≤ q ∧ q < M 3 6 → (1 ≤ M 4 q ∧ M 4 q ≤ 7) ∧ (1 ≤ M 5 q ∧ M 5 q ≤ 7) ∧ (0 ≤ M 6 q ∧ M 6 q ≤ 9)) (hdg : ∀ q : Int, 0 ≤ q ∧ q < M 3 7 → (1 ≤ M 7 q ∧ M 7 q ≤ 3) ∧ (0 ≤ M 8 q ∧ M 8 q ≤ 3) ∧ (0 ≤ M 9 q ∧ M 9 q ≤ 7)) : Ctr l g yX6_pleasesOnTrial wsX6_pleasesOnTrial ({ frames := 3, cells := 0, slots := 0, locals := 66 } : Room) [.ref (gA g 0), .int (iI x), .int (iI y)] M (pI (bI (plP (M) x y)) (plM M x y)) := by
  refine Ctr.mk (cc := cX6_pleasesOnTrial) (maxL := 4) (ret := some .boolean) (lv := [(0, .ref (gA g 0)), (1, .int (iI x)), (2, .int (iI y))]) (by decide) rfl (Nat.le_of_ble_eq_true rfl) rfl ?_
  intro p e s m below meth c C hr hlk hI ls hl
  have C : CallFix p m c cX6_pleasesOnTrial 4 s ([.ref (gA g 0), .int (iI x), .int (iI y)] : List Value).toArray wsX6_pleasesOnTrial RX6 := C
  have hx := C.1
  have hb := C.2.1
  have hts := C.2.2.2.2
  have hin6 : ∀ w ∈ u_ws RX6 TX6 9, w ∈ wsX6_pleasesOnTrial := by decide +kernel
  have t36 := ht36 x
  have t37 := ht37 x
  have tp := hdp y
  have tg := hdg x
  refine lv_aload_n hx hb dX6_pleasesOnTrial_0 rfl (lv_at hl 0 rfl) ?_
  refine r_get C hI 0 (by decide) rfl rfl hin6 1 (by decide) (fn := "theDesk") (fd := "LGloveReply$Desk;") (index := 19) (by decide +kernel) ⟨rfl, rfl, rfl⟩ (v := .ref (gA g 3)) rfl dX6_pleasesOnTrial_1 ?_
  refine lv_iload_n hx hb dX6_pleasesOnTrial_4 rfl (lv_at hl 1 rfl) ?_
  refine r_iv C hI (As := [.int (iI x)]) (rest := []) (c_X1_hasGlove l g M x (by omega) (show -2147483648 ≤ (M 3 7) ∧ (M 3 7) < 2147483648 from by omega)) (cwV 1 hts gX6_pleasesOnTrial_X1_hasGlove rfl rfl rfl (by decide +kernel) ⟨Nat.le_of_ble_eq_true rfl, Nat.le_of_ble_eq_true rfl⟩) (by decide) rfl rfl rfl hl.1 rfl (Nat.le_of_ble_eq_true rfl) dX6_pleasesOnTrial_5 ⟨Nat.zero_le _, Nat.zero_le _⟩ (k_I (fun H locs hI => ?_))
  refine r_b_eq hx hb (tgt := 22) dX6_pleasesOnTrial_8 (by decide) (fun c_1 => ?_) (fun c_1 => ?_)
  · refine lv_iconst (v := iI 0) hx hb dX6_pleasesOnTrial_22 rfl ?_
    refine r_zret C hr hlk hI (by decide +kernel) ?_ dX6_pleasesOnTrial_23
    exact ⟨congrArg (fun q => some (Value.int (iI q))) (bI_f (by first | exact ⟨⟨⟨by assumption, by assumption⟩, by omega, by assumption⟩, by assumption⟩ | (intro hq; first | exact absurd hq.1.1.1 (by assumption) | exact absurd hq.1.1.2 (by assumption) | exact absurd hq.1.2.1 (by assumption) | exact absurd hq.1.2.2 (by assumption) | exact absurd hq.2 (by assumption)))).symm, (show M = plM M x y from by unfold plM; first | (rw [if_pos ⟨⟨by assumption, by assumption⟩, by omega, by assumption⟩]) | (rw [if_neg (by intro hq; first | exact absurd hq.1.1 (by assumption) | exact absurd hq.1.2 (by assumption) | exact absurd hq.2.1 (by assumption) | exact absurd hq.2.2 (by assumption))]))⟩
  · refine lv_aload_n hx hb dX6_pleasesOnTrial_11 rfl (lv_at hl 0 rfl) ?_
    refine r_get C hI 0 (by decide) rfl rfl hin6 1 (by decide) (fn := "theDesk") (fd := "LGloveReply$Desk;") (index := 19) (by decide +kernel) ⟨rfl, rfl, rfl⟩ (v := .ref (gA g 3)) rfl dX6_pleasesOnTrial_12 ?_
    refine lv_iload_n hx hb dX6_pleasesOnTrial_15 rfl (lv_at hl 2 rfl) ?_
    refine r_iv C hI (As := [.int (iI y)]) (rest := []) (c_X1_hasPerson l g M y (by omega) (show -2147483648 ≤ (M 3 6) ∧ (M 3 6) < 2147483648 from by omega)) (cwV 1 hts gX6_pleasesOnTrial_X1_hasPerson rfl rfl rfl (by decide +kernel) ⟨Nat.le_of_ble_eq_true rfl, Nat.le_of_ble_eq_true rfl⟩) (by decide) rfl rfl rfl hl.1 rfl (Nat.le_of_ble_eq_true rfl) dX6_pleasesOnTrial_16 ⟨Nat.zero_le _, Nat.zero_le _⟩ (k_I (fun H locs hI => ?_))
    refine r_b_ne hx hb (tgt := 24) dX6_pleasesOnTrial_19 (by decide) (fun c_2 => ?_) (fun c_2 => ?_)
    · refine lv_aload_n hx hb dX6_pleasesOnTrial_24 rfl (lv_at hl 0 rfl) ?_
      refine r_get C hI 0 (by decide) rfl rfl hin6 3 (by decide) (fn := "trial") (fd := "LGloveReply$Moment;") (index := 30) (by decide +kernel) ⟨rfl, rfl, rfl⟩ (v := .ref (gA g 35)) rfl dX6_pleasesOnTrial_25 ?_
      refine lv_iload_n hx hb dX6_pleasesOnTrial_28 rfl (lv_at hl 1 rfl) ?_
      refine r_iv C hI (As := [.int (iI x)]) (rest := []) (c_X2_isWorn l g M 35 x (by decide) (by omega) (show -2147483648 ≤ (M 37 x) ∧ (M 37 x) < 2147483648 from by omega)) (cwV 1 hts gX6_pleasesOnTrial_X2_isWorn rfl rfl rfl (by decide +kernel) ⟨Nat.le_of_ble_eq_true rfl, Nat.le_of_ble_eq_true rfl⟩) (by decide) (ceMo (show isMo 35 from by decide) _) rfl rfl hl.1 rfl (Nat.le_of_ble_eq_true rfl) dX6_pleasesOnTrial_29 ⟨Nat.zero_le _, Nat.zero_le _⟩ (k_I (fun H locs hI => ?_))
      refine r_eqI (z2 := bI (¬ (M 37 x) = -9)) rfl ?_
      refine r_b_ne hx hb (tgt := 48) dX6_pleasesOnTrial_32 (by decide) (fun c_3 => ?_) (fun c_3 => ?_)
      · refine lv_iconst (v := iI 0) hx hb dX6_pleasesOnTrial_48 rfl ?_
        refine r_zret C hr hlk hI (by decide +kernel) ?_ dX6_pleasesOnTrial_49
        exact ⟨congrArg (fun q => some (Value.int (iI q))) (bI_f (by first | exact ⟨⟨⟨by assumption, by assumption⟩, by omega, by assumption⟩, by assumption⟩ | (intro hq; first | exact absurd hq.1.1.1 (by assumption) | exact absurd hq.1.1.2 (by assumption) | exact absurd hq.1.2.1 (by assumption) | exact absurd hq.1.2.2 (by assumption) | exact absurd hq.2 (by assumption)))).symm, (show M = plM M x y from by unfold plM; first | (rw [if_pos ⟨⟨by assumption, by assumption⟩, by omega, by assumption⟩]) | (rw [if_neg (by intro hq; first | exact absurd hq.1.1 (by assumption) | exact absurd hq.1.2 (by assumption) | exact absurd hq.2.1 (by assumption) | exact absurd hq.2.2 (by assumption))]))⟩
      · refine lv_aload_n hx hb dX6_pleasesOnTrial_35 rfl (lv_at hl 0 rfl) ?_
        refine r_get C hI 0 (by decide) rfl rfl hin6 3 (by decide) (fn := "trial") (fd := "LGloveReply$Moment;") (index := 30) (by decide +kernel) ⟨rfl, rfl, rfl⟩ (v := .ref (gA g 35)) rfl dX6_pleasesOnTrial_36 ?_
        refine lv_iload_n hx hb dX6_pleasesOnTrial_39 rfl (lv_at hl 2 rfl) ?_
        refine r_iv C hI (As := [.int (iI y)]) (rest := []) (c_X2_gloveOn l g M 35 y (by decide) (by omega) (show ∀ j : Int, 0 ≤ j ∧ j < 4 → -2147483648 ≤ (M 37 j) ∧ (M 37 j) < 2147483648 from by assumption)) (cwV 1 hts gX6_pleasesOnTrial_X2_gloveOn rfl rfl rfl (by decide +kernel) ⟨Nat.le_of_ble_eq_true rfl, Nat.le_of_ble_eq_true rfl⟩) (by decide) (ceMo (show isMo 35 from by decide) _) rfl rfl hl.1 rfl (Nat.le_of_ble_eq_true rfl) dX6_pleasesOnTrial_40 ⟨Nat.zero_le _, Nat.zero_le _⟩ (k_I (fun H locs hI => ?_))
        refine r_eqI (z2 := gOn (M 37) y) rfl ?_
        have ff_1 := gOn_b (M 37) y
        refine lv_bipush (v := iI (-9)) hx hb dX6_pleasesOnTrial_43 (by decide +kernel) ?_
        refine r_icmp_eq hx hb (tgt := 50) (by omega) (by decide) dX6_pleasesOnTrial_45 (by decide) (fun c_4 => ?_) (fun c_4 => ?_)
        · refine lv_aload_n hx hb dX6_pleasesOnTrial_50 rfl (lv_at hl 0 rfl) ?_
          refine r_get C hI 0 (by decide) rfl rfl hin6 3 (by decide) (fn := "trial") (fd := "LGloveReply$Moment;") (index := 30) (by decide +kernel) ⟨rfl, rfl, rfl⟩ (v := .ref (gA g 35)) rfl dX6_pleasesOnTrial_51 ?_
          refine lv_iload_n hx hb dX6_pleasesOnTrial_54 rfl (lv_at hl 1 rfl) ?_
          refine r_iv C hI (As := [.int (iI x)]) (rest := []) (c_X2_keptBy l g M 35 x (by decide) (by omega)) (cwV 1 hts gX6_pleasesOnTrial_X2_keptBy rfl rfl rfl (by decide +kernel) ⟨Nat.le_of_ble_eq_true rfl, Nat.le_of_ble_eq_true rfl⟩) (by decide) (ceMo (show isMo 35 from by decide) _) rfl rfl hl.1 rfl (Nat.le_of_ble_eq_true rfl) dX6_pleasesOnTrial_55 ⟨Nat.zero_le _, Nat.zero_le _⟩ (k_I (fun H locs hI => ?_))
          refine r_eqI (z2 := M 36 x) rfl ?_
          refine lv_istore_n (lv' := [(3, .int (iI (M 36 x))), (0, .ref (gA g 0)), (1, .int (iI x)), (2, .int (iI y))]) hx hb dX6_pleasesOnTrial_58 rfl hl (by decide) rfl (fun ls hl => ?_)
          refine lv_aload_n hx hb dX6_pleasesOnTrial_59 rfl (lv_at hl 1 rfl) ?_
          refine r_get C hI 0 (by decide) rfl rfl hin6 3 (by decide) (fn := "trial") (fd := "LGloveReply$Moment;") (index := 30) (by decide +kernel) ⟨rfl, rfl, rfl⟩ (v := .ref (gA g 35)) rfl dX6_pleasesOnTrial_60 ?_
          refine lv_iload_n hx hb dX6_pleasesOnTrial_63 rfl (lv_at hl 2 rfl) ?_
          refine lv_aload_n hx hb dX6_pleasesOnTrial_64 rfl (lv_at hl 1 rfl) ?_
          refine r_get C hI 0 (by decide) rfl rfl hin6 1 (by decide) (fn := "theDesk") (fd := "LGloveReply$Desk;") (index := 19) (by decide +kernel) ⟨rfl, rfl, rfl⟩ (v := .ref (gA g 3)) rfl dX6_pleasesOnTrial_65 ?_
          refine lv_iload_n hx hb dX6_pleasesOnTrial_68 rfl (lv_at hl 2 rfl) ?_
          refine lv_iload_n hx hb dX6_pleasesOnTrial_69 rfl (lv_at hl 0 rfl) ?_
          refine lv_iload_n hx hb dX6_pleasesOnTrial_70 rfl (lv_at hl 3 rfl) ?_
          refine r_iv C hI (As := [.int (iI x), .int (iI (M 36 x)), .int (iI y)]) (rest := [.int (iI x), .ref (gA g 35)]) (c_X1_afterHand l g M x (M 36 x) y (by omega) (by omega) (by omega) (show -2147483648 ≤ (M 7 x) ∧ (M 7 x) < 2147483648 from by omega)) (cwV 3 hts gX6_pleasesOnTrial_X1_afterHand rfl rfl rfl (by decide +kernel) ⟨Nat.le_of_ble_eq_true rfl, Nat.le_of_ble_eq_true rfl⟩) (by decide) rfl rfl rfl hl.1 rfl (Nat.le_of_ble_eq_true rfl) dX6_pleasesOnTrial_71 ⟨Nat.zero_le _, Nat.zero_le _⟩ (k_I (fun H locs hI => ?_))
          have ff_2 := @behO_b (M 36 x) (M 4 y) (M 7 x)
          refine r_iv C hI (As := [.int (iI x), .int (iI (behO (M 36 x) (M 4 y) (M 7 x)))]) (rest := []) (c_X2_setKept l g M 35 x (behO (M 36 x) (M 4 y) (M 7 x)) (by decide) (by omega)) (cwV 2 hts gX6_pleasesOnTrial_X2_setKept rfl rfl rfl (by decide +kernel) ⟨Nat.le_of_ble_eq_true rfl, Nat.le_of_ble_eq_true rfl⟩) (by decide) (ceMo (show isMo 35 from by decide) _) rfl rfl hl.1 rfl (Nat.le_of_ble_eq_true rfl) dX6_pleasesOnTrial_74 ⟨Nat.zero_le _, Nat.zero_le _⟩ (k_V (fun H locs hI => ?_))
          refine lv_aload_n hx hb dX6_pleasesOnTrial_77 rfl (lv_at hl 1 rfl) ?_
          refine r_get C hI 0 (by decide) rfl rfl hin6 1 (by decide) (fn := "theDesk") (fd := "LGloveReply$Desk;") (index := 19) (by decide +kernel) ⟨rfl, rfl, rfl⟩ (v := .ref (gA g 3)) rfl dX6_pleasesOnTrial_78 ?_
          refine lv_iload_n hx hb dX6_pleasesOnTrial_81 rfl (lv_at hl 2 rfl) ?_
          refine lv_iload_n hx hb dX6_pleasesOnTrial_82 rfl (lv_at hl 0 rfl) ?_
          refine lv_iload_n hx hb dX6_pleasesOnTrial_83 rfl (lv_at hl 3 rfl) ?_
          refine r_iv C hI (As := [.int (iI x), .int (iI (M 36 x)), .int (iI y)]) (rest := []) (c_X1_reply l g (mset M 36 x (behO (M 36 x) (M 4 y) (M 7 x))) x (M 36 x) y (by omega) (by omega) (by omega) (show -2147483648 ≤ (M 8 x) ∧ (M 8 x) < 2147483648 from by omega) (show -2147483648 ≤ (M 4 y) ∧ (M 4 y) < 2147483648 from by omega)) (cwV 3 hts gX6_pleasesOnTrial_X1_reply rfl rfl rfl (by decide +kernel) ⟨Nat.le_of_ble_eq_true rfl, Nat.le_of_ble_eq_true rfl⟩) (by decide) rfl rfl rfl hl.1 rfl (Nat.le_of_ble_eq_true rfl) dX6_pleasesOnTrial_84 ⟨Nat.zero_le _, Nat.zero_le _⟩ (k_I (fun H locs hI => ?_))
          refine r_eqI (z2 := repO (M 8 x) (M 36 x) (M 4 y)) rfl ?_
          have ff_3 := repO_b (M 8 x) (M 36 x) (M 4 y)
          refine lv_aload_n hx hb dX6_pleasesOnTrial_87 rfl (lv_at hl 1 rfl) ?_
          refine r_get C hI 0 (by decide) rfl rfl hin6 1 (by decide) (fn := "theDesk") (fd := "LGloveReply$Desk;") (index := 19) (by decide +kernel) ⟨rfl, rfl, rfl⟩ (v := .ref (gA g 3)) rfl dX6_pleasesOnTrial_88 ?_
          refine lv_iload_n hx hb dX6_pleasesOnTrial_91 rfl (lv_at hl 3 rfl) ?_
          refine r_iv C hI (As := [.int (iI y)]) (rest := [.int (iI (repO (M 8 x) (M 36 x) (M 4 y)))]) (c_X1_dearTo l g (mset M 36 x (behO (M 36 x) (M 4 y) (M 7 x))) y (by omega)) (cwV 1 hts gX6_pleasesOnTrial_X1_dearTo rfl rfl rfl (by decide +kernel) ⟨Nat.le_of_ble_eq_true rfl, Nat.le_of_ble_eq_true rfl⟩) (by decide) rfl rfl rfl hl.1 rfl (Nat.le_of_ble_eq_true rfl) dX6_pleasesOnTrial_92 ⟨Nat.zero_le _, Nat.zero_le _⟩ (k_I (fun H locs hI => ?_))
          refine r_eqI (z2 := M 5 y) rfl ?_
          refine r_icmp_ne hx hb (tgt := 102) (by omega) (by omega) dX6_pleasesOnTrial_95 (by decide) (fun c_5 => ?_) (fun c_5 => ?_)
          · refine lv_iconst (v := iI 0) hx hb dX6_pleasesOnTrial_102 rfl ?_
            refine r_zret C hr hlk hI (by decide +kernel) ?_ dX6_pleasesOnTrial_103
            exact ⟨congrArg (fun q => some (Value.int (iI q))) (bI_f (by first | exact ⟨⟨⟨by assumption, by assumption⟩, by omega, by assumption⟩, by assumption⟩ | (intro hq; first | exact absurd hq.1.1.1 (by assumption) | exact absurd hq.1.1.2 (by assumption) | exact absurd hq.1.2.1 (by assumption) | exact absurd hq.1.2.2 (by assumption) | exact absurd hq.2 (by assumption)))).symm, (show mset M 36 x (behO (M 36 x) (M 4 y) (M 7 x)) = plM M x y from by unfold plM; first | (rw [if_pos ⟨⟨by assumption, by assumption⟩, by omega, by assumption⟩]) | (rw [if_neg (by intro hq; first | exact absurd hq.1.1 (by assumption) | exact absurd hq.1.2 (by assumption) | exact absurd hq.2.1 (by assumption) | exact absurd hq.2.2 (by assumption))]))⟩
          · refine lv_iconst (v := iI 1) hx hb dX6_pleasesOnTrial_98 rfl ?_
            refine lv_goto (tgt := 103) hx hb dX6_pleasesOnTrial_99 (by decide) ?_
            refine r_zret C hr hlk hI (by decide +kernel) ?_ dX6_pleasesOnTrial_103
            exact ⟨congrArg (fun q => some (Value.int (iI q))) (bI_t (by first | exact ⟨⟨⟨by assumption, by assumption⟩, by omega, by assumption⟩, by assumption⟩ | (intro hq; first | exact absurd hq.1.1.1 (by assumption) | exact absurd hq.1.1.2 (by assumption) | exact absurd hq.1.2.1 (by assumption) | exact absurd hq.1.2.2 (by assumption) | exact absurd hq.2 (by assumption)))).symm, (show mset M 36 x (behO (M 36 x) (M 4 y) (M 7 x)) = plM M x y from by unfold plM; first | (rw [if_pos ⟨⟨by assumption, by assumption⟩, by omega, by assumption⟩]) | (rw [if_neg (by intro hq; first | exact absurd hq.1.1 (by assumption) | exact absurd hq.1.2 (by assumption) | exact absurd hq.2.1 (by assumption) | exact absurd hq.2.2 (by assumption))]))⟩
        · refine lv_iconst (v := iI 0) hx hb dX6_pleasesOnTrial_48 rfl ?_
          refine r_zret C hr hlk hI (by decide +kernel) ?_ dX6_pleasesOnTrial_49
          exact ⟨congrArg (fun q => some (Value.int (iI q))) (bI_f (by first | exact ⟨⟨⟨by assumption, by assumption⟩, by omega, by assumption⟩, by assumption⟩ | (intro hq; first | exact absurd hq.1.1.1 (by assumption) | exact absurd hq.1.1.2 (by assumption) | exact absurd hq.1.2.1 (by assumption) | exact absurd hq.1.2.2 (by assumption) | exact absurd hq.2 (by assumption)))).symm, (show M = plM M x y from by unfold plM; first | (rw [if_pos ⟨⟨by assumption, by assumption⟩, by omega, by assumption⟩]) | (rw [if_neg (by intro hq; first | exact absurd hq.1.1 (by assumption) | exact absurd hq.1.2 (by assumption) | exact absurd hq.2.1 (by assumption) | exact absurd hq.2.2 (by assumption))]))⟩
    · refine lv_iconst (v := iI 0) hx hb dX6_pleasesOnTrial_22 rfl ?_
      refine r_zret C hr hlk hI (by decide +kernel) ?_ dX6_pleasesOnTrial_23
      exact ⟨congrArg (fun q => some (Value.int (iI q))) (bI_f (by first | exact ⟨⟨⟨by assumption, by assumption⟩, by omega, by assumption⟩, by assumption⟩ | (intro hq; first | exact absurd hq.1.1.1 (by assumption) | exact absurd hq.1.1.2 (by assumption) | exact absurd hq.1.2.1 (by assumption) | exact absurd hq.1.2.2 (by assumption) | exact absurd hq.2 (by assumption)))).symm, (show M = plM M x y from by unfold plM; first | (rw [if_pos ⟨⟨by assumption, by assumption⟩, by omega, by assumption⟩]) | (rw [if_neg (by intro hq; first | exact absurd hq.1.1 (by assumption) | exact absurd hq.1.2 (by assumption) | exact absurd hq.2.1 (by assumption) | exact absurd hq.2.2 (by assumption))]))⟩
