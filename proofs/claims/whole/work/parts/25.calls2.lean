
/-! WORDS of the calls that search, of days, weeks, slots -/
def zDoe (M : Mem) (x n row : Int) : Int := if ¬ (0 ≤ x ∧ x < M 3 7) then -1 else if ¬ ((1 ≤ n ∧ n ≤ 4) ∧ irO (M 3 6) n.toNat row = true) then -2 else if ¬ M 34 x = -9 then -3 else doN (M 4) (M 8 x) (M 7 x) n.toNat row (M 33 x)
def zCom (M : Mem) (x dd v : Int) : Int := if ¬ (0 ≤ x ∧ x < M 3 7) then -1 else if ¬ ((1 ≤ dd ∧ dd ≤ 7) ∧ (0 ≤ v ∧ v ≤ 1)) then -2 else if ¬ M 34 x = -9 then -3 else cmN (M 4) (M 3 6) (M 8 x) (M 7 x) dd (M 33 x) v 4 1
def zRou (M : Mem) (x v : Int) : Int := if ¬ (0 ≤ x ∧ x < M 3 7) then -1 else if ¬ (0 ≤ v ∧ v ≤ 1) then -2 else if ¬ M 34 x = -9 then -3 else tdO (rlO (M 4) (M 3 6) (M 8 x) (M 7 x) (M 3 6).toNat (M 33 x) (-1) 0) v
def gvN (M : Mem) (x : Int) : Nat → Int
  | 0 => 0
  | n + 1 => if ¬ repO (M 8 x) (M 33 x) (M 4 (n : Int)) = M 4 (n : Int) ∧ someB (M 4) (repO (M 8 x) (M 33 x) (M 4 (n : Int))) (M 3 6).toNat = true then orI (gvN M x n) (shlI 1 (n : Int)) else gvN M x n
theorem gvN_b (M : Mem) (x : Int) : ∀ n : Nat, 0 ≤ gvN M x n
  | 0 => by simp [gvN]
  | n + 1 => by
    unfold gvN
    split
    · unfold orI; omega
    · exact gvN_b M x n
theorem shlI_b {y : Int} : 0 ≤ shlI 1 y := by
  unfold shlI
  rw [Int.one_mul]
  exact Int.pow_nonneg (by decide)
def zGiv (M : Mem) (x : Int) : Int := if ¬ (0 ≤ x ∧ x < M 3 7) then -1 else if ¬ M 34 x = -9 then -3 else gvN M x (M 3 6).toNat
def zWor (M : Mem) (x v : Int) : Int := if ¬ (0 ≤ x ∧ x < M 3 7) then -1 else if ¬ (0 ≤ v ∧ v ≤ 1) then -2 else if ¬ M 34 x = -9 then -3 else tdO (wlO (M 11) (M 12) (M 13) (M 4) x (M 3 6) (M 10 3) (M 8 x) (M 7 x) 5 (M 33 x) 0 0) v
def woO (M : Mem) (x y : Int) : Int := if repO (M 8 x) (M 33 x) (M 4 y) = M 5 y then M 6 y else 0
def bO (w v a b : Int) : List Int := if arN a b w v 10 = true then [10 * a + b] else []
def bA (w v : Int) (a : Int) : List Int := flN (bO w v a) 10
theorem bO_len (w v a b : Int) : (bO w v a b).length ≤ 1 := by unfold bO; split <;> simp
theorem bA_len (w v a : Int) : (bA w v a).length ≤ 10 := flN_len (m := 1) (bO_len w v a) 10
def zBid (M : Mem) (x y y2 v : Int) : Int := if ¬ ((0 ≤ x ∧ x < M 3 7) ∧ (0 ≤ y ∧ y < M 3 6) ∧ (0 ≤ y2 ∧ y2 < M 3 6)) then -1 else if y = y2 ∨ ¬ (0 ≤ v ∧ v ≤ 1) then -2 else if ¬ M 34 x = -9 then -3 else tdO (flN (bA (woO M x y) (woO M x y2)) 10) v
def zLos (M : Mem) (x y dd n : Int) (P : Prop) [Decidable P] : Int := if ¬ ((0 ≤ x ∧ x < M 3 7) ∧ (0 ≤ y ∧ y < M 3 6)) then -1 else if ¬ ((0 ≤ dd ∧ dd ≤ 7) ∧ (0 ≤ n ∧ n ≤ 3)) then -2 else if ¬ M 34 x = -9 then -3 else (if P then wyO (M 4) (M 3 6) (M 8 x) (M 7 x) (M 4 y) dd n.toNat (M 33 x) else pwN (M 3 6) n.toNat) / cdO (wyO (M 4) (M 3 6) (M 8 x) (M 7 x) (M 4 y) dd n.toNat (M 33 x)) (pwN (M 3 6) n.toNat) (pwN (M 3 6) n.toNat).toNat
/-- gloves below n are taken off, of those that are worn -/
def dyM (M : Mem) : Nat → Mem
  | 0 => M
  | n + 1 => if dyM M n 34 (n : Int) = -9 then dyM M n else ldM (dyM M n) (n : Int)
def dyC (M : Mem) : Nat → Int
  | 0 => 0
  | n + 1 => if dyM M n 34 (n : Int) = -9 then dyC M n else dyC M n + 1
def zDay (M : Mem) : Int := dyC (aAdd M) (M 3 7).toNat
def gDay (M : Mem) : Mem := mset (dyM (aAdd M) (M 3 7).toNat) 32 2 (dyM (aAdd M) (M 3 7).toNat 32 2 + 1)
theorem dyM_n (M : Mem) {c : Nat} (h : c ≠ 33) (h2 : c ≠ 34) : ∀ n : Nat, dyM M n c = M c
  | 0 => rfl
  | n + 1 => by
    unfold dyM
    split
    · exact dyM_n M h h2 n
    · unfold ldM
      rw [mset_n _ _ _ h2, mset_n _ _ _ h, dyM_n M h h2 n]
/-- of a glove at its turn or behind it, nothing is changed yet -/
theorem dyM_u (M : Mem) : ∀ (n : Nat) (q : Int), (n : Int) ≤ q → dyM M n 33 q = M 33 q ∧ dyM M n 34 q = M 34 q
  | 0, _, _ => ⟨rfl, rfl⟩
  | n + 1, q, h => by
    have h1 := dyM_u M n q (by omega)
    have hq : q ≠ (n : Int) := by omega
    unfold dyM
    split
    · exact h1
    · unfold ldM
      rw [mset_n _ _ _ (by decide), mset_s, rw1_n _ _ hq, mset_s, rw1_n _ _ hq, mset_n _ _ _ (by decide)]
      exact h1
/-- the weeks' trial: whether a glove and a person are free in it; what is kept behind it -/
abbrev okP (M : Mem) (x y : Int) : Prop := ((0 ≤ x ∧ x < M 3 7) ∧ (0 ≤ y ∧ y < M 3 6)) ∧ M 37 x = -9 ∧ gOn (M 37) y = -9
def plM (M : Mem) (x y : Int) : Mem := if okP M x y then mset M 36 x (behO (M 36 x) (M 4 y) (M 7 x)) else M
abbrev plP (M : Mem) (x y : Int) : Prop := okP M x y ∧ repO (M 8 x) (M 36 x) (M 4 y) = M 5 y
def sdM (M : Mem) : Mem := mset M 0 8 (M 0 8 * 6364136223846793005 + 1442695040888963407)
def drM (M : Mem) : Int := sdM M 0 8 % 18446744073709551616 / 8589934592 % 20
def wkM (M : Mem) : Nat → Mem
  | 0 => M
  | n + 1 => plM (sdM (wkM M n)) (drM (wkM M n) / 5) (drM (wkM M n) % 5)
def wkC (M : Mem) : Nat → Int
  | 0 => 0
  | n + 1 => if plP (sdM (wkM M n)) (drM (wkM M n) / 5) (drM (wkM M n) % 5) then wkC M n + 1 else wkC M n
theorem plM_n {M : Mem} {x y : Int} {c : Nat} (h : c ≠ 36) : plM M x y c = M c := by
  unfold plM
  split
  · rw [mset_n _ _ _ h]
  · rfl
theorem wkM_n (M : Mem) {c : Nat} (h : c ≠ 36) (h0 : c ≠ 0) : ∀ n : Nat, wkM M n c = M c
  | 0 => rfl
  | n + 1 => by
    unfold wkM
    rw [plM_n h, sdM, mset_n _ _ _ h0, wkM_n M h h0 n]
def zWek (M : Mem) (v : Int) : Int := if ¬ (1 ≤ v ∧ v ≤ 30) then -2 else wkC (cpM M 32 35) v.toNat
def gWek (M : Mem) (v : Int) : Mem := if ¬ (1 ≤ v ∧ v ≤ 30) then M else wkM (cpM M 32 35) v.toNat
def sltO (v : Int) : Nat := 80 + 3 * v.toNat
theorem sltO_b {v : Int} (h : 0 ≤ v ∧ v < 2) : isMo (sltO v) ∧ (sltO v = 80 ∨ sltO v = 83) := by
  unfold sltO
  exact ⟨⟨by omega, by omega, by omega⟩, by omega⟩
def zKee (M : Mem) (v : Int) : Int := if ¬ (0 ≤ v ∧ v < 2) then -1 else M 32 2
def gKee (M : Mem) (v : Int) : Mem := if ¬ (0 ≤ v ∧ v < 2) then M else cpM M 32 (sltO v)
def zAga (M : Mem) (v : Int) : Int := if ¬ (0 ≤ v ∧ v < 2) then -1 else if ¬ M (sltO v) 3 = 1 then -3 else M (sltO v) 2
def gAga (M : Mem) (v : Int) : Mem := if ¬ (0 ≤ v ∧ v < 2) then M else if ¬ M (sltO v) 3 = 1 then M else mset (cpM M (sltO v) 32) 15 2 0
set_option maxHeartbeats 4000000 in
set_option maxRecDepth 100000 in
theorem c_X6_does (l : Launch) (g : GT) (M : Mem) (x : Int) (n : Int) (row : Int) (wf : WF M) (h_x : -2147483648 ≤ x ∧ x < 2147483648) (h_n : -2147483648 ≤ n ∧ n < 2147483648) (h_row : -2147483648 ≤ row ∧ row < 2147483648) : Ctr l g yX6_does wsX6_does ({ frames := 4, cells := 0, slots := 0, locals := 92 } : Room) [.ref (gA g 0), .int (iI x), .int (iI n), .int (iI row)] M (pI (zDoe (M) x n row) M) := by
  refine Ctr.mk (cc := cX6_does) (maxL := 4) (ret := some .int) (lv := [(0, .ref (gA g 0)), (1, .int (iI x)), (2, .int (iI n)), (3, .int (iI row))]) (by decide) rfl (Nat.le_of_ble_eq_true rfl) rfl ?_
  intro p e s m below meth c C hr hlk hI ls hl
  have C : CallFix p m c cX6_does 4 s ([.ref (gA g 0), .int (iI x), .int (iI n), .int (iI row)] : List Value).toArray wsX6_does RX6 := C
  have hx := C.1
  have hb := C.2.1
  have hts := C.2.2.2.2
  have hin6 : ∀ w ∈ u_ws RX6 TX6 9, w ∈ wsX6_does := by decide +kernel
  have wf0 := wf
  obtain ⟨w_txt, hL, w_cnt, w_per, w_glo, w_now, w_act, w_rng, w_slo, w_see, w_sa⟩ := wf
  have w_gx := w_glo x
  have w_nx := w_now.1 x
  have w_hw := WF_hw w_now (by omega)
  have w_nx : 0 ≤ x ∧ x < 4 → (0 ≤ M 33 x ∧ M 33 x < 1000) ∧ (M 34 x = -9 ∨ (0 ≤ M 34 x ∧ M 34 x < M 3 6 ∧ x < M 3 7)) ∧ (x < M 3 7 → KOK (M 33 x) (M 7 x)) := w_nx
  have hDK := fun q => WF_dk (x := x) wf0 q
  refine lv_aload_n hx hb dX6_does_0 rfl (lv_at hl 0 rfl) ?_
  refine r_get C hI 0 (by decide) rfl rfl hin6 1 (by decide) (fn := "theDesk") (fd := "LGloveReply$Desk;") (index := 19) (by decide +kernel) ⟨rfl, rfl, rfl⟩ (v := .ref (gA g 3)) rfl dX6_does_1 ?_
  refine lv_iload_n hx hb dX6_does_4 rfl (lv_at hl 1 rfl) ?_
  refine r_iv C hI (As := [.int (iI x)]) (rest := []) (c_X1_hasGlove l g M x (by omega) (show -2147483648 ≤ (M 3 7) ∧ (M 3 7) < 2147483648 from by omega)) (cwV 1 hts gX6_does_X1_hasGlove rfl rfl rfl (by decide +kernel) ⟨Nat.le_of_ble_eq_true rfl, Nat.le_of_ble_eq_true rfl⟩) (by decide) rfl rfl rfl hl.1 rfl (Nat.le_of_ble_eq_true rfl) dX6_does_5 ⟨Nat.zero_le _, Nat.zero_le _⟩ (k_I (fun H locs hI => ?_))
  refine r_b_ne hx hb (tgt := 13) dX6_does_8 (by decide) (fun c_1 => ?_) (fun c_1 => ?_)
  · refine lv_iload_n hx hb dX6_does_13 rfl (lv_at hl 2 rfl) ?_
    refine lv_iconst (v := iI 1) hx hb dX6_does_14 rfl ?_
    refine lv_iconst (v := iI 4) hx hb dX6_does_15 rfl ?_
    refine r_is C hI (As := [.int (iI n), .int (iI 1), .int (iI 4)]) (rest := []) (c_X6_within l g M n 1 4 (by omega) (by omega) (by omega)) (va_cwS 3 hts gX6_does_X6_within rfl rfl rfl (by decide +kernel) ⟨Nat.le_of_ble_eq_true rfl, Nat.le_of_ble_eq_true rfl⟩) rfl hl.1 rfl (Nat.le_of_ble_eq_true rfl) dX6_does_16 ⟨Nat.zero_le _, Nat.zero_le _⟩ (k_I (fun H locs hI => ?_))
    refine r_b_eq hx hb (tgt := 31) dX6_does_19 (by decide) (fun c_2 => ?_) (fun c_2 => ?_)
    · refine lv_bipush (v := iI (-2)) hx hb dX6_does_31 (by decide +kernel) ?_
      refine r_iret C hr hlk hI ?_ dX6_does_33
      exact ⟨congrArg (fun q => some (Value.int (iI q))) (show (-2) = zDoe (M) x n row from by unfold zDoe; (repeat' split) <;> first | rfl | omega), rfl⟩
    · refine lv_aload_n hx hb dX6_does_22 rfl (lv_at hl 0 rfl) ?_
      refine lv_iload_n hx hb dX6_does_23 rfl (lv_at hl 2 rfl) ?_
      refine lv_iload_n hx hb dX6_does_24 rfl (lv_at hl 3 rfl) ?_
      refine r_iv C hI (As := [.int (iI n), .int (iI row)]) (rest := []) (c_X6_isRow l g M n row (by omega) (by omega) (show -2147483648 ≤ (M 3 6) ∧ (M 3 6) < 2147483648 from by omega)) (cwV 2 hts gX6_does_X6_isRow rfl rfl rfl (by decide +kernel) ⟨Nat.le_of_ble_eq_true rfl, Nat.le_of_ble_eq_true rfl⟩) (by decide) rfl rfl rfl hl.1 rfl (Nat.le_of_ble_eq_true rfl) dX6_does_25 ⟨Nat.zero_le _, Nat.zero_le _⟩ (k_I (fun H locs hI => ?_))
      refine r_b_ne hx hb (tgt := 34) dX6_does_28 (by decide) (fun c_3 => ?_) (fun c_3 => ?_)
      · refine lv_aload_n hx hb dX6_does_34 rfl (lv_at hl 0 rfl) ?_
        refine r_get C hI 0 (by decide) rfl rfl hin6 2 (by decide) (fn := "now") (fd := "LGloveReply$Moment;") (index := 26) (by decide +kernel) ⟨rfl, rfl, rfl⟩ (v := .ref (gA g 32)) rfl dX6_does_35 ?_
        refine lv_iload_n hx hb dX6_does_38 rfl (lv_at hl 1 rfl) ?_
        refine r_iv C hI (As := [.int (iI x)]) (rest := []) (c_X2_isWorn l g M 32 x (by decide) (by omega) (show -2147483648 ≤ (M 34 x) ∧ (M 34 x) < 2147483648 from by omega)) (cwV 1 hts gX6_does_X2_isWorn rfl rfl rfl (by decide +kernel) ⟨Nat.le_of_ble_eq_true rfl, Nat.le_of_ble_eq_true rfl⟩) (by decide) (ceMo (show isMo 32 from by decide) _) rfl rfl hl.1 rfl (Nat.le_of_ble_eq_true rfl) dX6_does_39 ⟨Nat.zero_le _, Nat.zero_le _⟩ (k_I (fun H locs hI => ?_))
        refine r_eqI (z2 := bI (¬ (M 34 x) = -9)) rfl ?_
        refine r_b_eq hx hb (tgt := 48) dX6_does_42 (by decide) (fun c_4 => ?_) (fun c_4 => ?_)
        · have hE := irO_E (P := M 3 6) (n := n.toNat) (r := row) (by assumption)
          have dk := hDK (by omega)
          have hL5 := irD_L hE.1 (by omega) (by omega) hE.2
          refine lv_aload_n hx hb dX6_does_48 rfl (lv_at hl 0 rfl) ?_
          refine lv_iload_n hx hb dX6_does_49 rfl (lv_at hl 1 rfl) ?_
          refine lv_iload_n hx hb dX6_does_50 rfl (lv_at hl 2 rfl) ?_
          refine lv_iload_n hx hb dX6_does_51 rfl (lv_at hl 3 rfl) ?_
          refine r_iv C hI (As := [.int (iI x), .int (iI n), .int (iI row)]) (rest := []) (c_X6_replyToRow l g M x n row (by omega) (show DK (M x) from by assumption) (show 0 ≤ (M 33 x) ∧ (M 33 x) < 1000 from by omega) (by omega) hE.2) (cwV 3 hts gX6_does_X6_replyToRow rfl rfl rfl (by decide +kernel) ⟨Nat.le_of_ble_eq_true rfl, Nat.le_of_ble_eq_true rfl⟩) (by decide) rfl rfl rfl hl.1 rfl (Nat.le_of_ble_eq_true rfl) dX6_does_52 ⟨Nat.zero_le _, Nat.zero_le _⟩ (k_I (fun H locs hI => ?_))
          refine r_iret C hr hlk hI ?_ dX6_does_55
          exact ⟨congrArg (fun q => some (Value.int (iI q))) (show doN (M 4) (M 8 x) (M 7 x) n.toNat row (M 33 x) = zDoe (M) x n row from by unfold zDoe; (repeat' split) <;> first | rfl | omega), rfl⟩
        · refine lv_bipush (v := iI (-3)) hx hb dX6_does_45 (by decide +kernel) ?_
          refine r_iret C hr hlk hI ?_ dX6_does_47
          exact ⟨congrArg (fun q => some (Value.int (iI q))) (show (-3) = zDoe (M) x n row from by unfold zDoe; (repeat' split) <;> first | rfl | omega), rfl⟩
      · refine lv_bipush (v := iI (-2)) hx hb dX6_does_31 (by decide +kernel) ?_
        refine r_iret C hr hlk hI ?_ dX6_does_33
        exact ⟨congrArg (fun q => some (Value.int (iI q))) (show (-2) = zDoe (M) x n row from by unfold zDoe; (repeat' split) <;> first | rfl | omega), rfl⟩
  · refine lv_iconst (v := iI (-1)) hx hb dX6_does_11 rfl ?_
    refine r_iret C hr hlk hI ?_ dX6_does_12
    exact ⟨congrArg (fun q => some (Value.int (iI q))) (show (-1) = zDoe (M) x n row from by unfold zDoe; (repeat' split) <;> first | rfl | omega), rfl⟩
set_option maxHeartbeats 4000000 in
set_option maxRecDepth 100000 in
theorem c_X6_comes (l : Launch) (g : GT) (M : Mem) (x : Int) (dd : Int) (v : Int) (wf : WF M) (h_x : -2147483648 ≤ x ∧ x < 2147483648) (h_dd : -2147483648 ≤ dd ∧ dd < 2147483648) (h_v : -2147483648 ≤ v ∧ v < 2147483648) : Ctr l g yX6_comes wsX6_comes ({ frames := 15, cells := 0, slots := 0, locals := 359 } : Room) [.ref (gA g 0), .int (iI x), .int (iI dd), .int (iI v)] M (pI (zCom (M) x dd v) M) := by
  refine Ctr.mk (cc := cX6_comes) (maxL := 6) (ret := some .int) (lv := [(0, .ref (gA g 0)), (1, .int (iI x)), (2, .int (iI dd)), (3, .int (iI v))]) (by decide) rfl (Nat.le_of_ble_eq_true rfl) rfl ?_
  intro p e s m below meth c C hr hlk hI ls hl
  have C : CallFix p m c cX6_comes 6 s ([.ref (gA g 0), .int (iI x), .int (iI dd), .int (iI v)] : List Value).toArray wsX6_comes RX6 := C
  have hx := C.1
  have hb := C.2.1
  have hts := C.2.2.2.2
  have hin6 : ∀ w ∈ u_ws RX6 TX6 9, w ∈ wsX6_comes := by decide +kernel
  have wf0 := wf
  obtain ⟨w_txt, hL, w_cnt, w_per, w_glo, w_now, w_act, w_rng, w_slo, w_see, w_sa⟩ := wf
  have w_gx := w_glo x
  have w_nx := w_now.1 x
  have w_hw := WF_hw w_now (by omega)
  have w_nx : 0 ≤ x ∧ x < 4 → (0 ≤ M 33 x ∧ M 33 x < 1000) ∧ (M 34 x = -9 ∨ (0 ≤ M 34 x ∧ M 34 x < M 3 6 ∧ x < M 3 7)) ∧ (x < M 3 7 → KOK (M 33 x) (M 7 x)) := w_nx
  have hDK := fun q => WF_dk (x := x) wf0 q
  refine lv_aload_n hx hb dX6_comes_0 rfl (lv_at hl 0 rfl) ?_
  refine r_get C hI 0 (by decide) rfl rfl hin6 1 (by decide) (fn := "theDesk") (fd := "LGloveReply$Desk;") (index := 19) (by decide +kernel) ⟨rfl, rfl, rfl⟩ (v := .ref (gA g 3)) rfl dX6_comes_1 ?_
  refine lv_iload_n hx hb dX6_comes_4 rfl (lv_at hl 1 rfl) ?_
  refine r_iv C hI (As := [.int (iI x)]) (rest := []) (c_X1_hasGlove l g M x (by omega) (show -2147483648 ≤ (M 3 7) ∧ (M 3 7) < 2147483648 from by omega)) (cwV 1 hts gX6_comes_X1_hasGlove rfl rfl rfl (by decide +kernel) ⟨Nat.le_of_ble_eq_true rfl, Nat.le_of_ble_eq_true rfl⟩) (by decide) rfl rfl rfl hl.1 rfl (Nat.le_of_ble_eq_true rfl) dX6_comes_5 ⟨Nat.zero_le _, Nat.zero_le _⟩ (k_I (fun H locs hI => ?_))
  refine r_b_ne hx hb (tgt := 13) dX6_comes_8 (by decide) (fun c_1 => ?_) (fun c_1 => ?_)
  · refine lv_iload_n hx hb dX6_comes_13 rfl (lv_at hl 2 rfl) ?_
    refine lv_iconst (v := iI 1) hx hb dX6_comes_14 rfl ?_
    refine lv_bipush (v := iI 7) hx hb dX6_comes_15 (by decide +kernel) ?_
    refine r_is C hI (As := [.int (iI dd), .int (iI 1), .int (iI 7)]) (rest := []) (c_X6_within l g M dd 1 7 (by omega) (by omega) (by omega)) (va_cwS 3 hts gX6_comes_X6_within rfl rfl rfl (by decide +kernel) ⟨Nat.le_of_ble_eq_true rfl, Nat.le_of_ble_eq_true rfl⟩) rfl hl.1 rfl (Nat.le_of_ble_eq_true rfl) dX6_comes_17 ⟨Nat.zero_le _, Nat.zero_le _⟩ (k_I (fun H locs hI => ?_))
    refine r_b_eq hx hb (tgt := 30) dX6_comes_20 (by decide) (fun c_2 => ?_) (fun c_2 => ?_)
    · refine lv_bipush (v := iI (-2)) hx hb dX6_comes_30 (by decide +kernel) ?_
      refine r_iret C hr hlk hI ?_ dX6_comes_32
      exact ⟨congrArg (fun q => some (Value.int (iI q))) (show (-2) = zCom (M) x dd v from by unfold zCom; (repeat' split) <;> first | rfl | omega), rfl⟩
    · refine lv_iload_n hx hb dX6_comes_23 rfl (lv_at hl 3 rfl) ?_
      refine r_is C hI (As := [.int (iI v)]) (rest := []) (c_X6_isChoice l g M v (by omega)) (va_cwS 1 hts gX6_comes_X6_isChoice rfl rfl rfl (by decide +kernel) ⟨Nat.le_of_ble_eq_true rfl, Nat.le_of_ble_eq_true rfl⟩) rfl hl.1 rfl (Nat.le_of_ble_eq_true rfl) dX6_comes_24 ⟨Nat.zero_le _, Nat.zero_le _⟩ (k_I (fun H locs hI => ?_))
      refine r_b_ne hx hb (tgt := 33) dX6_comes_27 (by decide) (fun c_3 => ?_) (fun c_3 => ?_)
      · refine lv_aload_n hx hb dX6_comes_33 rfl (lv_at hl 0 rfl) ?_
        refine r_get C hI 0 (by decide) rfl rfl hin6 2 (by decide) (fn := "now") (fd := "LGloveReply$Moment;") (index := 26) (by decide +kernel) ⟨rfl, rfl, rfl⟩ (v := .ref (gA g 32)) rfl dX6_comes_34 ?_
        refine lv_iload_n hx hb dX6_comes_37 rfl (lv_at hl 1 rfl) ?_
        refine r_iv C hI (As := [.int (iI x)]) (rest := []) (c_X2_isWorn l g M 32 x (by decide) (by omega) (show -2147483648 ≤ (M 34 x) ∧ (M 34 x) < 2147483648 from by omega)) (cwV 1 hts gX6_comes_X2_isWorn rfl rfl rfl (by decide +kernel) ⟨Nat.le_of_ble_eq_true rfl, Nat.le_of_ble_eq_true rfl⟩) (by decide) (ceMo (show isMo 32 from by decide) _) rfl rfl hl.1 rfl (Nat.le_of_ble_eq_true rfl) dX6_comes_38 ⟨Nat.zero_le _, Nat.zero_le _⟩ (k_I (fun H locs hI => ?_))
        refine r_eqI (z2 := bI (¬ (M 34 x) = -9)) rfl ?_
        refine r_b_eq hx hb (tgt := 47) dX6_comes_41 (by decide) (fun c_4 => ?_) (fun c_4 => ?_)
        · have dk := hDK (by omega)
          refine lv_iconst (v := iI 1) hx hb dX6_comes_47 rfl ?_
          refine lv_istore (lv' := [(4, .int (iI 1)), (0, .ref (gA g 0)), (1, .int (iI x)), (2, .int (iI dd)), (3, .int (iI v))]) hx hb dX6_comes_48 hl (by decide) rfl (fun ls hl => ?_)
          have lp50 : ∀ (n50 : Nat) (hh : Int) (jj : Nat), (1 ≤ hh ∧ hh + (jj : Int) = 5) → (cmN (M 4) (M 3 6) (M 8 x) (M 7 x) dd (M 33 x) v jj hh = cmN (M 4) (M 3 6) (M 8 x) (M 7 x) dd (M 33 x) v 4 1) → jj < n50 → ∀ (H : Heap) (locs : List Loc), HI g s H locs M → ∀ ls : Array Slot, lv_has ls 6 [(4, .int (iI hh)), (0, .ref (gA g 0)), (1, .int (iI x)), (2, .int (iI dd)), (3, .int (iI v))] → W p l e ({ frames := 15, cells := 0, slots := 0, locals := 359 } : Room) s m ([.ref (gA g 0), .int (iI x), .int (iI dd), .int (iI v)] : List Value).toArray below meth c H locs 0 0 (MQ below (QV g (pI (zCom (M) x dd v) M)) ([.ref (gA g 0), .int (iI x), .int (iI dd), .int (iI v)] : List Value).toArray s 0 0 (AA g)) (F0 m 50 ls []) := by
            intro n50
            induction n50 with
            | zero => intro hh jj h1 h2 hn50; exact absurd hn50 (Nat.not_lt_zero _)
            | succ n50 ih50 =>
              intro hh jj h1 h2 hn50 H locs hI ls hl
              refine lv_iload hx hb dX6_comes_50 (lv_at hl 0 rfl) ?_
              refine lv_iconst (v := iI 4) hx hb dX6_comes_52 rfl ?_
              refine r_icmp_gt hx hb (tgt := 103) (by omega) (by decide) dX6_comes_53 (by decide) (fun c_5 => ?_) (fun c_5 => ?_)
              · refine lv_bipush (v := iI (-9)) hx hb dX6_comes_103 (by decide +kernel) ?_
                refine r_iret C hr hlk hI ?_ dX6_comes_105
                exact ⟨congrArg (fun q => some (Value.int (iI q))) (show (-9) = zCom (M) x dd v from by unfold zCom; (have : jj = 0 := by omega); subst this; rw [if_neg (by omega), if_neg (by omega), if_neg (by omega), ← h2]; rfl), rfl⟩
              · refine lv_aload_n hx hb dX6_comes_56 rfl (lv_at hl 1 rfl) ?_
                refine r_get C hI 0 (by decide) rfl rfl hin6 1 (by decide) (fn := "theDesk") (fd := "LGloveReply$Desk;") (index := 19) (by decide +kernel) ⟨rfl, rfl, rfl⟩ (v := .ref (gA g 3)) rfl dX6_comes_57 ?_
                refine lv_iload_n hx hb dX6_comes_60 rfl (lv_at hl 2 rfl) ?_
                refine lv_aload_n hx hb dX6_comes_61 rfl (lv_at hl 1 rfl) ?_
                refine r_get C hI 0 (by decide) rfl rfl hin6 2 (by decide) (fn := "now") (fd := "LGloveReply$Moment;") (index := 26) (by decide +kernel) ⟨rfl, rfl, rfl⟩ (v := .ref (gA g 32)) rfl dX6_comes_62 ?_
                refine lv_iload_n hx hb dX6_comes_65 rfl (lv_at hl 2 rfl) ?_
                refine r_iv C hI (As := [.int (iI x)]) (rest := [.int (iI x), .ref (gA g 3)]) (c_X2_keptBy l g M 32 x (by decide) (by omega)) (cwV 1 hts gX6_comes_X2_keptBy rfl rfl rfl (by decide +kernel) ⟨Nat.le_of_ble_eq_true rfl, Nat.le_of_ble_eq_true rfl⟩) (by decide) (ceMo (show isMo 32 from by decide) _) rfl rfl hl.1 rfl (Nat.le_of_ble_eq_true rfl) dX6_comes_66 ⟨Nat.zero_le _, Nat.zero_le _⟩ (k_I (fun H locs hI => ?_))
                refine r_eqI (z2 := M 33 x) rfl ?_
                refine lv_iload_n hx hb dX6_comes_69 rfl (lv_at hl 3 rfl) ?_
                refine lv_iconst (v := iI 0) hx hb dX6_comes_70 rfl ?_
                refine lv_iload hx hb dX6_comes_71 (lv_at hl 0 rfl) ?_
                refine r_is C hI (As := [.ref (gA g 3), .int (iI x), .int (iI (M 33 x)), .int (iI dd), .int (iI 0), .int (iI hh)]) (rest := []) (c_X6_firstRowI l g M x (M 33 x) dd hh (show DK (M x) from by assumption) (by omega) (by omega) (by omega)) (va_cwS 6 hts gX6_comes_X6_firstRow rfl rfl rfl (by decide +kernel) ⟨by simp only [rmF]; omega, by simp only [rmF]; omega⟩) rfl hl.1 rfl (Nat.le_of_ble_eq_true rfl) dX6_comes_73 ⟨Nat.zero_le _, Nat.zero_le _⟩ (k_I (fun H locs hI => ?_))
                have ff_1 := frO_b (M 4) (M 3 6) (M 8 x) (M 7 x) dd dk.1 hh.toNat (M 33 x) 0 (by decide) (ten4 (by omega))
                refine lv_istore (lv' := [(5, .int (iI (frO (M 4) (M 3 6) (M 8 x) (M 7 x) dd hh.toNat (M 33 x) 0))), (4, .int (iI hh)), (0, .ref (gA g 0)), (1, .int (iI x)), (2, .int (iI dd)), (3, .int (iI v))]) hx hb dX6_comes_76 hl (by decide) rfl (fun ls hl => ?_)
                refine lv_iload hx hb dX6_comes_78 (lv_at hl 0 rfl) ?_
                refine lv_bipush (v := iI (-9)) hx hb dX6_comes_80 (by decide +kernel) ?_
                refine r_icmp_eq hx hb (tgt := 97) (by omega) (by decide) dX6_comes_82 (by decide) (fun c_6 => ?_) (fun c_6 => ?_)
                · refine lv_iinc (v := iI (hh + 1)) (lv' := [(4, .int (iI (hh + 1))), (5, .int (iI (frO (M 4) (M 3 6) (M 8 x) (M 7 x) dd hh.toNat (M 33 x) 0))), (0, .ref (gA g 0)), (1, .int (iI x)), (2, .int (iI dd)), (3, .int (iI v))]) hx hb dX6_comes_97 hl (k := 1) rfl (iI_add _ _) (by decide) rfl (fun ls hl => ?_)
                  refine lv_goto (tgt := 50) hx hb dX6_comes_100 (by decide) ?_
                  exact ih50 (hh + 1) (jj - 1) (by omega) (by (obtain ⟨i0, hi0⟩ : ∃ i0, jj = i0 + 1 := ⟨jj - 1, by omega⟩); subst hi0; simp only [cmN] at h2; rw [if_pos (by assumption)] at h2; exact h2) (by omega) _ _ hI ls (lv_sub hl [0, 2, 3, 4, 5] rfl)
                · refine lv_iload_n hx hb dX6_comes_85 rfl (lv_at hl 5 rfl) ?_
                  refine r_if_ne hx hb (tgt := 94) (by omega) dX6_comes_86 (by decide) (fun c_7 => ?_) (fun c_7 => ?_)
                  · refine lv_iload hx hb dX6_comes_94 (lv_at hl 0 rfl) ?_
                    refine r_iret C hr hlk hI ?_ dX6_comes_96
                    exact ⟨congrArg (fun q => some (Value.int (iI q))) (show frO (M 4) (M 3 6) (M 8 x) (M 7 x) dd hh.toNat (M 33 x) 0 = zCom (M) x dd v from by unfold zCom; (obtain ⟨i0, hi0⟩ : ∃ i0, jj = i0 + 1 := ⟨jj - 1, by omega⟩); subst hi0; rw [if_neg (by omega), if_neg (by omega), if_neg (by omega), ← h2]; simp only [cmN]; rw [if_neg (by assumption)]; first | rw [if_pos (by assumption)] | rw [if_neg (by assumption)]), rfl⟩
                  · refine lv_iload hx hb dX6_comes_89 (lv_at hl 1 rfl) ?_
                    refine lv_goto (tgt := 96) hx hb dX6_comes_91 (by decide) ?_
                    refine r_iret C hr hlk hI ?_ dX6_comes_96
                    exact ⟨congrArg (fun q => some (Value.int (iI q))) (show hh = zCom (M) x dd v from by unfold zCom; (obtain ⟨i0, hi0⟩ : ∃ i0, jj = i0 + 1 := ⟨jj - 1, by omega⟩); subst hi0; rw [if_neg (by omega), if_neg (by omega), if_neg (by omega), ← h2]; simp only [cmN]; rw [if_neg (by assumption)]; first | rw [if_pos (by assumption)] | rw [if_neg (by assumption)]), rfl⟩
          exact lp50 _ 1 4 (by omega) (by rfl) (Nat.lt_succ_self _) _ _ hI ls (lv_sub hl [0, 1, 2, 3, 4] rfl)
        · refine lv_bipush (v := iI (-3)) hx hb dX6_comes_44 (by decide +kernel) ?_
          refine r_iret C hr hlk hI ?_ dX6_comes_46
          exact ⟨congrArg (fun q => some (Value.int (iI q))) (show (-3) = zCom (M) x dd v from by unfold zCom; (repeat' split) <;> first | rfl | omega), rfl⟩
      · refine lv_bipush (v := iI (-2)) hx hb dX6_comes_30 (by decide +kernel) ?_
        refine r_iret C hr hlk hI ?_ dX6_comes_32
        exact ⟨congrArg (fun q => some (Value.int (iI q))) (show (-2) = zCom (M) x dd v from by unfold zCom; (repeat' split) <;> first | rfl | omega), rfl⟩
  · refine lv_iconst (v := iI (-1)) hx hb dX6_comes_11 rfl ?_
    refine r_iret C hr hlk hI ?_ dX6_comes_12
    exact ⟨congrArg (fun q => some (Value.int (iI q))) (show (-1) = zCom (M) x dd v from by unfold zCom; (repeat' split) <;> first | rfl | omega), rfl⟩
