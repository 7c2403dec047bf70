
/-! WHAT HOLDS of the class's memory between calls -/
def KOK (k r : Int) : Prop := k = 0 ∨ ((1 ≤ k ∧ k ≤ 7) ∧ 1 ≤ r) ∨ ((10 ≤ k ∧ k < 100) ∧ (1 ≤ k % 10 ∧ k % 10 ≤ 7) ∧ (1 ≤ k / 10 ∧ k / 10 ≤ 7) ∧ 2 ≤ r) ∨ ((100 ≤ k ∧ k < 1000) ∧ (1 ≤ k % 10 ∧ k % 10 ≤ 7) ∧ (1 ≤ k / 10 % 10 ∧ k / 10 % 10 ≤ 7) ∧ (1 ≤ k / 100 ∧ k / 100 ≤ 7) ∧ 3 ≤ r)
theorem KOK_beh {k r dd : Int} (h : KOK k r) (hr : 1 ≤ r ∧ r ≤ 3) (hd : 1 ≤ dd ∧ dd ≤ 7) : KOK (behO k dd r) r := by
  unfold KOK at h
  unfold KOK behO
  (repeat' split) <;> omega
theorem KOK_wash {k r : Int} (h : KOK k r) : KOK (k / 10) r := by
  unfold KOK at h
  unfold KOK
  omega
def VM (M : Mem) (o : Nat) : Prop := (∀ q : Int, 0 ≤ q ∧ q < 4 → (0 ≤ M (o + 1) q ∧ M (o + 1) q < 1000) ∧ (M (o + 2) q = -9 ∨ (0 ≤ M (o + 2) q ∧ M (o + 2) q < M 3 6 ∧ q < M 3 7)) ∧ (q < M 3 7 → KOK (M (o + 1) q) (M 7 q))) ∧ (∀ q r : Int, (0 ≤ q ∧ q < 4) → (0 ≤ r ∧ r < 4) → M (o + 2) q = M (o + 2) r → M (o + 2) q = -9 ∨ q = r)
def WF (M : Mem) : Prop := (0 ≤ M 1 1 ∧ M 1 1 ≤ 40) ∧ (∀ j : Int, 0 ≤ M 2 j ∧ M 2 j ≤ 255) ∧ ((0 ≤ M 3 6 ∧ M 3 6 ≤ 5) ∧ (0 ≤ M 3 7 ∧ M 3 7 ≤ 4)) ∧ (∀ q : Int, 0 ≤ q ∧ q < M 3 6 → (1 ≤ M 4 q ∧ M 4 q ≤ 7) ∧ (1 ≤ M 5 q ∧ M 5 q ≤ 7) ∧ (0 ≤ M 6 q ∧ M 6 q ≤ 9)) ∧ (∀ q : Int, 0 ≤ q ∧ q < M 3 7 → (1 ≤ M 7 q ∧ M 7 q ≤ 3) ∧ (0 ≤ M 8 q ∧ M 8 q ≤ 3) ∧ (0 ≤ M 9 q ∧ M 9 q ≤ 7)) ∧ VM M 32 ∧ ((0 ≤ M 15 1 ∧ M 15 1 < 14) ∧ (0 ≤ M 15 2 ∧ M 15 2 ≤ 14)) ∧ (∀ k : Int, 0 ≤ k ∧ k < M 15 2 → VM M (ringO M k)) ∧ ((M 80 3 = 0 ∨ (M 80 3 = 1 ∧ VM M 80)) ∧ (M 83 3 = 0 ∨ (M 83 3 = 1 ∧ VM M 83))) ∧ (0 ≤ M 10 3 ∧ M 10 3 ≤ 4) ∧ (∀ k : Int, 0 ≤ k ∧ k < M 10 3 → (0 ≤ M 11 k ∧ M 11 k < 4) ∧ (0 ≤ M 12 k ∧ M 12 k < 5) ∧ (0 ≤ M 13 k ∧ M 13 k ≤ 7))
theorem WF_hw {M : Mem} (wf : VM M 32) (hP : M 3 6 ≤ 5) : ∀ j : Int, 0 ≤ j ∧ j < 4 → -2147483648 ≤ M 34 j ∧ M 34 j < 2147483648 := fun j hj => by
  have h := (wf.1 j hj).2.1
  rcases h with h | h
  · have h : M 34 j = -9 := h
    omega
  · have h : 0 ≤ M 34 j ∧ M 34 j < M 3 6 ∧ j < M 3 7 := h
    omega
theorem WF_dk {M : Mem} {x : Int} (wf : WF M) (hx : 0 ≤ x ∧ x < M 3 7) : DK M x := by
  obtain ⟨w_txt, w_let, w_cnt, w_per, w_glo, w_now, w_act, w_rng, w_slo, w_see, w_sa⟩ := wf
  have h := w_glo x hx
  refine ⟨w_cnt.1, fun q hq => ?_, by omega, by omega, by omega⟩
  have := w_per q hq
  omega
theorem aAdd_n {M : Mem} {c : Nat} (h : c ≠ 15) (h2 : c < 38) : aAdd M c = M c := by
  have hb := ringO_b M (M 15 2)
  unfold aAdd
  split
  · rw [mset_n _ _ _ h, cpM_n (by omega)]
  · rw [mset_n _ _ _ h, cpM_n (by omega)]
def ldM (M : Mem) (x : Int) : Mem := mset (mset M 33 x (behO (M 33 x) (M 4 (M 34 x)) (M 7 x))) 34 x (-9)
/-! WORDS of the calls: the answer, the memory behind it -/
def zWr (M : Mem) (v : Int) : Int := if ¬ (0 ≤ v ∧ v ≤ 255) then -2 else if 40 ≤ M 1 1 then -4 else M 1 1 + 1
def gWr (M : Mem) (v : Int) : Mem := if ¬ (0 ≤ v ∧ v ≤ 255) then M else if 40 ≤ M 1 1 then M else mset (mset M 2 (M 1 1) v) 1 1 (M 1 1 + 1)
def fltO (M : Mem) : Int := ffO (M 2) (M 1 1).toNat 0
theorem ffO_b (r : Int → Int) : ∀ (k : Nat) (x : Int), 0 ≤ x → ffO r k x = -9 ∨ (0 ≤ ffO r k x ∧ ffO r k x ≤ x + k)
  | 0, x, h => by unfold ffO; split <;> simp <;> omega
  | k + 1, x, h => by
    by_cases e : fitB r x = true
    · rw [ffO_1 e]
      have := ffO_b r k (x + 1) (by omega)
      omega
    · rw [ffO_2 e]; omega
theorem ffO_ok {r : Int → Int} : ∀ (k : Nat) (x : Int), 0 ≤ x → ffO r k x = -9 → (∀ j : Int, x ≤ j ∧ j < x + k → fitB r j = true) ∧ 0 < x + k ∧ (x + k - 1) % 4 = 0
  | 0, x, h0, h => by
    unfold ffO at h
    split at h
    · refine ⟨fun j hj => by omega, by simpa using ‹0 < x ∧ (x - 1) % 4 = 0›.1, by simpa using ‹0 < x ∧ (x - 1) % 4 = 0›.2⟩
    · omega
  | k + 1, x, h0, h => by
    by_cases e : fitB r x = true
    · rw [ffO_1 e] at h
      obtain ⟨h1, h2, h3⟩ := ffO_ok k (x + 1) (by omega) h
      refine ⟨fun j hj => ?_, by omega, by rw [show x + ((k + 1 : Nat) : Int) - 1 = x + 1 + (k : Int) - 1 by omega]; exact h3⟩
      by_cases ej : j = x
      · rw [ej]; exact e
      · exact h1 j (by omega)
    · rw [ffO_2 e] at h; omega
theorem fit_part {r : Int → Int} {j : Nat} (h : fitB r (1 + 4 * (j : Int)) = true) : (r (1 + 4 * (j : Int)) = 80 ∧ cntP r 80 j < 5) ∨ (r (1 + 4 * (j : Int)) = 76 ∧ cntP r 76 j < 4) := by
  unfold fitB at h
  rw [if_neg (by omega), if_pos (by omega), show ((1 + 4 * (j : Int) - 1) / 4).toNat = j by omega] at h
  simpa using h
def nParts (M : Mem) : Nat := ((M 1 1 - 1) / 4).toNat
def dskM (M : Mem) : Mem := mset (mset (mset (sttM (rdM M (nParts M)) 32) 15 2 0) 80 3 0) 83 3 0
def zDsk (M : Mem) : Int := if fltO M = -9 then 10 * rdM M (nParts M) 3 6 + rdM M (nParts M) 3 7 else -3
def gDsk (M : Mem) : Mem := if fltO M = -9 then dskM M else M
def zAbt (M : Mem) (v : Int) : Int := if v = 0 then M 3 6 else if v = 1 then M 3 7 else if v = 2 then M 32 2 else if v = 3 then wB (M 34) else if v = 4 then M 15 2 else if v = 5 then M 10 3 else if v = 6 then M 1 1 else -2
def zPer (M : Mem) (x v : Int) : Int := if ¬ (0 ≤ x ∧ x < M 3 6) then -1 else if v = 0 then M 4 x else if v = 1 then M 5 x else if v = 2 then M 6 x else if v = 3 then gOn (M 34) x else -2
def zGlo (M : Mem) (x v : Int) : Int := if ¬ (0 ≤ x ∧ x < M 3 7) then -1 else if v = 0 then M 7 x else if v = 1 then M 8 x else if v = 2 then figs (M 33 x) else if v = 3 then M 33 x else if v = 4 then M 34 x else -2
def zWea (M : Mem) (x y : Int) : Int := if ¬ ((0 ≤ x ∧ x < M 3 7) ∧ (0 ≤ y ∧ y < M 3 6)) then -1 else if ¬ M 34 x = -9 ∨ ¬ gOn (M 34) y = -9 then -3 else repO (M 8 x) (M 33 x) (M 4 y)
def gWea (M : Mem) (x y : Int) : Mem := if ¬ ((0 ≤ x ∧ x < M 3 7) ∧ (0 ≤ y ∧ y < M 3 6)) then M else if ¬ M 34 x = -9 ∨ ¬ gOn (M 34) y = -9 then M else mset (aAdd M) 34 x y
def zTak (M : Mem) (x : Int) : Int := if ¬ (0 ≤ x ∧ x < M 3 7) then -1 else if M 34 x = -9 then -3 else figs (behO (M 33 x) (M 4 (M 34 x)) (M 7 x))
def gTak (M : Mem) (x : Int) : Mem := if ¬ (0 ≤ x ∧ x < M 3 7) then M else if M 34 x = -9 then M else ldM (aAdd M) x
def zWsh (M : Mem) (x : Int) : Int := if ¬ (0 ≤ x ∧ x < M 3 7) then -1 else if ¬ M 34 x = -9 ∨ M 33 x = 0 then -3 else M 33 x % 10
def gWsh (M : Mem) (x : Int) : Mem := if ¬ (0 ≤ x ∧ x < M 3 7) then M else if ¬ M 34 x = -9 ∨ M 33 x = 0 then M else mset (aAdd M) 33 x (M 33 x / 10)
def zUnd (M : Mem) : Int := if M 15 2 = 0 then -3 else M 15 2 - 1
def gUnd (M : Mem) : Mem := if M 15 2 = 0 then M else aBack M
def zLef (M : Mem) (x n : Int) : Int := if ¬ (0 ≤ x ∧ x < M 3 7) then -1 else if ¬ (0 ≤ n ∧ n ≤ 3) then -2 else lwO (M 33 x) n.toNat % 10
def zWas (M : Mem) (x dd : Int) : Int := if ¬ (0 ≤ x ∧ x < M 3 7) then -1 else if ¬ (0 ≤ dd ∧ dd ≤ 7) then -2 else if M 33 x % 10 = dd then 0 else if M 33 x / 10 % 10 = dd then 1 else if M 33 x / 10 / 10 % 10 = dd then 2 else if M 33 x / 10 / 10 / 10 % 10 = dd then 3 else -9
def zBot (M : Mem) (x y : Int) : Int := if ¬ ((0 ≤ x ∧ x < M 3 7) ∧ (0 ≤ y ∧ y < M 3 7)) then -1 else xorI (M 33 x % 10) (M 33 y % 10)
def zEit (M : Mem) (x y : Int) : Int := if ¬ ((0 ≤ x ∧ x < M 3 7) ∧ (0 ≤ y ∧ y < M 3 7)) then -1 else if M 33 x % 10 = xorI (M 33 x % 10) (M 33 y % 10) ∨ M 33 y % 10 = xorI (M 33 x % 10) (M 33 y % 10) then 1 else 0
theorem xorI_b {a b : Int} (ha : 0 ≤ a ∧ a < 16) (hb : 0 ≤ b ∧ b < 16) : 0 ≤ xorI a b ∧ xorI a b < 16 := by
  have h : a.toNat ^^^ b.toNat < 2 ^ 4 := Nat.xor_lt_two_pow (by omega) (by omega)
  unfold xorI
  omega
def zUns (M : Mem) : Int := M 10 3
def gUns (M : Mem) : Mem := mset M 10 3 0
def zSee (M : Mem) (x y dd : Int) : Int := if ¬ ((0 ≤ x ∧ x < M 3 7) ∧ (0 ≤ y ∧ y < M 3 6)) then -1 else if ¬ (0 ≤ dd ∧ dd ≤ 7) then -2 else if 4 ≤ M 10 3 then -4 else M 10 3 + 1
def gSee (M : Mem) (x y dd : Int) : Mem := if ¬ ((0 ≤ x ∧ x < M 3 7) ∧ (0 ≤ y ∧ y < M 3 6)) then M else if ¬ (0 ≤ dd ∧ dd ≤ 7) then M else if 4 ≤ M 10 3 then M else mset (mset (mset (mset M 11 (M 10 3) x) 12 (M 10 3) y) 13 (M 10 3) dd) 10 3 (M 10 3 + 1)
set_option maxHeartbeats 4000000 in
set_option maxRecDepth 100000 in
theorem c_X6_layDown (l : Launch) (g : GT) (M : Mem) (x : Int) (hx0 : 0 ≤ x ∧ x < 4) (hk : 0 ≤ M 33 x ∧ M 33 x < 1000) (hw0 : 0 ≤ M 34 x ∧ M 34 x < 5) (hr0 : -2147483648 ≤ M 7 x ∧ M 7 x < 2147483648) : Ctr l g yX6_layDown wsX6_layDown ({ frames := 3, cells := 0, slots := 0, locals := 65 } : Room) [.ref (gA g 0), .int (iI x)] M (pV (ldM M x)) := by
  refine Ctr.mk (cc := cX6_layDown) (maxL := 3) (ret := none) (lv := [(0, .ref (gA g 0)), (1, .int (iI x))]) (by decide) rfl (Nat.le_of_ble_eq_true rfl) rfl ?_
  intro p e s m below meth c C hr hlk hI ls hl
  have C : CallFix p m c cX6_layDown 3 s ([.ref (gA g 0), .int (iI x)] : List Value).toArray wsX6_layDown RX6 := C
  have hx := C.1
  have hb := C.2.1
  have hts := C.2.2.2.2
  have hin6 : ∀ w ∈ u_ws RX6 TX6 9, w ∈ wsX6_layDown := by decide +kernel
  refine lv_aload_n hx hb dX6_layDown_0 rfl (lv_at hl 0 rfl) ?_
  refine r_get C hI 0 (by decide) rfl rfl hin6 1 (by decide) (fn := "theDesk") (fd := "LGloveReply$Desk;") (index := 19) (by decide +kernel) ⟨rfl, rfl, rfl⟩ (v := .ref (gA g 3)) rfl dX6_layDown_1 ?_
  refine lv_iload_n hx hb dX6_layDown_4 rfl (lv_at hl 1 rfl) ?_
  refine lv_aload_n hx hb dX6_layDown_5 rfl (lv_at hl 0 rfl) ?_
  refine r_get C hI 0 (by decide) rfl rfl hin6 2 (by decide) (fn := "now") (fd := "LGloveReply$Moment;") (index := 26) (by decide +kernel) ⟨rfl, rfl, rfl⟩ (v := .ref (gA g 32)) rfl dX6_layDown_6 ?_
  refine lv_iload_n hx hb dX6_layDown_9 rfl (lv_at hl 1 rfl) ?_
  refine r_iv C hI (As := [.int (iI x)]) (rest := [.int (iI x), .ref (gA g 3)]) (c_X2_keptBy l g M 32 x (by decide) (by omega)) (cwV 1 hts gX6_layDown_X2_keptBy rfl rfl rfl (by decide +kernel) ⟨Nat.le_of_ble_eq_true rfl, Nat.le_of_ble_eq_true rfl⟩) (by decide) (ceMo (show isMo 32 from by decide) _) rfl rfl hl.1 rfl (Nat.le_of_ble_eq_true rfl) dX6_layDown_10 ⟨Nat.zero_le _, Nat.zero_le _⟩ (k_I (fun H locs hI => ?_))
  refine r_eqI (z2 := M 33 x) rfl ?_
  refine lv_aload_n hx hb dX6_layDown_13 rfl (lv_at hl 0 rfl) ?_
  refine r_get C hI 0 (by decide) rfl rfl hin6 2 (by decide) (fn := "now") (fd := "LGloveReply$Moment;") (index := 26) (by decide +kernel) ⟨rfl, rfl, rfl⟩ (v := .ref (gA g 32)) rfl dX6_layDown_14 ?_
  refine lv_iload_n hx hb dX6_layDown_17 rfl (lv_at hl 1 rfl) ?_
  refine r_iv C hI (As := [.int (iI x)]) (rest := [.int (iI (M 33 x)), .int (iI x), .ref (gA g 3)]) (c_X2_wearerOf l g M 32 x (by decide) (by omega)) (cwV 1 hts gX6_layDown_X2_wearerOf rfl rfl rfl (by decide +kernel) ⟨Nat.le_of_ble_eq_true rfl, Nat.le_of_ble_eq_true rfl⟩) (by decide) (ceMo (show isMo 32 from by decide) _) rfl rfl hl.1 rfl (Nat.le_of_ble_eq_true rfl) dX6_layDown_18 ⟨Nat.zero_le _, Nat.zero_le _⟩ (k_I (fun H locs hI => ?_))
  refine r_eqI (z2 := M 34 x) rfl ?_
  refine r_iv C hI (As := [.int (iI x), .int (iI (M 33 x)), .int (iI (M 34 x))]) (rest := []) (c_X1_afterHand l g M x (M 33 x) (M 34 x) (by omega) (by omega) (by omega) (show -2147483648 ≤ (M 7 x) ∧ (M 7 x) < 2147483648 from by omega)) (cwV 3 hts gX6_layDown_X1_afterHand rfl rfl rfl (by decide +kernel) ⟨Nat.le_of_ble_eq_true rfl, Nat.le_of_ble_eq_true rfl⟩) (by decide) rfl rfl rfl hl.1 rfl (Nat.le_of_ble_eq_true rfl) dX6_layDown_21 ⟨Nat.zero_le _, Nat.zero_le _⟩ (k_I (fun H locs hI => ?_))
  have ff_1 := @behO_b (M 33 x) (M 4 (M 34 x)) (M 7 x)
  refine lv_istore_n (lv' := [(2, .int (iI (behO (M 33 x) (M 4 (M 34 x)) (M 7 x)))), (0, .ref (gA g 0)), (1, .int (iI x))]) hx hb dX6_layDown_24 rfl hl (by decide) rfl (fun ls hl => ?_)
  refine lv_aload_n hx hb dX6_layDown_25 rfl (lv_at hl 1 rfl) ?_
  refine r_get C hI 0 (by decide) rfl rfl hin6 2 (by decide) (fn := "now") (fd := "LGloveReply$Moment;") (index := 26) (by decide +kernel) ⟨rfl, rfl, rfl⟩ (v := .ref (gA g 32)) rfl dX6_layDown_26 ?_
  refine lv_iload_n hx hb dX6_layDown_29 rfl (lv_at hl 2 rfl) ?_
  refine lv_iload_n hx hb dX6_layDown_30 rfl (lv_at hl 0 rfl) ?_
  refine r_iv C hI (As := [.int (iI x), .int (iI (behO (M 33 x) (M 4 (M 34 x)) (M 7 x)))]) (rest := []) (c_X2_setKept l g M 32 x (behO (M 33 x) (M 4 (M 34 x)) (M 7 x)) (by decide) (by omega)) (cwV 2 hts gX6_layDown_X2_setKept rfl rfl rfl (by decide +kernel) ⟨Nat.le_of_ble_eq_true rfl, Nat.le_of_ble_eq_true rfl⟩) (by decide) (ceMo (show isMo 32 from by decide) _) rfl rfl hl.1 rfl (Nat.le_of_ble_eq_true rfl) dX6_layDown_31 ⟨Nat.zero_le _, Nat.zero_le _⟩ (k_V (fun H locs hI => ?_))
  refine lv_aload_n hx hb dX6_layDown_34 rfl (lv_at hl 1 rfl) ?_
  refine r_get C hI 0 (by decide) rfl rfl hin6 2 (by decide) (fn := "now") (fd := "LGloveReply$Moment;") (index := 26) (by decide +kernel) ⟨rfl, rfl, rfl⟩ (v := .ref (gA g 32)) rfl dX6_layDown_35 ?_
  refine lv_iload_n hx hb dX6_layDown_38 rfl (lv_at hl 2 rfl) ?_
  refine lv_bipush (v := iI (-9)) hx hb dX6_layDown_39 (by decide +kernel) ?_
  refine r_iv C hI (As := [.int (iI x), .int (iI (-9))]) (rest := []) (c_X2_putOn l g (mset M 33 x (behO (M 33 x) (M 4 (M 34 x)) (M 7 x))) 32 x (-9) (by decide) (by omega)) (cwV 2 hts gX6_layDown_X2_putOn rfl rfl rfl (by decide +kernel) ⟨Nat.le_of_ble_eq_true rfl, Nat.le_of_ble_eq_true rfl⟩) (by decide) (ceMo (show isMo 32 from by decide) _) rfl rfl hl.1 rfl (Nat.le_of_ble_eq_true rfl) dX6_layDown_41 ⟨Nat.zero_le _, Nat.zero_le _⟩ (k_V (fun H locs hI => ?_))
  refine r_vret C hr hlk hI ?_ dX6_layDown_44
  exact ⟨rfl, (show mset (mset M 33 x (behO (M 33 x) (M 4 (M 34 x)) (M 7 x))) 34 x (-9) = ldM M x from by first | rfl | (exfalso; omega))⟩
set_option maxHeartbeats 4000000 in
set_option maxRecDepth 100000 in
theorem c_X6_lastAfterWashes (l : Launch) (g : GT) (M : Mem) (x : Int) (n : Int) (hx0 : 0 ≤ x ∧ x < 4) (hk : 0 ≤ M 33 x ∧ M 33 x < 1000) (hn : 0 ≤ n ∧ n ≤ 3) : Ctr l g yX6_lastAfterWashes wsX6_lastAfterWashes ({ frames := 2, cells := 0, slots := 0, locals := 42 } : Room) [.ref (gA g 0), .int (iI x), .int (iI n)] M (pI (lwO (M 33 x) n.toNat % 10) M) := by
  refine Ctr.mk (cc := cX6_lastAfterWashes) (maxL := 5) (ret := some .int) (lv := [(0, .ref (gA g 0)), (1, .int (iI x)), (2, .int (iI n))]) (by decide) rfl (Nat.le_of_ble_eq_true rfl) rfl ?_
  intro p e s m below meth c C hr hlk hI ls hl
  have C : CallFix p m c cX6_lastAfterWashes 5 s ([.ref (gA g 0), .int (iI x), .int (iI n)] : List Value).toArray wsX6_lastAfterWashes RX6 := C
  have hx := C.1
  have hb := C.2.1
  have hts := C.2.2.2.2
  have hin6 : ∀ w ∈ u_ws RX6 TX6 9, w ∈ wsX6_lastAfterWashes := by decide +kernel
  refine lv_aload_n hx hb dX6_lastAfterWashes_0 rfl (lv_at hl 0 rfl) ?_
  refine r_get C hI 0 (by decide) rfl rfl hin6 2 (by decide) (fn := "now") (fd := "LGloveReply$Moment;") (index := 26) (by decide +kernel) ⟨rfl, rfl, rfl⟩ (v := .ref (gA g 32)) rfl dX6_lastAfterWashes_1 ?_
  refine lv_iload_n hx hb dX6_lastAfterWashes_4 rfl (lv_at hl 1 rfl) ?_
  refine r_iv C hI (As := [.int (iI x)]) (rest := []) (c_X2_keptBy l g M 32 x (by decide) (by omega)) (cwV 1 hts gX6_lastAfterWashes_X2_keptBy rfl rfl rfl (by decide +kernel) ⟨Nat.le_of_ble_eq_true rfl, Nat.le_of_ble_eq_true rfl⟩) (by decide) (ceMo (show isMo 32 from by decide) _) rfl rfl hl.1 rfl (Nat.le_of_ble_eq_true rfl) dX6_lastAfterWashes_5 ⟨Nat.zero_le _, Nat.zero_le _⟩ (k_I (fun H locs hI => ?_))
  refine r_eqI (z2 := M 33 x) rfl ?_
  refine lv_istore_n (lv' := [(3, .int (iI (M 33 x))), (0, .ref (gA g 0)), (1, .int (iI x)), (2, .int (iI n))]) hx hb dX6_lastAfterWashes_8 rfl hl (by decide) rfl (fun ls hl => ?_)
  refine lv_iconst (v := iI 0) hx hb dX6_lastAfterWashes_9 rfl ?_
  refine lv_istore (lv' := [(4, .int (iI 0)), (3, .int (iI (M 33 x))), (0, .ref (gA g 0)), (1, .int (iI x)), (2, .int (iI n))]) hx hb dX6_lastAfterWashes_10 hl (by decide) rfl (fun ls hl => ?_)
  have lp12 : ∀ (n12 : Nat) (tt : Int) (kk : Int) (jj : Nat), (0 ≤ tt ∧ tt + (jj : Int) = n) → (0 ≤ kk ∧ kk < 1000) → (lwO kk jj = lwO (M 33 x) n.toNat) → (n - tt).toNat < n12 → ∀ (H : Heap) (locs : List Loc), HI g s H locs M → ∀ ls : Array Slot, lv_has ls 5 [(4, .int (iI tt)), (3, .int (iI kk)), (0, .ref (gA g 0)), (1, .int (iI x)), (2, .int (iI n))] → W p l e ({ frames := 2, cells := 0, slots := 0, locals := 42 } : Room) s m ([.ref (gA g 0), .int (iI x), .int (iI n)] : List Value).toArray below meth c H locs 0 0 (MQ below (QV g (pI (lwO (M 33 x) n.toNat % 10) M)) ([.ref (gA g 0), .int (iI x), .int (iI n)] : List Value).toArray s 0 0 (AA g)) (F0 m 12 ls []) := by
    intro n12
    induction n12 with
    | zero => intro tt kk jj h1 h3 h2 hn12; exact absurd hn12 (Nat.not_lt_zero _)
    | succ n12 ih12 =>
      intro tt kk jj h1 h3 h2 hn12 H locs hI ls hl
      refine lv_iload hx hb dX6_lastAfterWashes_12 (lv_at hl 0 rfl) ?_
      refine lv_iload_n hx hb dX6_lastAfterWashes_14 rfl (lv_at hl 4 rfl) ?_
      refine r_icmp_ge hx hb (tgt := 29) (by omega) (by omega) dX6_lastAfterWashes_15 (by decide) (fun c_1 => ?_) (fun c_1 => ?_)
      · refine lv_iload_n hx hb dX6_lastAfterWashes_29 rfl (lv_at hl 1 rfl) ?_
        refine r_is C hI (As := [.int (iI kk)]) (rest := []) (c_X6_lastOf l g M kk (by omega)) (va_cwS 1 hts gX6_lastAfterWashes_X6_lastOf rfl rfl rfl (by decide +kernel) ⟨Nat.le_of_ble_eq_true rfl, Nat.le_of_ble_eq_true rfl⟩) rfl hl.1 rfl (Nat.le_of_ble_eq_true rfl) dX6_lastAfterWashes_30 ⟨Nat.zero_le _, Nat.zero_le _⟩ (k_I (fun H locs hI => ?_))
        refine r_iret C hr hlk hI ?_ dX6_lastAfterWashes_33
        exact ⟨congrArg (fun q => some (Value.int (iI q))) (show kk % 10 = lwO (M 33 x) n.toNat % 10 from by (have : jj = 0 := by omega); subst this; rw [← h2]; rfl), rfl⟩
      · refine lv_iload_n hx hb dX6_lastAfterWashes_18 rfl (lv_at hl 1 rfl) ?_
        refine r_is C hI (As := [.int (iI kk)]) (rest := []) (c_X6_withoutLast l g M kk (by omega)) (va_cwS 1 hts gX6_lastAfterWashes_X6_withoutLast rfl rfl rfl (by decide +kernel) ⟨Nat.le_of_ble_eq_true rfl, Nat.le_of_ble_eq_true rfl⟩) rfl hl.1 rfl (Nat.le_of_ble_eq_true rfl) dX6_lastAfterWashes_19 ⟨Nat.zero_le _, Nat.zero_le _⟩ (k_I (fun H locs hI => ?_))
        refine lv_istore_n (lv' := [(3, .int (iI (kk / 10))), (4, .int (iI tt)), (0, .ref (gA g 0)), (1, .int (iI x)), (2, .int (iI n))]) hx hb dX6_lastAfterWashes_22 rfl hl (by decide) rfl (fun ls hl => ?_)
        refine lv_iinc (v := iI (tt + 1)) (lv' := [(4, .int (iI (tt + 1))), (3, .int (iI (kk / 10))), (0, .ref (gA g 0)), (1, .int (iI x)), (2, .int (iI n))]) hx hb dX6_lastAfterWashes_23 hl (k := 1) rfl (iI_add _ _) (by decide) rfl (fun ls hl => ?_)
        refine lv_goto (tgt := 12) hx hb dX6_lastAfterWashes_26 (by decide) ?_
        exact ih12 (tt + 1) (kk / 10) (jj - 1) (by omega) (by omega) (by (obtain ⟨i0, hi0⟩ : ∃ i0, jj = i0 + 1 := ⟨jj - 1, by omega⟩); subst hi0; exact h2) (by omega) _ _ hI ls (lv_sub hl [0, 1, 2, 3, 4] rfl)
  exact lp12 _ 0 (M 33 x) (n.toNat) (by omega) (by omega) (by rfl) (Nat.lt_succ_self _) _ _ hI ls (lv_sub hl [0, 1, 2, 3, 4] rfl)
set_option maxHeartbeats 4000000 in
set_option maxRecDepth 100000 in
theorem c_X6_secretOf (l : Launch) (g : GT) (M : Mem) (x : Int) (y : Int) (hx0 : 0 ≤ x ∧ x < 4) (hy0 : 0 ≤ y ∧ y < 4) (hk : 0 ≤ M 33 x ∧ M 33 x < 1000) (hk2 : 0 ≤ M 33 y ∧ M 33 y < 1000) : Ctr l g yX6_secretOf wsX6_secretOf ({ frames := 2, cells := 0, slots := 0, locals := 42 } : Room) [.ref (gA g 0), .int (iI x), .int (iI y)] M (pI (xorI (M 33 x % 10) (M 33 y % 10)) M) := by
  refine Ctr.mk (cc := cX6_secretOf) (maxL := 3) (ret := some .int) (lv := [(0, .ref (gA g 0)), (1, .int (iI x)), (2, .int (iI y))]) (by decide) rfl (Nat.le_of_ble_eq_true rfl) rfl ?_
  intro p e s m below meth c C hr hlk hI ls hl
  have C : CallFix p m c cX6_secretOf 3 s ([.ref (gA g 0), .int (iI x), .int (iI y)] : List Value).toArray wsX6_secretOf RX6 := C
  have hx := C.1
  have hb := C.2.1
  have hts := C.2.2.2.2
  have hin6 : ∀ w ∈ u_ws RX6 TX6 9, w ∈ wsX6_secretOf := by decide +kernel
  refine lv_aload_n hx hb dX6_secretOf_0 rfl (lv_at hl 0 rfl) ?_
  refine r_get C hI 0 (by decide) rfl rfl hin6 2 (by decide) (fn := "now") (fd := "LGloveReply$Moment;") (index := 26) (by decide +kernel) ⟨rfl, rfl, rfl⟩ (v := .ref (gA g 32)) rfl dX6_secretOf_1 ?_
  refine lv_iload_n hx hb dX6_secretOf_4 rfl (lv_at hl 1 rfl) ?_
  refine r_iv C hI (As := [.int (iI x)]) (rest := []) (c_X2_keptBy l g M 32 x (by decide) (by omega)) (cwV 1 hts gX6_secretOf_X2_keptBy rfl rfl rfl (by decide +kernel) ⟨Nat.le_of_ble_eq_true rfl, Nat.le_of_ble_eq_true rfl⟩) (by decide) (ceMo (show isMo 32 from by decide) _) rfl rfl hl.1 rfl (Nat.le_of_ble_eq_true rfl) dX6_secretOf_5 ⟨Nat.zero_le _, Nat.zero_le _⟩ (k_I (fun H locs hI => ?_))
  refine r_eqI (z2 := M 33 x) rfl ?_
  refine r_is C hI (As := [.int (iI (M 33 x))]) (rest := []) (c_X6_lastOf l g M (M 33 x) (by omega)) (va_cwS 1 hts gX6_secretOf_X6_lastOf rfl rfl rfl (by decide +kernel) ⟨Nat.le_of_ble_eq_true rfl, Nat.le_of_ble_eq_true rfl⟩) rfl hl.1 rfl (Nat.le_of_ble_eq_true rfl) dX6_secretOf_8 ⟨Nat.zero_le _, Nat.zero_le _⟩ (k_I (fun H locs hI => ?_))
  refine lv_aload_n hx hb dX6_secretOf_11 rfl (lv_at hl 0 rfl) ?_
  refine r_get C hI 0 (by decide) rfl rfl hin6 2 (by decide) (fn := "now") (fd := "LGloveReply$Moment;") (index := 26) (by decide +kernel) ⟨rfl, rfl, rfl⟩ (v := .ref (gA g 32)) rfl dX6_secretOf_12 ?_
  refine lv_iload_n hx hb dX6_secretOf_15 rfl (lv_at hl 2 rfl) ?_
  refine r_iv C hI (As := [.int (iI y)]) (rest := [.int (iI ((M 33 x) % 10))]) (c_X2_keptBy l g M 32 y (by decide) (by omega)) (cwV 1 hts gX6_secretOf_X2_keptBy rfl rfl rfl (by decide +kernel) ⟨Nat.le_of_ble_eq_true rfl, Nat.le_of_ble_eq_true rfl⟩) (by decide) (ceMo (show isMo 32 from by decide) _) rfl rfl hl.1 rfl (Nat.le_of_ble_eq_true rfl) dX6_secretOf_16 ⟨Nat.zero_le _, Nat.zero_le _⟩ (k_I (fun H locs hI => ?_))
  refine r_eqI (z2 := M 33 y) rfl ?_
  refine r_is C hI (As := [.int (iI (M 33 y))]) (rest := [.int (iI ((M 33 x) % 10))]) (c_X6_lastOf l g M (M 33 y) (by omega)) (va_cwS 1 hts gX6_secretOf_X6_lastOf rfl rfl rfl (by decide +kernel) ⟨Nat.le_of_ble_eq_true rfl, Nat.le_of_ble_eq_true rfl⟩) rfl hl.1 rfl (Nat.le_of_ble_eq_true rfl) dX6_secretOf_19 ⟨Nat.zero_le _, Nat.zero_le _⟩ (k_I (fun H locs hI => ?_))
  refine r_ixor hx hb (by omega) dX6_secretOf_22 ?_
  refine r_iret C hr hlk hI ?_ dX6_secretOf_23
  exact ⟨congrArg (fun q => some (Value.int (iI q))) (show xorI ((M 33 x) % 10) ((M 33 y) % 10) = xorI (M 33 x % 10) (M 33 y % 10) from by first | rfl | omega), rfl⟩
set_option maxHeartbeats 4000000 in
set_option maxRecDepth 100000 in
theorem c_X6_forgetSlots (l : Launch) (g : GT) (M : Mem) : Ctr l g yX6_forgetSlots wsX6_forgetSlots ({ frames := 1, cells := 0, slots := 0, locals := 20 } : Room) [.ref (gA g 0)] M (pV (mset (mset M 80 3 0) 83 3 0)) := by
  refine Ctr.mk (cc := cX6_forgetSlots) (maxL := 3) (ret := none) (lv := [(0, .ref (gA g 0))]) (by decide) rfl (Nat.le_of_ble_eq_true rfl) rfl ?_
  intro p e s m below meth c C hr hlk hI ls hl
  have C : CallFix p m c cX6_forgetSlots 3 s ([.ref (gA g 0)] : List Value).toArray wsX6_forgetSlots RX6 := C
  have hx := C.1
  have hb := C.2.1
  have hts := C.2.2.2.2
  have hin6 : ∀ w ∈ u_ws RX6 TX6 9, w ∈ wsX6_forgetSlots := by decide +kernel
  refine lv_iconst (v := iI 0) hx hb dX6_forgetSlots_0 rfl ?_
  refine lv_istore_n (lv' := [(1, .int (iI 0)), (0, .ref (gA g 0))]) hx hb dX6_forgetSlots_1 rfl hl (by decide) rfl (fun ls hl => ?_)
  refine lv_iload_n hx hb dX6_forgetSlots_2 rfl (lv_at hl 0 rfl) ?_
  refine lv_aload_n hx hb dX6_forgetSlots_3 rfl (lv_at hl 1 rfl) ?_
  refine r_get C hI 0 (by decide) rfl rfl hin6 7 (by decide) (fn := "slots") (fd := "[LGloveReply$Moment;") (index := 54) (by decide +kernel) ⟨rfl, rfl, rfl⟩ (v := .ref (gA g 17)) rfl dX6_forgetSlots_4 ?_
  refine r_qlen C hI 17 (by decide) rfl dX6_forgetSlots_7 ?_
  refine r_icmp_ge hx hb (tgt := 32) (by decide) (by decide) dX6_forgetSlots_8 (by decide) (fun c => absurd c (by decide)) (fun c_1 => ?_)
  refine lv_aload_n hx hb dX6_forgetSlots_11 rfl (lv_at hl 1 rfl) ?_
  refine r_get C hI 0 (by decide) rfl rfl hin6 7 (by decide) (fn := "slots") (fd := "[LGloveReply$Moment;") (index := 54) (by decide +kernel) ⟨rfl, rfl, rfl⟩ (v := .ref (gA g 17)) rfl dX6_forgetSlots_12 ?_
  refine lv_iload_n hx hb dX6_forgetSlots_15 rfl (lv_at hl 0 rfl) ?_
  refine r_qld C hI 17 (by decide) rfl (by decide) (by decide) (a := gA g 80) rfl dX6_forgetSlots_16 ?_
  refine lv_astore_n (lv' := [(2, .ref (gA g 80)), (1, .int (iI 0)), (0, .ref (gA g 0))]) hx hb dX6_forgetSlots_17 rfl hl (by decide) rfl (fun ls hl => ?_)
  refine lv_aload_n hx hb dX6_forgetSlots_18 rfl (lv_at hl 0 rfl) ?_
  refine lv_ifnull hx hb dX6_forgetSlots_19 ?_
  refine lv_aload_n hx hb dX6_forgetSlots_22 rfl (lv_at hl 0 rfl) ?_
  refine r_iv C hI (As := []) (rest := []) (c_X2_release l g M 80 (by decide)) (cwV 0 hts gX6_forgetSlots_X2_release rfl rfl rfl (by decide +kernel) ⟨Nat.le_of_ble_eq_true rfl, Nat.le_of_ble_eq_true rfl⟩) (by decide) (ceMo (show isMo 80 from by decide) _) rfl rfl hl.1 rfl (Nat.le_of_ble_eq_true rfl) dX6_forgetSlots_23 ⟨Nat.zero_le _, Nat.zero_le _⟩ (k_V (fun H locs hI => ?_))
  refine lv_iinc (v := iI (1)) (lv' := [(1, .int (iI 1)), (2, .ref (gA g 80)), (0, .ref (gA g 0))]) hx hb dX6_forgetSlots_26 hl (k := 1) rfl (iI_add _ _) (by decide) rfl (fun ls hl => ?_)
  refine lv_goto (tgt := 2) hx hb dX6_forgetSlots_29 (by decide) ?_
  refine lv_iload_n hx hb dX6_forgetSlots_2 rfl (lv_at hl 0 rfl) ?_
  refine lv_aload_n hx hb dX6_forgetSlots_3 rfl (lv_at hl 2 rfl) ?_
  refine r_get C hI 0 (by decide) rfl rfl hin6 7 (by decide) (fn := "slots") (fd := "[LGloveReply$Moment;") (index := 54) (by decide +kernel) ⟨rfl, rfl, rfl⟩ (v := .ref (gA g 17)) rfl dX6_forgetSlots_4 ?_
  refine r_qlen C hI 17 (by decide) rfl dX6_forgetSlots_7 ?_
  refine r_icmp_ge hx hb (tgt := 32) (by decide) (by decide) dX6_forgetSlots_8 (by decide) (fun c => absurd c (by decide)) (fun c_2 => ?_)
  refine lv_aload_n hx hb dX6_forgetSlots_11 rfl (lv_at hl 2 rfl) ?_
  refine r_get C hI 0 (by decide) rfl rfl hin6 7 (by decide) (fn := "slots") (fd := "[LGloveReply$Moment;") (index := 54) (by decide +kernel) ⟨rfl, rfl, rfl⟩ (v := .ref (gA g 17)) rfl dX6_forgetSlots_12 ?_
  refine lv_iload_n hx hb dX6_forgetSlots_15 rfl (lv_at hl 0 rfl) ?_
  refine r_qld C hI 17 (by decide) rfl (by decide) (by decide) (a := gA g 83) rfl dX6_forgetSlots_16 ?_
  refine lv_astore_n (lv' := [(2, .ref (gA g 83)), (1, .int (iI 1)), (0, .ref (gA g 0))]) hx hb dX6_forgetSlots_17 rfl hl (by decide) rfl (fun ls hl => ?_)
  refine lv_aload_n hx hb dX6_forgetSlots_18 rfl (lv_at hl 0 rfl) ?_
  refine lv_ifnull hx hb dX6_forgetSlots_19 ?_
  refine lv_aload_n hx hb dX6_forgetSlots_22 rfl (lv_at hl 0 rfl) ?_
  refine r_iv C hI (As := []) (rest := []) (c_X2_release l g (mset M 80 3 0) 83 (by decide)) (cwV 0 hts gX6_forgetSlots_X2_release rfl rfl rfl (by decide +kernel) ⟨Nat.le_of_ble_eq_true rfl, Nat.le_of_ble_eq_true rfl⟩) (by decide) (ceMo (show isMo 83 from by decide) _) rfl rfl hl.1 rfl (Nat.le_of_ble_eq_true rfl) dX6_forgetSlots_23 ⟨Nat.zero_le _, Nat.zero_le _⟩ (k_V (fun H locs hI => ?_))
  refine lv_iinc (v := iI (2)) (lv' := [(1, .int (iI 2)), (2, .ref (gA g 83)), (0, .ref (gA g 0))]) hx hb dX6_forgetSlots_26 hl (k := 1) rfl (iI_add _ _) (by decide) rfl (fun ls hl => ?_)
  refine lv_goto (tgt := 2) hx hb dX6_forgetSlots_29 (by decide) ?_
  refine lv_iload_n hx hb dX6_forgetSlots_2 rfl (lv_at hl 0 rfl) ?_
  refine lv_aload_n hx hb dX6_forgetSlots_3 rfl (lv_at hl 2 rfl) ?_
  refine r_get C hI 0 (by decide) rfl rfl hin6 7 (by decide) (fn := "slots") (fd := "[LGloveReply$Moment;") (index := 54) (by decide +kernel) ⟨rfl, rfl, rfl⟩ (v := .ref (gA g 17)) rfl dX6_forgetSlots_4 ?_
  refine r_qlen C hI 17 (by decide) rfl dX6_forgetSlots_7 ?_
  refine r_icmp_ge hx hb (tgt := 32) (by decide) (by decide) dX6_forgetSlots_8 (by decide) (fun c_3 => ?_) (fun c => absurd c (by decide))
  refine r_vret C hr hlk hI ?_ dX6_forgetSlots_32
  exact ⟨rfl, (show mset (mset M 80 3 0) 83 3 0 = mset (mset M 80 3 0) 83 3 0 from by first | rfl | (exfalso; omega))⟩
set_option maxHeartbeats 4000000 in
set_option maxRecDepth 100000 in
theorem c_X6_write (l : Launch) (g : GT) (M : Mem) (v : Int) (wf : WF M) (h_v : -2147483648 ≤ v ∧ v < 2147483648) : Ctr l g yX6_write wsX6_write ({ frames := 2, cells := 0, slots := 0, locals := 43 } : Room) [.ref (gA g 0), .int (iI v)] M (pI (zWr (M) v) (gWr M v)) := by
  refine Ctr.mk (cc := cX6_write) (maxL := 2) (ret := some .int) (lv := [(0, .ref (gA g 0)), (1, .int (iI v))]) (by decide) rfl (Nat.le_of_ble_eq_true rfl) rfl ?_
  intro p e s m below meth c C hr hlk hI ls hl
  have C : CallFix p m c cX6_write 2 s ([.ref (gA g 0), .int (iI v)] : List Value).toArray wsX6_write RX6 := C
  have hx := C.1
  have hb := C.2.1
  have hts := C.2.2.2.2
  have hin6 : ∀ w ∈ u_ws RX6 TX6 9, w ∈ wsX6_write := by decide +kernel
  have wf0 := wf
  obtain ⟨w_txt, hL, w_cnt, w_per, w_glo, w_now, w_act, w_rng, w_slo, w_see, w_sa⟩ := wf
  refine lv_iload_n hx hb dX6_write_0 rfl (lv_at hl 1 rfl) ?_
  refine lv_iconst (v := iI 0) hx hb dX6_write_1 rfl ?_
  refine lv_sipush (v := iI 255) hx hb dX6_write_2 (by decide +kernel) ?_
  refine r_is C hI (As := [.int (iI v), .int (iI 0), .int (iI 255)]) (rest := []) (c_X6_within l g M v 0 255 (by omega) (by omega) (by omega)) (va_cwS 3 hts gX6_write_X6_within rfl rfl rfl (by decide +kernel) ⟨Nat.le_of_ble_eq_true rfl, Nat.le_of_ble_eq_true rfl⟩) rfl hl.1 rfl (Nat.le_of_ble_eq_true rfl) dX6_write_5 ⟨Nat.zero_le _, Nat.zero_le _⟩ (k_I (fun H locs hI => ?_))
  refine r_b_ne hx hb (tgt := 14) dX6_write_8 (by decide) (fun c_1 => ?_) (fun c_1 => ?_)
  · refine lv_aload_n hx hb dX6_write_14 rfl (lv_at hl 0 rfl) ?_
    refine r_get C hI 0 (by decide) rfl rfl hin6 0 (by decide) (fn := "theText") (fd := "LGloveReply$Text;") (index := 10) (by decide +kernel) ⟨rfl, rfl, rfl⟩ (v := .ref (gA g 1)) rfl dX6_write_15 ?_
    refine r_iv C hI (As := []) (rest := []) (c_X5_size l g M) (cwV 0 hts gX6_write_X5_size rfl rfl rfl (by decide +kernel) ⟨Nat.le_of_ble_eq_true rfl, Nat.le_of_ble_eq_true rfl⟩) (by decide) rfl rfl rfl hl.1 rfl (Nat.le_of_ble_eq_true rfl) dX6_write_18 ⟨Nat.zero_le _, Nat.zero_le _⟩ (k_I (fun H locs hI => ?_))
    refine lv_bipush (v := iI 40) hx hb dX6_write_21 (by decide +kernel) ?_
    refine r_icmp_lt hx hb (tgt := 29) (by omega) (by decide) dX6_write_23 (by decide) (fun c_2 => ?_) (fun c_2 => ?_)
    · refine lv_aload_n hx hb dX6_write_29 rfl (lv_at hl 0 rfl) ?_
      refine r_get C hI 0 (by decide) rfl rfl hin6 0 (by decide) (fn := "theText") (fd := "LGloveReply$Text;") (index := 10) (by decide +kernel) ⟨rfl, rfl, rfl⟩ (v := .ref (gA g 1)) rfl dX6_write_30 ?_
      refine lv_iload_n hx hb dX6_write_33 rfl (lv_at hl 1 rfl) ?_
      refine r_iv C hI (As := [.int (iI v)]) (rest := []) (c_X5_add l g M v (show 0 ≤ (M 1 1) ∧ (M 1 1) < 40 from by omega)) (cwV 1 hts gX6_write_X5_add rfl rfl rfl (by decide +kernel) ⟨Nat.le_of_ble_eq_true rfl, Nat.le_of_ble_eq_true rfl⟩) (by decide) rfl rfl rfl hl.1 rfl (Nat.le_of_ble_eq_true rfl) dX6_write_34 ⟨Nat.zero_le _, Nat.zero_le _⟩ (k_V (fun H locs hI => ?_))
      refine lv_aload_n hx hb dX6_write_37 rfl (lv_at hl 0 rfl) ?_
      refine r_get C hI 0 (by decide) rfl rfl hin6 0 (by decide) (fn := "theText") (fd := "LGloveReply$Text;") (index := 10) (by decide +kernel) ⟨rfl, rfl, rfl⟩ (v := .ref (gA g 1)) rfl dX6_write_38 ?_
      refine r_iv C hI (As := []) (rest := []) (c_X5_size l g (mset (mset M 2 (M 1 1) v) 1 1 ((M 1 1) + 1))) (cwV 0 hts gX6_write_X5_size rfl rfl rfl (by decide +kernel) ⟨Nat.le_of_ble_eq_true rfl, Nat.le_of_ble_eq_true rfl⟩) (by decide) rfl rfl rfl hl.1 rfl (Nat.le_of_ble_eq_true rfl) dX6_write_41 ⟨Nat.zero_le _, Nat.zero_le _⟩ (k_I (fun H locs hI => ?_))
      refine r_eqI (z2 := ((M 1 1) + 1)) rfl ?_
      refine r_iret C hr hlk hI ?_ dX6_write_44
      exact ⟨congrArg (fun q => some (Value.int (iI q))) (show ((M 1 1) + 1) = zWr (M) v from by unfold zWr; (repeat' split) <;> first | rfl | omega | (simp_all; done) | (simp_all; omega)), (show mset (mset M 2 (M 1 1) v) 1 1 ((M 1 1) + 1) = gWr M v from by unfold gWr; (repeat' split) <;> first | rfl | (exfalso; omega))⟩
    · refine lv_bipush (v := iI (-4)) hx hb dX6_write_26 (by decide +kernel) ?_
      refine r_iret C hr hlk hI ?_ dX6_write_28
      exact ⟨congrArg (fun q => some (Value.int (iI q))) (show (-4) = zWr (M) v from by unfold zWr; (repeat' split) <;> first | rfl | omega | (simp_all; done) | (simp_all; omega)), (show M = gWr M v from by unfold gWr; (repeat' split) <;> first | rfl | (exfalso; omega))⟩
  · refine lv_bipush (v := iI (-2)) hx hb dX6_write_11 (by decide +kernel) ?_
    refine r_iret C hr hlk hI ?_ dX6_write_13
    exact ⟨congrArg (fun q => some (Value.int (iI q))) (show (-2) = zWr (M) v from by unfold zWr; (repeat' split) <;> first | rfl | omega | (simp_all; done) | (simp_all; omega)), (show M = gWr M v from by unfold gWr; (repeat' split) <;> first | rfl | (exfalso; omega))⟩
set_option maxHeartbeats 4000000 in
set_option maxRecDepth 100000 in
theorem c_X6_wipe (l : Launch) (g : GT) (M : Mem) : Ctr l g yX6_wipe wsX6_wipe ({ frames := 1, cells := 0, slots := 0, locals := 20 } : Room) [.ref (gA g 0)] M (pI (M 1 1) (mset M 1 1 0)) := by
  refine Ctr.mk (cc := cX6_wipe) (maxL := 2) (ret := some .int) (lv := [(0, .ref (gA g 0))]) (by decide) rfl (Nat.le_of_ble_eq_true rfl) rfl ?_
  intro p e s m below meth c C hr hlk hI ls hl
  have C : CallFix p m c cX6_wipe 2 s ([.ref (gA g 0)] : List Value).toArray wsX6_wipe RX6 := C
  have hx := C.1
  have hb := C.2.1
  have hts := C.2.2.2.2
  have hin6 : ∀ w ∈ u_ws RX6 TX6 9, w ∈ wsX6_wipe := by decide +kernel
  refine lv_aload_n hx hb dX6_wipe_0 rfl (lv_at hl 0 rfl) ?_
  refine r_get C hI 0 (by decide) rfl rfl hin6 0 (by decide) (fn := "theText") (fd := "LGloveReply$Text;") (index := 10) (by decide +kernel) ⟨rfl, rfl, rfl⟩ (v := .ref (gA g 1)) rfl dX6_wipe_1 ?_
  refine r_iv C hI (As := []) (rest := []) (c_X5_size l g M) (cwV 0 hts gX6_wipe_X5_size rfl rfl rfl (by decide +kernel) ⟨Nat.le_of_ble_eq_true rfl, Nat.le_of_ble_eq_true rfl⟩) (by decide) rfl rfl rfl hl.1 rfl (Nat.le_of_ble_eq_true rfl) dX6_wipe_4 ⟨Nat.zero_le _, Nat.zero_le _⟩ (k_I (fun H locs hI => ?_))
  refine lv_istore_n (lv' := [(1, .int (iI (M 1 1))), (0, .ref (gA g 0))]) hx hb dX6_wipe_7 rfl hl (by decide) rfl (fun ls hl => ?_)
  refine lv_aload_n hx hb dX6_wipe_8 rfl (lv_at hl 1 rfl) ?_
  refine r_get C hI 0 (by decide) rfl rfl hin6 0 (by decide) (fn := "theText") (fd := "LGloveReply$Text;") (index := 10) (by decide +kernel) ⟨rfl, rfl, rfl⟩ (v := .ref (gA g 1)) rfl dX6_wipe_9 ?_
  refine r_iv C hI (As := []) (rest := []) (c_X5_clear l g M) (cwV 0 hts gX6_wipe_X5_clear rfl rfl rfl (by decide +kernel) ⟨Nat.le_of_ble_eq_true rfl, Nat.le_of_ble_eq_true rfl⟩) (by decide) rfl rfl rfl hl.1 rfl (Nat.le_of_ble_eq_true rfl) dX6_wipe_12 ⟨Nat.zero_le _, Nat.zero_le _⟩ (k_V (fun H locs hI => ?_))
  refine lv_iload_n hx hb dX6_wipe_15 rfl (lv_at hl 0 rfl) ?_
  refine r_iret C hr hlk hI ?_ dX6_wipe_16
  exact ⟨congrArg (fun q => some (Value.int (iI q))) (show M 1 1 = M 1 1 from by first | rfl | omega), (show mset M 1 1 0 = mset M 1 1 0 from by rfl)⟩
set_option maxHeartbeats 4000000 in
set_option maxRecDepth 100000 in
theorem c_X6_fault (l : Launch) (g : GT) (M : Mem) (wf : WF M) : Ctr l g yX6_fault wsX6_fault ({ frames := 4, cells := 0, slots := 0, locals := 92 } : Room) [.ref (gA g 0)] M (pI (fltO (M)) M) := by
  refine Ctr.mk (cc := cX6_fault) (maxL := 1) (ret := some .int) (lv := [(0, .ref (gA g 0))]) (by decide) rfl (Nat.le_of_ble_eq_true rfl) rfl ?_
  intro p e s m below meth c C hr hlk hI ls hl
  have C : CallFix p m c cX6_fault 1 s ([.ref (gA g 0)] : List Value).toArray wsX6_fault RX6 := C
  have hx := C.1
  have hb := C.2.1
  have hts := C.2.2.2.2
  have hin6 : ∀ w ∈ u_ws RX6 TX6 9, w ∈ wsX6_fault := by decide +kernel
  have wf0 := wf
  obtain ⟨w_txt, hL, w_cnt, w_per, w_glo, w_now, w_act, w_rng, w_slo, w_see, w_sa⟩ := wf
  refine lv_aload_n hx hb dX6_fault_0 rfl (lv_at hl 0 rfl) ?_
  refine r_get C hI 0 (by decide) rfl rfl hin6 0 (by decide) (fn := "theText") (fd := "LGloveReply$Text;") (index := 10) (by decide +kernel) ⟨rfl, rfl, rfl⟩ (v := .ref (gA g 1)) rfl dX6_fault_1 ?_
  refine r_iv C hI (As := []) (rest := []) (c_X5_firstFault l g M (show 0 ≤ (M 1 1) ∧ (M 1 1) ≤ 40 from by omega) hL) (cwV 0 hts gX6_fault_X5_firstFault rfl rfl rfl (by decide +kernel) ⟨Nat.le_of_ble_eq_true rfl, Nat.le_of_ble_eq_true rfl⟩) (by decide) rfl rfl rfl hl.1 rfl (Nat.le_of_ble_eq_true rfl) dX6_fault_4 ⟨Nat.zero_le _, Nat.zero_le _⟩ (k_I (fun H locs hI => ?_))
  refine r_iret C hr hlk hI ?_ dX6_fault_7
  exact ⟨congrArg (fun q => some (Value.int (iI q))) (show ffO (M 2) (M 1 1).toNat 0 = fltO (M) from by rfl), rfl⟩
set_option maxHeartbeats 4000000 in
set_option maxRecDepth 100000 in
theorem c_X6_about (l : Launch) (g : GT) (M : Mem) (v : Int) (wf : WF M) (h_v : -2147483648 ≤ v ∧ v < 2147483648) : Ctr l g yX6_about wsX6_about ({ frames := 4, cells := 0, slots := 0, locals := 85 } : Room) [.ref (gA g 0), .int (iI v)] M (pI (zAbt (M) v) M) := by
  refine Ctr.mk (cc := cX6_about) (maxL := 2) (ret := some .int) (lv := [(0, .ref (gA g 0)), (1, .int (iI v))]) (by decide) rfl (Nat.le_of_ble_eq_true rfl) rfl ?_
  intro p e s m below meth c C hr hlk hI ls hl
  have C : CallFix p m c cX6_about 2 s ([.ref (gA g 0), .int (iI v)] : List Value).toArray wsX6_about RX6 := C
  have hx := C.1
  have hb := C.2.1
  have hts := C.2.2.2.2
  have hin6 : ∀ w ∈ u_ws RX6 TX6 9, w ∈ wsX6_about := by decide +kernel
  have wf0 := wf
  obtain ⟨w_txt, hL, w_cnt, w_per, w_glo, w_now, w_act, w_rng, w_slo, w_see, w_sa⟩ := wf
  have w_hw := WF_hw w_now (by omega)
  refine lv_iload_n hx hb dX6_about_0 rfl (lv_at hl 1 rfl) ?_
  refine r_tsw hx hb (by omega) dX6_about_1 (by decide) (fun j hj c_1 => ?_) (fun c_1 => ?_)
  · match j, hj with
    | 0, _ =>
      have c_1 : v = 0 := c_1
      refine W.eq (g2 := F0 m 44 ls []) rfl ?_
      refine lv_aload_n hx hb dX6_about_44 rfl (lv_at hl 0 rfl) ?_
      refine r_get C hI 0 (by decide) rfl rfl hin6 1 (by decide) (fn := "theDesk") (fd := "LGloveReply$Desk;") (index := 19) (by decide +kernel) ⟨rfl, rfl, rfl⟩ (v := .ref (gA g 3)) rfl dX6_about_45 ?_
      refine r_iv C hI (As := []) (rest := []) (c_X1_people l g M) (cwV 0 hts gX6_about_X1_people rfl rfl rfl (by decide +kernel) ⟨Nat.le_of_ble_eq_true rfl, Nat.le_of_ble_eq_true rfl⟩) (by decide) rfl rfl rfl hl.1 rfl (Nat.le_of_ble_eq_true rfl) dX6_about_48 ⟨Nat.zero_le _, Nat.zero_le _⟩ (k_I (fun H locs hI => ?_))
      refine r_iret C hr hlk hI ?_ dX6_about_51
      exact ⟨congrArg (fun q => some (Value.int (iI q))) (show M 3 6 = zAbt (M) v from by unfold zAbt; (repeat' split) <;> first | rfl | omega | (simp_all; done) | (simp_all; omega)), rfl⟩
    | 1, _ =>
      have c_1 : v = 1 := c_1
      refine W.eq (g2 := F0 m 52 ls []) rfl ?_
      refine lv_aload_n hx hb dX6_about_52 rfl (lv_at hl 0 rfl) ?_
      refine r_get C hI 0 (by decide) rfl rfl hin6 1 (by decide) (fn := "theDesk") (fd := "LGloveReply$Desk;") (index := 19) (by decide +kernel) ⟨rfl, rfl, rfl⟩ (v := .ref (gA g 3)) rfl dX6_about_53 ?_
      refine r_iv C hI (As := []) (rest := []) (c_X1_gloves l g M) (cwV 0 hts gX6_about_X1_gloves rfl rfl rfl (by decide +kernel) ⟨Nat.le_of_ble_eq_true rfl, Nat.le_of_ble_eq_true rfl⟩) (by decide) rfl rfl rfl hl.1 rfl (Nat.le_of_ble_eq_true rfl) dX6_about_56 ⟨Nat.zero_le _, Nat.zero_le _⟩ (k_I (fun H locs hI => ?_))
      refine r_iret C hr hlk hI ?_ dX6_about_59
      exact ⟨congrArg (fun q => some (Value.int (iI q))) (show M 3 7 = zAbt (M) v from by unfold zAbt; (repeat' split) <;> first | rfl | omega | (simp_all; done) | (simp_all; omega)), rfl⟩
    | 2, _ =>
      have c_1 : v = 2 := c_1
      refine W.eq (g2 := F0 m 60 ls []) rfl ?_
      refine lv_aload_n hx hb dX6_about_60 rfl (lv_at hl 0 rfl) ?_
      refine r_get C hI 0 (by decide) rfl rfl hin6 2 (by decide) (fn := "now") (fd := "LGloveReply$Moment;") (index := 26) (by decide +kernel) ⟨rfl, rfl, rfl⟩ (v := .ref (gA g 32)) rfl dX6_about_61 ?_
      refine r_iv C hI (As := []) (rest := []) (c_X2_today l g M 32 (by decide)) (cwV 0 hts gX6_about_X2_today rfl rfl rfl (by decide +kernel) ⟨Nat.le_of_ble_eq_true rfl, Nat.le_of_ble_eq_true rfl⟩) (by decide) (ceMo (show isMo 32 from by decide) _) rfl rfl hl.1 rfl (Nat.le_of_ble_eq_true rfl) dX6_about_64 ⟨Nat.zero_le _, Nat.zero_le _⟩ (k_I (fun H locs hI => ?_))
      refine r_iret C hr hlk hI ?_ dX6_about_67
      exact ⟨congrArg (fun q => some (Value.int (iI q))) (show M 32 2 = zAbt (M) v from by unfold zAbt; (repeat' split) <;> first | rfl | omega | (simp_all; done) | (simp_all; omega)), rfl⟩
    | 3, _ =>
      have c_1 : v = 3 := c_1
      refine W.eq (g2 := F0 m 68 ls []) rfl ?_
      refine lv_aload_n hx hb dX6_about_68 rfl (lv_at hl 0 rfl) ?_
      refine r_get C hI 0 (by decide) rfl rfl hin6 2 (by decide) (fn := "now") (fd := "LGloveReply$Moment;") (index := 26) (by decide +kernel) ⟨rfl, rfl, rfl⟩ (v := .ref (gA g 32)) rfl dX6_about_69 ?_
      refine r_iv C hI (As := []) (rest := []) (c_X2_wornBits l g M 32 (by decide) (show ∀ j : Int, 0 ≤ j ∧ j < 4 → -2147483648 ≤ (M 34 j) ∧ (M 34 j) < 2147483648 from by assumption)) (cwV 0 hts gX6_about_X2_wornBits rfl rfl rfl (by decide +kernel) ⟨Nat.le_of_ble_eq_true rfl, Nat.le_of_ble_eq_true rfl⟩) (by decide) (ceMo (show isMo 32 from by decide) _) rfl rfl hl.1 rfl (Nat.le_of_ble_eq_true rfl) dX6_about_72 ⟨Nat.zero_le _, Nat.zero_le _⟩ (k_I (fun H locs hI => ?_))
      refine r_eqI (z2 := wB (M 34)) rfl ?_
      refine r_iret C hr hlk hI ?_ dX6_about_75
      exact ⟨congrArg (fun q => some (Value.int (iI q))) (show wB (M 34) = zAbt (M) v from by unfold zAbt; (repeat' split) <;> first | rfl | omega | (simp_all; done) | (simp_all; omega)), rfl⟩
    | 4, _ =>
      have c_1 : v = 4 := c_1
      refine W.eq (g2 := F0 m 76 ls []) rfl ?_
      refine lv_aload_n hx hb dX6_about_76 rfl (lv_at hl 0 rfl) ?_
      refine r_get C hI 0 (by decide) rfl rfl hin6 4 (by decide) (fn := "acts") (fd := "LGloveReply$Acts;") (index := 36) (by decide +kernel) ⟨rfl, rfl, rfl⟩ (v := .ref (gA g 15)) rfl dX6_about_77 ?_
      refine r_iv C hI (As := []) (rest := []) (c_X0_size l g M) (cwV 0 hts gX6_about_X0_size rfl rfl rfl (by decide +kernel) ⟨Nat.le_of_ble_eq_true rfl, Nat.le_of_ble_eq_true rfl⟩) (by decide) rfl rfl rfl hl.1 rfl (Nat.le_of_ble_eq_true rfl) dX6_about_80 ⟨Nat.zero_le _, Nat.zero_le _⟩ (k_I (fun H locs hI => ?_))
      refine r_iret C hr hlk hI ?_ dX6_about_83
      exact ⟨congrArg (fun q => some (Value.int (iI q))) (show M 15 2 = zAbt (M) v from by unfold zAbt; (repeat' split) <;> first | rfl | omega | (simp_all; done) | (simp_all; omega)), rfl⟩
    | 5, _ =>
      have c_1 : v = 5 := c_1
      refine W.eq (g2 := F0 m 84 ls []) rfl ?_
      refine lv_aload_n hx hb dX6_about_84 rfl (lv_at hl 0 rfl) ?_
      refine r_get C hI 0 (by decide) rfl rfl hin6 5 (by decide) (fn := "sightings") (fd := "LGloveReply$Sightings;") (index := 43) (by decide +kernel) ⟨rfl, rfl, rfl⟩ (v := .ref (gA g 10)) rfl dX6_about_85 ?_
      refine r_iv C hI (As := []) (rest := []) (c_X3_size l g M) (cwV 0 hts gX6_about_X3_size rfl rfl rfl (by decide +kernel) ⟨Nat.le_of_ble_eq_true rfl, Nat.le_of_ble_eq_true rfl⟩) (by decide) rfl rfl rfl hl.1 rfl (Nat.le_of_ble_eq_true rfl) dX6_about_88 ⟨Nat.zero_le _, Nat.zero_le _⟩ (k_I (fun H locs hI => ?_))
      refine r_iret C hr hlk hI ?_ dX6_about_91
      exact ⟨congrArg (fun q => some (Value.int (iI q))) (show M 10 3 = zAbt (M) v from by unfold zAbt; (repeat' split) <;> first | rfl | omega | (simp_all; done) | (simp_all; omega)), rfl⟩
    | 6, _ =>
      have c_1 : v = 6 := c_1
      refine W.eq (g2 := F0 m 92 ls []) rfl ?_
      refine lv_aload_n hx hb dX6_about_92 rfl (lv_at hl 0 rfl) ?_
      refine r_get C hI 0 (by decide) rfl rfl hin6 0 (by decide) (fn := "theText") (fd := "LGloveReply$Text;") (index := 10) (by decide +kernel) ⟨rfl, rfl, rfl⟩ (v := .ref (gA g 1)) rfl dX6_about_93 ?_
      refine r_iv C hI (As := []) (rest := []) (c_X5_size l g M) (cwV 0 hts gX6_about_X5_size rfl rfl rfl (by decide +kernel) ⟨Nat.le_of_ble_eq_true rfl, Nat.le_of_ble_eq_true rfl⟩) (by decide) rfl rfl rfl hl.1 rfl (Nat.le_of_ble_eq_true rfl) dX6_about_96 ⟨Nat.zero_le _, Nat.zero_le _⟩ (k_I (fun H locs hI => ?_))
      refine r_iret C hr hlk hI ?_ dX6_about_99
      exact ⟨congrArg (fun q => some (Value.int (iI q))) (show M 1 1 = zAbt (M) v from by unfold zAbt; (repeat' split) <;> first | rfl | omega | (simp_all; done) | (simp_all; omega)), rfl⟩
  · refine W.eq (g2 := F0 m 100 ls []) rfl ?_
    refine lv_bipush (v := iI (-2)) hx hb dX6_about_100 (by decide +kernel) ?_
    refine r_iret C hr hlk hI ?_ dX6_about_102
    exact ⟨congrArg (fun q => some (Value.int (iI q))) (show (-2) = zAbt (M) v from by unfold zAbt; (repeat' split) <;> first | rfl | omega | (simp_all; done) | (simp_all; omega)), rfl⟩
set_option maxHeartbeats 4000000 in
set_option maxRecDepth 100000 in
theorem c_X6_person (l : Launch) (g : GT) (M : Mem) (x : Int) (v : Int) (wf : WF M) (h_x : -2147483648 ≤ x ∧ x < 2147483648) (h_v : -2147483648 ≤ v ∧ v < 2147483648) : Ctr l g yX6_person wsX6_person ({ frames := 3, cells := 0, slots := 0, locals := 64 } : Room) [.ref (gA g 0), .int (iI x), .int (iI v)] M (pI (zPer (M) x v) M) := by
  refine Ctr.mk (cc := cX6_person) (maxL := 3) (ret := some .int) (lv := [(0, .ref (gA g 0)), (1, .int (iI x)), (2, .int (iI v))]) (by decide) rfl (Nat.le_of_ble_eq_true rfl) rfl ?_
  intro p e s m below meth c C hr hlk hI ls hl
  have C : CallFix p m c cX6_person 3 s ([.ref (gA g 0), .int (iI x), .int (iI v)] : List Value).toArray wsX6_person RX6 := C
  have hx := C.1
  have hb := C.2.1
  have hts := C.2.2.2.2
  have hin6 : ∀ w ∈ u_ws RX6 TX6 9, w ∈ wsX6_person := by decide +kernel
  have wf0 := wf
  obtain ⟨w_txt, hL, w_cnt, w_per, w_glo, w_now, w_act, w_rng, w_slo, w_see, w_sa⟩ := wf
  have w_px := w_per x
  have w_hw := WF_hw w_now (by omega)
  refine lv_aload_n hx hb dX6_person_0 rfl (lv_at hl 0 rfl) ?_
  refine r_get C hI 0 (by decide) rfl rfl hin6 1 (by decide) (fn := "theDesk") (fd := "LGloveReply$Desk;") (index := 19) (by decide +kernel) ⟨rfl, rfl, rfl⟩ (v := .ref (gA g 3)) rfl dX6_person_1 ?_
  refine lv_iload_n hx hb dX6_person_4 rfl (lv_at hl 1 rfl) ?_
  refine r_iv C hI (As := [.int (iI x)]) (rest := []) (c_X1_hasPerson l g M x (by omega) (show -2147483648 ≤ (M 3 6) ∧ (M 3 6) < 2147483648 from by omega)) (cwV 1 hts gX6_person_X1_hasPerson rfl rfl rfl (by decide +kernel) ⟨Nat.le_of_ble_eq_true rfl, Nat.le_of_ble_eq_true rfl⟩) (by decide) rfl rfl rfl hl.1 rfl (Nat.le_of_ble_eq_true rfl) dX6_person_5 ⟨Nat.zero_le _, Nat.zero_le _⟩ (k_I (fun H locs hI => ?_))
  refine r_b_ne hx hb (tgt := 13) dX6_person_8 (by decide) (fun c_1 => ?_) (fun c_1 => ?_)
  · refine lv_iload_n hx hb dX6_person_13 rfl (lv_at hl 2 rfl) ?_
    refine r_tsw hx hb (by omega) dX6_person_14 (by decide) (fun j hj c_2 => ?_) (fun c_2 => ?_)
    · match j, hj with
      | 0, _ =>
        have c_2 : v = 0 := c_2
        refine W.eq (g2 := F0 m 44 ls []) rfl ?_
        refine lv_aload_n hx hb dX6_person_44 rfl (lv_at hl 0 rfl) ?_
        refine r_get C hI 0 (by decide) rfl rfl hin6 1 (by decide) (fn := "theDesk") (fd := "LGloveReply$Desk;") (index := 19) (by decide +kernel) ⟨rfl, rfl, rfl⟩ (v := .ref (gA g 3)) rfl dX6_person_45 ?_
        refine lv_iload_n hx hb dX6_person_48 rfl (lv_at hl 1 rfl) ?_
        refine r_iv C hI (As := [.int (iI x)]) (rest := []) (c_X1_ownOf l g M x (by omega)) (cwV 1 hts gX6_person_X1_ownOf rfl rfl rfl (by decide +kernel) ⟨Nat.le_of_ble_eq_true rfl, Nat.le_of_ble_eq_true rfl⟩) (by decide) rfl rfl rfl hl.1 rfl (Nat.le_of_ble_eq_true rfl) dX6_person_49 ⟨Nat.zero_le _, Nat.zero_le _⟩ (k_I (fun H locs hI => ?_))
        refine r_iret C hr hlk hI ?_ dX6_person_52
        exact ⟨congrArg (fun q => some (Value.int (iI q))) (show M 4 x = zPer (M) x v from by unfold zPer; (repeat' split) <;> first | rfl | omega | (simp_all; done) | (simp_all; omega)), rfl⟩
      | 1, _ =>
        have c_2 : v = 1 := c_2
        refine W.eq (g2 := F0 m 53 ls []) rfl ?_
        refine lv_aload_n hx hb dX6_person_53 rfl (lv_at hl 0 rfl) ?_
        refine r_get C hI 0 (by decide) rfl rfl hin6 1 (by decide) (fn := "theDesk") (fd := "LGloveReply$Desk;") (index := 19) (by decide +kernel) ⟨rfl, rfl, rfl⟩ (v := .ref (gA g 3)) rfl dX6_person_54 ?_
        refine lv_iload_n hx hb dX6_person_57 rfl (lv_at hl 1 rfl) ?_
        refine r_iv C hI (As := [.int (iI x)]) (rest := []) (c_X1_dearTo l g M x (by omega)) (cwV 1 hts gX6_person_X1_dearTo rfl rfl rfl (by decide +kernel) ⟨Nat.le_of_ble_eq_true rfl, Nat.le_of_ble_eq_true rfl⟩) (by decide) rfl rfl rfl hl.1 rfl (Nat.le_of_ble_eq_true rfl) dX6_person_58 ⟨Nat.zero_le _, Nat.zero_le _⟩ (k_I (fun H locs hI => ?_))
        refine r_iret C hr hlk hI ?_ dX6_person_61
        exact ⟨congrArg (fun q => some (Value.int (iI q))) (show M 5 x = zPer (M) x v from by unfold zPer; (repeat' split) <;> first | rfl | omega | (simp_all; done) | (simp_all; omega)), rfl⟩
      | 2, _ =>
        have c_2 : v = 2 := c_2
        refine W.eq (g2 := F0 m 62 ls []) rfl ?_
        refine lv_aload_n hx hb dX6_person_62 rfl (lv_at hl 0 rfl) ?_
        refine r_get C hI 0 (by decide) rfl rfl hin6 1 (by decide) (fn := "theDesk") (fd := "LGloveReply$Desk;") (index := 19) (by decide +kernel) ⟨rfl, rfl, rfl⟩ (v := .ref (gA g 3)) rfl dX6_person_63 ?_
        refine lv_iload_n hx hb dX6_person_66 rfl (lv_at hl 1 rfl) ?_
        refine r_iv C hI (As := [.int (iI x)]) (rest := []) (c_X1_worthTo l g M x (by omega)) (cwV 1 hts gX6_person_X1_worthTo rfl rfl rfl (by decide +kernel) ⟨Nat.le_of_ble_eq_true rfl, Nat.le_of_ble_eq_true rfl⟩) (by decide) rfl rfl rfl hl.1 rfl (Nat.le_of_ble_eq_true rfl) dX6_person_67 ⟨Nat.zero_le _, Nat.zero_le _⟩ (k_I (fun H locs hI => ?_))
        refine r_iret C hr hlk hI ?_ dX6_person_70
        exact ⟨congrArg (fun q => some (Value.int (iI q))) (show M 6 x = zPer (M) x v from by unfold zPer; (repeat' split) <;> first | rfl | omega | (simp_all; done) | (simp_all; omega)), rfl⟩
      | 3, _ =>
        have c_2 : v = 3 := c_2
        refine W.eq (g2 := F0 m 71 ls []) rfl ?_
        refine lv_aload_n hx hb dX6_person_71 rfl (lv_at hl 0 rfl) ?_
        refine r_get C hI 0 (by decide) rfl rfl hin6 2 (by decide) (fn := "now") (fd := "LGloveReply$Moment;") (index := 26) (by decide +kernel) ⟨rfl, rfl, rfl⟩ (v := .ref (gA g 32)) rfl dX6_person_72 ?_
        refine lv_iload_n hx hb dX6_person_75 rfl (lv_at hl 1 rfl) ?_
        refine r_iv C hI (As := [.int (iI x)]) (rest := []) (c_X2_gloveOn l g M 32 x (by decide) (by omega) (show ∀ j : Int, 0 ≤ j ∧ j < 4 → -2147483648 ≤ (M 34 j) ∧ (M 34 j) < 2147483648 from by assumption)) (cwV 1 hts gX6_person_X2_gloveOn rfl rfl rfl (by decide +kernel) ⟨Nat.le_of_ble_eq_true rfl, Nat.le_of_ble_eq_true rfl⟩) (by decide) (ceMo (show isMo 32 from by decide) _) rfl rfl hl.1 rfl (Nat.le_of_ble_eq_true rfl) dX6_person_76 ⟨Nat.zero_le _, Nat.zero_le _⟩ (k_I (fun H locs hI => ?_))
        refine r_eqI (z2 := gOn (M 34) x) rfl ?_
        have ff_1 := gOn_b (M 34) x
        refine r_iret C hr hlk hI ?_ dX6_person_79
        exact ⟨congrArg (fun q => some (Value.int (iI q))) (show gOn (M 34) x = zPer (M) x v from by unfold zPer; (repeat' split) <;> first | rfl | omega | (simp_all; done) | (simp_all; omega)), rfl⟩
    · refine W.eq (g2 := F0 m 80 ls []) rfl ?_
      refine lv_bipush (v := iI (-2)) hx hb dX6_person_80 (by decide +kernel) ?_
      refine r_iret C hr hlk hI ?_ dX6_person_82
      exact ⟨congrArg (fun q => some (Value.int (iI q))) (show (-2) = zPer (M) x v from by unfold zPer; (repeat' split) <;> first | rfl | omega | (simp_all; done) | (simp_all; omega)), rfl⟩
  · refine lv_iconst (v := iI (-1)) hx hb dX6_person_11 rfl ?_
    refine r_iret C hr hlk hI ?_ dX6_person_12
    exact ⟨congrArg (fun q => some (Value.int (iI q))) (show (-1) = zPer (M) x v from by unfold zPer; (repeat' split) <;> first | rfl | omega | (simp_all; done) | (simp_all; omega)), rfl⟩
set_option maxHeartbeats 4000000 in
set_option maxRecDepth 100000 in
theorem c_X6_glove (l : Launch) (g : GT) (M : Mem) (x : Int) (v : Int) (wf : WF M) (h_x : -2147483648 ≤ x ∧ x < 2147483648) (h_v : -2147483648 ≤ v ∧ v < 2147483648) : Ctr l g yX6_glove wsX6_glove ({ frames := 2, cells := 0, slots := 0, locals := 42 } : Room) [.ref (gA g 0), .int (iI x), .int (iI v)] M (pI (zGlo (M) x v) M) := by
  refine Ctr.mk (cc := cX6_glove) (maxL := 3) (ret := some .int) (lv := [(0, .ref (gA g 0)), (1, .int (iI x)), (2, .int (iI v))]) (by decide) rfl (Nat.le_of_ble_eq_true rfl) rfl ?_
  intro p e s m below meth c C hr hlk hI ls hl
  have C : CallFix p m c cX6_glove 3 s ([.ref (gA g 0), .int (iI x), .int (iI v)] : List Value).toArray wsX6_glove RX6 := C
  have hx := C.1
  have hb := C.2.1
  have hts := C.2.2.2.2
  have hin6 : ∀ w ∈ u_ws RX6 TX6 9, w ∈ wsX6_glove := by decide +kernel
  have wf0 := wf
  obtain ⟨w_txt, hL, w_cnt, w_per, w_glo, w_now, w_act, w_rng, w_slo, w_see, w_sa⟩ := wf
  have w_gx := w_glo x
  have w_nx := w_now.1 x
  have w_hw := WF_hw w_now (by omega)
  have w_nx : 0 ≤ x ∧ x < 4 → (0 ≤ M 33 x ∧ M 33 x < 1000) ∧ (M 34 x = -9 ∨ (0 ≤ M 34 x ∧ M 34 x < M 3 6 ∧ x < M 3 7)) ∧ (x < M 3 7 → KOK (M 33 x) (M 7 x)) := w_nx
  refine lv_aload_n hx hb dX6_glove_0 rfl (lv_at hl 0 rfl) ?_
  refine r_get C hI 0 (by decide) rfl rfl hin6 1 (by decide) (fn := "theDesk") (fd := "LGloveReply$Desk;") (index := 19) (by decide +kernel) ⟨rfl, rfl, rfl⟩ (v := .ref (gA g 3)) rfl dX6_glove_1 ?_
  refine lv_iload_n hx hb dX6_glove_4 rfl (lv_at hl 1 rfl) ?_
  refine r_iv C hI (As := [.int (iI x)]) (rest := []) (c_X1_hasGlove l g M x (by omega) (show -2147483648 ≤ (M 3 7) ∧ (M 3 7) < 2147483648 from by omega)) (cwV 1 hts gX6_glove_X1_hasGlove rfl rfl rfl (by decide +kernel) ⟨Nat.le_of_ble_eq_true rfl, Nat.le_of_ble_eq_true rfl⟩) (by decide) rfl rfl rfl hl.1 rfl (Nat.le_of_ble_eq_true rfl) dX6_glove_5 ⟨Nat.zero_le _, Nat.zero_le _⟩ (k_I (fun H locs hI => ?_))
  refine r_b_ne hx hb (tgt := 13) dX6_glove_8 (by decide) (fun c_1 => ?_) (fun c_1 => ?_)
  · refine lv_iload_n hx hb dX6_glove_13 rfl (lv_at hl 2 rfl) ?_
    refine r_tsw hx hb (by omega) dX6_glove_14 (by decide) (fun j hj c_2 => ?_) (fun c_2 => ?_)
    · match j, hj with
      | 0, _ =>
        have c_2 : v = 0 := c_2
        refine W.eq (g2 := F0 m 48 ls []) rfl ?_
        refine lv_aload_n hx hb dX6_glove_48 rfl (lv_at hl 0 rfl) ?_
        refine r_get C hI 0 (by decide) rfl rfl hin6 1 (by decide) (fn := "theDesk") (fd := "LGloveReply$Desk;") (index := 19) (by decide +kernel) ⟨rfl, rfl, rfl⟩ (v := .ref (gA g 3)) rfl dX6_glove_49 ?_
        refine lv_iload_n hx hb dX6_glove_52 rfl (lv_at hl 1 rfl) ?_
        refine r_iv C hI (As := [.int (iI x)]) (rest := []) (c_X1_roomOf l g M x (by omega)) (cwV 1 hts gX6_glove_X1_roomOf rfl rfl rfl (by decide +kernel) ⟨Nat.le_of_ble_eq_true rfl, Nat.le_of_ble_eq_true rfl⟩) (by decide) rfl rfl rfl hl.1 rfl (Nat.le_of_ble_eq_true rfl) dX6_glove_53 ⟨Nat.zero_le _, Nat.zero_le _⟩ (k_I (fun H locs hI => ?_))
        refine r_iret C hr hlk hI ?_ dX6_glove_56
        exact ⟨congrArg (fun q => some (Value.int (iI q))) (show M 7 x = zGlo (M) x v from by unfold zGlo; (repeat' split) <;> first | rfl | omega | (simp_all; done) | (simp_all; omega)), rfl⟩
      | 1, _ =>
        have c_2 : v = 1 := c_2
        refine W.eq (g2 := F0 m 57 ls []) rfl ?_
        refine lv_aload_n hx hb dX6_glove_57 rfl (lv_at hl 0 rfl) ?_
        refine r_get C hI 0 (by decide) rfl rfl hin6 1 (by decide) (fn := "theDesk") (fd := "LGloveReply$Desk;") (index := 19) (by decide +kernel) ⟨rfl, rfl, rfl⟩ (v := .ref (gA g 3)) rfl dX6_glove_58 ?_
        refine lv_iload_n hx hb dX6_glove_61 rfl (lv_at hl 1 rfl) ?_
        refine r_iv C hI (As := [.int (iI x)]) (rest := []) (c_X1_kindOf l g M x (by omega)) (cwV 1 hts gX6_glove_X1_kindOf rfl rfl rfl (by decide +kernel) ⟨Nat.le_of_ble_eq_true rfl, Nat.le_of_ble_eq_true rfl⟩) (by decide) rfl rfl rfl hl.1 rfl (Nat.le_of_ble_eq_true rfl) dX6_glove_62 ⟨Nat.zero_le _, Nat.zero_le _⟩ (k_I (fun H locs hI => ?_))
        refine r_iret C hr hlk hI ?_ dX6_glove_65
        exact ⟨congrArg (fun q => some (Value.int (iI q))) (show M 8 x = zGlo (M) x v from by unfold zGlo; (repeat' split) <;> first | rfl | omega | (simp_all; done) | (simp_all; omega)), rfl⟩
      | 2, _ =>
        have c_2 : v = 2 := c_2
        refine W.eq (g2 := F0 m 66 ls []) rfl ?_
        refine lv_aload_n hx hb dX6_glove_66 rfl (lv_at hl 0 rfl) ?_
        refine r_get C hI 0 (by decide) rfl rfl hin6 2 (by decide) (fn := "now") (fd := "LGloveReply$Moment;") (index := 26) (by decide +kernel) ⟨rfl, rfl, rfl⟩ (v := .ref (gA g 32)) rfl dX6_glove_67 ?_
        refine lv_iload_n hx hb dX6_glove_70 rfl (lv_at hl 1 rfl) ?_
        refine r_iv C hI (As := [.int (iI x)]) (rest := []) (c_X2_keptBy l g M 32 x (by decide) (by omega)) (cwV 1 hts gX6_glove_X2_keptBy rfl rfl rfl (by decide +kernel) ⟨Nat.le_of_ble_eq_true rfl, Nat.le_of_ble_eq_true rfl⟩) (by decide) (ceMo (show isMo 32 from by decide) _) rfl rfl hl.1 rfl (Nat.le_of_ble_eq_true rfl) dX6_glove_71 ⟨Nat.zero_le _, Nat.zero_le _⟩ (k_I (fun H locs hI => ?_))
        refine r_eqI (z2 := M 33 x) rfl ?_
        refine r_is C hI (As := [.int (iI (M 33 x))]) (rest := []) (c_X6_figuresIn l g M (M 33 x) (by omega)) (va_cwS 1 hts gX6_glove_X6_figuresIn rfl rfl rfl (by decide +kernel) ⟨Nat.le_of_ble_eq_true rfl, Nat.le_of_ble_eq_true rfl⟩) rfl hl.1 rfl (Nat.le_of_ble_eq_true rfl) dX6_glove_74 ⟨Nat.zero_le _, Nat.zero_le _⟩ (k_I (fun H locs hI => ?_))
        refine r_iret C hr hlk hI ?_ dX6_glove_77
        exact ⟨congrArg (fun q => some (Value.int (iI q))) (show figs (M 33 x) = zGlo (M) x v from by unfold zGlo; (repeat' split) <;> first | rfl | omega | (simp_all; done) | (simp_all; omega)), rfl⟩
      | 3, _ =>
        have c_2 : v = 3 := c_2
        refine W.eq (g2 := F0 m 78 ls []) rfl ?_
        refine lv_aload_n hx hb dX6_glove_78 rfl (lv_at hl 0 rfl) ?_
        refine r_get C hI 0 (by decide) rfl rfl hin6 2 (by decide) (fn := "now") (fd := "LGloveReply$Moment;") (index := 26) (by decide +kernel) ⟨rfl, rfl, rfl⟩ (v := .ref (gA g 32)) rfl dX6_glove_79 ?_
        refine lv_iload_n hx hb dX6_glove_82 rfl (lv_at hl 1 rfl) ?_
        refine r_iv C hI (As := [.int (iI x)]) (rest := []) (c_X2_keptBy l g M 32 x (by decide) (by omega)) (cwV 1 hts gX6_glove_X2_keptBy rfl rfl rfl (by decide +kernel) ⟨Nat.le_of_ble_eq_true rfl, Nat.le_of_ble_eq_true rfl⟩) (by decide) (ceMo (show isMo 32 from by decide) _) rfl rfl hl.1 rfl (Nat.le_of_ble_eq_true rfl) dX6_glove_83 ⟨Nat.zero_le _, Nat.zero_le _⟩ (k_I (fun H locs hI => ?_))
        refine r_eqI (z2 := M 33 x) rfl ?_
        refine r_iret C hr hlk hI ?_ dX6_glove_86
        exact ⟨congrArg (fun q => some (Value.int (iI q))) (show M 33 x = zGlo (M) x v from by unfold zGlo; (repeat' split) <;> first | rfl | omega | (simp_all; done) | (simp_all; omega)), rfl⟩
      | 4, _ =>
        have c_2 : v = 4 := c_2
        refine W.eq (g2 := F0 m 87 ls []) rfl ?_
        refine lv_aload_n hx hb dX6_glove_87 rfl (lv_at hl 0 rfl) ?_
        refine r_get C hI 0 (by decide) rfl rfl hin6 2 (by decide) (fn := "now") (fd := "LGloveReply$Moment;") (index := 26) (by decide +kernel) ⟨rfl, rfl, rfl⟩ (v := .ref (gA g 32)) rfl dX6_glove_88 ?_
        refine lv_iload_n hx hb dX6_glove_91 rfl (lv_at hl 1 rfl) ?_
        refine r_iv C hI (As := [.int (iI x)]) (rest := []) (c_X2_wearerOf l g M 32 x (by decide) (by omega)) (cwV 1 hts gX6_glove_X2_wearerOf rfl rfl rfl (by decide +kernel) ⟨Nat.le_of_ble_eq_true rfl, Nat.le_of_ble_eq_true rfl⟩) (by decide) (ceMo (show isMo 32 from by decide) _) rfl rfl hl.1 rfl (Nat.le_of_ble_eq_true rfl) dX6_glove_92 ⟨Nat.zero_le _, Nat.zero_le _⟩ (k_I (fun H locs hI => ?_))
        refine r_eqI (z2 := M 34 x) rfl ?_
        refine r_iret C hr hlk hI ?_ dX6_glove_95
        exact ⟨congrArg (fun q => some (Value.int (iI q))) (show M 34 x = zGlo (M) x v from by unfold zGlo; (repeat' split) <;> first | rfl | omega | (simp_all; done) | (simp_all; omega)), rfl⟩
    · refine W.eq (g2 := F0 m 96 ls []) rfl ?_
      refine lv_bipush (v := iI (-2)) hx hb dX6_glove_96 (by decide +kernel) ?_
      refine r_iret C hr hlk hI ?_ dX6_glove_98
      exact ⟨congrArg (fun q => some (Value.int (iI q))) (show (-2) = zGlo (M) x v from by unfold zGlo; (repeat' split) <;> first | rfl | omega | (simp_all; done) | (simp_all; omega)), rfl⟩
  · refine lv_iconst (v := iI (-1)) hx hb dX6_glove_11 rfl ?_
    refine r_iret C hr hlk hI ?_ dX6_glove_12
    exact ⟨congrArg (fun q => some (Value.int (iI q))) (show (-1) = zGlo (M) x v from by unfold zGlo; (repeat' split) <;> first | rfl | omega | (simp_all; done) | (simp_all; omega)), rfl⟩
set_option maxHeartbeats 4000000 in
set_option maxRecDepth 100000 in
theorem c_X6_takeOff (l : Launch) (g : GT) (M : Mem) (x : Int) (wf : WF M) (h_x : -2147483648 ≤ x ∧ x < 2147483648) : Ctr l g yX6_takeOff wsX6_takeOff ({ frames := 4, cells := 0, slots := 0, locals := 87 } : Room) [.ref (gA g 0), .int (iI x)] M (pI (zTak (M) x) (gTak M x)) := by
  refine Ctr.mk (cc := cX6_takeOff) (maxL := 2) (ret := some .int) (lv := [(0, .ref (gA g 0)), (1, .int (iI x))]) (by decide) rfl (Nat.le_of_ble_eq_true rfl) rfl ?_
  intro p e s m below meth c C hr hlk hI ls hl
  have C : CallFix p m c cX6_takeOff 2 s ([.ref (gA g 0), .int (iI x)] : List Value).toArray wsX6_takeOff RX6 := C
  have hx := C.1
  have hb := C.2.1
  have hts := C.2.2.2.2
  have hin6 : ∀ w ∈ u_ws RX6 TX6 9, w ∈ wsX6_takeOff := by decide +kernel
  have wf0 := wf
  obtain ⟨w_txt, hL, w_cnt, w_per, w_glo, w_now, w_act, w_rng, w_slo, w_see, w_sa⟩ := wf
  have w_gx := w_glo x
  have w_nx := w_now.1 x
  have w_hw := WF_hw w_now (by omega)
  have w_nx : 0 ≤ x ∧ x < 4 → (0 ≤ M 33 x ∧ M 33 x < 1000) ∧ (M 34 x = -9 ∨ (0 ≤ M 34 x ∧ M 34 x < M 3 6 ∧ x < M 3 7)) ∧ (x < M 3 7 → KOK (M 33 x) (M 7 x)) := w_nx
  have w_pw := w_per (M 34 x)
  refine lv_aload_n hx hb dX6_takeOff_0 rfl (lv_at hl 0 rfl) ?_
  refine r_get C hI 0 (by decide) rfl rfl hin6 1 (by decide) (fn := "theDesk") (fd := "LGloveReply$Desk;") (index := 19) (by decide +kernel) ⟨rfl, rfl, rfl⟩ (v := .ref (gA g 3)) rfl dX6_takeOff_1 ?_
  refine lv_iload_n hx hb dX6_takeOff_4 rfl (lv_at hl 1 rfl) ?_
  refine r_iv C hI (As := [.int (iI x)]) (rest := []) (c_X1_hasGlove l g M x (by omega) (show -2147483648 ≤ (M 3 7) ∧ (M 3 7) < 2147483648 from by omega)) (cwV 1 hts gX6_takeOff_X1_hasGlove rfl rfl rfl (by decide +kernel) ⟨Nat.le_of_ble_eq_true rfl, Nat.le_of_ble_eq_true rfl⟩) (by decide) rfl rfl rfl hl.1 rfl (Nat.le_of_ble_eq_true rfl) dX6_takeOff_5 ⟨Nat.zero_le _, Nat.zero_le _⟩ (k_I (fun H locs hI => ?_))
  refine r_b_ne hx hb (tgt := 13) dX6_takeOff_8 (by decide) (fun c_1 => ?_) (fun c_1 => ?_)
  · refine lv_aload_n hx hb dX6_takeOff_13 rfl (lv_at hl 0 rfl) ?_
    refine r_get C hI 0 (by decide) rfl rfl hin6 2 (by decide) (fn := "now") (fd := "LGloveReply$Moment;") (index := 26) (by decide +kernel) ⟨rfl, rfl, rfl⟩ (v := .ref (gA g 32)) rfl dX6_takeOff_14 ?_
    refine lv_iload_n hx hb dX6_takeOff_17 rfl (lv_at hl 1 rfl) ?_
    refine r_iv C hI (As := [.int (iI x)]) (rest := []) (c_X2_isWorn l g M 32 x (by decide) (by omega) (show -2147483648 ≤ (M 34 x) ∧ (M 34 x) < 2147483648 from by omega)) (cwV 1 hts gX6_takeOff_X2_isWorn rfl rfl rfl (by decide +kernel) ⟨Nat.le_of_ble_eq_true rfl, Nat.le_of_ble_eq_true rfl⟩) (by decide) (ceMo (show isMo 32 from by decide) _) rfl rfl hl.1 rfl (Nat.le_of_ble_eq_true rfl) dX6_takeOff_18 ⟨Nat.zero_le _, Nat.zero_le _⟩ (k_I (fun H locs hI => ?_))
    refine r_eqI (z2 := bI (¬ (M 34 x) = -9)) rfl ?_
    refine r_b_ne hx hb (tgt := 27) dX6_takeOff_21 (by decide) (fun c_2 => ?_) (fun c_2 => ?_)
    · refine lv_aload_n hx hb dX6_takeOff_27 rfl (lv_at hl 0 rfl) ?_
      refine r_get C hI 0 (by decide) rfl rfl hin6 4 (by decide) (fn := "acts") (fd := "LGloveReply$Acts;") (index := 36) (by decide +kernel) ⟨rfl, rfl, rfl⟩ (v := .ref (gA g 15)) rfl dX6_takeOff_28 ?_
      refine lv_aload_n hx hb dX6_takeOff_31 rfl (lv_at hl 0 rfl) ?_
      refine r_get C hI 0 (by decide) rfl rfl hin6 2 (by decide) (fn := "now") (fd := "LGloveReply$Moment;") (index := 26) (by decide +kernel) ⟨rfl, rfl, rfl⟩ (v := .ref (gA g 32)) rfl dX6_takeOff_32 ?_
      refine r_iv C hI (As := [.ref (gA g 32)]) (rest := []) (c_X0_add l g M (show 0 ≤ (M 15 1) ∧ (M 15 1) < 14 from by omega) (show 0 ≤ (M 15 2) ∧ (M 15 2) ≤ 14 from by omega)) (cwV 1 hts gX6_takeOff_X0_add rfl rfl rfl (by decide +kernel) ⟨Nat.le_of_ble_eq_true rfl, Nat.le_of_ble_eq_true rfl⟩) (by decide) rfl rfl rfl hl.1 rfl (Nat.le_of_ble_eq_true rfl) dX6_takeOff_35 ⟨Nat.zero_le _, Nat.zero_le _⟩ (k_V (fun H locs hI => ?_))
      have ea : ∀ c : Nat, c ≠ 15 → c < 38 → aAdd M c = M c := fun c h1 h2 => aAdd_n h1 h2
      have ea33 := ea 33 (by decide) (by decide)
      have ea34 := ea 34 (by decide) (by decide)
      have ea3 := ea 3 (by decide) (by decide)
      have ea4 := ea 4 (by decide) (by decide)
      have ea7 := ea 7 (by decide) (by decide)
      have ea8 := ea 8 (by decide) (by decide)
      have ea33x := congrFun ea33 x
      have ea34x := congrFun ea34 x
      have ea7x := congrFun ea7 x
      have ea8x := congrFun ea8 x
      refine lv_aload_n hx hb dX6_takeOff_38 rfl (lv_at hl 0 rfl) ?_
      refine lv_iload_n hx hb dX6_takeOff_39 rfl (lv_at hl 1 rfl) ?_
      refine r_iv C hI (As := [.int (iI x)]) (rest := []) (c_X6_layDown l g (aAdd M) x (by omega) (show 0 ≤ ((aAdd M) 33 x) ∧ ((aAdd M) 33 x) < 1000 from by omega) (show 0 ≤ ((aAdd M) 34 x) ∧ ((aAdd M) 34 x) < 5 from by omega) (show -2147483648 ≤ ((aAdd M) 7 x) ∧ ((aAdd M) 7 x) < 2147483648 from by omega)) (cwV 1 hts gX6_takeOff_X6_layDown rfl rfl rfl (by decide +kernel) ⟨Nat.le_of_ble_eq_true rfl, Nat.le_of_ble_eq_true rfl⟩) (by decide) rfl rfl rfl hl.1 rfl (Nat.le_of_ble_eq_true rfl) dX6_takeOff_40 ⟨Nat.zero_le _, Nat.zero_le _⟩ (k_V (fun H locs hI => ?_))
      have el : ldM (aAdd M) x 33 x = behO (M 33 x) (M 4 (M 34 x)) (M 7 x) := by unfold ldM; rw [mset_n _ _ _ (by decide), mset_s, rw1_s, ea33, ea34, ea4, ea7]
      have eb := @behO_b (M 33 x) (M 4 (M 34 x)) (M 7 x)
      refine lv_aload_n hx hb dX6_takeOff_43 rfl (lv_at hl 0 rfl) ?_
      refine r_get C hI 0 (by decide) rfl rfl hin6 2 (by decide) (fn := "now") (fd := "LGloveReply$Moment;") (index := 26) (by decide +kernel) ⟨rfl, rfl, rfl⟩ (v := .ref (gA g 32)) rfl dX6_takeOff_44 ?_
      refine lv_iload_n hx hb dX6_takeOff_47 rfl (lv_at hl 1 rfl) ?_
      refine r_iv C hI (As := [.int (iI x)]) (rest := []) (c_X2_keptBy l g (ldM (aAdd M) x) 32 x (by decide) (by omega)) (cwV 1 hts gX6_takeOff_X2_keptBy rfl rfl rfl (by decide +kernel) ⟨Nat.le_of_ble_eq_true rfl, Nat.le_of_ble_eq_true rfl⟩) (by decide) (ceMo (show isMo 32 from by decide) _) rfl rfl hl.1 rfl (Nat.le_of_ble_eq_true rfl) dX6_takeOff_48 ⟨Nat.zero_le _, Nat.zero_le _⟩ (k_I (fun H locs hI => ?_))
      refine r_eqI (z2 := (ldM (aAdd M) x) 33 x) rfl ?_
      refine r_is C hI (As := [.int (iI ((ldM (aAdd M) x) 33 x))]) (rest := []) (c_X6_figuresIn l g (ldM (aAdd M) x) ((ldM (aAdd M) x) 33 x) (by omega)) (va_cwS 1 hts gX6_takeOff_X6_figuresIn rfl rfl rfl (by decide +kernel) ⟨Nat.le_of_ble_eq_true rfl, Nat.le_of_ble_eq_true rfl⟩) rfl hl.1 rfl (Nat.le_of_ble_eq_true rfl) dX6_takeOff_51 ⟨Nat.zero_le _, Nat.zero_le _⟩ (k_I (fun H locs hI => ?_))
      refine r_iret C hr hlk hI ?_ dX6_takeOff_54
      exact ⟨congrArg (fun q => some (Value.int (iI q))) (show figs ((ldM (aAdd M) x) 33 x) = zTak (M) x from by rw [el]; unfold zTak; (repeat' split) <;> first | rfl | omega | (simp_all; done) | (simp_all; omega)), (show ldM (aAdd M) x = gTak M x from by unfold gTak; (repeat' split) <;> first | rfl | (exfalso; omega))⟩
    · refine lv_bipush (v := iI (-3)) hx hb dX6_takeOff_24 (by decide +kernel) ?_
      refine r_iret C hr hlk hI ?_ dX6_takeOff_26
      exact ⟨congrArg (fun q => some (Value.int (iI q))) (show (-3) = zTak (M) x from by unfold zTak; (repeat' split) <;> first | rfl | omega | (simp_all; done) | (simp_all; omega)), (show M = gTak M x from by unfold gTak; (repeat' split) <;> first | rfl | (exfalso; omega))⟩
  · refine lv_iconst (v := iI (-1)) hx hb dX6_takeOff_11 rfl ?_
    refine r_iret C hr hlk hI ?_ dX6_takeOff_12
    exact ⟨congrArg (fun q => some (Value.int (iI q))) (show (-1) = zTak (M) x from by unfold zTak; (repeat' split) <;> first | rfl | omega | (simp_all; done) | (simp_all; omega)), (show M = gTak M x from by unfold gTak; (repeat' split) <;> first | rfl | (exfalso; omega))⟩
set_option maxHeartbeats 4000000 in
set_option maxRecDepth 100000 in
theorem c_X6_wear (l : Launch) (g : GT) (M : Mem) (x : Int) (y : Int) (wf : WF M) (h_x : -2147483648 ≤ x ∧ x < 2147483648) (h_y : -2147483648 ≤ y ∧ y < 2147483648) : Ctr l g yX6_wear wsX6_wear ({ frames := 3, cells := 0, slots := 0, locals := 66 } : Room) [.ref (gA g 0), .int (iI x), .int (iI y)] M (pI (zWea (M) x y) (gWea M x y)) := by
  refine Ctr.mk (cc := cX6_wear) (maxL := 3) (ret := some .int) (lv := [(0, .ref (gA g 0)), (1, .int (iI x)), (2, .int (iI y))]) (by decide) rfl (Nat.le_of_ble_eq_true rfl) rfl ?_
  intro p e s m below meth c C hr hlk hI ls hl
  have C : CallFix p m c cX6_wear 3 s ([.ref (gA g 0), .int (iI x), .int (iI y)] : List Value).toArray wsX6_wear RX6 := C
  have hx := C.1
  have hb := C.2.1
  have hts := C.2.2.2.2
  have hin6 : ∀ w ∈ u_ws RX6 TX6 9, w ∈ wsX6_wear := by decide +kernel
  have wf0 := wf
  obtain ⟨w_txt, hL, w_cnt, w_per, w_glo, w_now, w_act, w_rng, w_slo, w_see, w_sa⟩ := wf
  have w_gx := w_glo x
  have w_nx := w_now.1 x
  have w_hw := WF_hw w_now (by omega)
  have w_nx : 0 ≤ x ∧ x < 4 → (0 ≤ M 33 x ∧ M 33 x < 1000) ∧ (M 34 x = -9 ∨ (0 ≤ M 34 x ∧ M 34 x < M 3 6 ∧ x < M 3 7)) ∧ (x < M 3 7 → KOK (M 33 x) (M 7 x)) := w_nx
  have w_py := w_per y
  refine lv_aload_n hx hb dX6_wear_0 rfl (lv_at hl 0 rfl) ?_
  refine r_get C hI 0 (by decide) rfl rfl hin6 1 (by decide) (fn := "theDesk") (fd := "LGloveReply$Desk;") (index := 19) (by decide +kernel) ⟨rfl, rfl, rfl⟩ (v := .ref (gA g 3)) rfl dX6_wear_1 ?_
  refine lv_iload_n hx hb dX6_wear_4 rfl (lv_at hl 1 rfl) ?_
  refine r_iv C hI (As := [.int (iI x)]) (rest := []) (c_X1_hasGlove l g M x (by omega) (show -2147483648 ≤ (M 3 7) ∧ (M 3 7) < 2147483648 from by omega)) (cwV 1 hts gX6_wear_X1_hasGlove rfl rfl rfl (by decide +kernel) ⟨Nat.le_of_ble_eq_true rfl, Nat.le_of_ble_eq_true rfl⟩) (by decide) rfl rfl rfl hl.1 rfl (Nat.le_of_ble_eq_true rfl) dX6_wear_5 ⟨Nat.zero_le _, Nat.zero_le _⟩ (k_I (fun H locs hI => ?_))
  refine r_b_eq hx hb (tgt := 22) dX6_wear_8 (by decide) (fun c_1 => ?_) (fun c_1 => ?_)
  · refine lv_iconst (v := iI (-1)) hx hb dX6_wear_22 rfl ?_
    refine r_iret C hr hlk hI ?_ dX6_wear_23
    exact ⟨congrArg (fun q => some (Value.int (iI q))) (show (-1) = zWea (M) x y from by unfold zWea; (repeat' split) <;> first | rfl | omega | (simp_all; done) | (simp_all; omega)), (show M = gWea M x y from by unfold gWea; (repeat' split) <;> first | rfl | (exfalso; omega))⟩
  · refine lv_aload_n hx hb dX6_wear_11 rfl (lv_at hl 0 rfl) ?_
    refine r_get C hI 0 (by decide) rfl rfl hin6 1 (by decide) (fn := "theDesk") (fd := "LGloveReply$Desk;") (index := 19) (by decide +kernel) ⟨rfl, rfl, rfl⟩ (v := .ref (gA g 3)) rfl dX6_wear_12 ?_
    refine lv_iload_n hx hb dX6_wear_15 rfl (lv_at hl 2 rfl) ?_
    refine r_iv C hI (As := [.int (iI y)]) (rest := []) (c_X1_hasPerson l g M y (by omega) (show -2147483648 ≤ (M 3 6) ∧ (M 3 6) < 2147483648 from by omega)) (cwV 1 hts gX6_wear_X1_hasPerson rfl rfl rfl (by decide +kernel) ⟨Nat.le_of_ble_eq_true rfl, Nat.le_of_ble_eq_true rfl⟩) (by decide) rfl rfl rfl hl.1 rfl (Nat.le_of_ble_eq_true rfl) dX6_wear_16 ⟨Nat.zero_le _, Nat.zero_le _⟩ (k_I (fun H locs hI => ?_))
    refine r_b_ne hx hb (tgt := 24) dX6_wear_19 (by decide) (fun c_2 => ?_) (fun c_2 => ?_)
    · refine lv_aload_n hx hb dX6_wear_24 rfl (lv_at hl 0 rfl) ?_
      refine r_get C hI 0 (by decide) rfl rfl hin6 2 (by decide) (fn := "now") (fd := "LGloveReply$Moment;") (index := 26) (by decide +kernel) ⟨rfl, rfl, rfl⟩ (v := .ref (gA g 32)) rfl dX6_wear_25 ?_
      refine lv_iload_n hx hb dX6_wear_28 rfl (lv_at hl 1 rfl) ?_
      refine r_iv C hI (As := [.int (iI x)]) (rest := []) (c_X2_isWorn l g M 32 x (by decide) (by omega) (show -2147483648 ≤ (M 34 x) ∧ (M 34 x) < 2147483648 from by omega)) (cwV 1 hts gX6_wear_X2_isWorn rfl rfl rfl (by decide +kernel) ⟨Nat.le_of_ble_eq_true rfl, Nat.le_of_ble_eq_true rfl⟩) (by decide) (ceMo (show isMo 32 from by decide) _) rfl rfl hl.1 rfl (Nat.le_of_ble_eq_true rfl) dX6_wear_29 ⟨Nat.zero_le _, Nat.zero_le _⟩ (k_I (fun H locs hI => ?_))
      refine r_eqI (z2 := bI (¬ (M 34 x) = -9)) rfl ?_
      refine r_b_ne hx hb (tgt := 48) dX6_wear_32 (by decide) (fun c_3 => ?_) (fun c_3 => ?_)
      · refine lv_bipush (v := iI (-3)) hx hb dX6_wear_48 (by decide +kernel) ?_
        refine r_iret C hr hlk hI ?_ dX6_wear_50
        exact ⟨congrArg (fun q => some (Value.int (iI q))) (show (-3) = zWea (M) x y from by unfold zWea; (repeat' split) <;> first | rfl | omega | (simp_all; done) | (simp_all; omega)), (show M = gWea M x y from by unfold gWea; (repeat' split) <;> first | rfl | (exfalso; omega))⟩
      · refine lv_aload_n hx hb dX6_wear_35 rfl (lv_at hl 0 rfl) ?_
        refine r_get C hI 0 (by decide) rfl rfl hin6 2 (by decide) (fn := "now") (fd := "LGloveReply$Moment;") (index := 26) (by decide +kernel) ⟨rfl, rfl, rfl⟩ (v := .ref (gA g 32)) rfl dX6_wear_36 ?_
        refine lv_iload_n hx hb dX6_wear_39 rfl (lv_at hl 2 rfl) ?_
        refine r_iv C hI (As := [.int (iI y)]) (rest := []) (c_X2_gloveOn l g M 32 y (by decide) (by omega) (show ∀ j : Int, 0 ≤ j ∧ j < 4 → -2147483648 ≤ (M 34 j) ∧ (M 34 j) < 2147483648 from by assumption)) (cwV 1 hts gX6_wear_X2_gloveOn rfl rfl rfl (by decide +kernel) ⟨Nat.le_of_ble_eq_true rfl, Nat.le_of_ble_eq_true rfl⟩) (by decide) (ceMo (show isMo 32 from by decide) _) rfl rfl hl.1 rfl (Nat.le_of_ble_eq_true rfl) dX6_wear_40 ⟨Nat.zero_le _, Nat.zero_le _⟩ (k_I (fun H locs hI => ?_))
        refine r_eqI (z2 := gOn (M 34) y) rfl ?_
        have ff_1 := gOn_b (M 34) y
        refine lv_bipush (v := iI (-9)) hx hb dX6_wear_43 (by decide +kernel) ?_
        refine r_icmp_eq hx hb (tgt := 51) (by omega) (by decide) dX6_wear_45 (by decide) (fun c_4 => ?_) (fun c_4 => ?_)
        · refine lv_aload_n hx hb dX6_wear_51 rfl (lv_at hl 0 rfl) ?_
          refine r_get C hI 0 (by decide) rfl rfl hin6 4 (by decide) (fn := "acts") (fd := "LGloveReply$Acts;") (index := 36) (by decide +kernel) ⟨rfl, rfl, rfl⟩ (v := .ref (gA g 15)) rfl dX6_wear_52 ?_
          refine lv_aload_n hx hb dX6_wear_55 rfl (lv_at hl 0 rfl) ?_
          refine r_get C hI 0 (by decide) rfl rfl hin6 2 (by decide) (fn := "now") (fd := "LGloveReply$Moment;") (index := 26) (by decide +kernel) ⟨rfl, rfl, rfl⟩ (v := .ref (gA g 32)) rfl dX6_wear_56 ?_
          refine r_iv C hI (As := [.ref (gA g 32)]) (rest := []) (c_X0_add l g M (show 0 ≤ (M 15 1) ∧ (M 15 1) < 14 from by omega) (show 0 ≤ (M 15 2) ∧ (M 15 2) ≤ 14 from by omega)) (cwV 1 hts gX6_wear_X0_add rfl rfl rfl (by decide +kernel) ⟨Nat.le_of_ble_eq_true rfl, Nat.le_of_ble_eq_true rfl⟩) (by decide) rfl rfl rfl hl.1 rfl (Nat.le_of_ble_eq_true rfl) dX6_wear_59 ⟨Nat.zero_le _, Nat.zero_le _⟩ (k_V (fun H locs hI => ?_))
          have ea : ∀ c : Nat, c ≠ 15 → c < 38 → aAdd M c = M c := fun c h1 h2 => aAdd_n h1 h2
          have ea33 := ea 33 (by decide) (by decide)
          have ea34 := ea 34 (by decide) (by decide)
          have ea3 := ea 3 (by decide) (by decide)
          have ea4 := ea 4 (by decide) (by decide)
          have ea7 := ea 7 (by decide) (by decide)
          have ea8 := ea 8 (by decide) (by decide)
          have ea33x := congrFun ea33 x
          have ea34x := congrFun ea34 x
          have ea7x := congrFun ea7 x
          have ea8x := congrFun ea8 x
          have ea4y := congrFun ea4 y
          refine lv_aload_n hx hb dX6_wear_62 rfl (lv_at hl 0 rfl) ?_
          refine r_get C hI 0 (by decide) rfl rfl hin6 2 (by decide) (fn := "now") (fd := "LGloveReply$Moment;") (index := 26) (by decide +kernel) ⟨rfl, rfl, rfl⟩ (v := .ref (gA g 32)) rfl dX6_wear_63 ?_
          refine lv_iload_n hx hb dX6_wear_66 rfl (lv_at hl 1 rfl) ?_
          refine lv_iload_n hx hb dX6_wear_67 rfl (lv_at hl 2 rfl) ?_
          refine r_iv C hI (As := [.int (iI x), .int (iI y)]) (rest := []) (c_X2_putOn l g (aAdd M) 32 x y (by decide) (by omega)) (cwV 2 hts gX6_wear_X2_putOn rfl rfl rfl (by decide +kernel) ⟨Nat.le_of_ble_eq_true rfl, Nat.le_of_ble_eq_true rfl⟩) (by decide) (ceMo (show isMo 32 from by decide) _) rfl rfl hl.1 rfl (Nat.le_of_ble_eq_true rfl) dX6_wear_68 ⟨Nat.zero_le _, Nat.zero_le _⟩ (k_V (fun H locs hI => ?_))
          refine lv_aload_n hx hb dX6_wear_71 rfl (lv_at hl 0 rfl) ?_
          refine r_get C hI 0 (by decide) rfl rfl hin6 1 (by decide) (fn := "theDesk") (fd := "LGloveReply$Desk;") (index := 19) (by decide +kernel) ⟨rfl, rfl, rfl⟩ (v := .ref (gA g 3)) rfl dX6_wear_72 ?_
          refine lv_iload_n hx hb dX6_wear_75 rfl (lv_at hl 1 rfl) ?_
          refine lv_aload_n hx hb dX6_wear_76 rfl (lv_at hl 0 rfl) ?_
          refine r_get C hI 0 (by decide) rfl rfl hin6 2 (by decide) (fn := "now") (fd := "LGloveReply$Moment;") (index := 26) (by decide +kernel) ⟨rfl, rfl, rfl⟩ (v := .ref (gA g 32)) rfl dX6_wear_77 ?_
          refine lv_iload_n hx hb dX6_wear_80 rfl (lv_at hl 1 rfl) ?_
          refine r_iv C hI (As := [.int (iI x)]) (rest := [.int (iI x), .ref (gA g 3)]) (c_X2_keptBy l g (mset (aAdd M) 34 x y) 32 x (by decide) (by omega)) (cwV 1 hts gX6_wear_X2_keptBy rfl rfl rfl (by decide +kernel) ⟨Nat.le_of_ble_eq_true rfl, Nat.le_of_ble_eq_true rfl⟩) (by decide) (ceMo (show isMo 32 from by decide) _) rfl rfl hl.1 rfl (Nat.le_of_ble_eq_true rfl) dX6_wear_81 ⟨Nat.zero_le _, Nat.zero_le _⟩ (k_I (fun H locs hI => ?_))
          refine r_eqI (z2 := (aAdd M) 33 x) rfl ?_
          refine lv_iload_n hx hb dX6_wear_84 rfl (lv_at hl 2 rfl) ?_
          refine r_iv C hI (As := [.int (iI x), .int (iI ((aAdd M) 33 x)), .int (iI y)]) (rest := []) (c_X1_reply l g (mset (aAdd M) 34 x y) x ((aAdd M) 33 x) y (by omega) (by omega) (by omega) (show -2147483648 ≤ ((aAdd M) 8 x) ∧ ((aAdd M) 8 x) < 2147483648 from by omega) (show -2147483648 ≤ ((aAdd M) 4 y) ∧ ((aAdd M) 4 y) < 2147483648 from by omega)) (cwV 3 hts gX6_wear_X1_reply rfl rfl rfl (by decide +kernel) ⟨Nat.le_of_ble_eq_true rfl, Nat.le_of_ble_eq_true rfl⟩) (by decide) rfl rfl rfl hl.1 rfl (Nat.le_of_ble_eq_true rfl) dX6_wear_85 ⟨Nat.zero_le _, Nat.zero_le _⟩ (k_I (fun H locs hI => ?_))
          refine r_eqI (z2 := repO ((aAdd M) 8 x) ((aAdd M) 33 x) ((aAdd M) 4 y)) rfl ?_
          have ff_2 := repO_b ((aAdd M) 8 x) ((aAdd M) 33 x) ((aAdd M) 4 y)
          refine r_iret C hr hlk hI ?_ dX6_wear_88
          exact ⟨congrArg (fun q => some (Value.int (iI q))) (show repO ((aAdd M) 8 x) ((aAdd M) 33 x) ((aAdd M) 4 y) = zWea (M) x y from by rw [ea33x, ea8x, ea4y]; unfold zWea; (repeat' split) <;> first | rfl | omega | (simp_all; done) | (simp_all; omega)), (show mset (aAdd M) 34 x y = gWea M x y from by unfold gWea; (repeat' split) <;> first | rfl | (exfalso; omega))⟩
        · refine lv_bipush (v := iI (-3)) hx hb dX6_wear_48 (by decide +kernel) ?_
          refine r_iret C hr hlk hI ?_ dX6_wear_50
          exact ⟨congrArg (fun q => some (Value.int (iI q))) (show (-3) = zWea (M) x y from by unfold zWea; (repeat' split) <;> first | rfl | omega | (simp_all; done) | (simp_all; omega)), (show M = gWea M x y from by unfold gWea; (repeat' split) <;> first | rfl | (exfalso; omega))⟩
    · refine lv_iconst (v := iI (-1)) hx hb dX6_wear_22 rfl ?_
      refine r_iret C hr hlk hI ?_ dX6_wear_23
      exact ⟨congrArg (fun q => some (Value.int (iI q))) (show (-1) = zWea (M) x y from by unfold zWea; (repeat' split) <;> first | rfl | omega | (simp_all; done) | (simp_all; omega)), (show M = gWea M x y from by unfold gWea; (repeat' split) <;> first | rfl | (exfalso; omega))⟩
set_option maxHeartbeats 4000000 in
set_option maxRecDepth 100000 in
theorem c_X6_wash (l : Launch) (g : GT) (M : Mem) (x : Int) (wf : WF M) (h_x : -2147483648 ≤ x ∧ x < 2147483648) : Ctr l g yX6_wash wsX6_wash ({ frames := 3, cells := 0, slots := 0, locals := 65 } : Room) [.ref (gA g 0), .int (iI x)] M (pI (zWsh (M) x) (gWsh M x)) := by
  refine Ctr.mk (cc := cX6_wash) (maxL := 3) (ret := some .int) (lv := [(0, .ref (gA g 0)), (1, .int (iI x))]) (by decide) rfl (Nat.le_of_ble_eq_true rfl) rfl ?_
  intro p e s m below meth c C hr hlk hI ls hl
  have C : CallFix p m c cX6_wash 3 s ([.ref (gA g 0), .int (iI x)] : List Value).toArray wsX6_wash RX6 := C
  have hx := C.1
  have hb := C.2.1
  have hts := C.2.2.2.2
  have hin6 : ∀ w ∈ u_ws RX6 TX6 9, w ∈ wsX6_wash := by decide +kernel
  have wf0 := wf
  obtain ⟨w_txt, hL, w_cnt, w_per, w_glo, w_now, w_act, w_rng, w_slo, w_see, w_sa⟩ := wf
  have w_gx := w_glo x
  have w_nx := w_now.1 x
  have w_hw := WF_hw w_now (by omega)
  have w_nx : 0 ≤ x ∧ x < 4 → (0 ≤ M 33 x ∧ M 33 x < 1000) ∧ (M 34 x = -9 ∨ (0 ≤ M 34 x ∧ M 34 x < M 3 6 ∧ x < M 3 7)) ∧ (x < M 3 7 → KOK (M 33 x) (M 7 x)) := w_nx
  refine lv_aload_n hx hb dX6_wash_0 rfl (lv_at hl 0 rfl) ?_
  refine r_get C hI 0 (by decide) rfl rfl hin6 1 (by decide) (fn := "theDesk") (fd := "LGloveReply$Desk;") (index := 19) (by decide +kernel) ⟨rfl, rfl, rfl⟩ (v := .ref (gA g 3)) rfl dX6_wash_1 ?_
  refine lv_iload_n hx hb dX6_wash_4 rfl (lv_at hl 1 rfl) ?_
  refine r_iv C hI (As := [.int (iI x)]) (rest := []) (c_X1_hasGlove l g M x (by omega) (show -2147483648 ≤ (M 3 7) ∧ (M 3 7) < 2147483648 from by omega)) (cwV 1 hts gX6_wash_X1_hasGlove rfl rfl rfl (by decide +kernel) ⟨Nat.le_of_ble_eq_true rfl, Nat.le_of_ble_eq_true rfl⟩) (by decide) rfl rfl rfl hl.1 rfl (Nat.le_of_ble_eq_true rfl) dX6_wash_5 ⟨Nat.zero_le _, Nat.zero_le _⟩ (k_I (fun H locs hI => ?_))
  refine r_b_ne hx hb (tgt := 13) dX6_wash_8 (by decide) (fun c_1 => ?_) (fun c_1 => ?_)
  · refine lv_aload_n hx hb dX6_wash_13 rfl (lv_at hl 0 rfl) ?_
    refine r_get C hI 0 (by decide) rfl rfl hin6 2 (by decide) (fn := "now") (fd := "LGloveReply$Moment;") (index := 26) (by decide +kernel) ⟨rfl, rfl, rfl⟩ (v := .ref (gA g 32)) rfl dX6_wash_14 ?_
    refine lv_iload_n hx hb dX6_wash_17 rfl (lv_at hl 1 rfl) ?_
    refine r_iv C hI (As := [.int (iI x)]) (rest := []) (c_X2_keptBy l g M 32 x (by decide) (by omega)) (cwV 1 hts gX6_wash_X2_keptBy rfl rfl rfl (by decide +kernel) ⟨Nat.le_of_ble_eq_true rfl, Nat.le_of_ble_eq_true rfl⟩) (by decide) (ceMo (show isMo 32 from by decide) _) rfl rfl hl.1 rfl (Nat.le_of_ble_eq_true rfl) dX6_wash_18 ⟨Nat.zero_le _, Nat.zero_le _⟩ (k_I (fun H locs hI => ?_))
    refine r_eqI (z2 := M 33 x) rfl ?_
    refine lv_istore_n (lv' := [(2, .int (iI (M 33 x))), (0, .ref (gA g 0)), (1, .int (iI x))]) hx hb dX6_wash_21 rfl hl (by decide) rfl (fun ls hl => ?_)
    refine lv_aload_n hx hb dX6_wash_22 rfl (lv_at hl 1 rfl) ?_
    refine r_get C hI 0 (by decide) rfl rfl hin6 2 (by decide) (fn := "now") (fd := "LGloveReply$Moment;") (index := 26) (by decide +kernel) ⟨rfl, rfl, rfl⟩ (v := .ref (gA g 32)) rfl dX6_wash_23 ?_
    refine lv_iload_n hx hb dX6_wash_26 rfl (lv_at hl 2 rfl) ?_
    refine r_iv C hI (As := [.int (iI x)]) (rest := []) (c_X2_isWorn l g M 32 x (by decide) (by omega) (show -2147483648 ≤ (M 34 x) ∧ (M 34 x) < 2147483648 from by omega)) (cwV 1 hts gX6_wash_X2_isWorn rfl rfl rfl (by decide +kernel) ⟨Nat.le_of_ble_eq_true rfl, Nat.le_of_ble_eq_true rfl⟩) (by decide) (ceMo (show isMo 32 from by decide) _) rfl rfl hl.1 rfl (Nat.le_of_ble_eq_true rfl) dX6_wash_27 ⟨Nat.zero_le _, Nat.zero_le _⟩ (k_I (fun H locs hI => ?_))
    refine r_eqI (z2 := bI (¬ (M 34 x) = -9)) rfl ?_
    refine r_b_ne hx hb (tgt := 37) dX6_wash_30 (by decide) (fun c_2 => ?_) (fun c_2 => ?_)
    · refine lv_bipush (v := iI (-3)) hx hb dX6_wash_37 (by decide +kernel) ?_
      refine r_iret C hr hlk hI ?_ dX6_wash_39
      exact ⟨congrArg (fun q => some (Value.int (iI q))) (show (-3) = zWsh (M) x from by unfold zWsh; (repeat' split) <;> first | rfl | omega | (simp_all; done) | (simp_all; omega)), (show M = gWsh M x from by unfold gWsh; (repeat' split) <;> first | rfl | (exfalso; omega))⟩
    · refine lv_iload_n hx hb dX6_wash_33 rfl (lv_at hl 0 rfl) ?_
      refine r_if_ne hx hb (tgt := 40) (by omega) dX6_wash_34 (by decide) (fun c_3 => ?_) (fun c_3 => ?_)
      · refine lv_aload_n hx hb dX6_wash_40 rfl (lv_at hl 1 rfl) ?_
        refine r_get C hI 0 (by decide) rfl rfl hin6 4 (by decide) (fn := "acts") (fd := "LGloveReply$Acts;") (index := 36) (by decide +kernel) ⟨rfl, rfl, rfl⟩ (v := .ref (gA g 15)) rfl dX6_wash_41 ?_
        refine lv_aload_n hx hb dX6_wash_44 rfl (lv_at hl 1 rfl) ?_
        refine r_get C hI 0 (by decide) rfl rfl hin6 2 (by decide) (fn := "now") (fd := "LGloveReply$Moment;") (index := 26) (by decide +kernel) ⟨rfl, rfl, rfl⟩ (v := .ref (gA g 32)) rfl dX6_wash_45 ?_
        refine r_iv C hI (As := [.ref (gA g 32)]) (rest := []) (c_X0_add l g M (show 0 ≤ (M 15 1) ∧ (M 15 1) < 14 from by omega) (show 0 ≤ (M 15 2) ∧ (M 15 2) ≤ 14 from by omega)) (cwV 1 hts gX6_wash_X0_add rfl rfl rfl (by decide +kernel) ⟨Nat.le_of_ble_eq_true rfl, Nat.le_of_ble_eq_true rfl⟩) (by decide) rfl rfl rfl hl.1 rfl (Nat.le_of_ble_eq_true rfl) dX6_wash_48 ⟨Nat.zero_le _, Nat.zero_le _⟩ (k_V (fun H locs hI => ?_))
        have ea : ∀ c : Nat, c ≠ 15 → c < 38 → aAdd M c = M c := fun c h1 h2 => aAdd_n h1 h2
        have ea33 := ea 33 (by decide) (by decide)
        have ea34 := ea 34 (by decide) (by decide)
        have ea3 := ea 3 (by decide) (by decide)
        have ea4 := ea 4 (by decide) (by decide)
        have ea7 := ea 7 (by decide) (by decide)
        have ea8 := ea 8 (by decide) (by decide)
        have ea33x := congrFun ea33 x
        have ea34x := congrFun ea34 x
        have ea7x := congrFun ea7 x
        have ea8x := congrFun ea8 x
        refine lv_aload_n hx hb dX6_wash_51 rfl (lv_at hl 1 rfl) ?_
        refine r_get C hI 0 (by decide) rfl rfl hin6 2 (by decide) (fn := "now") (fd := "LGloveReply$Moment;") (index := 26) (by decide +kernel) ⟨rfl, rfl, rfl⟩ (v := .ref (gA g 32)) rfl dX6_wash_52 ?_
        refine lv_iload_n hx hb dX6_wash_55 rfl (lv_at hl 2 rfl) ?_
        refine lv_iload_n hx hb dX6_wash_56 rfl (lv_at hl 0 rfl) ?_
        refine r_is C hI (As := [.int (iI (M 33 x))]) (rest := [.int (iI x), .ref (gA g 32)]) (c_X6_withoutLast l g (aAdd M) (M 33 x) (by omega)) (va_cwS 1 hts gX6_wash_X6_withoutLast rfl rfl rfl (by decide +kernel) ⟨Nat.le_of_ble_eq_true rfl, Nat.le_of_ble_eq_true rfl⟩) rfl hl.1 rfl (Nat.le_of_ble_eq_true rfl) dX6_wash_57 ⟨Nat.zero_le _, Nat.zero_le _⟩ (k_I (fun H locs hI => ?_))
        refine r_iv C hI (As := [.int (iI x), .int (iI ((M 33 x) / 10))]) (rest := []) (c_X2_setKept l g (aAdd M) 32 x ((M 33 x) / 10) (by decide) (by omega)) (cwV 2 hts gX6_wash_X2_setKept rfl rfl rfl (by decide +kernel) ⟨Nat.le_of_ble_eq_true rfl, Nat.le_of_ble_eq_true rfl⟩) (by decide) (ceMo (show isMo 32 from by decide) _) rfl rfl hl.1 rfl (Nat.le_of_ble_eq_true rfl) dX6_wash_60 ⟨Nat.zero_le _, Nat.zero_le _⟩ (k_V (fun H locs hI => ?_))
        refine lv_iload_n hx hb dX6_wash_63 rfl (lv_at hl 0 rfl) ?_
        refine r_is C hI (As := [.int (iI (M 33 x))]) (rest := []) (c_X6_lastOf l g (mset (aAdd M) 33 x ((M 33 x) / 10)) (M 33 x) (by omega)) (va_cwS 1 hts gX6_wash_X6_lastOf rfl rfl rfl (by decide +kernel) ⟨Nat.le_of_ble_eq_true rfl, Nat.le_of_ble_eq_true rfl⟩) rfl hl.1 rfl (Nat.le_of_ble_eq_true rfl) dX6_wash_64 ⟨Nat.zero_le _, Nat.zero_le _⟩ (k_I (fun H locs hI => ?_))
        refine r_iret C hr hlk hI ?_ dX6_wash_67
        exact ⟨congrArg (fun q => some (Value.int (iI q))) (show (M 33 x) % 10 = zWsh (M) x from by unfold zWsh; (repeat' split) <;> first | rfl | omega | (simp_all; done) | (simp_all; omega)), (show mset (aAdd M) 33 x ((M 33 x) / 10) = gWsh M x from by unfold gWsh; (repeat' split) <;> first | rfl | (exfalso; omega))⟩
      · refine lv_bipush (v := iI (-3)) hx hb dX6_wash_37 (by decide +kernel) ?_
        refine r_iret C hr hlk hI ?_ dX6_wash_39
        exact ⟨congrArg (fun q => some (Value.int (iI q))) (show (-3) = zWsh (M) x from by unfold zWsh; (repeat' split) <;> first | rfl | omega | (simp_all; done) | (simp_all; omega)), (show M = gWsh M x from by unfold gWsh; (repeat' split) <;> first | rfl | (exfalso; omega))⟩
  · refine lv_iconst (v := iI (-1)) hx hb dX6_wash_11 rfl ?_
    refine r_iret C hr hlk hI ?_ dX6_wash_12
    exact ⟨congrArg (fun q => some (Value.int (iI q))) (show (-1) = zWsh (M) x from by unfold zWsh; (repeat' split) <;> first | rfl | omega | (simp_all; done) | (simp_all; omega)), (show M = gWsh M x from by unfold gWsh; (repeat' split) <;> first | rfl | (exfalso; omega))⟩
set_option maxHeartbeats 4000000 in
set_option maxRecDepth 100000 in
theorem c_X6_undo (l : Launch) (g : GT) (M : Mem) (wf : WF M) : Ctr l g yX6_undo wsX6_undo ({ frames := 3, cells := 0, slots := 0, locals := 65 } : Room) [.ref (gA g 0)] M (pI (zUnd (M)) (gUnd M)) := by
  refine Ctr.mk (cc := cX6_undo) (maxL := 1) (ret := some .int) (lv := [(0, .ref (gA g 0))]) (by decide) rfl (Nat.le_of_ble_eq_true rfl) rfl ?_
  intro p e s m below meth c C hr hlk hI ls hl
  have C : CallFix p m c cX6_undo 1 s ([.ref (gA g 0)] : List Value).toArray wsX6_undo RX6 := C
  have hx := C.1
  have hb := C.2.1
  have hts := C.2.2.2.2
  have hin6 : ∀ w ∈ u_ws RX6 TX6 9, w ∈ wsX6_undo := by decide +kernel
  have wf0 := wf
  obtain ⟨w_txt, hL, w_cnt, w_per, w_glo, w_now, w_act, w_rng, w_slo, w_see, w_sa⟩ := wf
  refine lv_aload_n hx hb dX6_undo_0 rfl (lv_at hl 0 rfl) ?_
  refine r_get C hI 0 (by decide) rfl rfl hin6 4 (by decide) (fn := "acts") (fd := "LGloveReply$Acts;") (index := 36) (by decide +kernel) ⟨rfl, rfl, rfl⟩ (v := .ref (gA g 15)) rfl dX6_undo_1 ?_
  refine r_iv C hI (As := []) (rest := []) (c_X0_size l g M) (cwV 0 hts gX6_undo_X0_size rfl rfl rfl (by decide +kernel) ⟨Nat.le_of_ble_eq_true rfl, Nat.le_of_ble_eq_true rfl⟩) (by decide) rfl rfl rfl hl.1 rfl (Nat.le_of_ble_eq_true rfl) dX6_undo_4 ⟨Nat.zero_le _, Nat.zero_le _⟩ (k_I (fun H locs hI => ?_))
  refine r_if_ne hx hb (tgt := 13) (by omega) dX6_undo_7 (by decide) (fun c_1 => ?_) (fun c_1 => ?_)
  · refine lv_aload_n hx hb dX6_undo_13 rfl (lv_at hl 0 rfl) ?_
    refine r_get C hI 0 (by decide) rfl rfl hin6 4 (by decide) (fn := "acts") (fd := "LGloveReply$Acts;") (index := 36) (by decide +kernel) ⟨rfl, rfl, rfl⟩ (v := .ref (gA g 15)) rfl dX6_undo_14 ?_
    refine lv_aload_n hx hb dX6_undo_17 rfl (lv_at hl 0 rfl) ?_
    refine r_get C hI 0 (by decide) rfl rfl hin6 2 (by decide) (fn := "now") (fd := "LGloveReply$Moment;") (index := 26) (by decide +kernel) ⟨rfl, rfl, rfl⟩ (v := .ref (gA g 32)) rfl dX6_undo_18 ?_
    refine r_iv C hI (As := [.ref (gA g 32)]) (rest := []) (c_X0_giveBackLast l g M (show 0 ≤ (M 15 1) ∧ (M 15 1) < 14 from by omega) (show 0 < (M 15 2) ∧ (M 15 2) ≤ 14 from by omega)) (cwV 1 hts gX6_undo_X0_giveBackLast rfl rfl rfl (by decide +kernel) ⟨Nat.le_of_ble_eq_true rfl, Nat.le_of_ble_eq_true rfl⟩) (by decide) rfl rfl rfl hl.1 rfl (Nat.le_of_ble_eq_true rfl) dX6_undo_21 ⟨Nat.zero_le _, Nat.zero_le _⟩ (k_V (fun H locs hI => ?_))
    have eb15 : aBack M 15 2 = M 15 2 - 1 := by unfold aBack; rw [cpM_n (by decide)]; rfl
    refine lv_aload_n hx hb dX6_undo_24 rfl (lv_at hl 0 rfl) ?_
    refine r_get C hI 0 (by decide) rfl rfl hin6 4 (by decide) (fn := "acts") (fd := "LGloveReply$Acts;") (index := 36) (by decide +kernel) ⟨rfl, rfl, rfl⟩ (v := .ref (gA g 15)) rfl dX6_undo_25 ?_
    refine r_iv C hI (As := []) (rest := []) (c_X0_size l g (aBack M)) (cwV 0 hts gX6_undo_X0_size rfl rfl rfl (by decide +kernel) ⟨Nat.le_of_ble_eq_true rfl, Nat.le_of_ble_eq_true rfl⟩) (by decide) rfl rfl rfl hl.1 rfl (Nat.le_of_ble_eq_true rfl) dX6_undo_28 ⟨Nat.zero_le _, Nat.zero_le _⟩ (k_I (fun H locs hI => ?_))
    refine r_iret C hr hlk hI ?_ dX6_undo_31
    exact ⟨congrArg (fun q => some (Value.int (iI q))) (show (aBack M) 15 2 = zUnd (M)  from by rw [eb15]; unfold zUnd; (repeat' split) <;> first | rfl | omega | (simp_all; done) | (simp_all; omega)), (show aBack M = gUnd M  from by unfold gUnd; (repeat' split) <;> first | rfl | (exfalso; omega))⟩
  · refine lv_bipush (v := iI (-3)) hx hb dX6_undo_10 (by decide +kernel) ?_
    refine r_iret C hr hlk hI ?_ dX6_undo_12
    exact ⟨congrArg (fun q => some (Value.int (iI q))) (show (-3) = zUnd (M)  from by unfold zUnd; (repeat' split) <;> first | rfl | omega | (simp_all; done) | (simp_all; omega)), (show M = gUnd M  from by unfold gUnd; (repeat' split) <;> first | rfl | (exfalso; omega))⟩
set_option maxHeartbeats 4000000 in
set_option maxRecDepth 100000 in
theorem c_X6_leftBy (l : Launch) (g : GT) (M : Mem) (x : Int) (n : Int) (wf : WF M) (h_x : -2147483648 ≤ x ∧ x < 2147483648) (h_n : -2147483648 ≤ n ∧ n < 2147483648) : Ctr l g yX6_leftBy wsX6_leftBy ({ frames := 3, cells := 0, slots := 0, locals := 66 } : Room) [.ref (gA g 0), .int (iI x), .int (iI n)] M (pI (zLef (M) x n) M) := by
  refine Ctr.mk (cc := cX6_leftBy) (maxL := 3) (ret := some .int) (lv := [(0, .ref (gA g 0)), (1, .int (iI x)), (2, .int (iI n))]) (by decide) rfl (Nat.le_of_ble_eq_true rfl) rfl ?_
  intro p e s m below meth c C hr hlk hI ls hl
  have C : CallFix p m c cX6_leftBy 3 s ([.ref (gA g 0), .int (iI x), .int (iI n)] : List Value).toArray wsX6_leftBy RX6 := C
  have hx := C.1
  have hb := C.2.1
  have hts := C.2.2.2.2
  have hin6 : ∀ w ∈ u_ws RX6 TX6 9, w ∈ wsX6_leftBy := by decide +kernel
  have wf0 := wf
  obtain ⟨w_txt, hL, w_cnt, w_per, w_glo, w_now, w_act, w_rng, w_slo, w_see, w_sa⟩ := wf
  have w_gx := w_glo x
  have w_nx := w_now.1 x
  have w_hw := WF_hw w_now (by omega)
  have w_nx : 0 ≤ x ∧ x < 4 → (0 ≤ M 33 x ∧ M 33 x < 1000) ∧ (M 34 x = -9 ∨ (0 ≤ M 34 x ∧ M 34 x < M 3 6 ∧ x < M 3 7)) ∧ (x < M 3 7 → KOK (M 33 x) (M 7 x)) := w_nx
  refine lv_aload_n hx hb dX6_leftBy_0 rfl (lv_at hl 0 rfl) ?_
  refine r_get C hI 0 (by decide) rfl rfl hin6 1 (by decide) (fn := "theDesk") (fd := "LGloveReply$Desk;") (index := 19) (by decide +kernel) ⟨rfl, rfl, rfl⟩ (v := .ref (gA g 3)) rfl dX6_leftBy_1 ?_
  refine lv_iload_n hx hb dX6_leftBy_4 rfl (lv_at hl 1 rfl) ?_
  refine r_iv C hI (As := [.int (iI x)]) (rest := []) (c_X1_hasGlove l g M x (by omega) (show -2147483648 ≤ (M 3 7) ∧ (M 3 7) < 2147483648 from by omega)) (cwV 1 hts gX6_leftBy_X1_hasGlove rfl rfl rfl (by decide +kernel) ⟨Nat.le_of_ble_eq_true rfl, Nat.le_of_ble_eq_true rfl⟩) (by decide) rfl rfl rfl hl.1 rfl (Nat.le_of_ble_eq_true rfl) dX6_leftBy_5 ⟨Nat.zero_le _, Nat.zero_le _⟩ (k_I (fun H locs hI => ?_))
  refine r_b_ne hx hb (tgt := 13) dX6_leftBy_8 (by decide) (fun c_1 => ?_) (fun c_1 => ?_)
  · refine lv_iload_n hx hb dX6_leftBy_13 rfl (lv_at hl 2 rfl) ?_
    refine lv_iconst (v := iI 0) hx hb dX6_leftBy_14 rfl ?_
    refine lv_iconst (v := iI 3) hx hb dX6_leftBy_15 rfl ?_
    refine r_is C hI (As := [.int (iI n), .int (iI 0), .int (iI 3)]) (rest := []) (c_X6_within l g M n 0 3 (by omega) (by omega) (by omega)) (va_cwS 3 hts gX6_leftBy_X6_within rfl rfl rfl (by decide +kernel) ⟨Nat.le_of_ble_eq_true rfl, Nat.le_of_ble_eq_true rfl⟩) rfl hl.1 rfl (Nat.le_of_ble_eq_true rfl) dX6_leftBy_16 ⟨Nat.zero_le _, Nat.zero_le _⟩ (k_I (fun H locs hI => ?_))
    refine r_b_ne hx hb (tgt := 25) dX6_leftBy_19 (by decide) (fun c_2 => ?_) (fun c_2 => ?_)
    · refine lv_aload_n hx hb dX6_leftBy_25 rfl (lv_at hl 0 rfl) ?_
      refine lv_iload_n hx hb dX6_leftBy_26 rfl (lv_at hl 1 rfl) ?_
      refine lv_iload_n hx hb dX6_leftBy_27 rfl (lv_at hl 2 rfl) ?_
      refine r_iv C hI (As := [.int (iI x), .int (iI n)]) (rest := []) (c_X6_lastAfterWashes l g M x n (by omega) (show 0 ≤ (M 33 x) ∧ (M 33 x) < 1000 from by omega) (by omega)) (cwV 2 hts gX6_leftBy_X6_lastAfterWashes rfl rfl rfl (by decide +kernel) ⟨Nat.le_of_ble_eq_true rfl, Nat.le_of_ble_eq_true rfl⟩) (by decide) rfl rfl rfl hl.1 rfl (Nat.le_of_ble_eq_true rfl) dX6_leftBy_28 ⟨Nat.zero_le _, Nat.zero_le _⟩ (k_I (fun H locs hI => ?_))
      refine r_iret C hr hlk hI ?_ dX6_leftBy_31
      exact ⟨congrArg (fun q => some (Value.int (iI q))) (show lwO (M 33 x) n.toNat % 10 = zLef (M) x n from by unfold zLef; (repeat' split) <;> first | rfl | omega | (simp_all; done) | (simp_all; omega)), rfl⟩
    · refine lv_bipush (v := iI (-2)) hx hb dX6_leftBy_22 (by decide +kernel) ?_
      refine r_iret C hr hlk hI ?_ dX6_leftBy_24
      exact ⟨congrArg (fun q => some (Value.int (iI q))) (show (-2) = zLef (M) x n from by unfold zLef; (repeat' split) <;> first | rfl | omega | (simp_all; done) | (simp_all; omega)), rfl⟩
  · refine lv_iconst (v := iI (-1)) hx hb dX6_leftBy_11 rfl ?_
    refine r_iret C hr hlk hI ?_ dX6_leftBy_12
    exact ⟨congrArg (fun q => some (Value.int (iI q))) (show (-1) = zLef (M) x n from by unfold zLef; (repeat' split) <;> first | rfl | omega | (simp_all; done) | (simp_all; omega)), rfl⟩
set_option maxHeartbeats 4000000 in
set_option maxRecDepth 100000 in
theorem c_X6_washes (l : Launch) (g : GT) (M : Mem) (x : Int) (dd : Int) (wf : WF M) (h_x : -2147483648 ≤ x ∧ x < 2147483648) (h_dd : -2147483648 ≤ dd ∧ dd < 2147483648) : Ctr l g yX6_washes wsX6_washes ({ frames := 3, cells := 0, slots := 0, locals := 66 } : Room) [.ref (gA g 0), .int (iI x), .int (iI dd)] M (pI (zWas (M) x dd) M) := by
  refine Ctr.mk (cc := cX6_washes) (maxL := 4) (ret := some .int) (lv := [(0, .ref (gA g 0)), (1, .int (iI x)), (2, .int (iI dd))]) (by decide) rfl (Nat.le_of_ble_eq_true rfl) rfl ?_
  intro p e s m below meth c C hr hlk hI ls hl
  have C : CallFix p m c cX6_washes 4 s ([.ref (gA g 0), .int (iI x), .int (iI dd)] : List Value).toArray wsX6_washes RX6 := C
  have hx := C.1
  have hb := C.2.1
  have hts := C.2.2.2.2
  have hin6 : ∀ w ∈ u_ws RX6 TX6 9, w ∈ wsX6_washes := by decide +kernel
  have wf0 := wf
  obtain ⟨w_txt, hL, w_cnt, w_per, w_glo, w_now, w_act, w_rng, w_slo, w_see, w_sa⟩ := wf
  have w_gx := w_glo x
  have w_nx := w_now.1 x
  have w_hw := WF_hw w_now (by omega)
  have w_nx : 0 ≤ x ∧ x < 4 → (0 ≤ M 33 x ∧ M 33 x < 1000) ∧ (M 34 x = -9 ∨ (0 ≤ M 34 x ∧ M 34 x < M 3 6 ∧ x < M 3 7)) ∧ (x < M 3 7 → KOK (M 33 x) (M 7 x)) := w_nx
  refine lv_aload_n hx hb dX6_washes_0 rfl (lv_at hl 0 rfl) ?_
  refine r_get C hI 0 (by decide) rfl rfl hin6 1 (by decide) (fn := "theDesk") (fd := "LGloveReply$Desk;") (index := 19) (by decide +kernel) ⟨rfl, rfl, rfl⟩ (v := .ref (gA g 3)) rfl dX6_washes_1 ?_
  refine lv_iload_n hx hb dX6_washes_4 rfl (lv_at hl 1 rfl) ?_
  refine r_iv C hI (As := [.int (iI x)]) (rest := []) (c_X1_hasGlove l g M x (by omega) (show -2147483648 ≤ (M 3 7) ∧ (M 3 7) < 2147483648 from by omega)) (cwV 1 hts gX6_washes_X1_hasGlove rfl rfl rfl (by decide +kernel) ⟨Nat.le_of_ble_eq_true rfl, Nat.le_of_ble_eq_true rfl⟩) (by decide) rfl rfl rfl hl.1 rfl (Nat.le_of_ble_eq_true rfl) dX6_washes_5 ⟨Nat.zero_le _, Nat.zero_le _⟩ (k_I (fun H locs hI => ?_))
  refine r_b_ne hx hb (tgt := 13) dX6_washes_8 (by decide) (fun c_1 => ?_) (fun c_1 => ?_)
  · refine lv_iload_n hx hb dX6_washes_13 rfl (lv_at hl 2 rfl) ?_
    refine lv_iconst (v := iI 0) hx hb dX6_washes_14 rfl ?_
    refine lv_bipush (v := iI 7) hx hb dX6_washes_15 (by decide +kernel) ?_
    refine r_is C hI (As := [.int (iI dd), .int (iI 0), .int (iI 7)]) (rest := []) (c_X6_within l g M dd 0 7 (by omega) (by omega) (by omega)) (va_cwS 3 hts gX6_washes_X6_within rfl rfl rfl (by decide +kernel) ⟨Nat.le_of_ble_eq_true rfl, Nat.le_of_ble_eq_true rfl⟩) rfl hl.1 rfl (Nat.le_of_ble_eq_true rfl) dX6_washes_17 ⟨Nat.zero_le _, Nat.zero_le _⟩ (k_I (fun H locs hI => ?_))
    refine r_b_ne hx hb (tgt := 26) dX6_washes_20 (by decide) (fun c_2 => ?_) (fun c_2 => ?_)
    · refine lv_iconst (v := iI 0) hx hb dX6_washes_26 rfl ?_
      refine lv_istore_n (lv' := [(3, .int (iI 0)), (0, .ref (gA g 0)), (1, .int (iI x)), (2, .int (iI dd))]) hx hb dX6_washes_27 rfl hl (by decide) rfl (fun ls hl => ?_)
      refine lv_iload_n hx hb dX6_washes_28 rfl (lv_at hl 0 rfl) ?_
      refine lv_iconst (v := iI 3) hx hb dX6_washes_29 rfl ?_
      refine r_icmp_gt hx hb (tgt := 51) (by decide) (by decide) dX6_washes_30 (by decide) (fun c => absurd c (by decide)) (fun c_3 => ?_)
      refine lv_aload_n hx hb dX6_washes_33 rfl (lv_at hl 1 rfl) ?_
      refine lv_iload_n hx hb dX6_washes_34 rfl (lv_at hl 2 rfl) ?_
      refine lv_iload_n hx hb dX6_washes_35 rfl (lv_at hl 0 rfl) ?_
      refine r_iv C hI (As := [.int (iI x), .int (iI 0)]) (rest := []) (c_X6_lastAfterWashes l g M x 0 (by omega) (show 0 ≤ (M 33 x) ∧ (M 33 x) < 1000 from by omega) (by omega)) (cwV 2 hts gX6_washes_X6_lastAfterWashes rfl rfl rfl (by decide +kernel) ⟨Nat.le_of_ble_eq_true rfl, Nat.le_of_ble_eq_true rfl⟩) (by decide) rfl rfl rfl hl.1 rfl (Nat.le_of_ble_eq_true rfl) dX6_washes_36 ⟨Nat.zero_le _, Nat.zero_le _⟩ (k_I (fun H locs hI => ?_))
      refine lv_iload_n hx hb dX6_washes_39 rfl (lv_at hl 3 rfl) ?_
      refine r_icmp_ne hx hb (tgt := 45) (by omega) (by omega) dX6_washes_40 (by decide) (fun c_4 => ?_) (fun c_4 => ?_)
      · refine lv_iinc (v := iI (1)) (lv' := [(3, .int (iI 1)), (0, .ref (gA g 0)), (1, .int (iI x)), (2, .int (iI dd))]) hx hb dX6_washes_45 hl (k := 0) rfl (iI_add _ _) (by decide) rfl (fun ls hl => ?_)
        refine lv_goto (tgt := 28) hx hb dX6_washes_48 (by decide) ?_
        refine lv_iload_n hx hb dX6_washes_28 rfl (lv_at hl 0 rfl) ?_
        refine lv_iconst (v := iI 3) hx hb dX6_washes_29 rfl ?_
        refine r_icmp_gt hx hb (tgt := 51) (by decide) (by decide) dX6_washes_30 (by decide) (fun c => absurd c (by decide)) (fun c_5 => ?_)
        refine lv_aload_n hx hb dX6_washes_33 rfl (lv_at hl 1 rfl) ?_
        refine lv_iload_n hx hb dX6_washes_34 rfl (lv_at hl 2 rfl) ?_
        refine lv_iload_n hx hb dX6_washes_35 rfl (lv_at hl 0 rfl) ?_
        refine r_iv C hI (As := [.int (iI x), .int (iI 1)]) (rest := []) (c_X6_lastAfterWashes l g M x 1 (by omega) (show 0 ≤ (M 33 x) ∧ (M 33 x) < 1000 from by omega) (by omega)) (cwV 2 hts gX6_washes_X6_lastAfterWashes rfl rfl rfl (by decide +kernel) ⟨Nat.le_of_ble_eq_true rfl, Nat.le_of_ble_eq_true rfl⟩) (by decide) rfl rfl rfl hl.1 rfl (Nat.le_of_ble_eq_true rfl) dX6_washes_36 ⟨Nat.zero_le _, Nat.zero_le _⟩ (k_I (fun H locs hI => ?_))
        refine lv_iload_n hx hb dX6_washes_39 rfl (lv_at hl 3 rfl) ?_
        refine r_icmp_ne hx hb (tgt := 45) (by omega) (by omega) dX6_washes_40 (by decide) (fun c_6 => ?_) (fun c_6 => ?_)
        · refine lv_iinc (v := iI (2)) (lv' := [(3, .int (iI 2)), (0, .ref (gA g 0)), (1, .int (iI x)), (2, .int (iI dd))]) hx hb dX6_washes_45 hl (k := 0) rfl (iI_add _ _) (by decide) rfl (fun ls hl => ?_)
          refine lv_goto (tgt := 28) hx hb dX6_washes_48 (by decide) ?_
          refine lv_iload_n hx hb dX6_washes_28 rfl (lv_at hl 0 rfl) ?_
          refine lv_iconst (v := iI 3) hx hb dX6_washes_29 rfl ?_
          refine r_icmp_gt hx hb (tgt := 51) (by decide) (by decide) dX6_washes_30 (by decide) (fun c => absurd c (by decide)) (fun c_7 => ?_)
          refine lv_aload_n hx hb dX6_washes_33 rfl (lv_at hl 1 rfl) ?_
          refine lv_iload_n hx hb dX6_washes_34 rfl (lv_at hl 2 rfl) ?_
          refine lv_iload_n hx hb dX6_washes_35 rfl (lv_at hl 0 rfl) ?_
          refine r_iv C hI (As := [.int (iI x), .int (iI 2)]) (rest := []) (c_X6_lastAfterWashes l g M x 2 (by omega) (show 0 ≤ (M 33 x) ∧ (M 33 x) < 1000 from by omega) (by omega)) (cwV 2 hts gX6_washes_X6_lastAfterWashes rfl rfl rfl (by decide +kernel) ⟨Nat.le_of_ble_eq_true rfl, Nat.le_of_ble_eq_true rfl⟩) (by decide) rfl rfl rfl hl.1 rfl (Nat.le_of_ble_eq_true rfl) dX6_washes_36 ⟨Nat.zero_le _, Nat.zero_le _⟩ (k_I (fun H locs hI => ?_))
          refine lv_iload_n hx hb dX6_washes_39 rfl (lv_at hl 3 rfl) ?_
          refine r_icmp_ne hx hb (tgt := 45) (by omega) (by omega) dX6_washes_40 (by decide) (fun c_8 => ?_) (fun c_8 => ?_)
          · refine lv_iinc (v := iI (3)) (lv' := [(3, .int (iI 3)), (0, .ref (gA g 0)), (1, .int (iI x)), (2, .int (iI dd))]) hx hb dX6_washes_45 hl (k := 0) rfl (iI_add _ _) (by decide) rfl (fun ls hl => ?_)
            refine lv_goto (tgt := 28) hx hb dX6_washes_48 (by decide) ?_
            refine lv_iload_n hx hb dX6_washes_28 rfl (lv_at hl 0 rfl) ?_
            refine lv_iconst (v := iI 3) hx hb dX6_washes_29 rfl ?_
            refine r_icmp_gt hx hb (tgt := 51) (by decide) (by decide) dX6_washes_30 (by decide) (fun c => absurd c (by decide)) (fun c_9 => ?_)
            refine lv_aload_n hx hb dX6_washes_33 rfl (lv_at hl 1 rfl) ?_
            refine lv_iload_n hx hb dX6_washes_34 rfl (lv_at hl 2 rfl) ?_
            refine lv_iload_n hx hb dX6_washes_35 rfl (lv_at hl 0 rfl) ?_
            refine r_iv C hI (As := [.int (iI x), .int (iI 3)]) (rest := []) (c_X6_lastAfterWashes l g M x 3 (by omega) (show 0 ≤ (M 33 x) ∧ (M 33 x) < 1000 from by omega) (by omega)) (cwV 2 hts gX6_washes_X6_lastAfterWashes rfl rfl rfl (by decide +kernel) ⟨Nat.le_of_ble_eq_true rfl, Nat.le_of_ble_eq_true rfl⟩) (by decide) rfl rfl rfl hl.1 rfl (Nat.le_of_ble_eq_true rfl) dX6_washes_36 ⟨Nat.zero_le _, Nat.zero_le _⟩ (k_I (fun H locs hI => ?_))
            refine lv_iload_n hx hb dX6_washes_39 rfl (lv_at hl 3 rfl) ?_
            refine r_icmp_ne hx hb (tgt := 45) (by omega) (by omega) dX6_washes_40 (by decide) (fun c_10 => ?_) (fun c_10 => ?_)
            · refine lv_iinc (v := iI (4)) (lv' := [(3, .int (iI 4)), (0, .ref (gA g 0)), (1, .int (iI x)), (2, .int (iI dd))]) hx hb dX6_washes_45 hl (k := 0) rfl (iI_add _ _) (by decide) rfl (fun ls hl => ?_)
              refine lv_goto (tgt := 28) hx hb dX6_washes_48 (by decide) ?_
              refine lv_iload_n hx hb dX6_washes_28 rfl (lv_at hl 0 rfl) ?_
              refine lv_iconst (v := iI 3) hx hb dX6_washes_29 rfl ?_
              refine r_icmp_gt hx hb (tgt := 51) (by decide) (by decide) dX6_washes_30 (by decide) (fun c_11 => ?_) (fun c => absurd c (by decide))
              refine lv_bipush (v := iI (-9)) hx hb dX6_washes_51 (by decide +kernel) ?_
              refine r_iret C hr hlk hI ?_ dX6_washes_53
              exact ⟨congrArg (fun q => some (Value.int (iI q))) (show (-9) = zWas (M) x dd from by unfold zWas; (try simp only [show ((0 : Int).toNat) = 0 from rfl, show ((1 : Int).toNat) = 1 from rfl, show ((2 : Int).toNat) = 2 from rfl, show ((3 : Int).toNat) = 3 from rfl, lwO] at *); (repeat' split) <;> first | rfl | omega), rfl⟩
            · refine lv_iload_n hx hb dX6_washes_43 rfl (lv_at hl 0 rfl) ?_
              refine r_iret C hr hlk hI ?_ dX6_washes_44
              exact ⟨congrArg (fun q => some (Value.int (iI q))) (show 3 = zWas (M) x dd from by unfold zWas; (try simp only [show ((0 : Int).toNat) = 0 from rfl, show ((1 : Int).toNat) = 1 from rfl, show ((2 : Int).toNat) = 2 from rfl, show ((3 : Int).toNat) = 3 from rfl, lwO] at *); (repeat' split) <;> first | rfl | omega), rfl⟩
          · refine lv_iload_n hx hb dX6_washes_43 rfl (lv_at hl 0 rfl) ?_
            refine r_iret C hr hlk hI ?_ dX6_washes_44
            exact ⟨congrArg (fun q => some (Value.int (iI q))) (show 2 = zWas (M) x dd from by unfold zWas; (try simp only [show ((0 : Int).toNat) = 0 from rfl, show ((1 : Int).toNat) = 1 from rfl, show ((2 : Int).toNat) = 2 from rfl, show ((3 : Int).toNat) = 3 from rfl, lwO] at *); (repeat' split) <;> first | rfl | omega), rfl⟩
        · refine lv_iload_n hx hb dX6_washes_43 rfl (lv_at hl 0 rfl) ?_
          refine r_iret C hr hlk hI ?_ dX6_washes_44
          exact ⟨congrArg (fun q => some (Value.int (iI q))) (show 1 = zWas (M) x dd from by unfold zWas; (try simp only [show ((0 : Int).toNat) = 0 from rfl, show ((1 : Int).toNat) = 1 from rfl, show ((2 : Int).toNat) = 2 from rfl, show ((3 : Int).toNat) = 3 from rfl, lwO] at *); (repeat' split) <;> first | rfl | omega), rfl⟩
      · refine lv_iload_n hx hb dX6_washes_43 rfl (lv_at hl 0 rfl) ?_
        refine r_iret C hr hlk hI ?_ dX6_washes_44
        exact ⟨congrArg (fun q => some (Value.int (iI q))) (show 0 = zWas (M) x dd from by unfold zWas; (try simp only [show ((0 : Int).toNat) = 0 from rfl, show ((1 : Int).toNat) = 1 from rfl, show ((2 : Int).toNat) = 2 from rfl, show ((3 : Int).toNat) = 3 from rfl, lwO] at *); (repeat' split) <;> first | rfl | omega), rfl⟩
    · refine lv_bipush (v := iI (-2)) hx hb dX6_washes_23 (by decide +kernel) ?_
      refine r_iret C hr hlk hI ?_ dX6_washes_25
      exact ⟨congrArg (fun q => some (Value.int (iI q))) (show (-2) = zWas (M) x dd from by unfold zWas; (try simp only [show ((0 : Int).toNat) = 0 from rfl, show ((1 : Int).toNat) = 1 from rfl, show ((2 : Int).toNat) = 2 from rfl, show ((3 : Int).toNat) = 3 from rfl, lwO] at *); (repeat' split) <;> first | rfl | omega), rfl⟩
  · refine lv_iconst (v := iI (-1)) hx hb dX6_washes_11 rfl ?_
    refine r_iret C hr hlk hI ?_ dX6_washes_12
    exact ⟨congrArg (fun q => some (Value.int (iI q))) (show (-1) = zWas (M) x dd from by unfold zWas; (try simp only [show ((0 : Int).toNat) = 0 from rfl, show ((1 : Int).toNat) = 1 from rfl, show ((2 : Int).toNat) = 2 from rfl, show ((3 : Int).toNat) = 3 from rfl, lwO] at *); (repeat' split) <;> first | rfl | omega), rfl⟩
set_option maxHeartbeats 4000000 in
set_option maxRecDepth 100000 in
theorem c_X6_both (l : Launch) (g : GT) (M : Mem) (x : Int) (y : Int) (wf : WF M) (h_x : -2147483648 ≤ x ∧ x < 2147483648) (h_y : -2147483648 ≤ y ∧ y < 2147483648) : Ctr l g yX6_both wsX6_both ({ frames := 3, cells := 0, slots := 0, locals := 64 } : Room) [.ref (gA g 0), .int (iI x), .int (iI y)] M (pI (zBot (M) x y) M) := by
  refine Ctr.mk (cc := cX6_both) (maxL := 3) (ret := some .int) (lv := [(0, .ref (gA g 0)), (1, .int (iI x)), (2, .int (iI y))]) (by decide) rfl (Nat.le_of_ble_eq_true rfl) rfl ?_
  intro p e s m below meth c C hr hlk hI ls hl
  have C : CallFix p m c cX6_both 3 s ([.ref (gA g 0), .int (iI x), .int (iI y)] : List Value).toArray wsX6_both RX6 := C
  have hx := C.1
  have hb := C.2.1
  have hts := C.2.2.2.2
  have hin6 : ∀ w ∈ u_ws RX6 TX6 9, w ∈ wsX6_both := by decide +kernel
  have wf0 := wf
  obtain ⟨w_txt, hL, w_cnt, w_per, w_glo, w_now, w_act, w_rng, w_slo, w_see, w_sa⟩ := wf
  have w_gx := w_glo x
  have w_nx := w_now.1 x
  have w_hw := WF_hw w_now (by omega)
  have w_nx : 0 ≤ x ∧ x < 4 → (0 ≤ M 33 x ∧ M 33 x < 1000) ∧ (M 34 x = -9 ∨ (0 ≤ M 34 x ∧ M 34 x < M 3 6 ∧ x < M 3 7)) ∧ (x < M 3 7 → KOK (M 33 x) (M 7 x)) := w_nx
  have w_gy := w_glo y
  have w_ny : 0 ≤ y ∧ y < 4 → (0 ≤ M 33 y ∧ M 33 y < 1000) ∧ (M 34 y = -9 ∨ (0 ≤ M 34 y ∧ M 34 y < M 3 6 ∧ y < M 3 7)) ∧ (y < M 3 7 → KOK (M 33 y) (M 7 y)) := w_now.1 y
  refine lv_aload_n hx hb dX6_both_0 rfl (lv_at hl 0 rfl) ?_
  refine r_get C hI 0 (by decide) rfl rfl hin6 1 (by decide) (fn := "theDesk") (fd := "LGloveReply$Desk;") (index := 19) (by decide +kernel) ⟨rfl, rfl, rfl⟩ (v := .ref (gA g 3)) rfl dX6_both_1 ?_
  refine lv_iload_n hx hb dX6_both_4 rfl (lv_at hl 1 rfl) ?_
  refine r_iv C hI (As := [.int (iI x)]) (rest := []) (c_X1_hasGlove l g M x (by omega) (show -2147483648 ≤ (M 3 7) ∧ (M 3 7) < 2147483648 from by omega)) (cwV 1 hts gX6_both_X1_hasGlove rfl rfl rfl (by decide +kernel) ⟨Nat.le_of_ble_eq_true rfl, Nat.le_of_ble_eq_true rfl⟩) (by decide) rfl rfl rfl hl.1 rfl (Nat.le_of_ble_eq_true rfl) dX6_both_5 ⟨Nat.zero_le _, Nat.zero_le _⟩ (k_I (fun H locs hI => ?_))
  refine r_b_eq hx hb (tgt := 22) dX6_both_8 (by decide) (fun c_1 => ?_) (fun c_1 => ?_)
  · refine lv_iconst (v := iI (-1)) hx hb dX6_both_22 rfl ?_
    refine r_iret C hr hlk hI ?_ dX6_both_23
    exact ⟨congrArg (fun q => some (Value.int (iI q))) (show (-1) = zBot (M) x y from by unfold zBot; (repeat' split) <;> first | rfl | omega | (simp_all; done) | (simp_all; omega)), rfl⟩
  · refine lv_aload_n hx hb dX6_both_11 rfl (lv_at hl 0 rfl) ?_
    refine r_get C hI 0 (by decide) rfl rfl hin6 1 (by decide) (fn := "theDesk") (fd := "LGloveReply$Desk;") (index := 19) (by decide +kernel) ⟨rfl, rfl, rfl⟩ (v := .ref (gA g 3)) rfl dX6_both_12 ?_
    refine lv_iload_n hx hb dX6_both_15 rfl (lv_at hl 2 rfl) ?_
    refine r_iv C hI (As := [.int (iI y)]) (rest := []) (c_X1_hasGlove l g M y (by omega) (show -2147483648 ≤ (M 3 7) ∧ (M 3 7) < 2147483648 from by omega)) (cwV 1 hts gX6_both_X1_hasGlove rfl rfl rfl (by decide +kernel) ⟨Nat.le_of_ble_eq_true rfl, Nat.le_of_ble_eq_true rfl⟩) (by decide) rfl rfl rfl hl.1 rfl (Nat.le_of_ble_eq_true rfl) dX6_both_16 ⟨Nat.zero_le _, Nat.zero_le _⟩ (k_I (fun H locs hI => ?_))
    refine r_b_ne hx hb (tgt := 24) dX6_both_19 (by decide) (fun c_2 => ?_) (fun c_2 => ?_)
    · refine lv_aload_n hx hb dX6_both_24 rfl (lv_at hl 0 rfl) ?_
      refine lv_iload_n hx hb dX6_both_25 rfl (lv_at hl 1 rfl) ?_
      refine lv_iload_n hx hb dX6_both_26 rfl (lv_at hl 2 rfl) ?_
      refine r_iv C hI (As := [.int (iI x), .int (iI y)]) (rest := []) (c_X6_secretOf l g M x y (by omega) (by omega) (show 0 ≤ (M 33 x) ∧ (M 33 x) < 1000 from by omega) (show 0 ≤ (M 33 y) ∧ (M 33 y) < 1000 from by omega)) (cwV 2 hts gX6_both_X6_secretOf rfl rfl rfl (by decide +kernel) ⟨Nat.le_of_ble_eq_true rfl, Nat.le_of_ble_eq_true rfl⟩) (by decide) rfl rfl rfl hl.1 rfl (Nat.le_of_ble_eq_true rfl) dX6_both_27 ⟨Nat.zero_le _, Nat.zero_le _⟩ (k_I (fun H locs hI => ?_))
      have ff_1 := @xorI_b ((M 33 x) % 10) ((M 33 y) % 10) (by omega) (by omega)
      refine r_iret C hr hlk hI ?_ dX6_both_30
      exact ⟨congrArg (fun q => some (Value.int (iI q))) (show xorI ((M 33 x) % 10) ((M 33 y) % 10) = zBot (M) x y from by unfold zBot; (repeat' split) <;> first | rfl | omega | (simp_all; done) | (simp_all; omega)), rfl⟩
    · refine lv_iconst (v := iI (-1)) hx hb dX6_both_22 rfl ?_
      refine r_iret C hr hlk hI ?_ dX6_both_23
      exact ⟨congrArg (fun q => some (Value.int (iI q))) (show (-1) = zBot (M) x y from by unfold zBot; (repeat' split) <;> first | rfl | omega | (simp_all; done) | (simp_all; omega)), rfl⟩
set_option maxHeartbeats 4000000 in
set_option maxRecDepth 100000 in
theorem c_X6_either (l : Launch) (g : GT) (M : Mem) (x : Int) (y : Int) (wf : WF M) (h_x : -2147483648 ≤ x ∧ x < 2147483648) (h_y : -2147483648 ≤ y ∧ y < 2147483648) : Ctr l g yX6_either wsX6_either ({ frames := 3, cells := 0, slots := 0, locals := 64 } : Room) [.ref (gA g 0), .int (iI x), .int (iI y)] M (pI (zEit (M) x y) M) := by
  refine Ctr.mk (cc := cX6_either) (maxL := 5) (ret := some .int) (lv := [(0, .ref (gA g 0)), (1, .int (iI x)), (2, .int (iI y))]) (by decide) rfl (Nat.le_of_ble_eq_true rfl) rfl ?_
  intro p e s m below meth c C hr hlk hI ls hl
  have C : CallFix p m c cX6_either 5 s ([.ref (gA g 0), .int (iI x), .int (iI y)] : List Value).toArray wsX6_either RX6 := C
  have hx := C.1
  have hb := C.2.1
  have hts := C.2.2.2.2
  have hin6 : ∀ w ∈ u_ws RX6 TX6 9, w ∈ wsX6_either := by decide +kernel
  have wf0 := wf
  obtain ⟨w_txt, hL, w_cnt, w_per, w_glo, w_now, w_act, w_rng, w_slo, w_see, w_sa⟩ := wf
  have w_gx := w_glo x
  have w_nx := w_now.1 x
  have w_hw := WF_hw w_now (by omega)
  have w_nx : 0 ≤ x ∧ x < 4 → (0 ≤ M 33 x ∧ M 33 x < 1000) ∧ (M 34 x = -9 ∨ (0 ≤ M 34 x ∧ M 34 x < M 3 6 ∧ x < M 3 7)) ∧ (x < M 3 7 → KOK (M 33 x) (M 7 x)) := w_nx
  have w_gy := w_glo y
  have w_ny : 0 ≤ y ∧ y < 4 → (0 ≤ M 33 y ∧ M 33 y < 1000) ∧ (M 34 y = -9 ∨ (0 ≤ M 34 y ∧ M 34 y < M 3 6 ∧ y < M 3 7)) ∧ (y < M 3 7 → KOK (M 33 y) (M 7 y)) := w_now.1 y
  refine lv_aload_n hx hb dX6_either_0 rfl (lv_at hl 0 rfl) ?_
  refine r_get C hI 0 (by decide) rfl rfl hin6 1 (by decide) (fn := "theDesk") (fd := "LGloveReply$Desk;") (index := 19) (by decide +kernel) ⟨rfl, rfl, rfl⟩ (v := .ref (gA g 3)) rfl dX6_either_1 ?_
  refine lv_iload_n hx hb dX6_either_4 rfl (lv_at hl 1 rfl) ?_
  refine r_iv C hI (As := [.int (iI x)]) (rest := []) (c_X1_hasGlove l g M x (by omega) (show -2147483648 ≤ (M 3 7) ∧ (M 3 7) < 2147483648 from by omega)) (cwV 1 hts gX6_either_X1_hasGlove rfl rfl rfl (by decide +kernel) ⟨Nat.le_of_ble_eq_true rfl, Nat.le_of_ble_eq_true rfl⟩) (by decide) rfl rfl rfl hl.1 rfl (Nat.le_of_ble_eq_true rfl) dX6_either_5 ⟨Nat.zero_le _, Nat.zero_le _⟩ (k_I (fun H locs hI => ?_))
  refine r_b_eq hx hb (tgt := 22) dX6_either_8 (by decide) (fun c_1 => ?_) (fun c_1 => ?_)
  · refine lv_iconst (v := iI (-1)) hx hb dX6_either_22 rfl ?_
    refine r_iret C hr hlk hI ?_ dX6_either_23
    exact ⟨congrArg (fun q => some (Value.int (iI q))) (show (-1) = zEit (M) x y from by unfold zEit; (repeat' split) <;> first | rfl | omega | (simp_all; done) | (simp_all; omega)), rfl⟩
  · refine lv_aload_n hx hb dX6_either_11 rfl (lv_at hl 0 rfl) ?_
    refine r_get C hI 0 (by decide) rfl rfl hin6 1 (by decide) (fn := "theDesk") (fd := "LGloveReply$Desk;") (index := 19) (by decide +kernel) ⟨rfl, rfl, rfl⟩ (v := .ref (gA g 3)) rfl dX6_either_12 ?_
    refine lv_iload_n hx hb dX6_either_15 rfl (lv_at hl 2 rfl) ?_
    refine r_iv C hI (As := [.int (iI y)]) (rest := []) (c_X1_hasGlove l g M y (by omega) (show -2147483648 ≤ (M 3 7) ∧ (M 3 7) < 2147483648 from by omega)) (cwV 1 hts gX6_either_X1_hasGlove rfl rfl rfl (by decide +kernel) ⟨Nat.le_of_ble_eq_true rfl, Nat.le_of_ble_eq_true rfl⟩) (by decide) rfl rfl rfl hl.1 rfl (Nat.le_of_ble_eq_true rfl) dX6_either_16 ⟨Nat.zero_le _, Nat.zero_le _⟩ (k_I (fun H locs hI => ?_))
    refine r_b_ne hx hb (tgt := 24) dX6_either_19 (by decide) (fun c_2 => ?_) (fun c_2 => ?_)
    · refine lv_aload_n hx hb dX6_either_24 rfl (lv_at hl 0 rfl) ?_
      refine lv_iload_n hx hb dX6_either_25 rfl (lv_at hl 1 rfl) ?_
      refine lv_iload_n hx hb dX6_either_26 rfl (lv_at hl 2 rfl) ?_
      refine r_iv C hI (As := [.int (iI x), .int (iI y)]) (rest := []) (c_X6_secretOf l g M x y (by omega) (by omega) (show 0 ≤ (M 33 x) ∧ (M 33 x) < 1000 from by omega) (show 0 ≤ (M 33 y) ∧ (M 33 y) < 1000 from by omega)) (cwV 2 hts gX6_either_X6_secretOf rfl rfl rfl (by decide +kernel) ⟨Nat.le_of_ble_eq_true rfl, Nat.le_of_ble_eq_true rfl⟩) (by decide) rfl rfl rfl hl.1 rfl (Nat.le_of_ble_eq_true rfl) dX6_either_27 ⟨Nat.zero_le _, Nat.zero_le _⟩ (k_I (fun H locs hI => ?_))
      have ff_1 := @xorI_b ((M 33 x) % 10) ((M 33 y) % 10) (by omega) (by omega)
      refine r_nm (fun x_1 ex_1 => ?_)
      refine lv_istore_n (lv' := [(3, .int (iI x_1)), (0, .ref (gA g 0)), (1, .int (iI x)), (2, .int (iI y))]) hx hb dX6_either_30 rfl hl (by decide) rfl (fun ls hl => ?_)
      refine lv_aload_n hx hb dX6_either_31 rfl (lv_at hl 1 rfl) ?_
      refine r_get C hI 0 (by decide) rfl rfl hin6 2 (by decide) (fn := "now") (fd := "LGloveReply$Moment;") (index := 26) (by decide +kernel) ⟨rfl, rfl, rfl⟩ (v := .ref (gA g 32)) rfl dX6_either_32 ?_
      refine lv_iload_n hx hb dX6_either_35 rfl (lv_at hl 2 rfl) ?_
      refine r_iv C hI (As := [.int (iI x)]) (rest := []) (c_X2_keptBy l g M 32 x (by decide) (by omega)) (cwV 1 hts gX6_either_X2_keptBy rfl rfl rfl (by decide +kernel) ⟨Nat.le_of_ble_eq_true rfl, Nat.le_of_ble_eq_true rfl⟩) (by decide) (ceMo (show isMo 32 from by decide) _) rfl rfl hl.1 rfl (Nat.le_of_ble_eq_true rfl) dX6_either_36 ⟨Nat.zero_le _, Nat.zero_le _⟩ (k_I (fun H locs hI => ?_))
      refine r_eqI (z2 := M 33 x) rfl ?_
      refine r_is C hI (As := [.int (iI (M 33 x))]) (rest := []) (c_X6_lastOf l g M (M 33 x) (by omega)) (va_cwS 1 hts gX6_either_X6_lastOf rfl rfl rfl (by decide +kernel) ⟨Nat.le_of_ble_eq_true rfl, Nat.le_of_ble_eq_true rfl⟩) rfl hl.1 rfl (Nat.le_of_ble_eq_true rfl) dX6_either_39 ⟨Nat.zero_le _, Nat.zero_le _⟩ (k_I (fun H locs hI => ?_))
      refine lv_iload_n hx hb dX6_either_42 rfl (lv_at hl 0 rfl) ?_
      refine r_icmp_eq hx hb (tgt := 61) (by omega) (by omega) dX6_either_43 (by decide) (fun c_3 => ?_) (fun c_3 => ?_)
      · refine lv_iconst (v := iI 1) hx hb dX6_either_61 rfl ?_
        refine lv_goto (tgt := 66) hx hb dX6_either_62 (by decide) ?_
        refine lv_istore (lv' := [(4, .int (iI 1)), (3, .int (iI x_1)), (0, .ref (gA g 0)), (1, .int (iI x)), (2, .int (iI y))]) hx hb dX6_either_66 hl (by decide) rfl (fun ls hl => ?_)
        refine lv_iload hx hb dX6_either_68 (lv_at hl 0 rfl) ?_
        refine r_if_eq hx hb (tgt := 77) (by decide) dX6_either_70 (by decide) (fun c => absurd c (by decide)) (fun c_4 => ?_)
        refine lv_iconst (v := iI 1) hx hb dX6_either_73 rfl ?_
        refine lv_goto (tgt := 78) hx hb dX6_either_74 (by decide) ?_
        refine r_iret C hr hlk hI ?_ dX6_either_78
        exact ⟨congrArg (fun q => some (Value.int (iI q))) (show 1 = zEit (M) x y from by unfold zEit; (repeat' split) <;> first | rfl | omega | (simp_all; done) | (simp_all; omega)), rfl⟩
      · refine lv_aload_n hx hb dX6_either_46 rfl (lv_at hl 1 rfl) ?_
        refine r_get C hI 0 (by decide) rfl rfl hin6 2 (by decide) (fn := "now") (fd := "LGloveReply$Moment;") (index := 26) (by decide +kernel) ⟨rfl, rfl, rfl⟩ (v := .ref (gA g 32)) rfl dX6_either_47 ?_
        refine lv_iload_n hx hb dX6_either_50 rfl (lv_at hl 3 rfl) ?_
        refine r_iv C hI (As := [.int (iI y)]) (rest := []) (c_X2_keptBy l g M 32 y (by decide) (by omega)) (cwV 1 hts gX6_either_X2_keptBy rfl rfl rfl (by decide +kernel) ⟨Nat.le_of_ble_eq_true rfl, Nat.le_of_ble_eq_true rfl⟩) (by decide) (ceMo (show isMo 32 from by decide) _) rfl rfl hl.1 rfl (Nat.le_of_ble_eq_true rfl) dX6_either_51 ⟨Nat.zero_le _, Nat.zero_le _⟩ (k_I (fun H locs hI => ?_))
        refine r_eqI (z2 := M 33 y) rfl ?_
        refine r_is C hI (As := [.int (iI (M 33 y))]) (rest := []) (c_X6_lastOf l g M (M 33 y) (by omega)) (va_cwS 1 hts gX6_either_X6_lastOf rfl rfl rfl (by decide +kernel) ⟨Nat.le_of_ble_eq_true rfl, Nat.le_of_ble_eq_true rfl⟩) rfl hl.1 rfl (Nat.le_of_ble_eq_true rfl) dX6_either_54 ⟨Nat.zero_le _, Nat.zero_le _⟩ (k_I (fun H locs hI => ?_))
        refine lv_iload_n hx hb dX6_either_57 rfl (lv_at hl 0 rfl) ?_
        refine r_icmp_ne hx hb (tgt := 65) (by omega) (by omega) dX6_either_58 (by decide) (fun c_5 => ?_) (fun c_5 => ?_)
        · refine lv_iconst (v := iI 0) hx hb dX6_either_65 rfl ?_
          refine lv_istore (lv' := [(4, .int (iI 0)), (3, .int (iI x_1)), (0, .ref (gA g 0)), (1, .int (iI x)), (2, .int (iI y))]) hx hb dX6_either_66 hl (by decide) rfl (fun ls hl => ?_)
          refine lv_iload hx hb dX6_either_68 (lv_at hl 0 rfl) ?_
          refine r_if_eq hx hb (tgt := 77) (by decide) dX6_either_70 (by decide) (fun c_6 => ?_) (fun c => absurd c (by decide))
          refine lv_iconst (v := iI 0) hx hb dX6_either_77 rfl ?_
          refine r_iret C hr hlk hI ?_ dX6_either_78
          exact ⟨congrArg (fun q => some (Value.int (iI q))) (show 0 = zEit (M) x y from by unfold zEit; (repeat' split) <;> first | rfl | omega | (simp_all; done) | (simp_all; omega)), rfl⟩
        · refine lv_iconst (v := iI 1) hx hb dX6_either_61 rfl ?_
          refine lv_goto (tgt := 66) hx hb dX6_either_62 (by decide) ?_
          refine lv_istore (lv' := [(4, .int (iI 1)), (3, .int (iI x_1)), (0, .ref (gA g 0)), (1, .int (iI x)), (2, .int (iI y))]) hx hb dX6_either_66 hl (by decide) rfl (fun ls hl => ?_)
          refine lv_iload hx hb dX6_either_68 (lv_at hl 0 rfl) ?_
          refine r_if_eq hx hb (tgt := 77) (by decide) dX6_either_70 (by decide) (fun c => absurd c (by decide)) (fun c_7 => ?_)
          refine lv_iconst (v := iI 1) hx hb dX6_either_73 rfl ?_
          refine lv_goto (tgt := 78) hx hb dX6_either_74 (by decide) ?_
          refine r_iret C hr hlk hI ?_ dX6_either_78
          exact ⟨congrArg (fun q => some (Value.int (iI q))) (show 1 = zEit (M) x y from by unfold zEit; (repeat' split) <;> first | rfl | omega | (simp_all; done) | (simp_all; omega)), rfl⟩
    · refine lv_iconst (v := iI (-1)) hx hb dX6_either_22 rfl ?_
      refine r_iret C hr hlk hI ?_ dX6_either_23
      exact ⟨congrArg (fun q => some (Value.int (iI q))) (show (-1) = zEit (M) x y from by unfold zEit; (repeat' split) <;> first | rfl | omega | (simp_all; done) | (simp_all; omega)), rfl⟩
set_option maxHeartbeats 4000000 in
set_option maxRecDepth 100000 in
theorem c_X6_see (l : Launch) (g : GT) (M : Mem) (x : Int) (y : Int) (dd : Int) (wf : WF M) (h_x : -2147483648 ≤ x ∧ x < 2147483648) (h_y : -2147483648 ≤ y ∧ y < 2147483648) (h_dd : -2147483648 ≤ dd ∧ dd < 2147483648) : Ctr l g yX6_see wsX6_see ({ frames := 2, cells := 0, slots := 0, locals := 45 } : Room) [.ref (gA g 0), .int (iI x), .int (iI y), .int (iI dd)] M (pI (zSee (M) x y dd) (gSee M x y dd)) := by
  refine Ctr.mk (cc := cX6_see) (maxL := 4) (ret := some .int) (lv := [(0, .ref (gA g 0)), (1, .int (iI x)), (2, .int (iI y)), (3, .int (iI dd))]) (by decide) rfl (Nat.le_of_ble_eq_true rfl) rfl ?_
  intro p e s m below meth c C hr hlk hI ls hl
  have C : CallFix p m c cX6_see 4 s ([.ref (gA g 0), .int (iI x), .int (iI y), .int (iI dd)] : List Value).toArray wsX6_see RX6 := C
  have hx := C.1
  have hb := C.2.1
  have hts := C.2.2.2.2
  have hin6 : ∀ w ∈ u_ws RX6 TX6 9, w ∈ wsX6_see := by decide +kernel
  have wf0 := wf
  obtain ⟨w_txt, hL, w_cnt, w_per, w_glo, w_now, w_act, w_rng, w_slo, w_see, w_sa⟩ := wf
  have w_gx := w_glo x
  have w_nx := w_now.1 x
  have w_hw := WF_hw w_now (by omega)
  have w_nx : 0 ≤ x ∧ x < 4 → (0 ≤ M 33 x ∧ M 33 x < 1000) ∧ (M 34 x = -9 ∨ (0 ≤ M 34 x ∧ M 34 x < M 3 6 ∧ x < M 3 7)) ∧ (x < M 3 7 → KOK (M 33 x) (M 7 x)) := w_nx
  refine lv_aload_n hx hb dX6_see_0 rfl (lv_at hl 0 rfl) ?_
  refine r_get C hI 0 (by decide) rfl rfl hin6 1 (by decide) (fn := "theDesk") (fd := "LGloveReply$Desk;") (index := 19) (by decide +kernel) ⟨rfl, rfl, rfl⟩ (v := .ref (gA g 3)) rfl dX6_see_1 ?_
  refine lv_iload_n hx hb dX6_see_4 rfl (lv_at hl 1 rfl) ?_
  refine r_iv C hI (As := [.int (iI x)]) (rest := []) (c_X1_hasGlove l g M x (by omega) (show -2147483648 ≤ (M 3 7) ∧ (M 3 7) < 2147483648 from by omega)) (cwV 1 hts gX6_see_X1_hasGlove rfl rfl rfl (by decide +kernel) ⟨Nat.le_of_ble_eq_true rfl, Nat.le_of_ble_eq_true rfl⟩) (by decide) rfl rfl rfl hl.1 rfl (Nat.le_of_ble_eq_true rfl) dX6_see_5 ⟨Nat.zero_le _, Nat.zero_le _⟩ (k_I (fun H locs hI => ?_))
  refine r_b_eq hx hb (tgt := 22) dX6_see_8 (by decide) (fun c_1 => ?_) (fun c_1 => ?_)
  · refine lv_iconst (v := iI (-1)) hx hb dX6_see_22 rfl ?_
    refine r_iret C hr hlk hI ?_ dX6_see_23
    exact ⟨congrArg (fun q => some (Value.int (iI q))) (show (-1) = zSee (M) x y dd from by unfold zSee; (repeat' split) <;> first | rfl | omega | (simp_all; done) | (simp_all; omega)), (show M = gSee M x y dd from by unfold gSee; (repeat' split) <;> first | rfl | (exfalso; omega))⟩
  · refine lv_aload_n hx hb dX6_see_11 rfl (lv_at hl 0 rfl) ?_
    refine r_get C hI 0 (by decide) rfl rfl hin6 1 (by decide) (fn := "theDesk") (fd := "LGloveReply$Desk;") (index := 19) (by decide +kernel) ⟨rfl, rfl, rfl⟩ (v := .ref (gA g 3)) rfl dX6_see_12 ?_
    refine lv_iload_n hx hb dX6_see_15 rfl (lv_at hl 2 rfl) ?_
    refine r_iv C hI (As := [.int (iI y)]) (rest := []) (c_X1_hasPerson l g M y (by omega) (show -2147483648 ≤ (M 3 6) ∧ (M 3 6) < 2147483648 from by omega)) (cwV 1 hts gX6_see_X1_hasPerson rfl rfl rfl (by decide +kernel) ⟨Nat.le_of_ble_eq_true rfl, Nat.le_of_ble_eq_true rfl⟩) (by decide) rfl rfl rfl hl.1 rfl (Nat.le_of_ble_eq_true rfl) dX6_see_16 ⟨Nat.zero_le _, Nat.zero_le _⟩ (k_I (fun H locs hI => ?_))
    refine r_b_ne hx hb (tgt := 24) dX6_see_19 (by decide) (fun c_2 => ?_) (fun c_2 => ?_)
    · refine lv_iload_n hx hb dX6_see_24 rfl (lv_at hl 3 rfl) ?_
      refine lv_iconst (v := iI 0) hx hb dX6_see_25 rfl ?_
      refine lv_bipush (v := iI 7) hx hb dX6_see_26 (by decide +kernel) ?_
      refine r_is C hI (As := [.int (iI dd), .int (iI 0), .int (iI 7)]) (rest := []) (c_X6_within l g M dd 0 7 (by omega) (by omega) (by omega)) (va_cwS 3 hts gX6_see_X6_within rfl rfl rfl (by decide +kernel) ⟨Nat.le_of_ble_eq_true rfl, Nat.le_of_ble_eq_true rfl⟩) rfl hl.1 rfl (Nat.le_of_ble_eq_true rfl) dX6_see_28 ⟨Nat.zero_le _, Nat.zero_le _⟩ (k_I (fun H locs hI => ?_))
      refine r_b_ne hx hb (tgt := 37) dX6_see_31 (by decide) (fun c_3 => ?_) (fun c_3 => ?_)
      · refine lv_aload_n hx hb dX6_see_37 rfl (lv_at hl 0 rfl) ?_
        refine r_get C hI 0 (by decide) rfl rfl hin6 5 (by decide) (fn := "sightings") (fd := "LGloveReply$Sightings;") (index := 43) (by decide +kernel) ⟨rfl, rfl, rfl⟩ (v := .ref (gA g 10)) rfl dX6_see_38 ?_
        refine r_iv C hI (As := []) (rest := []) (c_X3_size l g M) (cwV 0 hts gX6_see_X3_size rfl rfl rfl (by decide +kernel) ⟨Nat.le_of_ble_eq_true rfl, Nat.le_of_ble_eq_true rfl⟩) (by decide) rfl rfl rfl hl.1 rfl (Nat.le_of_ble_eq_true rfl) dX6_see_41 ⟨Nat.zero_le _, Nat.zero_le _⟩ (k_I (fun H locs hI => ?_))
        refine lv_iconst (v := iI 4) hx hb dX6_see_44 rfl ?_
        refine r_icmp_lt hx hb (tgt := 51) (by omega) (by decide) dX6_see_45 (by decide) (fun c_4 => ?_) (fun c_4 => ?_)
        · refine lv_aload_n hx hb dX6_see_51 rfl (lv_at hl 0 rfl) ?_
          refine r_get C hI 0 (by decide) rfl rfl hin6 5 (by decide) (fn := "sightings") (fd := "LGloveReply$Sightings;") (index := 43) (by decide +kernel) ⟨rfl, rfl, rfl⟩ (v := .ref (gA g 10)) rfl dX6_see_52 ?_
          refine lv_iload_n hx hb dX6_see_55 rfl (lv_at hl 1 rfl) ?_
          refine lv_iload_n hx hb dX6_see_56 rfl (lv_at hl 2 rfl) ?_
          refine lv_iload_n hx hb dX6_see_57 rfl (lv_at hl 3 rfl) ?_
          refine r_iv C hI (As := [.int (iI x), .int (iI y), .int (iI dd)]) (rest := []) (c_X3_add l g M x y dd (show 0 ≤ (M 10 3) ∧ (M 10 3) < 4 from by omega)) (cwV 3 hts gX6_see_X3_add rfl rfl rfl (by decide +kernel) ⟨Nat.le_of_ble_eq_true rfl, Nat.le_of_ble_eq_true rfl⟩) (by decide) rfl rfl rfl hl.1 rfl (Nat.le_of_ble_eq_true rfl) dX6_see_58 ⟨Nat.zero_le _, Nat.zero_le _⟩ (k_V (fun H locs hI => ?_))
          refine lv_aload_n hx hb dX6_see_61 rfl (lv_at hl 0 rfl) ?_
          refine r_get C hI 0 (by decide) rfl rfl hin6 5 (by decide) (fn := "sightings") (fd := "LGloveReply$Sightings;") (index := 43) (by decide +kernel) ⟨rfl, rfl, rfl⟩ (v := .ref (gA g 10)) rfl dX6_see_62 ?_
          refine r_iv C hI (As := []) (rest := []) (c_X3_size l g (mset (mset (mset (mset M 11 (M 10 3) x) 12 (M 10 3) y) 13 (M 10 3) dd) 10 3 ((M 10 3) + 1))) (cwV 0 hts gX6_see_X3_size rfl rfl rfl (by decide +kernel) ⟨Nat.le_of_ble_eq_true rfl, Nat.le_of_ble_eq_true rfl⟩) (by decide) rfl rfl rfl hl.1 rfl (Nat.le_of_ble_eq_true rfl) dX6_see_65 ⟨Nat.zero_le _, Nat.zero_le _⟩ (k_I (fun H locs hI => ?_))
          refine r_eqI (z2 := ((M 10 3) + 1)) rfl ?_
          refine r_iret C hr hlk hI ?_ dX6_see_68
          exact ⟨congrArg (fun q => some (Value.int (iI q))) (show ((M 10 3) + 1) = zSee (M) x y dd from by unfold zSee; (repeat' split) <;> first | rfl | omega | (simp_all; done) | (simp_all; omega)), (show mset (mset (mset (mset M 11 (M 10 3) x) 12 (M 10 3) y) 13 (M 10 3) dd) 10 3 ((M 10 3) + 1) = gSee M x y dd from by unfold gSee; (repeat' split) <;> first | rfl | (exfalso; omega))⟩
        · refine lv_bipush (v := iI (-4)) hx hb dX6_see_48 (by decide +kernel) ?_
          refine r_iret C hr hlk hI ?_ dX6_see_50
          exact ⟨congrArg (fun q => some (Value.int (iI q))) (show (-4) = zSee (M) x y dd from by unfold zSee; (repeat' split) <;> first | rfl | omega | (simp_all; done) | (simp_all; omega)), (show M = gSee M x y dd from by unfold gSee; (repeat' split) <;> first | rfl | (exfalso; omega))⟩
      · refine lv_bipush (v := iI (-2)) hx hb dX6_see_34 (by decide +kernel) ?_
        refine r_iret C hr hlk hI ?_ dX6_see_36
        exact ⟨congrArg (fun q => some (Value.int (iI q))) (show (-2) = zSee (M) x y dd from by unfold zSee; (repeat' split) <;> first | rfl | omega | (simp_all; done) | (simp_all; omega)), (show M = gSee M x y dd from by unfold gSee; (repeat' split) <;> first | rfl | (exfalso; omega))⟩
    · refine lv_iconst (v := iI (-1)) hx hb dX6_see_22 rfl ?_
      refine r_iret C hr hlk hI ?_ dX6_see_23
      exact ⟨congrArg (fun q => some (Value.int (iI q))) (show (-1) = zSee (M) x y dd from by unfold zSee; (repeat' split) <;> first | rfl | omega | (simp_all; done) | (simp_all; omega)), (show M = gSee M x y dd from by unfold gSee; (repeat' split) <;> first | rfl | (exfalso; omega))⟩
set_option maxHeartbeats 4000000 in
set_option maxRecDepth 100000 in
theorem c_X6_unsee (l : Launch) (g : GT) (M : Mem) (wf : WF M) : Ctr l g yX6_unsee wsX6_unsee ({ frames := 1, cells := 0, slots := 0, locals := 20 } : Room) [.ref (gA g 0)] M (pI (zUns (M)) (gUns M)) := by
  refine Ctr.mk (cc := cX6_unsee) (maxL := 2) (ret := some .int) (lv := [(0, .ref (gA g 0))]) (by decide) rfl (Nat.le_of_ble_eq_true rfl) rfl ?_
  intro p e s m below meth c C hr hlk hI ls hl
  have C : CallFix p m c cX6_unsee 2 s ([.ref (gA g 0)] : List Value).toArray wsX6_unsee RX6 := C
  have hx := C.1
  have hb := C.2.1
  have hts := C.2.2.2.2
  have hin6 : ∀ w ∈ u_ws RX6 TX6 9, w ∈ wsX6_unsee := by decide +kernel
  have wf0 := wf
  obtain ⟨w_txt, hL, w_cnt, w_per, w_glo, w_now, w_act, w_rng, w_slo, w_see, w_sa⟩ := wf
  refine lv_aload_n hx hb dX6_unsee_0 rfl (lv_at hl 0 rfl) ?_
  refine r_get C hI 0 (by decide) rfl rfl hin6 5 (by decide) (fn := "sightings") (fd := "LGloveReply$Sightings;") (index := 43) (by decide +kernel) ⟨rfl, rfl, rfl⟩ (v := .ref (gA g 10)) rfl dX6_unsee_1 ?_
  refine r_iv C hI (As := []) (rest := []) (c_X3_size l g M) (cwV 0 hts gX6_unsee_X3_size rfl rfl rfl (by decide +kernel) ⟨Nat.le_of_ble_eq_true rfl, Nat.le_of_ble_eq_true rfl⟩) (by decide) rfl rfl rfl hl.1 rfl (Nat.le_of_ble_eq_true rfl) dX6_unsee_4 ⟨Nat.zero_le _, Nat.zero_le _⟩ (k_I (fun H locs hI => ?_))
  refine lv_istore_n (lv' := [(1, .int (iI (M 10 3))), (0, .ref (gA g 0))]) hx hb dX6_unsee_7 rfl hl (by decide) rfl (fun ls hl => ?_)
  refine lv_aload_n hx hb dX6_unsee_8 rfl (lv_at hl 1 rfl) ?_
  refine r_get C hI 0 (by decide) rfl rfl hin6 5 (by decide) (fn := "sightings") (fd := "LGloveReply$Sightings;") (index := 43) (by decide +kernel) ⟨rfl, rfl, rfl⟩ (v := .ref (gA g 10)) rfl dX6_unsee_9 ?_
  refine r_iv C hI (As := []) (rest := []) (c_X3_clear l g M) (cwV 0 hts gX6_unsee_X3_clear rfl rfl rfl (by decide +kernel) ⟨Nat.le_of_ble_eq_true rfl, Nat.le_of_ble_eq_true rfl⟩) (by decide) rfl rfl rfl hl.1 rfl (Nat.le_of_ble_eq_true rfl) dX6_unsee_12 ⟨Nat.zero_le _, Nat.zero_le _⟩ (k_V (fun H locs hI => ?_))
  refine lv_iload_n hx hb dX6_unsee_15 rfl (lv_at hl 0 rfl) ?_
  refine r_iret C hr hlk hI ?_ dX6_unsee_16
  exact ⟨congrArg (fun q => some (Value.int (iI q))) (show M 10 3 = zUns (M)  from by unfold zUns; (repeat' split) <;> first | rfl | omega | (simp_all; done) | (simp_all; omega)), (show mset M 10 3 0 = gUns M  from by unfold gUns; (repeat' split) <;> first | rfl | (exfalso; omega))⟩
set_option maxHeartbeats 4000000 in
set_option maxRecDepth 100000 in
theorem c_X6_seed (l : Launch) (g : GT) (M : Mem) (vv : Int) : Ctr l g yX6_seed wsX6_seed ({ frames := 0, cells := 0, slots := 0, locals := 0 } : Room) [.ref (gA g 0), .long (iL vv)] M (pL (M 0 8) (mset M 0 8 vv)) := by
  refine Ctr.mk (cc := cX6_seed) (maxL := 5) (ret := some .long) (lv := [(0, .ref (gA g 0)), (1, .long (iL vv))]) (by decide) rfl (Nat.le_of_ble_eq_true rfl) rfl ?_
  intro p e s m below meth c C hr hlk hI ls hl
  have C : CallFix p m c cX6_seed 5 s ([.ref (gA g 0), .long (iL vv)] : List Value).toArray wsX6_seed RX6 := C
  have hx := C.1
  have hb := C.2.1
  have hts := C.2.2.2.2
  have hin6 : ∀ w ∈ u_ws RX6 TX6 9, w ∈ wsX6_seed := by decide +kernel
  refine lv_aload_n hx hb dX6_seed_0 rfl (lv_at hl 0 rfl) ?_
  refine r_get C hI 0 (by decide) rfl rfl hin6 8 (by decide) (fn := "theSeed") (fd := "J") (index := 58) (by decide +kernel) ⟨rfl, rfl, rfl⟩ (v := .long (iL (M 0 8))) rfl dX6_seed_1 ?_
  refine lv_lstore_n (lv' := [(3, .long (iL (M 0 8))), (0, .ref (gA g 0)), (1, .long (iL vv))]) hx hb dX6_seed_4 rfl hl (by decide) rfl (fun ls hl => ?_)
  refine lv_aload_n hx hb dX6_seed_5 rfl (lv_at hl 1 rfl) ?_
  refine lv_lload_n hx hb dX6_seed_6 rfl (lv_at hl 2 rfl) ?_
  refine r_put C hI 0 (by decide) rfl rfl tyX6 tyX6_ok nmX6 hin6 8 (by decide) (fn := "theSeed") (fd := "J") (index := 58) (by decide +kernel) ⟨rfl, rfl, rfl⟩ rfl (z := vv) rfl rfl (Nat.le_of_ble_eq_true rfl) rfl dX6_seed_7 (fun H locs hI => ?_)
  refine lv_lload_n hx hb dX6_seed_10 rfl (lv_at hl 0 rfl) ?_
  refine r_lret C hr hlk hI ?_ dX6_seed_11
  exact ⟨congrArg (fun q => some (Value.long (iL q))) (show M 0 8 = M 0 8 from by first | rfl | omega), (show mset M 0 8 vv = mset M 0 8 vv from by rfl)⟩
set_option maxHeartbeats 4000000 in
set_option maxRecDepth 100000 in
theorem c_X6_desk (l : Launch) (g : GT) (M : Mem) (wf : WF M) : Ctr l g yX6_desk wsX6_desk ({ frames := 4, cells := 0, slots := 0, locals := 92 } : Room) [.ref (gA g 0)] M (pI (zDsk (M)) (gDsk M)) := by
  refine Ctr.mk (cc := cX6_desk) (maxL := 1) (ret := some .int) (lv := [(0, .ref (gA g 0))]) (by decide) rfl (Nat.le_of_ble_eq_true rfl) rfl ?_
  intro p e s m below meth c C hr hlk hI ls hl
  have C : CallFix p m c cX6_desk 1 s ([.ref (gA g 0)] : List Value).toArray wsX6_desk RX6 := C
  have hx := C.1
  have hb := C.2.1
  have hts := C.2.2.2.2
  have hin6 : ∀ w ∈ u_ws RX6 TX6 9, w ∈ wsX6_desk := by decide +kernel
  have wf0 := wf
  obtain ⟨w_txt, hL, w_cnt, w_per, w_glo, w_now, w_act, w_rng, w_slo, w_see, w_sa⟩ := wf
  have ffb := ffO_b (M 2) (M 1 1).toNat 0
  have ffk := ffO_ok (r := M 2) (M 1 1).toNat 0 (by omega)
  refine lv_aload_n hx hb dX6_desk_0 rfl (lv_at hl 0 rfl) ?_
  refine r_get C hI 0 (by decide) rfl rfl hin6 0 (by decide) (fn := "theText") (fd := "LGloveReply$Text;") (index := 10) (by decide +kernel) ⟨rfl, rfl, rfl⟩ (v := .ref (gA g 1)) rfl dX6_desk_1 ?_
  refine r_iv C hI (As := []) (rest := []) (c_X5_firstFault l g M (show 0 ≤ (M 1 1) ∧ (M 1 1) ≤ 40 from by omega) hL) (cwV 0 hts gX6_desk_X5_firstFault rfl rfl rfl (by decide +kernel) ⟨Nat.le_of_ble_eq_true rfl, Nat.le_of_ble_eq_true rfl⟩) (by decide) rfl rfl rfl hl.1 rfl (Nat.le_of_ble_eq_true rfl) dX6_desk_4 ⟨Nat.zero_le _, Nat.zero_le _⟩ (k_I (fun H locs hI => ?_))
  refine lv_bipush (v := iI (-9)) hx hb dX6_desk_7 (by decide +kernel) ?_
  refine r_icmp_eq hx hb (tgt := 15) (by omega) (by decide) dX6_desk_9 (by decide) (fun c_1 => ?_) (fun c_1 => ?_)
  · have flt : fltO M = -9 := by assumption
    have fk := ffk flt
    have hq9 : M 1 1 = 1 + 4 * (nParts M : Int) ∧ nParts M < 10 := by unfold nParts; omega
    have hfj : ∀ j : Nat, j < nParts M → (M 2 (1 + 4 * (j : Int)) = 80 ∧ cntP (M 2) 80 j < 5) ∨ (M 2 (1 + 4 * (j : Int)) = 76 ∧ cntP (M 2) 76 j < 4) := fun j hj => fit_part (fk.1 _ (by omega))
    refine lv_aload_n hx hb dX6_desk_15 rfl (lv_at hl 0 rfl) ?_
    refine r_get C hI 0 (by decide) rfl rfl hin6 1 (by decide) (fn := "theDesk") (fd := "LGloveReply$Desk;") (index := 19) (by decide +kernel) ⟨rfl, rfl, rfl⟩ (v := .ref (gA g 3)) rfl dX6_desk_16 ?_
    refine lv_aload_n hx hb dX6_desk_19 rfl (lv_at hl 0 rfl) ?_
    refine r_get C hI 0 (by decide) rfl rfl hin6 0 (by decide) (fn := "theText") (fd := "LGloveReply$Text;") (index := 10) (by decide +kernel) ⟨rfl, rfl, rfl⟩ (v := .ref (gA g 1)) rfl dX6_desk_20 ?_
    refine r_iv C hI (As := [.ref (gA g 1)]) (rest := []) (c_X1_read l g M (nParts M) hq9 hfj hL) (cwV 1 hts gX6_desk_X1_read rfl rfl rfl (by decide +kernel) ⟨Nat.le_of_ble_eq_true rfl, Nat.le_of_ble_eq_true rfl⟩) (by decide) rfl rfl rfl hl.1 rfl (Nat.le_of_ble_eq_true rfl) dX6_desk_23 ⟨Nat.zero_le _, Nat.zero_le _⟩ (k_V (fun H locs hI => ?_))
    have r3 := rdM_3 M (nParts M) (fun j hj => (hfj j hj).imp And.left And.left)
    have r80 := cntP_R (M 2) 80 (nParts M)
    have r76 := cntP_R (M 2) 76 (nParts M)
    refine lv_aload_n hx hb dX6_desk_26 rfl (lv_at hl 0 rfl) ?_
    refine r_get C hI 0 (by decide) rfl rfl hin6 2 (by decide) (fn := "now") (fd := "LGloveReply$Moment;") (index := 26) (by decide +kernel) ⟨rfl, rfl, rfl⟩ (v := .ref (gA g 32)) rfl dX6_desk_27 ?_
    refine lv_aload_n hx hb dX6_desk_30 rfl (lv_at hl 0 rfl) ?_
    refine r_get C hI 0 (by decide) rfl rfl hin6 1 (by decide) (fn := "theDesk") (fd := "LGloveReply$Desk;") (index := 19) (by decide +kernel) ⟨rfl, rfl, rfl⟩ (v := .ref (gA g 3)) rfl dX6_desk_31 ?_
    refine r_iv C hI (As := [.ref (gA g 3)]) (rest := []) (c_X2_start l g (rdM M (nParts M)) (show -2147483648 ≤ ((rdM M (nParts M)) 3 7) ∧ ((rdM M (nParts M)) 3 7) < 2147483648 from by omega)) (cwV 1 hts gX6_desk_X2_start rfl rfl rfl (by decide +kernel) ⟨Nat.le_of_ble_eq_true rfl, Nat.le_of_ble_eq_true rfl⟩) (by decide) (ceMo (show isMo 32 from by decide) _) rfl rfl hl.1 rfl (Nat.le_of_ble_eq_true rfl) dX6_desk_34 ⟨Nat.zero_le _, Nat.zero_le _⟩ (k_V (fun H locs hI => ?_))
    refine lv_aload_n hx hb dX6_desk_37 rfl (lv_at hl 0 rfl) ?_
    refine r_get C hI 0 (by decide) rfl rfl hin6 4 (by decide) (fn := "acts") (fd := "LGloveReply$Acts;") (index := 36) (by decide +kernel) ⟨rfl, rfl, rfl⟩ (v := .ref (gA g 15)) rfl dX6_desk_38 ?_
    refine r_iv C hI (As := []) (rest := []) (c_X0_clear l g (sttM (rdM M (nParts M)) 32)) (cwV 0 hts gX6_desk_X0_clear rfl rfl rfl (by decide +kernel) ⟨Nat.le_of_ble_eq_true rfl, Nat.le_of_ble_eq_true rfl⟩) (by decide) rfl rfl rfl hl.1 rfl (Nat.le_of_ble_eq_true rfl) dX6_desk_41 ⟨Nat.zero_le _, Nat.zero_le _⟩ (k_V (fun H locs hI => ?_))
    refine lv_aload_n hx hb dX6_desk_44 rfl (lv_at hl 0 rfl) ?_
    refine r_iv C hI (As := []) (rest := []) (c_X6_forgetSlots l g (mset (sttM (rdM M (nParts M)) 32) 15 2 0)) (cwV 0 hts gX6_desk_X6_forgetSlots rfl rfl rfl (by decide +kernel) ⟨Nat.le_of_ble_eq_true rfl, Nat.le_of_ble_eq_true rfl⟩) (by decide) rfl rfl rfl hl.1 rfl (Nat.le_of_ble_eq_true rfl) dX6_desk_45 ⟨Nat.zero_le _, Nat.zero_le _⟩ (k_V (fun H locs hI => ?_))
    refine lv_bipush (v := iI 10) hx hb dX6_desk_48 (by decide +kernel) ?_
    refine lv_aload_n hx hb dX6_desk_50 rfl (lv_at hl 0 rfl) ?_
    refine r_get C hI 0 (by decide) rfl rfl hin6 1 (by decide) (fn := "theDesk") (fd := "LGloveReply$Desk;") (index := 19) (by decide +kernel) ⟨rfl, rfl, rfl⟩ (v := .ref (gA g 3)) rfl dX6_desk_51 ?_
    refine r_iv C hI (As := []) (rest := [.int (iI 10)]) (c_X1_people l g (mset (mset (mset (sttM (rdM M (nParts M)) 32) 15 2 0) 80 3 0) 83 3 0)) (cwV 0 hts gX6_desk_X1_people rfl rfl rfl (by decide +kernel) ⟨Nat.le_of_ble_eq_true rfl, Nat.le_of_ble_eq_true rfl⟩) (by decide) rfl rfl rfl hl.1 rfl (Nat.le_of_ble_eq_true rfl) dX6_desk_54 ⟨Nat.zero_le _, Nat.zero_le _⟩ (k_I (fun H locs hI => ?_))
    refine r_eqI (z2 := (sttM (rdM M (nParts M)) 32) 3 6) rfl ?_
    refine r_imul hx hb dX6_desk_57 ?_
    refine lv_aload_n hx hb dX6_desk_58 rfl (lv_at hl 0 rfl) ?_
    refine r_get C hI 0 (by decide) rfl rfl hin6 1 (by decide) (fn := "theDesk") (fd := "LGloveReply$Desk;") (index := 19) (by decide +kernel) ⟨rfl, rfl, rfl⟩ (v := .ref (gA g 3)) rfl dX6_desk_59 ?_
    refine r_iv C hI (As := []) (rest := [.int (iI (10 * ((sttM (rdM M (nParts M)) 32) 3 6)))]) (c_X1_gloves l g (mset (mset (mset (sttM (rdM M (nParts M)) 32) 15 2 0) 80 3 0) 83 3 0)) (cwV 0 hts gX6_desk_X1_gloves rfl rfl rfl (by decide +kernel) ⟨Nat.le_of_ble_eq_true rfl, Nat.le_of_ble_eq_true rfl⟩) (by decide) rfl rfl rfl hl.1 rfl (Nat.le_of_ble_eq_true rfl) dX6_desk_62 ⟨Nat.zero_le _, Nat.zero_le _⟩ (k_I (fun H locs hI => ?_))
    refine r_eqI (z2 := (sttM (rdM M (nParts M)) 32) 3 7) rfl ?_
    refine r_iadd hx hb dX6_desk_65 ?_
    refine r_iret C hr hlk hI ?_ dX6_desk_66
    exact ⟨congrArg (fun q => some (Value.int (iI q))) (show (10 * ((sttM (rdM M (nParts M)) 32) 3 6)) + ((sttM (rdM M (nParts M)) 32) 3 7) = zDsk (M)  from by unfold zDsk fltO; (repeat' split) <;> first | rfl | omega), (show mset (mset (mset (sttM (rdM M (nParts M)) 32) 15 2 0) 80 3 0) 83 3 0 = gDsk M  from by unfold gDsk fltO; (repeat' split) <;> first | rfl | (exfalso; omega))⟩
  · refine lv_bipush (v := iI (-3)) hx hb dX6_desk_12 (by decide +kernel) ?_
    refine r_iret C hr hlk hI ?_ dX6_desk_14
    exact ⟨congrArg (fun q => some (Value.int (iI q))) (show (-3) = zDsk (M)  from by unfold zDsk fltO; (repeat' split) <;> first | rfl | omega), (show M = gDsk M  from by unfold gDsk fltO; (repeat' split) <;> first | rfl | (exfalso; omega))⟩
