/-! a row of n hands, by the figures from the last one on -/
def irD (P : Int) : Nat → Int → Bool
  | 0, r => decide (r = 0)
  | n + 1, r => decide (1 ≤ r % 10 ∧ r % 10 ≤ P) && irD P n (r / 10)
theorem irO_E {P : Int} : ∀ {n : Nat} {r : Int}, irO P n r = true → 0 ≤ r ∧ irD P n r = true
  | 0, r, h => by
    simp only [irO, decide_eq_true_eq] at h
    subst h
    exact ⟨by decide, by simp [irD]⟩
  | n + 1, r, h => by
    simp only [irO, Bool.and_eq_true, decide_eq_true_eq] at h
    obtain ⟨h1, h2⟩ := h
    have h0 : 0 ≤ r := by
      rcases Int.le_total 0 r with q | q
      · exact q
      · obtain ⟨y, rfl⟩ : ∃ y, r = -y := ⟨-r, by omega⟩
        rw [Int.neg_tmod, Int.tmod_eq_emod_of_nonneg (by omega)] at h1
        omega
    rw [Int.tmod_eq_emod_of_nonneg h0] at h1
    rw [Int.tdiv_eq_ediv_of_nonneg h0] at h2
    obtain ⟨h3, h4⟩ := irO_E h2
    refine ⟨h0, ?_⟩
    simp only [irD, Bool.and_eq_true, decide_eq_true_eq]
    exact ⟨by omega, h4⟩
theorem irD_O {P : Int} : ∀ {n : Nat} {r : Int}, 0 ≤ r → irD P n r = true → irO P n r = true
  | 0, r, _, h => h
  | n + 1, r, h0, h => by
    simp only [irD, Bool.and_eq_true, decide_eq_true_eq] at h
    obtain ⟨h1, h2⟩ := h
    simp only [irO, Bool.and_eq_true, decide_eq_true_eq]
    rw [Int.tmod_eq_emod_of_nonneg h0, Int.tdiv_eq_ediv_of_nonneg h0]
    exact ⟨by omega, irD_O (by omega) h2⟩
theorem irD_L {P : Int} : ∀ {n : Nat} {r : Int}, 0 ≤ r → P ≤ 9 → n ≤ 4 → irD P n r = true → r < 100000
  | 0, r, h0, hP, hn, h => by simp only [irD, decide_eq_true_eq] at h; omega
  | 1, r, h0, hP, hn, h => by simp only [irD, Bool.and_eq_true, decide_eq_true_eq] at h; omega
  | 2, r, h0, hP, hn, h => by simp only [irD, Bool.and_eq_true, decide_eq_true_eq] at h; omega
  | 3, r, h0, hP, hn, h => by simp only [irD, Bool.and_eq_true, decide_eq_true_eq] at h; omega
  | 4, r, h0, hP, hn, h => by simp only [irD, Bool.and_eq_true, decide_eq_true_eq] at h; omega
  | n + 5, r, h0, hP, hn, h => by omega
theorem ten4 {n : Nat} (h : n ≤ 5) : (0 + 1) * (10 : Int) ^ n ≤ 1000000 := by
  obtain rfl | rfl | rfl | rfl | rfl | rfl : n = 0 ∨ n = 1 ∨ n = 2 ∨ n = 3 ∨ n = 4 ∨ n = 5 := by omega
  all_goals decide
theorem five5 {n : Nat} (h : n ≤ 5) : 5 ^ n ≤ 3125 := by
  obtain rfl | rfl | rfl | rfl | rfl | rfl : n = 0 ∨ n = 1 ∨ n = 2 ∨ n = 3 ∨ n = 4 ∨ n = 5 := by omega
  all_goals decide
/-- what comes first: hands from hh on -/
def cmN (own : Int → Int) (n kd rm d k w : Int) : Nat → Int → Int
  | 0, _ => -9
  | f + 1, hh => if frO own n kd rm d hh.toNat k 0 = -9 then cmN own n kd rm d k w f (hh + 1) else if w = 0 then hh else frO own n kd rm d hh.toNat k 0
/-- a tally's answer -/
def tdO (L : List Int) (w : Int) : Int := if w = 0 then (L.length : Int) else L.headD (-9)
theorem tAdds_k : ∀ (L : List Int) (M : Mem), 0 < M 14 0 → tAdds M L 14 1 = M 14 1
  | [], _, _ => rfl
  | x :: L, M, h => by
    show tAdds (tAdd M x) L 14 1 = _
    have e0 : tAdd M x 14 0 = M 14 0 + 1 := by unfold tAdd; rw [mset_s, rw1_s]
    have e1 : tAdd M x 14 1 = M 14 1 := by unfold tAdd; rw [mset_s, rw1_n _ _ (by decide), if_neg (by omega)]
    rw [tAdds_k L _ (by omega), e1]
theorem tAdds_1 : ∀ (L : List Int) (M : Mem), M 14 0 = 0 → tAdds M L 14 1 = L.headD (M 14 1)
  | [], _, _ => rfl
  | x :: L, M, h => by
    show tAdds (tAdd M x) L 14 1 = x
    have e0 : tAdd M x 14 0 = 1 := by unfold tAdd; rw [mset_s, rw1_s, h]; rfl
    have e1 : tAdd M x 14 1 = x := by unfold tAdd; rw [mset_s, rw1_n _ _ (by decide), if_pos h, mset_s, rw1_s]
    rw [tAdds_k L _ (by omega), e1]
def tS (M : Mem) : Mem := mset (mset M 14 0 0) 14 1 (-9)
theorem tS_0 (M : Mem) (L : List Int) : tAdds (tS M) L 14 0 = L.length := by
  rw [tAdds_14]
  show (0 : Int) + _ = _
  omega
theorem tS_1 (M : Mem) (L : List Int) : tAdds (tS M) L 14 1 = L.headD (-9) := tAdds_1 L (tS M) rfl
theorem tS_n (M : Mem) (L : List Int) {c : Nat} (h : c ≠ 14) : tAdds (tS M) L c = M c := by
  rw [tAdds_n h]
  unfold tS
  rw [mset_n _ _ _ h, mset_n _ _ _ h]
theorem tS_w (M : Mem) (L : List Int) (w : Int) : (if w = 0 then tAdds (tS M) L 14 0 else tAdds (tS M) L 14 1) = tdO L w := by
  rw [tS_0, tS_1]
  rfl
theorem sumN_b {f : Int → Int} {B : Int} (h : ∀ i, 0 ≤ f i ∧ f i ≤ B) : ∀ n : Nat, 0 ≤ sumN f n ∧ sumN f n ≤ n * B
  | 0 => by simp [sumN]
  | n + 1 => by
    have h1 := sumN_b h n
    have h2 := h (n : Int)
    have e : ((n + 1 : Nat) : Int) * B = n * B + B := by rw [Int.natCast_add, Int.add_mul]; simp
    rw [e]
    simp only [sumN]
    omega
theorem wyO_b (own : Int → Int) (n kd rm dp d : Int) (hn : n ≤ 5) : ∀ (h : Nat) (k : Int), 0 ≤ wyO own n kd rm dp d h k ∧ wyO own n kd rm dp d h k ≤ 5 ^ h
  | 0, k => by unfold wyO; split <;> simp
  | h + 1, k => by
    unfold wyO
    have h1 := sumN_b (f := fun f => wyO own n kd rm dp d h (behO k (own f) rm)) (B := 5 ^ h) (fun i => wyO_b own n kd rm dp d hn h _) n.toNat
    refine ⟨h1.1, Int.le_trans h1.2 ?_⟩
    rw [Int.pow_succ, Int.mul_comm ((5 : Int) ^ h) 5]
    exact Int.mul_le_mul_of_nonneg_right (by omega) (Int.pow_nonneg (by decide))
def pwN (P : Int) : Nat → Int
  | 0 => 1
  | n + 1 => pwN P n * P
theorem pwN_b {P : Int} (h : 1 ≤ P ∧ P ≤ 5) : ∀ n : Nat, 1 ≤ pwN P n ∧ pwN P n ≤ 5 ^ n
  | 0 => by simp [pwN]
  | n + 1 => by
    have h1 := pwN_b h n
    unfold pwN
    rw [Int.pow_succ]
    constructor
    · have : 1 * 1 ≤ pwN P n * P := Int.mul_le_mul h1.1 h.1 (by decide) (by omega)
      omega
    · exact Int.mul_le_mul h1.2 h.2 (by omega) (Int.pow_nonneg (by decide))
theorem five3 {n : Nat} (h : n ≤ 3) : (5 : Int) ^ n ≤ 125 := by
  obtain rfl | rfl | rfl | rfl : n = 0 ∨ n = 1 ∨ n = 2 ∨ n = 3 := by omega
  all_goals decide
set_option maxHeartbeats 4000000 in
set_option maxRecDepth 100000 in
theorem c_X6_turned_1 (l : Launch) (g : GT) (M : Mem) (row : Int) (h0 : 0 ≤ row ∧ row < 100000) : Ctr l g yX6_turned wsX6_turned ({ frames := 0, cells := 0, slots := 0, locals := 0 } : Room) [.int (iI 1), .int (iI row)] M (pI (0 * 10 + row % 10) M) := by
  refine Ctr.mk (cc := cX6_turned) (maxL := 5) (ret := some .int) (lv := [(0, .int (iI 1)), (1, .int (iI row))]) (by decide) rfl (Nat.le_of_ble_eq_true rfl) rfl ?_
  intro p e s m below meth c C hr hlk hI ls hl
  have C : CallFix p m c cX6_turned 5 s ([.int (iI 1), .int (iI row)] : List Value).toArray wsX6_turned RX6 := C
  have hx := C.1
  have hb := C.2.1
  have hts := C.2.2.2.2
  refine lv_iload_n hx hb dX6_turned_0 rfl (lv_at hl 1 rfl) ?_
  refine lv_istore_n (lv' := [(2, .int (iI row)), (0, .int (iI 1)), (1, .int (iI row))]) hx hb dX6_turned_1 rfl hl (by decide) rfl (fun ls hl => ?_)
  refine lv_iconst (v := iI 0) hx hb dX6_turned_2 rfl ?_
  refine lv_istore_n (lv' := [(3, .int (iI 0)), (2, .int (iI row)), (0, .int (iI 1)), (1, .int (iI row))]) hx hb dX6_turned_3 rfl hl (by decide) rfl (fun ls hl => ?_)
  refine lv_iconst (v := iI 0) hx hb dX6_turned_4 rfl ?_
  refine lv_istore (lv' := [(4, .int (iI 0)), (3, .int (iI 0)), (2, .int (iI row)), (0, .int (iI 1)), (1, .int (iI row))]) hx hb dX6_turned_5 hl (by decide) rfl (fun ls hl => ?_)
  refine lv_iload hx hb dX6_turned_7 (lv_at hl 0 rfl) ?_
  refine lv_iload_n hx hb dX6_turned_9 rfl (lv_at hl 3 rfl) ?_
  refine r_icmp_ge hx hb (tgt := 34) (by decide) (by decide) dX6_turned_10 (by decide) (fun c => absurd c (by decide)) (fun c_1 => ?_)
  refine lv_iload_n hx hb dX6_turned_13 rfl (lv_at hl 1 rfl) ?_
  refine lv_bipush (v := iI 10) hx hb dX6_turned_14 (by decide +kernel) ?_
  refine r_imul hx hb dX6_turned_16 ?_
  refine lv_iload_n hx hb dX6_turned_17 rfl (lv_at hl 2 rfl) ?_
  refine lv_bipush (v := iI 10) hx hb dX6_turned_18 (by decide +kernel) ?_
  refine r_irem hx hb (by omega) (by decide) dX6_turned_20 ?_
  refine r_iadd hx hb dX6_turned_21 ?_
  refine lv_istore_n (lv' := [(3, .int (iI ((0 * 10) + (row % 10)))), (4, .int (iI 0)), (2, .int (iI row)), (0, .int (iI 1)), (1, .int (iI row))]) hx hb dX6_turned_22 rfl hl (by decide) rfl (fun ls hl => ?_)
  refine lv_iload_n hx hb dX6_turned_23 rfl (lv_at hl 2 rfl) ?_
  refine lv_bipush (v := iI 10) hx hb dX6_turned_24 (by decide +kernel) ?_
  refine r_idiv hx hb (by omega) (by decide) dX6_turned_26 ?_
  refine lv_istore_n (lv' := [(2, .int (iI (row / 10))), (3, .int (iI ((0 * 10) + (row % 10)))), (4, .int (iI 0)), (0, .int (iI 1)), (1, .int (iI row))]) hx hb dX6_turned_27 rfl hl (by decide) rfl (fun ls hl => ?_)
  refine lv_iinc (v := iI (1)) (lv' := [(4, .int (iI 1)), (2, .int (iI (row / 10))), (3, .int (iI ((0 * 10) + (row % 10)))), (0, .int (iI 1)), (1, .int (iI row))]) hx hb dX6_turned_28 hl (k := 2) rfl (iI_add _ _) (by decide) rfl (fun ls hl => ?_)
  refine lv_goto (tgt := 7) hx hb dX6_turned_31 (by decide) ?_
  refine lv_iload hx hb dX6_turned_7 (lv_at hl 0 rfl) ?_
  refine lv_iload_n hx hb dX6_turned_9 rfl (lv_at hl 3 rfl) ?_
  refine r_icmp_ge hx hb (tgt := 34) (by decide) (by decide) dX6_turned_10 (by decide) (fun c_2 => ?_) (fun c => absurd c (by decide))
  refine lv_iload_n hx hb dX6_turned_34 rfl (lv_at hl 2 rfl) ?_
  refine r_iret C hr hlk hI ?_ dX6_turned_35
  exact ⟨congrArg (fun q => some (Value.int (iI q))) (show (0 * 10) + (row % 10) = 0 * 10 + row % 10 from by first | rfl | omega), rfl⟩
set_option maxHeartbeats 4000000 in
set_option maxRecDepth 100000 in
theorem c_X6_turned_2 (l : Launch) (g : GT) (M : Mem) (row : Int) (h0 : 0 ≤ row ∧ row < 100000) : Ctr l g yX6_turned wsX6_turned ({ frames := 0, cells := 0, slots := 0, locals := 0 } : Room) [.int (iI 2), .int (iI row)] M (pI ((0 * 10 + row % 10) * 10 + (row / 10) % 10) M) := by
  refine Ctr.mk (cc := cX6_turned) (maxL := 5) (ret := some .int) (lv := [(0, .int (iI 2)), (1, .int (iI row))]) (by decide) rfl (Nat.le_of_ble_eq_true rfl) rfl ?_
  intro p e s m below meth c C hr hlk hI ls hl
  have C : CallFix p m c cX6_turned 5 s ([.int (iI 2), .int (iI row)] : List Value).toArray wsX6_turned RX6 := C
  have hx := C.1
  have hb := C.2.1
  have hts := C.2.2.2.2
  refine lv_iload_n hx hb dX6_turned_0 rfl (lv_at hl 1 rfl) ?_
  refine lv_istore_n (lv' := [(2, .int (iI row)), (0, .int (iI 2)), (1, .int (iI row))]) hx hb dX6_turned_1 rfl hl (by decide) rfl (fun ls hl => ?_)
  refine lv_iconst (v := iI 0) hx hb dX6_turned_2 rfl ?_
  refine lv_istore_n (lv' := [(3, .int (iI 0)), (2, .int (iI row)), (0, .int (iI 2)), (1, .int (iI row))]) hx hb dX6_turned_3 rfl hl (by decide) rfl (fun ls hl => ?_)
  refine lv_iconst (v := iI 0) hx hb dX6_turned_4 rfl ?_
  refine lv_istore (lv' := [(4, .int (iI 0)), (3, .int (iI 0)), (2, .int (iI row)), (0, .int (iI 2)), (1, .int (iI row))]) hx hb dX6_turned_5 hl (by decide) rfl (fun ls hl => ?_)
  refine lv_iload hx hb dX6_turned_7 (lv_at hl 0 rfl) ?_
  refine lv_iload_n hx hb dX6_turned_9 rfl (lv_at hl 3 rfl) ?_
  refine r_icmp_ge hx hb (tgt := 34) (by decide) (by decide) dX6_turned_10 (by decide) (fun c => absurd c (by decide)) (fun c_1 => ?_)
  refine lv_iload_n hx hb dX6_turned_13 rfl (lv_at hl 1 rfl) ?_
  refine lv_bipush (v := iI 10) hx hb dX6_turned_14 (by decide +kernel) ?_
  refine r_imul hx hb dX6_turned_16 ?_
  refine lv_iload_n hx hb dX6_turned_17 rfl (lv_at hl 2 rfl) ?_
  refine lv_bipush (v := iI 10) hx hb dX6_turned_18 (by decide +kernel) ?_
  refine r_irem hx hb (by omega) (by decide) dX6_turned_20 ?_
  refine r_iadd hx hb dX6_turned_21 ?_
  refine lv_istore_n (lv' := [(3, .int (iI ((0 * 10) + (row % 10)))), (4, .int (iI 0)), (2, .int (iI row)), (0, .int (iI 2)), (1, .int (iI row))]) hx hb dX6_turned_22 rfl hl (by decide) rfl (fun ls hl => ?_)
  refine lv_iload_n hx hb dX6_turned_23 rfl (lv_at hl 2 rfl) ?_
  refine lv_bipush (v := iI 10) hx hb dX6_turned_24 (by decide +kernel) ?_
  refine r_idiv hx hb (by omega) (by decide) dX6_turned_26 ?_
  refine lv_istore_n (lv' := [(2, .int (iI (row / 10))), (3, .int (iI ((0 * 10) + (row % 10)))), (4, .int (iI 0)), (0, .int (iI 2)), (1, .int (iI row))]) hx hb dX6_turned_27 rfl hl (by decide) rfl (fun ls hl => ?_)
  refine lv_iinc (v := iI (1)) (lv' := [(4, .int (iI 1)), (2, .int (iI (row / 10))), (3, .int (iI ((0 * 10) + (row % 10)))), (0, .int (iI 2)), (1, .int (iI row))]) hx hb dX6_turned_28 hl (k := 2) rfl (iI_add _ _) (by decide) rfl (fun ls hl => ?_)
  refine lv_goto (tgt := 7) hx hb dX6_turned_31 (by decide) ?_
  refine lv_iload hx hb dX6_turned_7 (lv_at hl 0 rfl) ?_
  refine lv_iload_n hx hb dX6_turned_9 rfl (lv_at hl 3 rfl) ?_
  refine r_icmp_ge hx hb (tgt := 34) (by decide) (by decide) dX6_turned_10 (by decide) (fun c => absurd c (by decide)) (fun c_2 => ?_)
  refine lv_iload_n hx hb dX6_turned_13 rfl (lv_at hl 2 rfl) ?_
  refine lv_bipush (v := iI 10) hx hb dX6_turned_14 (by decide +kernel) ?_
  refine r_imul hx hb dX6_turned_16 ?_
  refine lv_iload_n hx hb dX6_turned_17 rfl (lv_at hl 1 rfl) ?_
  refine lv_bipush (v := iI 10) hx hb dX6_turned_18 (by decide +kernel) ?_
  refine r_irem hx hb (by omega) (by decide) dX6_turned_20 ?_
  refine r_iadd hx hb dX6_turned_21 ?_
  refine lv_istore_n (lv' := [(3, .int (iI ((((0 * 10) + (row % 10)) * 10) + ((row / 10) % 10)))), (4, .int (iI 1)), (2, .int (iI (row / 10))), (0, .int (iI 2)), (1, .int (iI row))]) hx hb dX6_turned_22 rfl hl (by decide) rfl (fun ls hl => ?_)
  refine lv_iload_n hx hb dX6_turned_23 rfl (lv_at hl 2 rfl) ?_
  refine lv_bipush (v := iI 10) hx hb dX6_turned_24 (by decide +kernel) ?_
  refine r_idiv hx hb (by omega) (by decide) dX6_turned_26 ?_
  refine lv_istore_n (lv' := [(2, .int (iI ((row / 10) / 10))), (3, .int (iI ((((0 * 10) + (row % 10)) * 10) + ((row / 10) % 10)))), (4, .int (iI 1)), (0, .int (iI 2)), (1, .int (iI row))]) hx hb dX6_turned_27 rfl hl (by decide) rfl (fun ls hl => ?_)
  refine lv_iinc (v := iI (2)) (lv' := [(4, .int (iI 2)), (2, .int (iI ((row / 10) / 10))), (3, .int (iI ((((0 * 10) + (row % 10)) * 10) + ((row / 10) % 10)))), (0, .int (iI 2)), (1, .int (iI row))]) hx hb dX6_turned_28 hl (k := 2) rfl (iI_add _ _) (by decide) rfl (fun ls hl => ?_)
  refine lv_goto (tgt := 7) hx hb dX6_turned_31 (by decide) ?_
  refine lv_iload hx hb dX6_turned_7 (lv_at hl 0 rfl) ?_
  refine lv_iload_n hx hb dX6_turned_9 rfl (lv_at hl 3 rfl) ?_
  refine r_icmp_ge hx hb (tgt := 34) (by decide) (by decide) dX6_turned_10 (by decide) (fun c_3 => ?_) (fun c => absurd c (by decide))
  refine lv_iload_n hx hb dX6_turned_34 rfl (lv_at hl 2 rfl) ?_
  refine r_iret C hr hlk hI ?_ dX6_turned_35
  exact ⟨congrArg (fun q => some (Value.int (iI q))) (show (((0 * 10) + (row % 10)) * 10) + ((row / 10) % 10) = (0 * 10 + row % 10) * 10 + (row / 10) % 10 from by first | rfl | omega), rfl⟩
set_option maxHeartbeats 4000000 in
set_option maxRecDepth 100000 in
theorem c_X6_turned_3 (l : Launch) (g : GT) (M : Mem) (row : Int) (h0 : 0 ≤ row ∧ row < 100000) : Ctr l g yX6_turned wsX6_turned ({ frames := 0, cells := 0, slots := 0, locals := 0 } : Room) [.int (iI 3), .int (iI row)] M (pI (((0 * 10 + row % 10) * 10 + (row / 10) % 10) * 10 + ((row / 10) / 10) % 10) M) := by
  refine Ctr.mk (cc := cX6_turned) (maxL := 5) (ret := some .int) (lv := [(0, .int (iI 3)), (1, .int (iI row))]) (by decide) rfl (Nat.le_of_ble_eq_true rfl) rfl ?_
  intro p e s m below meth c C hr hlk hI ls hl
  have C : CallFix p m c cX6_turned 5 s ([.int (iI 3), .int (iI row)] : List Value).toArray wsX6_turned RX6 := C
  have hx := C.1
  have hb := C.2.1
  have hts := C.2.2.2.2
  refine lv_iload_n hx hb dX6_turned_0 rfl (lv_at hl 1 rfl) ?_
  refine lv_istore_n (lv' := [(2, .int (iI row)), (0, .int (iI 3)), (1, .int (iI row))]) hx hb dX6_turned_1 rfl hl (by decide) rfl (fun ls hl => ?_)
  refine lv_iconst (v := iI 0) hx hb dX6_turned_2 rfl ?_
  refine lv_istore_n (lv' := [(3, .int (iI 0)), (2, .int (iI row)), (0, .int (iI 3)), (1, .int (iI row))]) hx hb dX6_turned_3 rfl hl (by decide) rfl (fun ls hl => ?_)
  refine lv_iconst (v := iI 0) hx hb dX6_turned_4 rfl ?_
  refine lv_istore (lv' := [(4, .int (iI 0)), (3, .int (iI 0)), (2, .int (iI row)), (0, .int (iI 3)), (1, .int (iI row))]) hx hb dX6_turned_5 hl (by decide) rfl (fun ls hl => ?_)
  refine lv_iload hx hb dX6_turned_7 (lv_at hl 0 rfl) ?_
  refine lv_iload_n hx hb dX6_turned_9 rfl (lv_at hl 3 rfl) ?_
  refine r_icmp_ge hx hb (tgt := 34) (by decide) (by decide) dX6_turned_10 (by decide) (fun c => absurd c (by decide)) (fun c_1 => ?_)
  refine lv_iload_n hx hb dX6_turned_13 rfl (lv_at hl 1 rfl) ?_
  refine lv_bipush (v := iI 10) hx hb dX6_turned_14 (by decide +kernel) ?_
  refine r_imul hx hb dX6_turned_16 ?_
  refine lv_iload_n hx hb dX6_turned_17 rfl (lv_at hl 2 rfl) ?_
  refine lv_bipush (v := iI 10) hx hb dX6_turned_18 (by decide +kernel) ?_
  refine r_irem hx hb (by omega) (by decide) dX6_turned_20 ?_
  refine r_iadd hx hb dX6_turned_21 ?_
  refine lv_istore_n (lv' := [(3, .int (iI ((0 * 10) + (row % 10)))), (4, .int (iI 0)), (2, .int (iI row)), (0, .int (iI 3)), (1, .int (iI row))]) hx hb dX6_turned_22 rfl hl (by decide) rfl (fun ls hl => ?_)
  refine lv_iload_n hx hb dX6_turned_23 rfl (lv_at hl 2 rfl) ?_
  refine lv_bipush (v := iI 10) hx hb dX6_turned_24 (by decide +kernel) ?_
  refine r_idiv hx hb (by omega) (by decide) dX6_turned_26 ?_
  refine lv_istore_n (lv' := [(2, .int (iI (row / 10))), (3, .int (iI ((0 * 10) + (row % 10)))), (4, .int (iI 0)), (0, .int (iI 3)), (1, .int (iI row))]) hx hb dX6_turned_27 rfl hl (by decide) rfl (fun ls hl => ?_)
  refine lv_iinc (v := iI (1)) (lv' := [(4, .int (iI 1)), (2, .int (iI (row / 10))), (3, .int (iI ((0 * 10) + (row % 10)))), (0, .int (iI 3)), (1, .int (iI row))]) hx hb dX6_turned_28 hl (k := 2) rfl (iI_add _ _) (by decide) rfl (fun ls hl => ?_)
  refine lv_goto (tgt := 7) hx hb dX6_turned_31 (by decide) ?_
  refine lv_iload hx hb dX6_turned_7 (lv_at hl 0 rfl) ?_
  refine lv_iload_n hx hb dX6_turned_9 rfl (lv_at hl 3 rfl) ?_
  refine r_icmp_ge hx hb (tgt := 34) (by decide) (by decide) dX6_turned_10 (by decide) (fun c => absurd c (by decide)) (fun c_2 => ?_)
  refine lv_iload_n hx hb dX6_turned_13 rfl (lv_at hl 2 rfl) ?_
  refine lv_bipush (v := iI 10) hx hb dX6_turned_14 (by decide +kernel) ?_
  refine r_imul hx hb dX6_turned_16 ?_
  refine lv_iload_n hx hb dX6_turned_17 rfl (lv_at hl 1 rfl) ?_
  refine lv_bipush (v := iI 10) hx hb dX6_turned_18 (by decide +kernel) ?_
  refine r_irem hx hb (by omega) (by decide) dX6_turned_20 ?_
  refine r_iadd hx hb dX6_turned_21 ?_
  refine lv_istore_n (lv' := [(3, .int (iI ((((0 * 10) + (row % 10)) * 10) + ((row / 10) % 10)))), (4, .int (iI 1)), (2, .int (iI (row / 10))), (0, .int (iI 3)), (1, .int (iI row))]) hx hb dX6_turned_22 rfl hl (by decide) rfl (fun ls hl => ?_)
  refine lv_iload_n hx hb dX6_turned_23 rfl (lv_at hl 2 rfl) ?_
  refine lv_bipush (v := iI 10) hx hb dX6_turned_24 (by decide +kernel) ?_
  refine r_idiv hx hb (by omega) (by decide) dX6_turned_26 ?_
  refine lv_istore_n (lv' := [(2, .int (iI ((row / 10) / 10))), (3, .int (iI ((((0 * 10) + (row % 10)) * 10) + ((row / 10) % 10)))), (4, .int (iI 1)), (0, .int (iI 3)), (1, .int (iI row))]) hx hb dX6_turned_27 rfl hl (by decide) rfl (fun ls hl => ?_)
  refine lv_iinc (v := iI (2)) (lv' := [(4, .int (iI 2)), (2, .int (iI ((row / 10) / 10))), (3, .int (iI ((((0 * 10) + (row % 10)) * 10) + ((row / 10) % 10)))), (0, .int (iI 3)), (1, .int (iI row))]) hx hb dX6_turned_28 hl (k := 2) rfl (iI_add _ _) (by decide) rfl (fun ls hl => ?_)
  refine lv_goto (tgt := 7) hx hb dX6_turned_31 (by decide) ?_
  refine lv_iload hx hb dX6_turned_7 (lv_at hl 0 rfl) ?_
  refine lv_iload_n hx hb dX6_turned_9 rfl (lv_at hl 3 rfl) ?_
  refine r_icmp_ge hx hb (tgt := 34) (by decide) (by decide) dX6_turned_10 (by decide) (fun c => absurd c (by decide)) (fun c_3 => ?_)
  refine lv_iload_n hx hb dX6_turned_13 rfl (lv_at hl 2 rfl) ?_
  refine lv_bipush (v := iI 10) hx hb dX6_turned_14 (by decide +kernel) ?_
  refine r_imul hx hb dX6_turned_16 ?_
  refine lv_iload_n hx hb dX6_turned_17 rfl (lv_at hl 1 rfl) ?_
  refine lv_bipush (v := iI 10) hx hb dX6_turned_18 (by decide +kernel) ?_
  refine r_irem hx hb (by omega) (by decide) dX6_turned_20 ?_
  refine r_iadd hx hb dX6_turned_21 ?_
  refine lv_istore_n (lv' := [(3, .int (iI ((((((0 * 10) + (row % 10)) * 10) + ((row / 10) % 10)) * 10) + (((row / 10) / 10) % 10)))), (4, .int (iI 2)), (2, .int (iI ((row / 10) / 10))), (0, .int (iI 3)), (1, .int (iI row))]) hx hb dX6_turned_22 rfl hl (by decide) rfl (fun ls hl => ?_)
  refine lv_iload_n hx hb dX6_turned_23 rfl (lv_at hl 2 rfl) ?_
  refine lv_bipush (v := iI 10) hx hb dX6_turned_24 (by decide +kernel) ?_
  refine r_idiv hx hb (by omega) (by decide) dX6_turned_26 ?_
  refine lv_istore_n (lv' := [(2, .int (iI (((row / 10) / 10) / 10))), (3, .int (iI ((((((0 * 10) + (row % 10)) * 10) + ((row / 10) % 10)) * 10) + (((row / 10) / 10) % 10)))), (4, .int (iI 2)), (0, .int (iI 3)), (1, .int (iI row))]) hx hb dX6_turned_27 rfl hl (by decide) rfl (fun ls hl => ?_)
  refine lv_iinc (v := iI (3)) (lv' := [(4, .int (iI 3)), (2, .int (iI (((row / 10) / 10) / 10))), (3, .int (iI ((((((0 * 10) + (row % 10)) * 10) + ((row / 10) % 10)) * 10) + (((row / 10) / 10) % 10)))), (0, .int (iI 3)), (1, .int (iI row))]) hx hb dX6_turned_28 hl (k := 2) rfl (iI_add _ _) (by decide) rfl (fun ls hl => ?_)
  refine lv_goto (tgt := 7) hx hb dX6_turned_31 (by decide) ?_
  refine lv_iload hx hb dX6_turned_7 (lv_at hl 0 rfl) ?_
  refine lv_iload_n hx hb dX6_turned_9 rfl (lv_at hl 3 rfl) ?_
  refine r_icmp_ge hx hb (tgt := 34) (by decide) (by decide) dX6_turned_10 (by decide) (fun c_4 => ?_) (fun c => absurd c (by decide))
  refine lv_iload_n hx hb dX6_turned_34 rfl (lv_at hl 2 rfl) ?_
  refine r_iret C hr hlk hI ?_ dX6_turned_35
  exact ⟨congrArg (fun q => some (Value.int (iI q))) (show (((((0 * 10) + (row % 10)) * 10) + ((row / 10) % 10)) * 10) + (((row / 10) / 10) % 10) = ((0 * 10 + row % 10) * 10 + (row / 10) % 10) * 10 + ((row / 10) / 10) % 10 from by first | rfl | omega), rfl⟩
set_option maxHeartbeats 4000000 in
set_option maxRecDepth 100000 in
theorem c_X6_turned_4 (l : Launch) (g : GT) (M : Mem) (row : Int) (h0 : 0 ≤ row ∧ row < 100000) : Ctr l g yX6_turned wsX6_turned ({ frames := 0, cells := 0, slots := 0, locals := 0 } : Room) [.int (iI 4), .int (iI row)] M (pI ((((0 * 10 + row % 10) * 10 + (row / 10) % 10) * 10 + ((row / 10) / 10) % 10) * 10 + (((row / 10) / 10) / 10) % 10) M) := by
  refine Ctr.mk (cc := cX6_turned) (maxL := 5) (ret := some .int) (lv := [(0, .int (iI 4)), (1, .int (iI row))]) (by decide) rfl (Nat.le_of_ble_eq_true rfl) rfl ?_
  intro p e s m below meth c C hr hlk hI ls hl
  have C : CallFix p m c cX6_turned 5 s ([.int (iI 4), .int (iI row)] : List Value).toArray wsX6_turned RX6 := C
  have hx := C.1
  have hb := C.2.1
  have hts := C.2.2.2.2
  refine lv_iload_n hx hb dX6_turned_0 rfl (lv_at hl 1 rfl) ?_
  refine lv_istore_n (lv' := [(2, .int (iI row)), (0, .int (iI 4)), (1, .int (iI row))]) hx hb dX6_turned_1 rfl hl (by decide) rfl (fun ls hl => ?_)
  refine lv_iconst (v := iI 0) hx hb dX6_turned_2 rfl ?_
  refine lv_istore_n (lv' := [(3, .int (iI 0)), (2, .int (iI row)), (0, .int (iI 4)), (1, .int (iI row))]) hx hb dX6_turned_3 rfl hl (by decide) rfl (fun ls hl => ?_)
  refine lv_iconst (v := iI 0) hx hb dX6_turned_4 rfl ?_
  refine lv_istore (lv' := [(4, .int (iI 0)), (3, .int (iI 0)), (2, .int (iI row)), (0, .int (iI 4)), (1, .int (iI row))]) hx hb dX6_turned_5 hl (by decide) rfl (fun ls hl => ?_)
  refine lv_iload hx hb dX6_turned_7 (lv_at hl 0 rfl) ?_
  refine lv_iload_n hx hb dX6_turned_9 rfl (lv_at hl 3 rfl) ?_
  refine r_icmp_ge hx hb (tgt := 34) (by decide) (by decide) dX6_turned_10 (by decide) (fun c => absurd c (by decide)) (fun c_1 => ?_)
  refine lv_iload_n hx hb dX6_turned_13 rfl (lv_at hl 1 rfl) ?_
  refine lv_bipush (v := iI 10) hx hb dX6_turned_14 (by decide +kernel) ?_
  refine r_imul hx hb dX6_turned_16 ?_
  refine lv_iload_n hx hb dX6_turned_17 rfl (lv_at hl 2 rfl) ?_
  refine lv_bipush (v := iI 10) hx hb dX6_turned_18 (by decide +kernel) ?_
  refine r_irem hx hb (by omega) (by decide) dX6_turned_20 ?_
  refine r_iadd hx hb dX6_turned_21 ?_
  refine lv_istore_n (lv' := [(3, .int (iI ((0 * 10) + (row % 10)))), (4, .int (iI 0)), (2, .int (iI row)), (0, .int (iI 4)), (1, .int (iI row))]) hx hb dX6_turned_22 rfl hl (by decide) rfl (fun ls hl => ?_)
  refine lv_iload_n hx hb dX6_turned_23 rfl (lv_at hl 2 rfl) ?_
  refine lv_bipush (v := iI 10) hx hb dX6_turned_24 (by decide +kernel) ?_
  refine r_idiv hx hb (by omega) (by decide) dX6_turned_26 ?_
  refine lv_istore_n (lv' := [(2, .int (iI (row / 10))), (3, .int (iI ((0 * 10) + (row % 10)))), (4, .int (iI 0)), (0, .int (iI 4)), (1, .int (iI row))]) hx hb dX6_turned_27 rfl hl (by decide) rfl (fun ls hl => ?_)
  refine lv_iinc (v := iI (1)) (lv' := [(4, .int (iI 1)), (2, .int (iI (row / 10))), (3, .int (iI ((0 * 10) + (row % 10)))), (0, .int (iI 4)), (1, .int (iI row))]) hx hb dX6_turned_28 hl (k := 2) rfl (iI_add _ _) (by decide) rfl (fun ls hl => ?_)
  refine lv_goto (tgt := 7) hx hb dX6_turned_31 (by decide) ?_
  refine lv_iload hx hb dX6_turned_7 (lv_at hl 0 rfl) ?_
  refine lv_iload_n hx hb dX6_turned_9 rfl (lv_at hl 3 rfl) ?_
  refine r_icmp_ge hx hb (tgt := 34) (by decide) (by decide) dX6_turned_10 (by decide) (fun c => absurd c (by decide)) (fun c_2 => ?_)
  refine lv_iload_n hx hb dX6_turned_13 rfl (lv_at hl 2 rfl) ?_
  refine lv_bipush (v := iI 10) hx hb dX6_turned_14 (by decide +kernel) ?_
  refine r_imul hx hb dX6_turned_16 ?_
  refine lv_iload_n hx hb dX6_turned_17 rfl (lv_at hl 1 rfl) ?_
  refine lv_bipush (v := iI 10) hx hb dX6_turned_18 (by decide +kernel) ?_
  refine r_irem hx hb (by omega) (by decide) dX6_turned_20 ?_
  refine r_iadd hx hb dX6_turned_21 ?_
  refine lv_istore_n (lv' := [(3, .int (iI ((((0 * 10) + (row % 10)) * 10) + ((row / 10) % 10)))), (4, .int (iI 1)), (2, .int (iI (row / 10))), (0, .int (iI 4)), (1, .int (iI row))]) hx hb dX6_turned_22 rfl hl (by decide) rfl (fun ls hl => ?_)
  refine lv_iload_n hx hb dX6_turned_23 rfl (lv_at hl 2 rfl) ?_
  refine lv_bipush (v := iI 10) hx hb dX6_turned_24 (by decide +kernel) ?_
  refine r_idiv hx hb (by omega) (by decide) dX6_turned_26 ?_
  refine lv_istore_n (lv' := [(2, .int (iI ((row / 10) / 10))), (3, .int (iI ((((0 * 10) + (row % 10)) * 10) + ((row / 10) % 10)))), (4, .int (iI 1)), (0, .int (iI 4)), (1, .int (iI row))]) hx hb dX6_turned_27 rfl hl (by decide) rfl (fun ls hl => ?_)
  refine lv_iinc (v := iI (2)) (lv' := [(4, .int (iI 2)), (2, .int (iI ((row / 10) / 10))), (3, .int (iI ((((0 * 10) + (row % 10)) * 10) + ((row / 10) % 10)))), (0, .int (iI 4)), (1, .int (iI row))]) hx hb dX6_turned_28 hl (k := 2) rfl (iI_add _ _) (by decide) rfl (fun ls hl => ?_)
  refine lv_goto (tgt := 7) hx hb dX6_turned_31 (by decide) ?_
  refine lv_iload hx hb dX6_turned_7 (lv_at hl 0 rfl) ?_
  refine lv_iload_n hx hb dX6_turned_9 rfl (lv_at hl 3 rfl) ?_
  refine r_icmp_ge hx hb (tgt := 34) (by decide) (by decide) dX6_turned_10 (by decide) (fun c => absurd c (by decide)) (fun c_3 => ?_)
  refine lv_iload_n hx hb dX6_turned_13 rfl (lv_at hl 2 rfl) ?_
  refine lv_bipush (v := iI 10) hx hb dX6_turned_14 (by decide +kernel) ?_
  refine r_imul hx hb dX6_turned_16 ?_
  refine lv_iload_n hx hb dX6_turned_17 rfl (lv_at hl 1 rfl) ?_
  refine lv_bipush (v := iI 10) hx hb dX6_turned_18 (by decide +kernel) ?_
  refine r_irem hx hb (by omega) (by decide) dX6_turned_20 ?_
  refine r_iadd hx hb dX6_turned_21 ?_
  refine lv_istore_n (lv' := [(3, .int (iI ((((((0 * 10) + (row % 10)) * 10) + ((row / 10) % 10)) * 10) + (((row / 10) / 10) % 10)))), (4, .int (iI 2)), (2, .int (iI ((row / 10) / 10))), (0, .int (iI 4)), (1, .int (iI row))]) hx hb dX6_turned_22 rfl hl (by decide) rfl (fun ls hl => ?_)
  refine lv_iload_n hx hb dX6_turned_23 rfl (lv_at hl 2 rfl) ?_
  refine lv_bipush (v := iI 10) hx hb dX6_turned_24 (by decide +kernel) ?_
  refine r_idiv hx hb (by omega) (by decide) dX6_turned_26 ?_
  refine lv_istore_n (lv' := [(2, .int (iI (((row / 10) / 10) / 10))), (3, .int (iI ((((((0 * 10) + (row % 10)) * 10) + ((row / 10) % 10)) * 10) + (((row / 10) / 10) % 10)))), (4, .int (iI 2)), (0, .int (iI 4)), (1, .int (iI row))]) hx hb dX6_turned_27 rfl hl (by decide) rfl (fun ls hl => ?_)
  refine lv_iinc (v := iI (3)) (lv' := [(4, .int (iI 3)), (2, .int (iI (((row / 10) / 10) / 10))), (3, .int (iI ((((((0 * 10) + (row % 10)) * 10) + ((row / 10) % 10)) * 10) + (((row / 10) / 10) % 10)))), (0, .int (iI 4)), (1, .int (iI row))]) hx hb dX6_turned_28 hl (k := 2) rfl (iI_add _ _) (by decide) rfl (fun ls hl => ?_)
  refine lv_goto (tgt := 7) hx hb dX6_turned_31 (by decide) ?_
  refine lv_iload hx hb dX6_turned_7 (lv_at hl 0 rfl) ?_
  refine lv_iload_n hx hb dX6_turned_9 rfl (lv_at hl 3 rfl) ?_
  refine r_icmp_ge hx hb (tgt := 34) (by decide) (by decide) dX6_turned_10 (by decide) (fun c => absurd c (by decide)) (fun c_4 => ?_)
  refine lv_iload_n hx hb dX6_turned_13 rfl (lv_at hl 2 rfl) ?_
  refine lv_bipush (v := iI 10) hx hb dX6_turned_14 (by decide +kernel) ?_
  refine r_imul hx hb dX6_turned_16 ?_
  refine lv_iload_n hx hb dX6_turned_17 rfl (lv_at hl 1 rfl) ?_
  refine lv_bipush (v := iI 10) hx hb dX6_turned_18 (by decide +kernel) ?_
  refine r_irem hx hb (by omega) (by decide) dX6_turned_20 ?_
  refine r_iadd hx hb dX6_turned_21 ?_
  refine lv_istore_n (lv' := [(3, .int (iI ((((((((0 * 10) + (row % 10)) * 10) + ((row / 10) % 10)) * 10) + (((row / 10) / 10) % 10)) * 10) + ((((row / 10) / 10) / 10) % 10)))), (4, .int (iI 3)), (2, .int (iI (((row / 10) / 10) / 10))), (0, .int (iI 4)), (1, .int (iI row))]) hx hb dX6_turned_22 rfl hl (by decide) rfl (fun ls hl => ?_)
  refine lv_iload_n hx hb dX6_turned_23 rfl (lv_at hl 2 rfl) ?_
  refine lv_bipush (v := iI 10) hx hb dX6_turned_24 (by decide +kernel) ?_
  refine r_idiv hx hb (by omega) (by decide) dX6_turned_26 ?_
  refine lv_istore_n (lv' := [(2, .int (iI ((((row / 10) / 10) / 10) / 10))), (3, .int (iI ((((((((0 * 10) + (row % 10)) * 10) + ((row / 10) % 10)) * 10) + (((row / 10) / 10) % 10)) * 10) + ((((row / 10) / 10) / 10) % 10)))), (4, .int (iI 3)), (0, .int (iI 4)), (1, .int (iI row))]) hx hb dX6_turned_27 rfl hl (by decide) rfl (fun ls hl => ?_)
  refine lv_iinc (v := iI (4)) (lv' := [(4, .int (iI 4)), (2, .int (iI ((((row / 10) / 10) / 10) / 10))), (3, .int (iI ((((((((0 * 10) + (row % 10)) * 10) + ((row / 10) % 10)) * 10) + (((row / 10) / 10) % 10)) * 10) + ((((row / 10) / 10) / 10) % 10)))), (0, .int (iI 4)), (1, .int (iI row))]) hx hb dX6_turned_28 hl (k := 2) rfl (iI_add _ _) (by decide) rfl (fun ls hl => ?_)
  refine lv_goto (tgt := 7) hx hb dX6_turned_31 (by decide) ?_
  refine lv_iload hx hb dX6_turned_7 (lv_at hl 0 rfl) ?_
  refine lv_iload_n hx hb dX6_turned_9 rfl (lv_at hl 3 rfl) ?_
  refine r_icmp_ge hx hb (tgt := 34) (by decide) (by decide) dX6_turned_10 (by decide) (fun c_5 => ?_) (fun c => absurd c (by decide))
  refine lv_iload_n hx hb dX6_turned_34 rfl (lv_at hl 2 rfl) ?_
  refine r_iret C hr hlk hI ?_ dX6_turned_35
  exact ⟨congrArg (fun q => some (Value.int (iI q))) (show (((((((0 * 10) + (row % 10)) * 10) + ((row / 10) % 10)) * 10) + (((row / 10) / 10) % 10)) * 10) + ((((row / 10) / 10) / 10) % 10) = (((0 * 10 + row % 10) * 10 + (row / 10) % 10) * 10 + ((row / 10) / 10) % 10) * 10 + (((row / 10) / 10) / 10) % 10 from by first | rfl | omega), rfl⟩
set_option maxHeartbeats 4000000 in
set_option maxRecDepth 100000 in
theorem c_X6_replyToRow_1 (l : Launch) (g : GT) (M : Mem) (x : Int) (row : Int) (dk : DK (M) x) (hk : 0 ≤ M 33 x ∧ M 33 x < 1000) (h0 : 0 ≤ row ∧ row < 100000) (hD : irD (M 3 6) 1 row = true) : Ctr l g yX6_replyToRow wsX6_replyToRow ({ frames := 3, cells := 0, slots := 0, locals := 66 } : Room) [.ref (gA g 0), .int (iI x), .int (iI 1), .int (iI row)] M (pI (doN (M 4) (M 8 x) (M 7 x) 1 row (M 33 x)) M) := by
  refine Ctr.mk (cc := cX6_replyToRow) (maxL := 7) (ret := some .int) (lv := [(0, .ref (gA g 0)), (1, .int (iI x)), (2, .int (iI 1)), (3, .int (iI row))]) (by decide) rfl (Nat.le_of_ble_eq_true rfl) rfl ?_
  intro p e s m below meth c C hr hlk hI ls hl
  have C : CallFix p m c cX6_replyToRow 7 s ([.ref (gA g 0), .int (iI x), .int (iI 1), .int (iI row)] : List Value).toArray wsX6_replyToRow RX6 := C
  have hx := C.1
  have hb := C.2.1
  have hts := C.2.2.2.2
  have hin6 : ∀ w ∈ u_ws RX6 TX6 9, w ∈ wsX6_replyToRow := by decide +kernel
  have dk1 := dk.1
  have dk3 := dk.2.2.1
  have dk4 := dk.2.2.2.1
  have dk5 := dk.2.2.2.2
  simp only [irD, Bool.and_eq_true, decide_eq_true_eq] at hD
  have pd0 := dk.2.1 (row % 10 - 1)
  refine lv_iload_n hx hb dX6_replyToRow_0 rfl (lv_at hl 2 rfl) ?_
  refine lv_iload_n hx hb dX6_replyToRow_1 rfl (lv_at hl 3 rfl) ?_
  refine r_is C hI (As := [.int (iI 1), .int (iI row)]) (rest := []) (c_X6_turned_1 l g M row (by omega)) (va_cwS 2 hts gX6_replyToRow_X6_turned rfl rfl rfl (by decide +kernel) ⟨Nat.le_of_ble_eq_true rfl, Nat.le_of_ble_eq_true rfl⟩) rfl hl.1 rfl (Nat.le_of_ble_eq_true rfl) dX6_replyToRow_2 ⟨Nat.zero_le _, Nat.zero_le _⟩ (k_I (fun H locs hI => ?_))
  refine lv_istore (lv' := [(4, .int (iI (0 * 10 + row % 10))), (0, .ref (gA g 0)), (1, .int (iI x)), (2, .int (iI 1)), (3, .int (iI row))]) hx hb dX6_replyToRow_5 hl (by decide) rfl (fun ls hl => ?_)
  refine lv_aload_n hx hb dX6_replyToRow_7 rfl (lv_at hl 1 rfl) ?_
  refine r_get C hI 0 (by decide) rfl rfl hin6 2 (by decide) (fn := "now") (fd := "LGloveReply$Moment;") (index := 26) (by decide +kernel) ⟨rfl, rfl, rfl⟩ (v := .ref (gA g 32)) rfl dX6_replyToRow_8 ?_
  refine lv_iload_n hx hb dX6_replyToRow_11 rfl (lv_at hl 2 rfl) ?_
  refine r_iv C hI (As := [.int (iI x)]) (rest := []) (c_X2_keptBy l g M 32 x (by decide) (by omega)) (cwV 1 hts gX6_replyToRow_X2_keptBy rfl rfl rfl (by decide +kernel) ⟨Nat.le_of_ble_eq_true rfl, Nat.le_of_ble_eq_true rfl⟩) (by decide) (ceMo (show isMo 32 from by decide) _) rfl rfl hl.1 rfl (Nat.le_of_ble_eq_true rfl) dX6_replyToRow_12 ⟨Nat.zero_le _, Nat.zero_le _⟩ (k_I (fun H locs hI => ?_))
  refine r_eqI (z2 := M 33 x) rfl ?_
  refine lv_istore (lv' := [(5, .int (iI (M 33 x))), (4, .int (iI (0 * 10 + row % 10))), (0, .ref (gA g 0)), (1, .int (iI x)), (2, .int (iI 1)), (3, .int (iI row))]) hx hb dX6_replyToRow_15 hl (by decide) rfl (fun ls hl => ?_)
  refine lv_iconst (v := iI 1) hx hb dX6_replyToRow_17 rfl ?_
  refine lv_istore (lv' := [(6, .int (iI 1)), (5, .int (iI (M 33 x))), (4, .int (iI (0 * 10 + row % 10))), (0, .ref (gA g 0)), (1, .int (iI x)), (2, .int (iI 1)), (3, .int (iI row))]) hx hb dX6_replyToRow_18 hl (by decide) rfl (fun ls hl => ?_)
  refine lv_iload hx hb dX6_replyToRow_20 (lv_at hl 0 rfl) ?_
  refine lv_iload_n hx hb dX6_replyToRow_22 rfl (lv_at hl 5 rfl) ?_
  refine r_icmp_ge hx hb (tgt := 58) (by decide) (by decide) dX6_replyToRow_23 (by decide) (fun c_1 => ?_) (fun c => absurd c (by decide))
  refine lv_aload_n hx hb dX6_replyToRow_58 rfl (lv_at hl 3 rfl) ?_
  refine r_get C hI 0 (by decide) rfl rfl hin6 1 (by decide) (fn := "theDesk") (fd := "LGloveReply$Desk;") (index := 19) (by decide +kernel) ⟨rfl, rfl, rfl⟩ (v := .ref (gA g 3)) rfl dX6_replyToRow_59 ?_
  refine lv_iload_n hx hb dX6_replyToRow_62 rfl (lv_at hl 4 rfl) ?_
  refine lv_iload hx hb dX6_replyToRow_63 (lv_at hl 1 rfl) ?_
  refine lv_iload hx hb dX6_replyToRow_65 (lv_at hl 2 rfl) ?_
  refine lv_bipush (v := iI 10) hx hb dX6_replyToRow_67 (by decide +kernel) ?_
  refine r_irem hx hb (by omega) (by decide) dX6_replyToRow_69 ?_
  refine lv_iconst (v := iI 1) hx hb dX6_replyToRow_70 rfl ?_
  refine r_isub hx hb dX6_replyToRow_71 ?_
  refine r_eqI (z2 := row % 10 - 1) (by omega) ?_
  refine r_iv C hI (As := [.int (iI x), .int (iI (M 33 x)), .int (iI (row % 10 - 1))]) (rest := []) (c_X1_reply l g M x (M 33 x) (row % 10 - 1) (by omega) (by omega) (by omega) (show -2147483648 ≤ (M 8 x) ∧ (M 8 x) < 2147483648 from by omega) (show -2147483648 ≤ (M 4 (row % 10 - 1)) ∧ (M 4 (row % 10 - 1)) < 2147483648 from by omega)) (cwV 3 hts gX6_replyToRow_X1_reply rfl rfl rfl (by decide +kernel) ⟨Nat.le_of_ble_eq_true rfl, Nat.le_of_ble_eq_true rfl⟩) (by decide) rfl rfl rfl hl.1 rfl (Nat.le_of_ble_eq_true rfl) dX6_replyToRow_72 ⟨Nat.zero_le _, Nat.zero_le _⟩ (k_I (fun H locs hI => ?_))
  have ff_1 := repO_b (M 8 x) (M 33 x) (M 4 (row % 10 - 1))
  refine r_iret C hr hlk hI ?_ dX6_replyToRow_75
  exact ⟨congrArg (fun q => some (Value.int (iI q))) (show repO (M 8 x) (M 33 x) (M 4 (row % 10 - 1)) = doN (M 4) (M 8 x) (M 7 x) 1 row (M 33 x) from by simp only [doN, kpN]), rfl⟩
set_option maxHeartbeats 4000000 in
set_option maxRecDepth 100000 in
theorem c_X6_replyToRow_2 (l : Launch) (g : GT) (M : Mem) (x : Int) (row : Int) (dk : DK (M) x) (hk : 0 ≤ M 33 x ∧ M 33 x < 1000) (h0 : 0 ≤ row ∧ row < 100000) (hD : irD (M 3 6) 2 row = true) : Ctr l g yX6_replyToRow wsX6_replyToRow ({ frames := 3, cells := 0, slots := 0, locals := 66 } : Room) [.ref (gA g 0), .int (iI x), .int (iI 2), .int (iI row)] M (pI (doN (M 4) (M 8 x) (M 7 x) 2 row (M 33 x)) M) := by
  refine Ctr.mk (cc := cX6_replyToRow) (maxL := 7) (ret := some .int) (lv := [(0, .ref (gA g 0)), (1, .int (iI x)), (2, .int (iI 2)), (3, .int (iI row))]) (by decide) rfl (Nat.le_of_ble_eq_true rfl) rfl ?_
  intro p e s m below meth c C hr hlk hI ls hl
  have C : CallFix p m c cX6_replyToRow 7 s ([.ref (gA g 0), .int (iI x), .int (iI 2), .int (iI row)] : List Value).toArray wsX6_replyToRow RX6 := C
  have hx := C.1
  have hb := C.2.1
  have hts := C.2.2.2.2
  have hin6 : ∀ w ∈ u_ws RX6 TX6 9, w ∈ wsX6_replyToRow := by decide +kernel
  have dk1 := dk.1
  have dk3 := dk.2.2.1
  have dk4 := dk.2.2.2.1
  have dk5 := dk.2.2.2.2
  simp only [irD, Bool.and_eq_true, decide_eq_true_eq] at hD
  have pd0 := dk.2.1 (row % 10 - 1)
  have pd1 := dk.2.1 ((row / 10) % 10 - 1)
  refine lv_iload_n hx hb dX6_replyToRow_0 rfl (lv_at hl 2 rfl) ?_
  refine lv_iload_n hx hb dX6_replyToRow_1 rfl (lv_at hl 3 rfl) ?_
  refine r_is C hI (As := [.int (iI 2), .int (iI row)]) (rest := []) (c_X6_turned_2 l g M row (by omega)) (va_cwS 2 hts gX6_replyToRow_X6_turned rfl rfl rfl (by decide +kernel) ⟨Nat.le_of_ble_eq_true rfl, Nat.le_of_ble_eq_true rfl⟩) rfl hl.1 rfl (Nat.le_of_ble_eq_true rfl) dX6_replyToRow_2 ⟨Nat.zero_le _, Nat.zero_le _⟩ (k_I (fun H locs hI => ?_))
  refine lv_istore (lv' := [(4, .int (iI ((0 * 10 + row % 10) * 10 + (row / 10) % 10))), (0, .ref (gA g 0)), (1, .int (iI x)), (2, .int (iI 2)), (3, .int (iI row))]) hx hb dX6_replyToRow_5 hl (by decide) rfl (fun ls hl => ?_)
  refine lv_aload_n hx hb dX6_replyToRow_7 rfl (lv_at hl 1 rfl) ?_
  refine r_get C hI 0 (by decide) rfl rfl hin6 2 (by decide) (fn := "now") (fd := "LGloveReply$Moment;") (index := 26) (by decide +kernel) ⟨rfl, rfl, rfl⟩ (v := .ref (gA g 32)) rfl dX6_replyToRow_8 ?_
  refine lv_iload_n hx hb dX6_replyToRow_11 rfl (lv_at hl 2 rfl) ?_
  refine r_iv C hI (As := [.int (iI x)]) (rest := []) (c_X2_keptBy l g M 32 x (by decide) (by omega)) (cwV 1 hts gX6_replyToRow_X2_keptBy rfl rfl rfl (by decide +kernel) ⟨Nat.le_of_ble_eq_true rfl, Nat.le_of_ble_eq_true rfl⟩) (by decide) (ceMo (show isMo 32 from by decide) _) rfl rfl hl.1 rfl (Nat.le_of_ble_eq_true rfl) dX6_replyToRow_12 ⟨Nat.zero_le _, Nat.zero_le _⟩ (k_I (fun H locs hI => ?_))
  refine r_eqI (z2 := M 33 x) rfl ?_
  refine lv_istore (lv' := [(5, .int (iI (M 33 x))), (4, .int (iI ((0 * 10 + row % 10) * 10 + (row / 10) % 10))), (0, .ref (gA g 0)), (1, .int (iI x)), (2, .int (iI 2)), (3, .int (iI row))]) hx hb dX6_replyToRow_15 hl (by decide) rfl (fun ls hl => ?_)
  refine lv_iconst (v := iI 1) hx hb dX6_replyToRow_17 rfl ?_
  refine lv_istore (lv' := [(6, .int (iI 1)), (5, .int (iI (M 33 x))), (4, .int (iI ((0 * 10 + row % 10) * 10 + (row / 10) % 10))), (0, .ref (gA g 0)), (1, .int (iI x)), (2, .int (iI 2)), (3, .int (iI row))]) hx hb dX6_replyToRow_18 hl (by decide) rfl (fun ls hl => ?_)
  refine lv_iload hx hb dX6_replyToRow_20 (lv_at hl 0 rfl) ?_
  refine lv_iload_n hx hb dX6_replyToRow_22 rfl (lv_at hl 5 rfl) ?_
  refine r_icmp_ge hx hb (tgt := 58) (by decide) (by decide) dX6_replyToRow_23 (by decide) (fun c => absurd c (by decide)) (fun c_1 => ?_)
  refine lv_aload_n hx hb dX6_replyToRow_26 rfl (lv_at hl 3 rfl) ?_
  refine r_get C hI 0 (by decide) rfl rfl hin6 1 (by decide) (fn := "theDesk") (fd := "LGloveReply$Desk;") (index := 19) (by decide +kernel) ⟨rfl, rfl, rfl⟩ (v := .ref (gA g 3)) rfl dX6_replyToRow_27 ?_
  refine lv_iload_n hx hb dX6_replyToRow_30 rfl (lv_at hl 4 rfl) ?_
  refine lv_iload hx hb dX6_replyToRow_31 (lv_at hl 1 rfl) ?_
  refine lv_iload hx hb dX6_replyToRow_33 (lv_at hl 2 rfl) ?_
  refine lv_bipush (v := iI 10) hx hb dX6_replyToRow_35 (by decide +kernel) ?_
  refine r_irem hx hb (by omega) (by decide) dX6_replyToRow_37 ?_
  refine lv_iconst (v := iI 1) hx hb dX6_replyToRow_38 rfl ?_
  refine r_isub hx hb dX6_replyToRow_39 ?_
  refine r_eqI (z2 := (row / 10) % 10 - 1) (by omega) ?_
  refine r_iv C hI (As := [.int (iI x), .int (iI (M 33 x)), .int (iI ((row / 10) % 10 - 1))]) (rest := []) (c_X1_afterHand l g M x (M 33 x) ((row / 10) % 10 - 1) (by omega) (by omega) (by omega) (show -2147483648 ≤ (M 7 x) ∧ (M 7 x) < 2147483648 from by omega)) (cwV 3 hts gX6_replyToRow_X1_afterHand rfl rfl rfl (by decide +kernel) ⟨Nat.le_of_ble_eq_true rfl, Nat.le_of_ble_eq_true rfl⟩) (by decide) rfl rfl rfl hl.1 rfl (Nat.le_of_ble_eq_true rfl) dX6_replyToRow_40 ⟨Nat.zero_le _, Nat.zero_le _⟩ (k_I (fun H locs hI => ?_))
  have ff_1 := @behO_b (M 33 x) (M 4 ((row / 10) % 10 - 1)) (M 7 x)
  refine lv_istore (lv' := [(5, .int (iI (behO (M 33 x) (M 4 ((row / 10) % 10 - 1)) (M 7 x)))), (6, .int (iI 1)), (4, .int (iI ((0 * 10 + row % 10) * 10 + (row / 10) % 10))), (0, .ref (gA g 0)), (1, .int (iI x)), (2, .int (iI 2)), (3, .int (iI row))]) hx hb dX6_replyToRow_43 hl (by decide) rfl (fun ls hl => ?_)
  refine lv_iload hx hb dX6_replyToRow_45 (lv_at hl 2 rfl) ?_
  refine lv_bipush (v := iI 10) hx hb dX6_replyToRow_47 (by decide +kernel) ?_
  refine r_idiv hx hb (by omega) (by decide) dX6_replyToRow_49 ?_
  refine r_eqI (z2 := 0 * 10 + row % 10) (by omega) ?_
  refine lv_istore (lv' := [(4, .int (iI (0 * 10 + row % 10))), (5, .int (iI (behO (M 33 x) (M 4 ((row / 10) % 10 - 1)) (M 7 x)))), (6, .int (iI 1)), (0, .ref (gA g 0)), (1, .int (iI x)), (2, .int (iI 2)), (3, .int (iI row))]) hx hb dX6_replyToRow_50 hl (by decide) rfl (fun ls hl => ?_)
  refine lv_iinc (v := iI (2)) (lv' := [(6, .int (iI 2)), (4, .int (iI (0 * 10 + row % 10))), (5, .int (iI (behO (M 33 x) (M 4 ((row / 10) % 10 - 1)) (M 7 x)))), (0, .ref (gA g 0)), (1, .int (iI x)), (2, .int (iI 2)), (3, .int (iI row))]) hx hb dX6_replyToRow_52 hl (k := 2) rfl (iI_add _ _) (by decide) rfl (fun ls hl => ?_)
  refine lv_goto (tgt := 20) hx hb dX6_replyToRow_55 (by decide) ?_
  refine lv_iload hx hb dX6_replyToRow_20 (lv_at hl 0 rfl) ?_
  refine lv_iload_n hx hb dX6_replyToRow_22 rfl (lv_at hl 5 rfl) ?_
  refine r_icmp_ge hx hb (tgt := 58) (by decide) (by decide) dX6_replyToRow_23 (by decide) (fun c_2 => ?_) (fun c => absurd c (by decide))
  refine lv_aload_n hx hb dX6_replyToRow_58 rfl (lv_at hl 3 rfl) ?_
  refine r_get C hI 0 (by decide) rfl rfl hin6 1 (by decide) (fn := "theDesk") (fd := "LGloveReply$Desk;") (index := 19) (by decide +kernel) ⟨rfl, rfl, rfl⟩ (v := .ref (gA g 3)) rfl dX6_replyToRow_59 ?_
  refine lv_iload_n hx hb dX6_replyToRow_62 rfl (lv_at hl 4 rfl) ?_
  refine lv_iload hx hb dX6_replyToRow_63 (lv_at hl 2 rfl) ?_
  refine lv_iload hx hb dX6_replyToRow_65 (lv_at hl 1 rfl) ?_
  refine lv_bipush (v := iI 10) hx hb dX6_replyToRow_67 (by decide +kernel) ?_
  refine r_irem hx hb (by omega) (by decide) dX6_replyToRow_69 ?_
  refine lv_iconst (v := iI 1) hx hb dX6_replyToRow_70 rfl ?_
  refine r_isub hx hb dX6_replyToRow_71 ?_
  refine r_eqI (z2 := row % 10 - 1) (by omega) ?_
  refine r_iv C hI (As := [.int (iI x), .int (iI (behO (M 33 x) (M 4 ((row / 10) % 10 - 1)) (M 7 x))), .int (iI (row % 10 - 1))]) (rest := []) (c_X1_reply l g M x (behO (M 33 x) (M 4 ((row / 10) % 10 - 1)) (M 7 x)) (row % 10 - 1) (by omega) (by omega) (by omega) (show -2147483648 ≤ (M 8 x) ∧ (M 8 x) < 2147483648 from by omega) (show -2147483648 ≤ (M 4 (row % 10 - 1)) ∧ (M 4 (row % 10 - 1)) < 2147483648 from by omega)) (cwV 3 hts gX6_replyToRow_X1_reply rfl rfl rfl (by decide +kernel) ⟨Nat.le_of_ble_eq_true rfl, Nat.le_of_ble_eq_true rfl⟩) (by decide) rfl rfl rfl hl.1 rfl (Nat.le_of_ble_eq_true rfl) dX6_replyToRow_72 ⟨Nat.zero_le _, Nat.zero_le _⟩ (k_I (fun H locs hI => ?_))
  have ff_2 := repO_b (M 8 x) (behO (M 33 x) (M 4 ((row / 10) % 10 - 1)) (M 7 x)) (M 4 (row % 10 - 1))
  refine r_iret C hr hlk hI ?_ dX6_replyToRow_75
  exact ⟨congrArg (fun q => some (Value.int (iI q))) (show repO (M 8 x) (behO (M 33 x) (M 4 ((row / 10) % 10 - 1)) (M 7 x)) (M 4 (row % 10 - 1)) = doN (M 4) (M 8 x) (M 7 x) 2 row (M 33 x) from by simp only [doN, kpN]), rfl⟩
set_option maxHeartbeats 4000000 in
set_option maxRecDepth 100000 in
theorem c_X6_replyToRow_3 (l : Launch) (g : GT) (M : Mem) (x : Int) (row : Int) (dk : DK (M) x) (hk : 0 ≤ M 33 x ∧ M 33 x < 1000) (h0 : 0 ≤ row ∧ row < 100000) (hD : irD (M 3 6) 3 row = true) : Ctr l g yX6_replyToRow wsX6_replyToRow ({ frames := 3, cells := 0, slots := 0, locals := 66 } : Room) [.ref (gA g 0), .int (iI x), .int (iI 3), .int (iI row)] M (pI (doN (M 4) (M 8 x) (M 7 x) 3 row (M 33 x)) M) := by
  refine Ctr.mk (cc := cX6_replyToRow) (maxL := 7) (ret := some .int) (lv := [(0, .ref (gA g 0)), (1, .int (iI x)), (2, .int (iI 3)), (3, .int (iI row))]) (by decide) rfl (Nat.le_of_ble_eq_true rfl) rfl ?_
  intro p e s m below meth c C hr hlk hI ls hl
  have C : CallFix p m c cX6_replyToRow 7 s ([.ref (gA g 0), .int (iI x), .int (iI 3), .int (iI row)] : List Value).toArray wsX6_replyToRow RX6 := C
  have hx := C.1
  have hb := C.2.1
  have hts := C.2.2.2.2
  have hin6 : ∀ w ∈ u_ws RX6 TX6 9, w ∈ wsX6_replyToRow := by decide +kernel
  have dk1 := dk.1
  have dk3 := dk.2.2.1
  have dk4 := dk.2.2.2.1
  have dk5 := dk.2.2.2.2
  simp only [irD, Bool.and_eq_true, decide_eq_true_eq] at hD
  have pd0 := dk.2.1 (row % 10 - 1)
  have pd1 := dk.2.1 ((row / 10) % 10 - 1)
  have pd2 := dk.2.1 (((row / 10) / 10) % 10 - 1)
  refine lv_iload_n hx hb dX6_replyToRow_0 rfl (lv_at hl 2 rfl) ?_
  refine lv_iload_n hx hb dX6_replyToRow_1 rfl (lv_at hl 3 rfl) ?_
  refine r_is C hI (As := [.int (iI 3), .int (iI row)]) (rest := []) (c_X6_turned_3 l g M row (by omega)) (va_cwS 2 hts gX6_replyToRow_X6_turned rfl rfl rfl (by decide +kernel) ⟨Nat.le_of_ble_eq_true rfl, Nat.le_of_ble_eq_true rfl⟩) rfl hl.1 rfl (Nat.le_of_ble_eq_true rfl) dX6_replyToRow_2 ⟨Nat.zero_le _, Nat.zero_le _⟩ (k_I (fun H locs hI => ?_))
  refine lv_istore (lv' := [(4, .int (iI (((0 * 10 + row % 10) * 10 + (row / 10) % 10) * 10 + ((row / 10) / 10) % 10))), (0, .ref (gA g 0)), (1, .int (iI x)), (2, .int (iI 3)), (3, .int (iI row))]) hx hb dX6_replyToRow_5 hl (by decide) rfl (fun ls hl => ?_)
  refine lv_aload_n hx hb dX6_replyToRow_7 rfl (lv_at hl 1 rfl) ?_
  refine r_get C hI 0 (by decide) rfl rfl hin6 2 (by decide) (fn := "now") (fd := "LGloveReply$Moment;") (index := 26) (by decide +kernel) ⟨rfl, rfl, rfl⟩ (v := .ref (gA g 32)) rfl dX6_replyToRow_8 ?_
  refine lv_iload_n hx hb dX6_replyToRow_11 rfl (lv_at hl 2 rfl) ?_
  refine r_iv C hI (As := [.int (iI x)]) (rest := []) (c_X2_keptBy l g M 32 x (by decide) (by omega)) (cwV 1 hts gX6_replyToRow_X2_keptBy rfl rfl rfl (by decide +kernel) ⟨Nat.le_of_ble_eq_true rfl, Nat.le_of_ble_eq_true rfl⟩) (by decide) (ceMo (show isMo 32 from by decide) _) rfl rfl hl.1 rfl (Nat.le_of_ble_eq_true rfl) dX6_replyToRow_12 ⟨Nat.zero_le _, Nat.zero_le _⟩ (k_I (fun H locs hI => ?_))
  refine r_eqI (z2 := M 33 x) rfl ?_
  refine lv_istore (lv' := [(5, .int (iI (M 33 x))), (4, .int (iI (((0 * 10 + row % 10) * 10 + (row / 10) % 10) * 10 + ((row / 10) / 10) % 10))), (0, .ref (gA g 0)), (1, .int (iI x)), (2, .int (iI 3)), (3, .int (iI row))]) hx hb dX6_replyToRow_15 hl (by decide) rfl (fun ls hl => ?_)
  refine lv_iconst (v := iI 1) hx hb dX6_replyToRow_17 rfl ?_
  refine lv_istore (lv' := [(6, .int (iI 1)), (5, .int (iI (M 33 x))), (4, .int (iI (((0 * 10 + row % 10) * 10 + (row / 10) % 10) * 10 + ((row / 10) / 10) % 10))), (0, .ref (gA g 0)), (1, .int (iI x)), (2, .int (iI 3)), (3, .int (iI row))]) hx hb dX6_replyToRow_18 hl (by decide) rfl (fun ls hl => ?_)
  refine lv_iload hx hb dX6_replyToRow_20 (lv_at hl 0 rfl) ?_
  refine lv_iload_n hx hb dX6_replyToRow_22 rfl (lv_at hl 5 rfl) ?_
  refine r_icmp_ge hx hb (tgt := 58) (by decide) (by decide) dX6_replyToRow_23 (by decide) (fun c => absurd c (by decide)) (fun c_1 => ?_)
  refine lv_aload_n hx hb dX6_replyToRow_26 rfl (lv_at hl 3 rfl) ?_
  refine r_get C hI 0 (by decide) rfl rfl hin6 1 (by decide) (fn := "theDesk") (fd := "LGloveReply$Desk;") (index := 19) (by decide +kernel) ⟨rfl, rfl, rfl⟩ (v := .ref (gA g 3)) rfl dX6_replyToRow_27 ?_
  refine lv_iload_n hx hb dX6_replyToRow_30 rfl (lv_at hl 4 rfl) ?_
  refine lv_iload hx hb dX6_replyToRow_31 (lv_at hl 1 rfl) ?_
  refine lv_iload hx hb dX6_replyToRow_33 (lv_at hl 2 rfl) ?_
  refine lv_bipush (v := iI 10) hx hb dX6_replyToRow_35 (by decide +kernel) ?_
  refine r_irem hx hb (by omega) (by decide) dX6_replyToRow_37 ?_
  refine lv_iconst (v := iI 1) hx hb dX6_replyToRow_38 rfl ?_
  refine r_isub hx hb dX6_replyToRow_39 ?_
  refine r_eqI (z2 := ((row / 10) / 10) % 10 - 1) (by omega) ?_
  refine r_iv C hI (As := [.int (iI x), .int (iI (M 33 x)), .int (iI (((row / 10) / 10) % 10 - 1))]) (rest := []) (c_X1_afterHand l g M x (M 33 x) (((row / 10) / 10) % 10 - 1) (by omega) (by omega) (by omega) (show -2147483648 ≤ (M 7 x) ∧ (M 7 x) < 2147483648 from by omega)) (cwV 3 hts gX6_replyToRow_X1_afterHand rfl rfl rfl (by decide +kernel) ⟨Nat.le_of_ble_eq_true rfl, Nat.le_of_ble_eq_true rfl⟩) (by decide) rfl rfl rfl hl.1 rfl (Nat.le_of_ble_eq_true rfl) dX6_replyToRow_40 ⟨Nat.zero_le _, Nat.zero_le _⟩ (k_I (fun H locs hI => ?_))
  have ff_1 := @behO_b (M 33 x) (M 4 (((row / 10) / 10) % 10 - 1)) (M 7 x)
  refine lv_istore (lv' := [(5, .int (iI (behO (M 33 x) (M 4 (((row / 10) / 10) % 10 - 1)) (M 7 x)))), (6, .int (iI 1)), (4, .int (iI (((0 * 10 + row % 10) * 10 + (row / 10) % 10) * 10 + ((row / 10) / 10) % 10))), (0, .ref (gA g 0)), (1, .int (iI x)), (2, .int (iI 3)), (3, .int (iI row))]) hx hb dX6_replyToRow_43 hl (by decide) rfl (fun ls hl => ?_)
  refine lv_iload hx hb dX6_replyToRow_45 (lv_at hl 2 rfl) ?_
  refine lv_bipush (v := iI 10) hx hb dX6_replyToRow_47 (by decide +kernel) ?_
  refine r_idiv hx hb (by omega) (by decide) dX6_replyToRow_49 ?_
  refine r_eqI (z2 := (0 * 10 + row % 10) * 10 + (row / 10) % 10) (by omega) ?_
  refine lv_istore (lv' := [(4, .int (iI ((0 * 10 + row % 10) * 10 + (row / 10) % 10))), (5, .int (iI (behO (M 33 x) (M 4 (((row / 10) / 10) % 10 - 1)) (M 7 x)))), (6, .int (iI 1)), (0, .ref (gA g 0)), (1, .int (iI x)), (2, .int (iI 3)), (3, .int (iI row))]) hx hb dX6_replyToRow_50 hl (by decide) rfl (fun ls hl => ?_)
  refine lv_iinc (v := iI (2)) (lv' := [(6, .int (iI 2)), (4, .int (iI ((0 * 10 + row % 10) * 10 + (row / 10) % 10))), (5, .int (iI (behO (M 33 x) (M 4 (((row / 10) / 10) % 10 - 1)) (M 7 x)))), (0, .ref (gA g 0)), (1, .int (iI x)), (2, .int (iI 3)), (3, .int (iI row))]) hx hb dX6_replyToRow_52 hl (k := 2) rfl (iI_add _ _) (by decide) rfl (fun ls hl => ?_)
  refine lv_goto (tgt := 20) hx hb dX6_replyToRow_55 (by decide) ?_
  refine lv_iload hx hb dX6_replyToRow_20 (lv_at hl 0 rfl) ?_
  refine lv_iload_n hx hb dX6_replyToRow_22 rfl (lv_at hl 5 rfl) ?_
  refine r_icmp_ge hx hb (tgt := 58) (by decide) (by decide) dX6_replyToRow_23 (by decide) (fun c => absurd c (by decide)) (fun c_2 => ?_)
  refine lv_aload_n hx hb dX6_replyToRow_26 rfl (lv_at hl 3 rfl) ?_
  refine r_get C hI 0 (by decide) rfl rfl hin6 1 (by decide) (fn := "theDesk") (fd := "LGloveReply$Desk;") (index := 19) (by decide +kernel) ⟨rfl, rfl, rfl⟩ (v := .ref (gA g 3)) rfl dX6_replyToRow_27 ?_
  refine lv_iload_n hx hb dX6_replyToRow_30 rfl (lv_at hl 4 rfl) ?_
  refine lv_iload hx hb dX6_replyToRow_31 (lv_at hl 2 rfl) ?_
  refine lv_iload hx hb dX6_replyToRow_33 (lv_at hl 1 rfl) ?_
  refine lv_bipush (v := iI 10) hx hb dX6_replyToRow_35 (by decide +kernel) ?_
  refine r_irem hx hb (by omega) (by decide) dX6_replyToRow_37 ?_
  refine lv_iconst (v := iI 1) hx hb dX6_replyToRow_38 rfl ?_
  refine r_isub hx hb dX6_replyToRow_39 ?_
  refine r_eqI (z2 := (row / 10) % 10 - 1) (by omega) ?_
  refine r_iv C hI (As := [.int (iI x), .int (iI (behO (M 33 x) (M 4 (((row / 10) / 10) % 10 - 1)) (M 7 x))), .int (iI ((row / 10) % 10 - 1))]) (rest := []) (c_X1_afterHand l g M x (behO (M 33 x) (M 4 (((row / 10) / 10) % 10 - 1)) (M 7 x)) ((row / 10) % 10 - 1) (by omega) (by omega) (by omega) (show -2147483648 ≤ (M 7 x) ∧ (M 7 x) < 2147483648 from by omega)) (cwV 3 hts gX6_replyToRow_X1_afterHand rfl rfl rfl (by decide +kernel) ⟨Nat.le_of_ble_eq_true rfl, Nat.le_of_ble_eq_true rfl⟩) (by decide) rfl rfl rfl hl.1 rfl (Nat.le_of_ble_eq_true rfl) dX6_replyToRow_40 ⟨Nat.zero_le _, Nat.zero_le _⟩ (k_I (fun H locs hI => ?_))
  have ff_2 := @behO_b (behO (M 33 x) (M 4 (((row / 10) / 10) % 10 - 1)) (M 7 x)) (M 4 ((row / 10) % 10 - 1)) (M 7 x)
  refine lv_istore (lv' := [(5, .int (iI (behO (behO (M 33 x) (M 4 (((row / 10) / 10) % 10 - 1)) (M 7 x)) (M 4 ((row / 10) % 10 - 1)) (M 7 x)))), (6, .int (iI 2)), (4, .int (iI ((0 * 10 + row % 10) * 10 + (row / 10) % 10))), (0, .ref (gA g 0)), (1, .int (iI x)), (2, .int (iI 3)), (3, .int (iI row))]) hx hb dX6_replyToRow_43 hl (by decide) rfl (fun ls hl => ?_)
  refine lv_iload hx hb dX6_replyToRow_45 (lv_at hl 2 rfl) ?_
  refine lv_bipush (v := iI 10) hx hb dX6_replyToRow_47 (by decide +kernel) ?_
  refine r_idiv hx hb (by omega) (by decide) dX6_replyToRow_49 ?_
  refine r_eqI (z2 := 0 * 10 + row % 10) (by omega) ?_
  refine lv_istore (lv' := [(4, .int (iI (0 * 10 + row % 10))), (5, .int (iI (behO (behO (M 33 x) (M 4 (((row / 10) / 10) % 10 - 1)) (M 7 x)) (M 4 ((row / 10) % 10 - 1)) (M 7 x)))), (6, .int (iI 2)), (0, .ref (gA g 0)), (1, .int (iI x)), (2, .int (iI 3)), (3, .int (iI row))]) hx hb dX6_replyToRow_50 hl (by decide) rfl (fun ls hl => ?_)
  refine lv_iinc (v := iI (3)) (lv' := [(6, .int (iI 3)), (4, .int (iI (0 * 10 + row % 10))), (5, .int (iI (behO (behO (M 33 x) (M 4 (((row / 10) / 10) % 10 - 1)) (M 7 x)) (M 4 ((row / 10) % 10 - 1)) (M 7 x)))), (0, .ref (gA g 0)), (1, .int (iI x)), (2, .int (iI 3)), (3, .int (iI row))]) hx hb dX6_replyToRow_52 hl (k := 2) rfl (iI_add _ _) (by decide) rfl (fun ls hl => ?_)
  refine lv_goto (tgt := 20) hx hb dX6_replyToRow_55 (by decide) ?_
  refine lv_iload hx hb dX6_replyToRow_20 (lv_at hl 0 rfl) ?_
  refine lv_iload_n hx hb dX6_replyToRow_22 rfl (lv_at hl 5 rfl) ?_
  refine r_icmp_ge hx hb (tgt := 58) (by decide) (by decide) dX6_replyToRow_23 (by decide) (fun c_3 => ?_) (fun c => absurd c (by decide))
  refine lv_aload_n hx hb dX6_replyToRow_58 rfl (lv_at hl 3 rfl) ?_
  refine r_get C hI 0 (by decide) rfl rfl hin6 1 (by decide) (fn := "theDesk") (fd := "LGloveReply$Desk;") (index := 19) (by decide +kernel) ⟨rfl, rfl, rfl⟩ (v := .ref (gA g 3)) rfl dX6_replyToRow_59 ?_
  refine lv_iload_n hx hb dX6_replyToRow_62 rfl (lv_at hl 4 rfl) ?_
  refine lv_iload hx hb dX6_replyToRow_63 (lv_at hl 2 rfl) ?_
  refine lv_iload hx hb dX6_replyToRow_65 (lv_at hl 1 rfl) ?_
  refine lv_bipush (v := iI 10) hx hb dX6_replyToRow_67 (by decide +kernel) ?_
  refine r_irem hx hb (by omega) (by decide) dX6_replyToRow_69 ?_
  refine lv_iconst (v := iI 1) hx hb dX6_replyToRow_70 rfl ?_
  refine r_isub hx hb dX6_replyToRow_71 ?_
  refine r_eqI (z2 := row % 10 - 1) (by omega) ?_
  refine r_iv C hI (As := [.int (iI x), .int (iI (behO (behO (M 33 x) (M 4 (((row / 10) / 10) % 10 - 1)) (M 7 x)) (M 4 ((row / 10) % 10 - 1)) (M 7 x))), .int (iI (row % 10 - 1))]) (rest := []) (c_X1_reply l g M x (behO (behO (M 33 x) (M 4 (((row / 10) / 10) % 10 - 1)) (M 7 x)) (M 4 ((row / 10) % 10 - 1)) (M 7 x)) (row % 10 - 1) (by omega) (by omega) (by omega) (show -2147483648 ≤ (M 8 x) ∧ (M 8 x) < 2147483648 from by omega) (show -2147483648 ≤ (M 4 (row % 10 - 1)) ∧ (M 4 (row % 10 - 1)) < 2147483648 from by omega)) (cwV 3 hts gX6_replyToRow_X1_reply rfl rfl rfl (by decide +kernel) ⟨Nat.le_of_ble_eq_true rfl, Nat.le_of_ble_eq_true rfl⟩) (by decide) rfl rfl rfl hl.1 rfl (Nat.le_of_ble_eq_true rfl) dX6_replyToRow_72 ⟨Nat.zero_le _, Nat.zero_le _⟩ (k_I (fun H locs hI => ?_))
  have ff_3 := repO_b (M 8 x) (behO (behO (M 33 x) (M 4 (((row / 10) / 10) % 10 - 1)) (M 7 x)) (M 4 ((row / 10) % 10 - 1)) (M 7 x)) (M 4 (row % 10 - 1))
  refine r_iret C hr hlk hI ?_ dX6_replyToRow_75
  exact ⟨congrArg (fun q => some (Value.int (iI q))) (show repO (M 8 x) (behO (behO (M 33 x) (M 4 (((row / 10) / 10) % 10 - 1)) (M 7 x)) (M 4 ((row / 10) % 10 - 1)) (M 7 x)) (M 4 (row % 10 - 1)) = doN (M 4) (M 8 x) (M 7 x) 3 row (M 33 x) from by simp only [doN, kpN]), rfl⟩
set_option maxHeartbeats 4000000 in
set_option maxRecDepth 100000 in
theorem c_X6_replyToRow_4 (l : Launch) (g : GT) (M : Mem) (x : Int) (row : Int) (dk : DK (M) x) (hk : 0 ≤ M 33 x ∧ M 33 x < 1000) (h0 : 0 ≤ row ∧ row < 100000) (hD : irD (M 3 6) 4 row = true) : Ctr l g yX6_replyToRow wsX6_replyToRow ({ frames := 3, cells := 0, slots := 0, locals := 66 } : Room) [.ref (gA g 0), .int (iI x), .int (iI 4), .int (iI row)] M (pI (doN (M 4) (M 8 x) (M 7 x) 4 row (M 33 x)) M) := by
  refine Ctr.mk (cc := cX6_replyToRow) (maxL := 7) (ret := some .int) (lv := [(0, .ref (gA g 0)), (1, .int (iI x)), (2, .int (iI 4)), (3, .int (iI row))]) (by decide) rfl (Nat.le_of_ble_eq_true rfl) rfl ?_
  intro p e s m below meth c C hr hlk hI ls hl
  have C : CallFix p m c cX6_replyToRow 7 s ([.ref (gA g 0), .int (iI x), .int (iI 4), .int (iI row)] : List Value).toArray wsX6_replyToRow RX6 := C
  have hx := C.1
  have hb := C.2.1
  have hts := C.2.2.2.2
  have hin6 : ∀ w ∈ u_ws RX6 TX6 9, w ∈ wsX6_replyToRow := by decide +kernel
  have dk1 := dk.1
  have dk3 := dk.2.2.1
  have dk4 := dk.2.2.2.1
  have dk5 := dk.2.2.2.2
  simp only [irD, Bool.and_eq_true, decide_eq_true_eq] at hD
  have pd0 := dk.2.1 (row % 10 - 1)
  have pd1 := dk.2.1 ((row / 10) % 10 - 1)
  have pd2 := dk.2.1 (((row / 10) / 10) % 10 - 1)
  have pd3 := dk.2.1 ((((row / 10) / 10) / 10) % 10 - 1)
  refine lv_iload_n hx hb dX6_replyToRow_0 rfl (lv_at hl 2 rfl) ?_
  refine lv_iload_n hx hb dX6_replyToRow_1 rfl (lv_at hl 3 rfl) ?_
  refine r_is C hI (As := [.int (iI 4), .int (iI row)]) (rest := []) (c_X6_turned_4 l g M row (by omega)) (va_cwS 2 hts gX6_replyToRow_X6_turned rfl rfl rfl (by decide +kernel) ⟨Nat.le_of_ble_eq_true rfl, Nat.le_of_ble_eq_true rfl⟩) rfl hl.1 rfl (Nat.le_of_ble_eq_true rfl) dX6_replyToRow_2 ⟨Nat.zero_le _, Nat.zero_le _⟩ (k_I (fun H locs hI => ?_))
  refine lv_istore (lv' := [(4, .int (iI ((((0 * 10 + row % 10) * 10 + (row / 10) % 10) * 10 + ((row / 10) / 10) % 10) * 10 + (((row / 10) / 10) / 10) % 10))), (0, .ref (gA g 0)), (1, .int (iI x)), (2, .int (iI 4)), (3, .int (iI row))]) hx hb dX6_replyToRow_5 hl (by decide) rfl (fun ls hl => ?_)
  refine lv_aload_n hx hb dX6_replyToRow_7 rfl (lv_at hl 1 rfl) ?_
  refine r_get C hI 0 (by decide) rfl rfl hin6 2 (by decide) (fn := "now") (fd := "LGloveReply$Moment;") (index := 26) (by decide +kernel) ⟨rfl, rfl, rfl⟩ (v := .ref (gA g 32)) rfl dX6_replyToRow_8 ?_
  refine lv_iload_n hx hb dX6_replyToRow_11 rfl (lv_at hl 2 rfl) ?_
  refine r_iv C hI (As := [.int (iI x)]) (rest := []) (c_X2_keptBy l g M 32 x (by decide) (by omega)) (cwV 1 hts gX6_replyToRow_X2_keptBy rfl rfl rfl (by decide +kernel) ⟨Nat.le_of_ble_eq_true rfl, Nat.le_of_ble_eq_true rfl⟩) (by decide) (ceMo (show isMo 32 from by decide) _) rfl rfl hl.1 rfl (Nat.le_of_ble_eq_true rfl) dX6_replyToRow_12 ⟨Nat.zero_le _, Nat.zero_le _⟩ (k_I (fun H locs hI => ?_))
  refine r_eqI (z2 := M 33 x) rfl ?_
  refine lv_istore (lv' := [(5, .int (iI (M 33 x))), (4, .int (iI ((((0 * 10 + row % 10) * 10 + (row / 10) % 10) * 10 + ((row / 10) / 10) % 10) * 10 + (((row / 10) / 10) / 10) % 10))), (0, .ref (gA g 0)), (1, .int (iI x)), (2, .int (iI 4)), (3, .int (iI row))]) hx hb dX6_replyToRow_15 hl (by decide) rfl (fun ls hl => ?_)
  refine lv_iconst (v := iI 1) hx hb dX6_replyToRow_17 rfl ?_
  refine lv_istore (lv' := [(6, .int (iI 1)), (5, .int (iI (M 33 x))), (4, .int (iI ((((0 * 10 + row % 10) * 10 + (row / 10) % 10) * 10 + ((row / 10) / 10) % 10) * 10 + (((row / 10) / 10) / 10) % 10))), (0, .ref (gA g 0)), (1, .int (iI x)), (2, .int (iI 4)), (3, .int (iI row))]) hx hb dX6_replyToRow_18 hl (by decide) rfl (fun ls hl => ?_)
  refine lv_iload hx hb dX6_replyToRow_20 (lv_at hl 0 rfl) ?_
  refine lv_iload_n hx hb dX6_replyToRow_22 rfl (lv_at hl 5 rfl) ?_
  refine r_icmp_ge hx hb (tgt := 58) (by decide) (by decide) dX6_replyToRow_23 (by decide) (fun c => absurd c (by decide)) (fun c_1 => ?_)
  refine lv_aload_n hx hb dX6_replyToRow_26 rfl (lv_at hl 3 rfl) ?_
  refine r_get C hI 0 (by decide) rfl rfl hin6 1 (by decide) (fn := "theDesk") (fd := "LGloveReply$Desk;") (index := 19) (by decide +kernel) ⟨rfl, rfl, rfl⟩ (v := .ref (gA g 3)) rfl dX6_replyToRow_27 ?_
  refine lv_iload_n hx hb dX6_replyToRow_30 rfl (lv_at hl 4 rfl) ?_
  refine lv_iload hx hb dX6_replyToRow_31 (lv_at hl 1 rfl) ?_
  refine lv_iload hx hb dX6_replyToRow_33 (lv_at hl 2 rfl) ?_
  refine lv_bipush (v := iI 10) hx hb dX6_replyToRow_35 (by decide +kernel) ?_
  refine r_irem hx hb (by omega) (by decide) dX6_replyToRow_37 ?_
  refine lv_iconst (v := iI 1) hx hb dX6_replyToRow_38 rfl ?_
  refine r_isub hx hb dX6_replyToRow_39 ?_
  refine r_eqI (z2 := (((row / 10) / 10) / 10) % 10 - 1) (by omega) ?_
  refine r_iv C hI (As := [.int (iI x), .int (iI (M 33 x)), .int (iI ((((row / 10) / 10) / 10) % 10 - 1))]) (rest := []) (c_X1_afterHand l g M x (M 33 x) ((((row / 10) / 10) / 10) % 10 - 1) (by omega) (by omega) (by omega) (show -2147483648 ≤ (M 7 x) ∧ (M 7 x) < 2147483648 from by omega)) (cwV 3 hts gX6_replyToRow_X1_afterHand rfl rfl rfl (by decide +kernel) ⟨Nat.le_of_ble_eq_true rfl, Nat.le_of_ble_eq_true rfl⟩) (by decide) rfl rfl rfl hl.1 rfl (Nat.le_of_ble_eq_true rfl) dX6_replyToRow_40 ⟨Nat.zero_le _, Nat.zero_le _⟩ (k_I (fun H locs hI => ?_))
  have ff_1 := @behO_b (M 33 x) (M 4 ((((row / 10) / 10) / 10) % 10 - 1)) (M 7 x)
  refine lv_istore (lv' := [(5, .int (iI (behO (M 33 x) (M 4 ((((row / 10) / 10) / 10) % 10 - 1)) (M 7 x)))), (6, .int (iI 1)), (4, .int (iI ((((0 * 10 + row % 10) * 10 + (row / 10) % 10) * 10 + ((row / 10) / 10) % 10) * 10 + (((row / 10) / 10) / 10) % 10))), (0, .ref (gA g 0)), (1, .int (iI x)), (2, .int (iI 4)), (3, .int (iI row))]) hx hb dX6_replyToRow_43 hl (by decide) rfl (fun ls hl => ?_)
  refine lv_iload hx hb dX6_replyToRow_45 (lv_at hl 2 rfl) ?_
  refine lv_bipush (v := iI 10) hx hb dX6_replyToRow_47 (by decide +kernel) ?_
  refine r_idiv hx hb (by omega) (by decide) dX6_replyToRow_49 ?_
  refine r_eqI (z2 := ((0 * 10 + row % 10) * 10 + (row / 10) % 10) * 10 + ((row / 10) / 10) % 10) (by omega) ?_
  refine lv_istore (lv' := [(4, .int (iI (((0 * 10 + row % 10) * 10 + (row / 10) % 10) * 10 + ((row / 10) / 10) % 10))), (5, .int (iI (behO (M 33 x) (M 4 ((((row / 10) / 10) / 10) % 10 - 1)) (M 7 x)))), (6, .int (iI 1)), (0, .ref (gA g 0)), (1, .int (iI x)), (2, .int (iI 4)), (3, .int (iI row))]) hx hb dX6_replyToRow_50 hl (by decide) rfl (fun ls hl => ?_)
  refine lv_iinc (v := iI (2)) (lv' := [(6, .int (iI 2)), (4, .int (iI (((0 * 10 + row % 10) * 10 + (row / 10) % 10) * 10 + ((row / 10) / 10) % 10))), (5, .int (iI (behO (M 33 x) (M 4 ((((row / 10) / 10) / 10) % 10 - 1)) (M 7 x)))), (0, .ref (gA g 0)), (1, .int (iI x)), (2, .int (iI 4)), (3, .int (iI row))]) hx hb dX6_replyToRow_52 hl (k := 2) rfl (iI_add _ _) (by decide) rfl (fun ls hl => ?_)
  refine lv_goto (tgt := 20) hx hb dX6_replyToRow_55 (by decide) ?_
  refine lv_iload hx hb dX6_replyToRow_20 (lv_at hl 0 rfl) ?_
  refine lv_iload_n hx hb dX6_replyToRow_22 rfl (lv_at hl 5 rfl) ?_
  refine r_icmp_ge hx hb (tgt := 58) (by decide) (by decide) dX6_replyToRow_23 (by decide) (fun c => absurd c (by decide)) (fun c_2 => ?_)
  refine lv_aload_n hx hb dX6_replyToRow_26 rfl (lv_at hl 3 rfl) ?_
  refine r_get C hI 0 (by decide) rfl rfl hin6 1 (by decide) (fn := "theDesk") (fd := "LGloveReply$Desk;") (index := 19) (by decide +kernel) ⟨rfl, rfl, rfl⟩ (v := .ref (gA g 3)) rfl dX6_replyToRow_27 ?_
  refine lv_iload_n hx hb dX6_replyToRow_30 rfl (lv_at hl 4 rfl) ?_
  refine lv_iload hx hb dX6_replyToRow_31 (lv_at hl 2 rfl) ?_
  refine lv_iload hx hb dX6_replyToRow_33 (lv_at hl 1 rfl) ?_
  refine lv_bipush (v := iI 10) hx hb dX6_replyToRow_35 (by decide +kernel) ?_
  refine r_irem hx hb (by omega) (by decide) dX6_replyToRow_37 ?_
  refine lv_iconst (v := iI 1) hx hb dX6_replyToRow_38 rfl ?_
  refine r_isub hx hb dX6_replyToRow_39 ?_
  refine r_eqI (z2 := ((row / 10) / 10) % 10 - 1) (by omega) ?_
  refine r_iv C hI (As := [.int (iI x), .int (iI (behO (M 33 x) (M 4 ((((row / 10) / 10) / 10) % 10 - 1)) (M 7 x))), .int (iI (((row / 10) / 10) % 10 - 1))]) (rest := []) (c_X1_afterHand l g M x (behO (M 33 x) (M 4 ((((row / 10) / 10) / 10) % 10 - 1)) (M 7 x)) (((row / 10) / 10) % 10 - 1) (by omega) (by omega) (by omega) (show -2147483648 ≤ (M 7 x) ∧ (M 7 x) < 2147483648 from by omega)) (cwV 3 hts gX6_replyToRow_X1_afterHand rfl rfl rfl (by decide +kernel) ⟨Nat.le_of_ble_eq_true rfl, Nat.le_of_ble_eq_true rfl⟩) (by decide) rfl rfl rfl hl.1 rfl (Nat.le_of_ble_eq_true rfl) dX6_replyToRow_40 ⟨Nat.zero_le _, Nat.zero_le _⟩ (k_I (fun H locs hI => ?_))
  have ff_2 := @behO_b (behO (M 33 x) (M 4 ((((row / 10) / 10) / 10) % 10 - 1)) (M 7 x)) (M 4 (((row / 10) / 10) % 10 - 1)) (M 7 x)
  refine lv_istore (lv' := [(5, .int (iI (behO (behO (M 33 x) (M 4 ((((row / 10) / 10) / 10) % 10 - 1)) (M 7 x)) (M 4 (((row / 10) / 10) % 10 - 1)) (M 7 x)))), (6, .int (iI 2)), (4, .int (iI (((0 * 10 + row % 10) * 10 + (row / 10) % 10) * 10 + ((row / 10) / 10) % 10))), (0, .ref (gA g 0)), (1, .int (iI x)), (2, .int (iI 4)), (3, .int (iI row))]) hx hb dX6_replyToRow_43 hl (by decide) rfl (fun ls hl => ?_)
  refine lv_iload hx hb dX6_replyToRow_45 (lv_at hl 2 rfl) ?_
  refine lv_bipush (v := iI 10) hx hb dX6_replyToRow_47 (by decide +kernel) ?_
  refine r_idiv hx hb (by omega) (by decide) dX6_replyToRow_49 ?_
  refine r_eqI (z2 := (0 * 10 + row % 10) * 10 + (row / 10) % 10) (by omega) ?_
  refine lv_istore (lv' := [(4, .int (iI ((0 * 10 + row % 10) * 10 + (row / 10) % 10))), (5, .int (iI (behO (behO (M 33 x) (M 4 ((((row / 10) / 10) / 10) % 10 - 1)) (M 7 x)) (M 4 (((row / 10) / 10) % 10 - 1)) (M 7 x)))), (6, .int (iI 2)), (0, .ref (gA g 0)), (1, .int (iI x)), (2, .int (iI 4)), (3, .int (iI row))]) hx hb dX6_replyToRow_50 hl (by decide) rfl (fun ls hl => ?_)
  refine lv_iinc (v := iI (3)) (lv' := [(6, .int (iI 3)), (4, .int (iI ((0 * 10 + row % 10) * 10 + (row / 10) % 10))), (5, .int (iI (behO (behO (M 33 x) (M 4 ((((row / 10) / 10) / 10) % 10 - 1)) (M 7 x)) (M 4 (((row / 10) / 10) % 10 - 1)) (M 7 x)))), (0, .ref (gA g 0)), (1, .int (iI x)), (2, .int (iI 4)), (3, .int (iI row))]) hx hb dX6_replyToRow_52 hl (k := 2) rfl (iI_add _ _) (by decide) rfl (fun ls hl => ?_)
  refine lv_goto (tgt := 20) hx hb dX6_replyToRow_55 (by decide) ?_
  refine lv_iload hx hb dX6_replyToRow_20 (lv_at hl 0 rfl) ?_
  refine lv_iload_n hx hb dX6_replyToRow_22 rfl (lv_at hl 5 rfl) ?_
  refine r_icmp_ge hx hb (tgt := 58) (by decide) (by decide) dX6_replyToRow_23 (by decide) (fun c => absurd c (by decide)) (fun c_3 => ?_)
  refine lv_aload_n hx hb dX6_replyToRow_26 rfl (lv_at hl 3 rfl) ?_
  refine r_get C hI 0 (by decide) rfl rfl hin6 1 (by decide) (fn := "theDesk") (fd := "LGloveReply$Desk;") (index := 19) (by decide +kernel) ⟨rfl, rfl, rfl⟩ (v := .ref (gA g 3)) rfl dX6_replyToRow_27 ?_
  refine lv_iload_n hx hb dX6_replyToRow_30 rfl (lv_at hl 4 rfl) ?_
  refine lv_iload hx hb dX6_replyToRow_31 (lv_at hl 2 rfl) ?_
  refine lv_iload hx hb dX6_replyToRow_33 (lv_at hl 1 rfl) ?_
  refine lv_bipush (v := iI 10) hx hb dX6_replyToRow_35 (by decide +kernel) ?_
  refine r_irem hx hb (by omega) (by decide) dX6_replyToRow_37 ?_
  refine lv_iconst (v := iI 1) hx hb dX6_replyToRow_38 rfl ?_
  refine r_isub hx hb dX6_replyToRow_39 ?_
  refine r_eqI (z2 := (row / 10) % 10 - 1) (by omega) ?_
  refine r_iv C hI (As := [.int (iI x), .int (iI (behO (behO (M 33 x) (M 4 ((((row / 10) / 10) / 10) % 10 - 1)) (M 7 x)) (M 4 (((row / 10) / 10) % 10 - 1)) (M 7 x))), .int (iI ((row / 10) % 10 - 1))]) (rest := []) (c_X1_afterHand l g M x (behO (behO (M 33 x) (M 4 ((((row / 10) / 10) / 10) % 10 - 1)) (M 7 x)) (M 4 (((row / 10) / 10) % 10 - 1)) (M 7 x)) ((row / 10) % 10 - 1) (by omega) (by omega) (by omega) (show -2147483648 ≤ (M 7 x) ∧ (M 7 x) < 2147483648 from by omega)) (cwV 3 hts gX6_replyToRow_X1_afterHand rfl rfl rfl (by decide +kernel) ⟨Nat.le_of_ble_eq_true rfl, Nat.le_of_ble_eq_true rfl⟩) (by decide) rfl rfl rfl hl.1 rfl (Nat.le_of_ble_eq_true rfl) dX6_replyToRow_40 ⟨Nat.zero_le _, Nat.zero_le _⟩ (k_I (fun H locs hI => ?_))
  have ff_3 := @behO_b (behO (behO (M 33 x) (M 4 ((((row / 10) / 10) / 10) % 10 - 1)) (M 7 x)) (M 4 (((row / 10) / 10) % 10 - 1)) (M 7 x)) (M 4 ((row / 10) % 10 - 1)) (M 7 x)
  refine lv_istore (lv' := [(5, .int (iI (behO (behO (behO (M 33 x) (M 4 ((((row / 10) / 10) / 10) % 10 - 1)) (M 7 x)) (M 4 (((row / 10) / 10) % 10 - 1)) (M 7 x)) (M 4 ((row / 10) % 10 - 1)) (M 7 x)))), (6, .int (iI 3)), (4, .int (iI ((0 * 10 + row % 10) * 10 + (row / 10) % 10))), (0, .ref (gA g 0)), (1, .int (iI x)), (2, .int (iI 4)), (3, .int (iI row))]) hx hb dX6_replyToRow_43 hl (by decide) rfl (fun ls hl => ?_)
  refine lv_iload hx hb dX6_replyToRow_45 (lv_at hl 2 rfl) ?_
  refine lv_bipush (v := iI 10) hx hb dX6_replyToRow_47 (by decide +kernel) ?_
  refine r_idiv hx hb (by omega) (by decide) dX6_replyToRow_49 ?_
  refine r_eqI (z2 := 0 * 10 + row % 10) (by omega) ?_
  refine lv_istore (lv' := [(4, .int (iI (0 * 10 + row % 10))), (5, .int (iI (behO (behO (behO (M 33 x) (M 4 ((((row / 10) / 10) / 10) % 10 - 1)) (M 7 x)) (M 4 (((row / 10) / 10) % 10 - 1)) (M 7 x)) (M 4 ((row / 10) % 10 - 1)) (M 7 x)))), (6, .int (iI 3)), (0, .ref (gA g 0)), (1, .int (iI x)), (2, .int (iI 4)), (3, .int (iI row))]) hx hb dX6_replyToRow_50 hl (by decide) rfl (fun ls hl => ?_)
  refine lv_iinc (v := iI (4)) (lv' := [(6, .int (iI 4)), (4, .int (iI (0 * 10 + row % 10))), (5, .int (iI (behO (behO (behO (M 33 x) (M 4 ((((row / 10) / 10) / 10) % 10 - 1)) (M 7 x)) (M 4 (((row / 10) / 10) % 10 - 1)) (M 7 x)) (M 4 ((row / 10) % 10 - 1)) (M 7 x)))), (0, .ref (gA g 0)), (1, .int (iI x)), (2, .int (iI 4)), (3, .int (iI row))]) hx hb dX6_replyToRow_52 hl (k := 2) rfl (iI_add _ _) (by decide) rfl (fun ls hl => ?_)
  refine lv_goto (tgt := 20) hx hb dX6_replyToRow_55 (by decide) ?_
  refine lv_iload hx hb dX6_replyToRow_20 (lv_at hl 0 rfl) ?_
  refine lv_iload_n hx hb dX6_replyToRow_22 rfl (lv_at hl 5 rfl) ?_
  refine r_icmp_ge hx hb (tgt := 58) (by decide) (by decide) dX6_replyToRow_23 (by decide) (fun c_4 => ?_) (fun c => absurd c (by decide))
  refine lv_aload_n hx hb dX6_replyToRow_58 rfl (lv_at hl 3 rfl) ?_
  refine r_get C hI 0 (by decide) rfl rfl hin6 1 (by decide) (fn := "theDesk") (fd := "LGloveReply$Desk;") (index := 19) (by decide +kernel) ⟨rfl, rfl, rfl⟩ (v := .ref (gA g 3)) rfl dX6_replyToRow_59 ?_
  refine lv_iload_n hx hb dX6_replyToRow_62 rfl (lv_at hl 4 rfl) ?_
  refine lv_iload hx hb dX6_replyToRow_63 (lv_at hl 2 rfl) ?_
  refine lv_iload hx hb dX6_replyToRow_65 (lv_at hl 1 rfl) ?_
  refine lv_bipush (v := iI 10) hx hb dX6_replyToRow_67 (by decide +kernel) ?_
  refine r_irem hx hb (by omega) (by decide) dX6_replyToRow_69 ?_
  refine lv_iconst (v := iI 1) hx hb dX6_replyToRow_70 rfl ?_
  refine r_isub hx hb dX6_replyToRow_71 ?_
  refine r_eqI (z2 := row % 10 - 1) (by omega) ?_
  refine r_iv C hI (As := [.int (iI x), .int (iI (behO (behO (behO (M 33 x) (M 4 ((((row / 10) / 10) / 10) % 10 - 1)) (M 7 x)) (M 4 (((row / 10) / 10) % 10 - 1)) (M 7 x)) (M 4 ((row / 10) % 10 - 1)) (M 7 x))), .int (iI (row % 10 - 1))]) (rest := []) (c_X1_reply l g M x (behO (behO (behO (M 33 x) (M 4 ((((row / 10) / 10) / 10) % 10 - 1)) (M 7 x)) (M 4 (((row / 10) / 10) % 10 - 1)) (M 7 x)) (M 4 ((row / 10) % 10 - 1)) (M 7 x)) (row % 10 - 1) (by omega) (by omega) (by omega) (show -2147483648 ≤ (M 8 x) ∧ (M 8 x) < 2147483648 from by omega) (show -2147483648 ≤ (M 4 (row % 10 - 1)) ∧ (M 4 (row % 10 - 1)) < 2147483648 from by omega)) (cwV 3 hts gX6_replyToRow_X1_reply rfl rfl rfl (by decide +kernel) ⟨Nat.le_of_ble_eq_true rfl, Nat.le_of_ble_eq_true rfl⟩) (by decide) rfl rfl rfl hl.1 rfl (Nat.le_of_ble_eq_true rfl) dX6_replyToRow_72 ⟨Nat.zero_le _, Nat.zero_le _⟩ (k_I (fun H locs hI => ?_))
  have ff_4 := repO_b (M 8 x) (behO (behO (behO (M 33 x) (M 4 ((((row / 10) / 10) / 10) % 10 - 1)) (M 7 x)) (M 4 (((row / 10) / 10) % 10 - 1)) (M 7 x)) (M 4 ((row / 10) % 10 - 1)) (M 7 x)) (M 4 (row % 10 - 1))
  refine r_iret C hr hlk hI ?_ dX6_replyToRow_75
  exact ⟨congrArg (fun q => some (Value.int (iI q))) (show repO (M 8 x) (behO (behO (behO (M 33 x) (M 4 ((((row / 10) / 10) / 10) % 10 - 1)) (M 7 x)) (M 4 (((row / 10) / 10) % 10 - 1)) (M 7 x)) (M 4 ((row / 10) % 10 - 1)) (M 7 x)) (M 4 (row % 10 - 1)) = doN (M 4) (M 8 x) (M 7 x) 4 row (M 33 x) from by simp only [doN, kpN]), rfl⟩
theorem c_X6_replyToRow (l : Launch) (g : GT) (M : Mem) (x : Int) (n : Int) (row : Int) (hn : 1 ≤ n ∧ n ≤ 4) (dk : DK (M) x) (hk : 0 ≤ M 33 x ∧ M 33 x < 1000) (h0 : 0 ≤ row ∧ row < 100000) (hD : irD (M 3 6) n.toNat row = true) : Ctr l g yX6_replyToRow wsX6_replyToRow ({ frames := 3, cells := 0, slots := 0, locals := 66 } : Room) [.ref (gA g 0), .int (iI x), .int (iI n), .int (iI row)] M (pI (doN (M 4) (M 8 x) (M 7 x) n.toNat row (M 33 x)) M) := by
  obtain rfl | rfl | rfl | rfl : n = 1 ∨ n = 2 ∨ n = 3 ∨ n = 4 := by omega
  · exact c_X6_replyToRow_1 l g M x row dk hk h0 hD
  · exact c_X6_replyToRow_2 l g M x row dk hk h0 hD
  · exact c_X6_replyToRow_3 l g M x row dk hk h0 hD
  · exact c_X6_replyToRow_4 l g M x row dk hk h0 hD
set_option maxHeartbeats 4000000 in
set_option maxRecDepth 100000 in
theorem c_X6_isRow (l : Launch) (g : GT) (M : Mem) (n : Int) (row : Int) (hn : 0 ≤ n ∧ n ≤ 4) (hr0 : -2147483648 ≤ row ∧ row < 2147483648) (hP : -2147483648 ≤ M 3 6 ∧ M 3 6 < 2147483648) : Ctr l g yX6_isRow wsX6_isRow ({ frames := 1, cells := 0, slots := 0, locals := 21 } : Room) [.ref (gA g 0), .int (iI n), .int (iI row)] M (pI (bI (irO (M 3 6) n.toNat row = true)) M) := by
  refine Ctr.mk (cc := cX6_isRow) (maxL := 5) (ret := some .boolean) (lv := [(0, .ref (gA g 0)), (1, .int (iI n)), (2, .int (iI row))]) (by decide) rfl (Nat.le_of_ble_eq_true rfl) rfl ?_
  intro p e s m below meth c C hr hlk hI ls hl
  have C : CallFix p m c cX6_isRow 5 s ([.ref (gA g 0), .int (iI n), .int (iI row)] : List Value).toArray wsX6_isRow RX6 := C
  have hx := C.1
  have hb := C.2.1
  have hts := C.2.2.2.2
  have hin6 : ∀ w ∈ u_ws RX6 TX6 9, w ∈ wsX6_isRow := by decide +kernel
  refine lv_iload_n hx hb dX6_isRow_0 rfl (lv_at hl 2 rfl) ?_
  refine lv_istore_n (lv' := [(3, .int (iI row)), (0, .ref (gA g 0)), (1, .int (iI n)), (2, .int (iI row))]) hx hb dX6_isRow_1 rfl hl (by decide) rfl (fun ls hl => ?_)
  refine lv_iconst (v := iI 0) hx hb dX6_isRow_2 rfl ?_
  refine lv_istore (lv' := [(4, .int (iI 0)), (3, .int (iI row)), (0, .ref (gA g 0)), (1, .int (iI n)), (2, .int (iI row))]) hx hb dX6_isRow_3 hl (by decide) rfl (fun ls hl => ?_)
  have lp5 : ∀ (n5 : Nat) (tt : Int) (rr : Int), (0 ≤ tt ∧ tt ≤ n) → (-2147483648 ≤ rr ∧ rr < 2147483648) → (irO (M 3 6) (n - tt).toNat rr = irO (M 3 6) n.toNat row) → (n - tt).toNat < n5 → ∀ (H : Heap) (locs : List Loc), HI g s H locs M → ∀ ls : Array Slot, lv_has ls 5 [(4, .int (iI tt)), (3, .int (iI rr)), (0, .ref (gA g 0)), (1, .int (iI n)), (2, .int (iI row))] → W p l e ({ frames := 1, cells := 0, slots := 0, locals := 21 } : Room) s m ([.ref (gA g 0), .int (iI n), .int (iI row)] : List Value).toArray below meth c H locs 0 0 (MQ below (QV g (pI (bI (irO (M 3 6) n.toNat row = true)) M)) ([.ref (gA g 0), .int (iI n), .int (iI row)] : List Value).toArray s 0 0 (AA g)) (F0 m 5 ls []) := by
    intro n5
    induction n5 with
    | zero => intro tt rr h1 h3 h2 hn5; exact absurd hn5 (Nat.not_lt_zero _)
    | succ n5 ih5 =>
      intro tt rr h1 h3 h2 hn5 H locs hI ls hl
      have td := tdiv_R h3
      refine lv_iload hx hb dX6_isRow_5 (lv_at hl 0 rfl) ?_
      refine lv_iload_n hx hb dX6_isRow_7 rfl (lv_at hl 3 rfl) ?_
      refine r_icmp_ge hx hb (tgt := 40) (by omega) (by omega) dX6_isRow_8 (by decide) (fun c_1 => ?_) (fun c_1 => ?_)
      · refine lv_iload_n hx hb dX6_isRow_40 rfl (lv_at hl 1 rfl) ?_
        refine r_if_ne hx hb (tgt := 48) (by omega) dX6_isRow_41 (by decide) (fun c_2 => ?_) (fun c_2 => ?_)
        · refine lv_iconst (v := iI 0) hx hb dX6_isRow_48 rfl ?_
          refine r_zret C hr hlk hI (by decide +kernel) ?_ dX6_isRow_49
          exact ⟨congrArg (fun q => some (Value.int (iI q))) (bI_f (by rw [show (n - tt).toNat = 0 from by omega] at h2; rw [← h2]; simp only [irO, decide_eq_true_eq]; assumption)).symm, rfl⟩
        · refine lv_iconst (v := iI 1) hx hb dX6_isRow_44 rfl ?_
          refine lv_goto (tgt := 49) hx hb dX6_isRow_45 (by decide) ?_
          refine r_zret C hr hlk hI (by decide +kernel) ?_ dX6_isRow_49
          exact ⟨congrArg (fun q => some (Value.int (iI q))) (bI_t (by rw [show (n - tt).toNat = 0 from by omega] at h2; rw [← h2]; simp only [irO, decide_eq_true_eq]; assumption)).symm, rfl⟩
      · refine lv_aload_n hx hb dX6_isRow_11 rfl (lv_at hl 2 rfl) ?_
        refine r_get C hI 0 (by decide) rfl rfl hin6 1 (by decide) (fn := "theDesk") (fd := "LGloveReply$Desk;") (index := 19) (by decide +kernel) ⟨rfl, rfl, rfl⟩ (v := .ref (gA g 3)) rfl dX6_isRow_12 ?_
        refine lv_iload_n hx hb dX6_isRow_15 rfl (lv_at hl 1 rfl) ?_
        refine lv_bipush (v := iI 10) hx hb dX6_isRow_16 (by decide +kernel) ?_
        refine r_iremT hx hb (by omega) (by decide) dX6_isRow_18 ?_
        refine lv_iconst (v := iI 1) hx hb dX6_isRow_19 rfl ?_
        refine r_isub hx hb dX6_isRow_20 ?_
        refine r_iv C hI (As := [.int (iI ((rr.tmod 10) - 1))]) (rest := []) (c_X1_hasPerson l g M ((rr.tmod 10) - 1) (by omega) (show -2147483648 ≤ (M 3 6) ∧ (M 3 6) < 2147483648 from by omega)) (cwV 1 hts gX6_isRow_X1_hasPerson rfl rfl rfl (by decide +kernel) ⟨Nat.le_of_ble_eq_true rfl, Nat.le_of_ble_eq_true rfl⟩) (by decide) rfl rfl rfl hl.1 rfl (Nat.le_of_ble_eq_true rfl) dX6_isRow_21 ⟨Nat.zero_le _, Nat.zero_le _⟩ (k_I (fun H locs hI => ?_))
        refine r_b_ne hx hb (tgt := 29) dX6_isRow_24 (by decide) (fun c_3 => ?_) (fun c_3 => ?_)
        · refine lv_iload_n hx hb dX6_isRow_29 rfl (lv_at hl 1 rfl) ?_
          refine lv_bipush (v := iI 10) hx hb dX6_isRow_30 (by decide +kernel) ?_
          refine r_idivT hx hb (by omega) (by decide) dX6_isRow_32 ?_
          refine lv_istore_n (lv' := [(3, .int (iI (rr.tdiv 10))), (4, .int (iI tt)), (0, .ref (gA g 0)), (1, .int (iI n)), (2, .int (iI row))]) hx hb dX6_isRow_33 rfl hl (by decide) rfl (fun ls hl => ?_)
          refine lv_iinc (v := iI (tt + 1)) (lv' := [(4, .int (iI (tt + 1))), (3, .int (iI (rr.tdiv 10))), (0, .ref (gA g 0)), (1, .int (iI n)), (2, .int (iI row))]) hx hb dX6_isRow_34 hl (k := 1) rfl (iI_add _ _) (by decide) rfl (fun ls hl => ?_)
          refine lv_goto (tgt := 5) hx hb dX6_isRow_37 (by decide) ?_
          exact ih5 (tt + 1) (rr.tdiv 10) (by omega) (by omega) (by (obtain ⟨i0, hi0⟩ : ∃ i0, (n - tt).toNat = i0 + 1 := ⟨(n - tt).toNat - 1, by omega⟩); rw [hi0, irO_1 (by assumption)] at h2; rw [show (n - (tt + 1)).toNat = i0 from by omega]; exact h2) (by omega) _ _ hI ls (lv_sub hl [0, 1, 2, 3, 4] rfl)
        · refine lv_iconst (v := iI 0) hx hb dX6_isRow_27 rfl ?_
          refine r_zret C hr hlk hI (by decide +kernel) ?_ dX6_isRow_28
          exact ⟨congrArg (fun q => some (Value.int (iI q))) (bI_f (by (obtain ⟨i0, hi0⟩ : ∃ i0, (n - tt).toNat = i0 + 1 := ⟨(n - tt).toNat - 1, by omega⟩); rw [hi0, irO_2 (by assumption)] at h2; rw [← h2]; decide)).symm, rfl⟩
  exact lp5 _ 0 row (by omega) (by omega) (by rw [Int.sub_zero]) (Nat.lt_succ_self _) _ _ hI ls (lv_sub hl [0, 1, 2, 3, 4] rfl)
theorem c_X6_firstRowI (l : Launch) (g : GT) (M : Mem) (x : Int) (k : Int) (d : Int) (hh : Int) (dk : DK (M) x) (hd : -2147483648 ≤ d ∧ d < 2147483648) (hk : 0 ≤ k ∧ k < 1000) (hh0 : 0 ≤ hh ∧ hh ≤ 4) : Ctr l g yX6_firstRow wsX6_firstRow (rmF hh.toNat) [.ref (gA g 3), .int (iI x), .int (iI k), .int (iI d), .int (iI 0), .int (iI hh)] M (pI (frO (M 4) (M 3 6) (M 8 x) (M 7 x) d hh.toNat k 0) M) := by
  have h := c_X6_firstRow l g M x d dk hd hh.toNat k 0 hk (by decide) (ten4 (by omega)) (by omega)
  rw [Int.toNat_of_nonneg hh0.1] at h
  exact h
theorem c_X6_tallyRoundsI (l : Launch) (g : GT) (M : Mem) (x : Int) (k : Int) (b : Int) (hh : Int) (dk : DK (M) x) (hb0 : -2147483648 ≤ b ∧ b < 2147483648) (hk : 0 ≤ k ∧ k < 1000) (hh0 : 0 ≤ hh ∧ hh ≤ 5) (ht : M 14 0 = 0) : Ctr l g yX6_tallyRounds wsX6_tallyRounds (rmF hh.toNat) [.ref (gA g 3), .ref (gA g 14), .int (iI x), .int (iI k), .int (iI b), .int (iI 0), .int (iI hh)] M (pV (tAdds M (rlO (M 4) (M 3 6) (M 8 x) (M 7 x) hh.toNat k b 0))) := by
  have h5 := five5 (n := hh.toNat) (by omega)
  have h := c_X6_tallyRounds l g x (M 4) (M 3 6) (M 8 x) (M 7 x) dk.2.2.1 dk.1 dk.2.1 dk.2.2.2.2 dk.2.2.2.1 hh.toNat M k b 0 rfl (fun _ => rfl) rfl rfl hk hb0 (by decide) (ten4 (by omega)) (by omega) (by omega)
  rw [Int.toNat_of_nonneg hh0.1] at h
  exact h
theorem c_X6_tallyWearersI (l : Launch) (g : GT) (M : Mem) (x : Int) (k : Int) (dk : DK (M) x) (hk : 0 ≤ k ∧ k < 1000) (hc : 0 ≤ M 10 3 ∧ M 10 3 ≤ 4) (hs : ∀ j : Int, 0 ≤ j ∧ j < M 10 3 → (0 ≤ M 11 j ∧ M 11 j < 4) ∧ (0 ≤ M 12 j ∧ M 12 j < 5) ∧ (0 ≤ M 13 j ∧ M 13 j ≤ 7)) (ht : M 14 0 = 0) : Ctr l g yX6_tallyWearers wsX6_tallyWearers (rmF 5) [.ref (gA g 3), .ref (gA g 10), .ref (gA g 14), .int (iI x), .int (iI k), .int (iI 0), .int (iI 0)] M (pV (tAdds M (wlO (M 11) (M 12) (M 13) (M 4) x (M 3 6) (M 10 3) (M 8 x) (M 7 x) 5 k 0 0))) := by
  exact c_X6_tallyWearers l g x (M 11) (M 12) (M 13) (M 4) (M 3 6) (M 10 3) (M 8 x) (M 7 x) dk.2.2.1 dk.1 dk.2.1 dk.2.2.2.2 dk.2.2.2.1 hc (fun j hj => by have := hs j hj; omega) (fun j hj => by have := hs j hj; omega) (fun j hj => by have := hs j hj; omega) 5 M k 0 0 rfl (fun _ => rfl) rfl rfl (fun _ => rfl) (fun _ => rfl) (fun _ => rfl) rfl (by omega) hk (by decide) (by decide) (by decide) (by rw [ht]; decide)
theorem c_X6_waysToDoI (l : Launch) (g : GT) (M : Mem) (x : Int) (k : Int) (q : Int) (d : Int) (hh : Int) (dk : DK (M) x) (hq : 0 ≤ q ∧ q < M 3 6) (hd : -2147483648 ≤ d ∧ d < 2147483648) (hk : 0 ≤ k ∧ k < 1000) (hh0 : 0 ≤ hh ∧ hh ≤ 3) : Ctr l g yX6_waysToDo wsX6_waysToDo (rmF hh.toNat) [.ref (gA g 3), .int (iI x), .int (iI k), .int (iI q), .int (iI d), .int (iI hh)] M (pI (wyO (M 4) (M 3 6) (M 8 x) (M 7 x) (M 4 q) d hh.toNat k) M) := by
  have h := c_X6_waysToDo l g M x q d dk hq hd hh.toNat k hk (by omega)
  rw [Int.toNat_of_nonneg hh0.1] at h
  exact h
