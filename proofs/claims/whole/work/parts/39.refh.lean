
/-! SUMS over rows of base P; the greatest common divisor -/
theorem sumN_add (f : Int → Int) (m : Nat) : ∀ n : Nat, sumN f (m + n) = sumN f m + sumN (fun j => f ((m : Int) + j)) n
  | 0 => by simp [sumN]
  | n + 1 => by
    show sumN f (m + n) + f ((m + n : Nat) : Int) = sumN f m + (sumN (fun j => f ((m : Int) + j)) n + f ((m : Int) + (n : Int)))
    rw [sumN_add f m n, Int.add_assoc, Int.natCast_add]
theorem sumN_mul (f : Int → Int) (b : Nat) : ∀ a : Nat, sumN f (a * b) = sumN (fun i => sumN (fun j => f (i * (b : Int) + j)) b) a
  | 0 => by rw [Nat.zero_mul]; rfl
  | a + 1 => by
    rw [Nat.succ_mul, sumN_add, sumN_mul f b a]
    show _ = sumN (fun i => sumN (fun j => f (i * (b : Int) + j)) b) a + sumN (fun j => f ((a : Int) * (b : Int) + j)) b
    rw [Int.natCast_mul]
theorem sumN_ext {f g : Int → Int} : ∀ n : Nat, (∀ j : Nat, j < n → f (j : Int) = g (j : Int)) → sumN f n = sumN g n
  | 0, _ => rfl
  | n + 1, h => by
    unfold sumN
    rw [sumN_ext n (fun j hj => h j (by omega)), h n (by omega)]
/-- what is kept behind h hands, by the row's figures of base P, the highest one first -/
def kbN (own : Int → Int) (P rm : Int) : Nat → Int → Int → Int
  | 0, k, _ => k
  | h + 1, k, row => kbN own P rm h (behO k (own (row / pwN P h % P)) rm) row
theorem kbN_ext {own : Int → Int} {P rm : Int} : ∀ (h : Nat) (k r r' : Int), (∀ t : Nat, t < h → r / pwN P t % P = r' / pwN P t % P) → kbN own P rm h k r = kbN own P rm h k r'
  | 0, _, _, _, _ => rfl
  | h + 1, k, r, r', e => by
    unfold kbN
    rw [e h (by omega), kbN_ext h _ r r' (fun t ht => e t (by omega))]
theorem wy_eq {own : Int → Int} {P : Nat} {kd rm dp d : Int} (hP : 1 ≤ P) : ∀ (h : Nat) (k : Int), sumN (fun s => if repO kd (kbN own P rm h k s) dp = d then 1 else 0) (P ^ h) = wyO own P kd rm dp d h k
  | 0, k => by
    show 0 + (if repO kd k dp = d then 1 else 0) = (if repO kd k dp = d then 1 else 0)
    rw [Int.zero_add]
  | h + 1, k => by
    have e10 : (P ^ (h + 1) : Nat) = P * P ^ h := by rw [Nat.pow_succ, Nat.mul_comm]
    have en : ((P ^ h : Nat) : Int) = pwN (P : Int) h := (pwN_nat P h).symm
    have er : wyO own P kd rm dp d (h + 1) k = sumN (fun f => wyO own P kd rm dp d h (behO k (own f) rm)) (P : Int).toNat := rfl
    rw [e10, sumN_mul, er, Int.toNat_natCast]
    refine sumN_ext _ (fun i hi => ?_)
    show sumN (fun j => if repO kd (kbN own P rm (h + 1) k ((i : Int) * ((P ^ h : Nat) : Int) + j)) dp = d then 1 else 0) (P ^ h) = wyO own P kd rm dp d h (behO k (own (i : Int)) rm)
    rw [← wy_eq hP h]
    refine sumN_ext _ (fun j hj => ?_)
    have hj2 : (j : Int) < pwN (P : Int) h := by rw [← en]; exact Int.ofNat_lt.mpr hj
    have et := dig_top (B := (P : Int)) (i := (i : Int)) (j := (j : Int)) (h := h) (by omega) ⟨by omega, hj2⟩
    have ek : kbN own P rm (h + 1) k ((i : Int) * ((P ^ h : Nat) : Int) + (j : Int)) = kbN own P rm h (behO k (own (i : Int)) rm) (j : Int) := by
      rw [en]
      show kbN own P rm h (behO k (own (((i : Int) * pwN (P : Int) h + (j : Int)) / pwN (P : Int) h % (P : Int))) rm) _ = _
      rw [et]
      exact kbN_ext h _ _ _ (fun t ht => dig_low (by omega) _ _ ht)
    show (if repO kd (kbN own P rm (h + 1) k ((i : Int) * ((P ^ h : Nat) : Int) + (j : Int))) dp = d then (1 : Int) else 0) = _
    rw [ek]
theorem wy_eqI {own : Int → Int} {P kd rm dp d k : Int} (hP : 1 ≤ P) (h : Nat) : sumN (fun s => if repO kd (kbN own P rm h k s) dp = d then 1 else 0) (P.toNat ^ h) = wyO own P kd rm dp d h k := by
  obtain ⟨p, rfl⟩ : ∃ p : Nat, P = p := ⟨P.toNat, by omega⟩
  exact wy_eq (by omega) h k
theorem gc_turn {a b : Int} (ha : 0 ≤ a) (hb : 0 ≤ b) : Nat.gcd b.toNat (a % b).toNat = Nat.gcd a.toNat b.toNat := by
  obtain ⟨n, rfl⟩ : ∃ n : Nat, a = n := ⟨a.toNat, by omega⟩
  obtain ⟨m, rfl⟩ : ∃ m : Nat, b = m := ⟨b.toNat, by omega⟩
  have e : ((n : Int) % (m : Int)).toNat = n % m := rfl
  rw [e]
  show Nat.gcd m (n % m) = Nat.gcd n m
  rw [Nat.gcd_comm n m, Nat.gcd_rec m n, Nat.gcd_comm]
theorem cd_eq {a b : Nat} (hb : 1 ≤ b) : ∀ d : Nat, Nat.gcd a b ≤ d → cdO (a : Int) (b : Int) d = ((Nat.gcd a b : Nat) : Int)
  | 0, h => by
    have := Nat.gcd_pos_of_pos_right a hb
    omega
  | d + 1, h => by
    have hg := Nat.gcd_pos_of_pos_right a hb
    by_cases h1 : d + 1 ≤ 1
    · rw [cdO_0 h1]; omega
    · by_cases h2 : (a : Int) % ((d + 1 : Nat) : Int) = 0 ∧ (b : Int) % ((d + 1 : Nat) : Int) = 0
      · rw [cdO_1 rfl (by omega) h2.1 h2.2]
        have d1 : (d + 1) ∣ a := Int.natCast_dvd_natCast.mp (Int.dvd_of_emod_eq_zero h2.1)
        have d2 : (d + 1) ∣ b := Int.natCast_dvd_natCast.mp (Int.dvd_of_emod_eq_zero h2.2)
        have := Nat.le_of_dvd hg (Nat.dvd_gcd d1 d2)
        omega
      · rw [cdO_2 rfl (by omega) h2]
        refine cd_eq hb d ?_
        have hne : ¬ Nat.gcd a b = d + 1 := fun q => h2 ⟨by
          have := Int.emod_eq_zero_of_dvd (Int.natCast_dvd_natCast.mpr (Nat.gcd_dvd_left a b))
          rw [q] at this; exact this, by
          have := Int.emod_eq_zero_of_dvd (Int.natCast_dvd_natCast.mpr (Nat.gcd_dvd_right a b))
          rw [q] at this; exact this⟩
        omega
theorem cd_eqI {a b : Int} (ha : 0 ≤ a) (hb : 1 ≤ b) : cdO a b b.toNat = ((Nat.gcd a.toNat b.toNat : Nat) : Int) := by
  obtain ⟨n, rfl⟩ : ∃ n : Nat, a = n := ⟨a.toNat, by omega⟩
  obtain ⟨m, rfl⟩ : ∃ m : Nat, b = m := ⟨b.toNat, by omega⟩
  exact cd_eq (by omega) m (Nat.gcd_le_right n (by omega))
set_option maxHeartbeats 4000000 in
set_option maxRecDepth 100000 in
theorem c_X7_divisor (l : Launch) (g : GT) (M : Mem) (a : Int) (bb : Int) (ha : 0 ≤ a ∧ a < 100000) (hbb : 1 ≤ bb ∧ bb < 100000) : Ctr l g yX7_divisor wsX7_divisor ({ frames := 0, cells := 0, slots := 0, locals := 0 } : Room) [.int (iI a), .int (iI bb)] M (pI ((Nat.gcd (Int.toNat a) (Int.toNat bb) : Nat) : Int) M) := by
  refine Ctr.mk (cc := cX7_divisor) (maxL := 5) (ret := some .int) (lv := [(0, .int (iI a)), (1, .int (iI bb))]) (by decide) rfl (Nat.le_of_ble_eq_true rfl) rfl ?_
  intro p e s m below meth c C hr hlk hI ls hl
  have C : CallFix p m c cX7_divisor 5 s ([.int (iI a), .int (iI bb)] : List Value).toArray wsX7_divisor RX7 := C
  have hx := C.1
  have hb := C.2.1
  have hts := C.2.2.2.2
  refine lv_iload_n hx hb dX7_divisor_0 rfl (lv_at hl 0 rfl) ?_
  refine lv_istore_n (lv' := [(2, .int (iI a)), (0, .int (iI a)), (1, .int (iI bb))]) hx hb dX7_divisor_1 rfl hl (by decide) rfl (fun ls hl => ?_)
  refine lv_iload_n hx hb dX7_divisor_2 rfl (lv_at hl 2 rfl) ?_
  refine lv_istore_n (lv' := [(3, .int (iI bb)), (2, .int (iI a)), (0, .int (iI a)), (1, .int (iI bb))]) hx hb dX7_divisor_3 rfl hl (by decide) rfl (fun ls hl => ?_)
  have lp4 : ∀ (n4 : Nat) (v : Int) (u : Int), ((0 ≤ u ∧ u < 100000) ∧ (0 ≤ v ∧ v < 100000)) → (Nat.gcd u.toNat v.toNat = Nat.gcd a.toNat bb.toNat) → v.toNat < n4 → ∀ (H : Heap) (locs : List Loc), HI g s H locs M → ∀ ls : Array Slot, lv_has ls 5 [(3, .int (iI v)), (2, .int (iI u)), (0, .int (iI a)), (1, .int (iI bb))] → W p l e ({ frames := 0, cells := 0, slots := 0, locals := 0 } : Room) s m ([.int (iI a), .int (iI bb)] : List Value).toArray below meth c H locs 0 0 (MQ below (QV g (pI ((Nat.gcd (Int.toNat a) (Int.toNat bb) : Nat) : Int) M)) ([.int (iI a), .int (iI bb)] : List Value).toArray s 0 0 (AA g)) (F0 m 4 ls []) := by
    intro n4
    induction n4 with
    | zero => intro v u h1 h2 hn4; exact absurd hn4 (Nat.not_lt_zero _)
    | succ n4 ih4 =>
      intro v u h1 h2 hn4 H locs hI ls hl
      have em := fun q : 0 < v => Int.emod_lt_of_pos u q
      have en := fun q : 0 < v => Int.emod_nonneg u (show v ≠ 0 by omega)
      refine lv_iload_n hx hb dX7_divisor_4 rfl (lv_at hl 0 rfl) ?_
      refine r_if_eq hx hb (tgt := 21) (by omega) dX7_divisor_5 (by decide) (fun c_1 => ?_) (fun c_1 => ?_)
      · refine lv_iload_n hx hb dX7_divisor_21 rfl (lv_at hl 1 rfl) ?_
        refine r_iret C hr hlk hI ?_ dX7_divisor_22
        exact ⟨congrArg (fun q => some (Value.int (iI q))) (show u = ((Nat.gcd (Int.toNat a) (Int.toNat bb) : Nat) : Int) from by (have hv : v = 0 := by omega); rw [hv] at h2; rw [← h2]; show u = ((Nat.gcd u.toNat 0 : Nat) : Int); rw [Nat.gcd_zero_right]; omega), rfl⟩
      · refine lv_iload_n hx hb dX7_divisor_8 rfl (lv_at hl 1 rfl) ?_
        refine lv_iload_n hx hb dX7_divisor_9 rfl (lv_at hl 0 rfl) ?_
        refine r_irem hx hb (by omega) (by omega) dX7_divisor_10 ?_
        refine lv_istore (lv' := [(4, .int (iI (u % v))), (3, .int (iI v)), (2, .int (iI u)), (0, .int (iI a)), (1, .int (iI bb))]) hx hb dX7_divisor_11 hl (by decide) rfl (fun ls hl => ?_)
        refine lv_iload_n hx hb dX7_divisor_13 rfl (lv_at hl 1 rfl) ?_
        refine lv_istore_n (lv' := [(2, .int (iI v)), (4, .int (iI (u % v))), (3, .int (iI v)), (0, .int (iI a)), (1, .int (iI bb))]) hx hb dX7_divisor_14 rfl hl (by decide) rfl (fun ls hl => ?_)
        refine lv_iload hx hb dX7_divisor_15 (lv_at hl 1 rfl) ?_
        refine lv_istore_n (lv' := [(3, .int (iI (u % v))), (2, .int (iI v)), (4, .int (iI (u % v))), (0, .int (iI a)), (1, .int (iI bb))]) hx hb dX7_divisor_17 rfl hl (by decide) rfl (fun ls hl => ?_)
        refine lv_goto (tgt := 4) hx hb dX7_divisor_18 (by decide) ?_
        exact ih4 (u % v) v (by (have e1 := Int.emod_nonneg u (show v ≠ 0 by omega)); (have e2 := Int.emod_lt_of_pos u (show 0 < v by omega)); omega) (by rw [gc_turn (by omega) (by omega)]; exact h2) (by omega) _ _ hI ls (lv_sub hl [0, 1, 3, 4] rfl)
  exact lp4 _ bb a (by omega) (by rfl) (Nat.lt_succ_self _) _ _ hI ls (lv_sub hl [0, 1, 2, 3] rfl)
