
def rmF (h : Nat) : Room := { frames := 10 + h, cells := 0, slots := 0, locals := 200 + 32 * h }
/-! WORDS of searches -/
def fstN (f : Int → Int) : Nat → Int → Int
  | 0, _ => -9
  | n + 1, p => if f p = -9 then fstN f n (p + 1) else f p
theorem fstN_1 {f : Int → Int} {n : Nat} {p : Int} (h : f p = -9) : fstN f (n + 1) p = fstN f n (p + 1) := by simp [fstN, h]
theorem fstN_2 {f : Int → Int} {n : Nat} {p : Int} (h : ¬ f p = -9) : fstN f (n + 1) p = f p := by simp [fstN, h]
/-- one more hand, behind the row so far -/
def frS (own : Int → Int) (kd d : Int) (h : Nat) (F : Int → Int → Int) (rm k row p : Int) : Int := if h = 0 then (if repO kd k (own p) = d then row * 10 + p + 1 else -9) else F (behO k (own p) rm) (row * 10 + p + 1)
def frO (own : Int → Int) (n kd rm d : Int) : Nat → Int → Int → Int
  | 0, _, _ => -9
  | h + 1, k, row => fstN (frS own kd d h (frO own n kd rm d h) rm k row) n.toNat 0
def flN (f : Int → List Int) : Nat → List Int
  | 0 => []
  | n + 1 => flN f n ++ f (n : Int)
def hfO : Nat → Int → Int → Bool
  | 0, _, _ => false
  | n + 1, r, f => if r ≤ 0 then false else decide (r % 10 = f) || hfO n (r / 10) f
theorem hfO_0 {n : Nat} {r f : Int} (h : r ≤ 0) : hfO n r f = false := by cases n <;> simp [hfO, h]
theorem hfO_1 {n : Nat} {r f : Int} (h : 0 < r) (h2 : r % 10 = f) : hfO (n + 1) r f = true := by
  have : ¬ r ≤ 0 := by omega
  simp [hfO, this, h2]
theorem hfO_2 {n : Nat} {r f : Int} (h : 0 < r) (h2 : ¬ r % 10 = f) : hfO (n + 1) r f = hfO n (r / 10) f := by
  have : ¬ r ≤ 0 := by omega
  simp [hfO, this, h2]
def rlS (own : Int → Int) (kd rm : Int) (F : Int → Int → Int → List Int) (k b row p : Int) : List Int := if ¬ repO kd k (own p) = b ∧ ¬ hfO row.toNat row (p + 1) = true then F (behO k (own p) rm) (repO kd k (own p)) (row * 10 + p + 1) else []
/-- the rounds that go on from a row so far -/
def rlO (own : Int → Int) (n kd rm : Int) : Nat → Int → Int → Int → List Int
  | 0, _, _, row => [row]
  | h + 1, k, b, row => flN (rlS own kd rm (rlO own n kd rm h) k b row) n.toNat
def tAdds (M : Mem) (L : List Int) : Mem := L.foldl tAdd M
theorem tAdd_n {M : Mem} {x : Int} {c : Nat} (h : c ≠ 14) : tAdd M x c = M c := by
  unfold tAdd
  rw [mset_n _ _ _ h]
  split
  · rw [mset_n _ _ _ h]
  · rfl
theorem tAdds_n {c : Nat} (h : c ≠ 14) : ∀ (L : List Int) (M : Mem), tAdds M L c = M c
  | [], _ => rfl
  | x :: L, M => by
    show tAdds (tAdd M x) L c = M c
    rw [tAdds_n h L, tAdd_n h]
theorem tAdds_app (M : Mem) (L K : List Int) : tAdds (tAdds M L) K = tAdds M (L ++ K) := by simp [tAdds]
theorem tAdds_14 : ∀ (L : List Int) (M : Mem), tAdds M L 14 0 = M 14 0 + L.length
  | [], M => by simp [tAdds]
  | x :: L, M => by
    show tAdds (tAdd M x) L 14 0 = _
    rw [tAdds_14 L]
    have : tAdd M x 14 0 = M 14 0 + 1 := by unfold tAdd; rw [mset_s, rw1_s]
    rw [this]
    simp only [List.length_cons]
    omega
theorem flN_len {f : Int → List Int} {m : Nat} (h : ∀ p, (f p).length ≤ m) : ∀ n : Nat, (flN f n).length ≤ n * m
  | 0 => by simp [flN]
  | n + 1 => by
    have h1 := flN_len h n
    have h2 := h (n : Int)
    simp only [flN, List.length_append, Nat.succ_mul]
    omega
theorem rlO_len (own : Int → Int) (n kd rm : Int) (hn : n ≤ 5) : ∀ (h : Nat) (k b row : Int), (rlO own n kd rm h k b row).length ≤ 5 ^ h
  | 0, _, _, _ => by simp [rlO]
  | h + 1, k, b, row => by
    unfold rlO
    refine Nat.le_trans (flN_len (m := 5 ^ h) (fun p => ?_) _) ?_
    · unfold rlS
      split
      · exact rlO_len own n kd rm hn h _ _ _
      · simp
    · rw [Nat.pow_succ, Nat.mul_comm]
      exact Nat.mul_le_mul_left _ (by omega)
def wlS (rp rd own : Int → Int) (kd rm : Int) (F : Int → Int → Int → List Int) (k row pl u : Int) : List Int := if repO kd (behO k (own u) rm) (own (rp pl)) = rd pl then F (behO (behO k (own u) rm) (own (rp pl)) rm) (row * 10 + u + 1) (pl + 1) else []
/-- the rows of unknown ones that go on from a row so far -/
def wlO (ra rp rd own : Int → Int) (a n cnt kd rm : Int) : Nat → Int → Int → Int → List Int
  | 0, _, _, _ => []
  | h + 1, k, row, b => if cnt ≤ nxO ra rp a n (cnt - b).toNat b then [row] else flN (wlS rp rd own kd rm (wlO ra rp rd own a n cnt kd rm h) k row (nxO ra rp a n (cnt - b).toNat b)) n.toNat
theorem wlO_len (ra rp rd own : Int → Int) (a n cnt kd rm : Int) (hn : n ≤ 5) : ∀ (h : Nat) (k row b : Int), (wlO ra rp rd own a n cnt kd rm h k row b).length ≤ 5 ^ h
  | 0, _, _, _ => by simp [wlO]
  | h + 1, k, row, b => by
    unfold wlO
    split
    · simp only [List.length_cons, List.length_nil]
      exact Nat.le_trans Nat.one_le_two_pow (Nat.pow_le_pow_left (by decide) _)
    · refine Nat.le_trans (flN_len (m := 5 ^ h) (fun p => ?_) _) ?_
      · unfold wlS
        split
        · exact wlO_len ra rp rd own a n cnt kd rm hn h _ _ _
        · simp
      · rw [Nat.pow_succ, Nat.mul_comm]
        exact Nat.mul_le_mul_left _ (by omega)
theorem nxO_b {ra rp : Int → Int} {a n : Int} : ∀ (k : Nat) (p : Int), p ≤ nxO ra rp a n k p ∧ nxO ra rp a n k p ≤ p + k
  | 0, p => by simp [nxO]
  | k + 1, p => by
    have h := nxO_b (ra := ra) (rp := rp) (a := a) (n := n) k (p + 1)
    unfold nxO
    split <;> omega
theorem nxO_at {ra rp : Int → Int} {a n : Int} : ∀ (k : Nat) (p : Int), nxO ra rp a n k p < p + k → ra (nxO ra rp a n k p) = a ∧ 0 ≤ rp (nxO ra rp a n k p) ∧ rp (nxO ra rp a n k p) < n
  | 0, p, h => by simp [nxO] at h
  | k + 1, p, h => by
    by_cases e : ra p = a ∧ 0 ≤ rp p ∧ rp p < n
    · rw [nxO_2 e]; exact e
    · rw [nxO_1 e] at h ⊢
      exact nxO_at k (p + 1) (by omega)
def sumN (f : Int → Int) : Nat → Int
  | 0 => 0
  | n + 1 => sumN f n + f (n : Int)
def wyO (own : Int → Int) (n kd rm dp d : Int) : Nat → Int → Int
  | 0, k => if repO kd k dp = d then 1 else 0
  | h + 1, k => sumN (fun f => wyO own n kd rm dp d h (behO k (own f) rm)) n.toNat
/-- the greatest common divisor, from d down -/
def cdO (a b : Int) : Nat → Int
  | 0 => 1
  | d + 1 => if ((d + 1 : Nat) : Int) ≤ 1 then 1 else if a % ((d + 1 : Nat) : Int) = 0 ∧ b % ((d + 1 : Nat) : Int) = 0 then ((d + 1 : Nat) : Int) else cdO a b d
theorem cdO_1 {a b x : Int} {d : Nat} (h : x = ((d + 1 : Nat) : Int)) (h1 : 1 < x) (h2 : a % x = 0) (h3 : b % x = 0) : cdO a b (d + 1) = x := by
  subst h
  have : ¬ ((d + 1 : Nat) : Int) ≤ 1 := by omega
  simp only [cdO, if_neg this, h2, h3]
  simp
theorem cdO_2 {a b x : Int} {d : Nat} (h : x = ((d + 1 : Nat) : Int)) (h1 : 1 < x) (h2 : ¬ (a % x = 0 ∧ b % x = 0)) : cdO a b (d + 1) = cdO a b d := by
  subst h
  have : ¬ ((d + 1 : Nat) : Int) ≤ 1 := by omega
  simp only [cdO, if_neg this, if_neg h2]
theorem cdO_0 {a b : Int} {d : Nat} (h : d ≤ 1) : cdO a b d = 1 := by
  rcases (show d = 0 ∨ d = 1 by omega) with rfl | rfl <;> simp [cdO]
/-- at rest: nobody has more by another bid below n -/
def arN (x y w v : Int) : Nat → Bool
  | 0 => true
  | n + 1 => arN x y w v n && decide (gFst (n : Int) y w ≤ gFst x y w ∧ gOth x (n : Int) v ≤ gOth x y v)
theorem arN_f {x y w v : Int} {j : Nat} (h : ¬ (gFst (j : Int) y w ≤ gFst x y w ∧ gOth x (j : Int) v ≤ gOth x y v)) : ∀ n : Nat, j < n → ¬ arN x y w v n = true
  | 0, h0 => absurd h0 (Nat.not_lt_zero j)
  | n + 1, h0 => by
    by_cases e : j = n
    · subst e
      simp only [arN, Bool.and_eq_true, decide_eq_true_eq]
      exact fun q => h q.2
    · simp only [arN, Bool.and_eq_true]
      exact fun q => arN_f h n (by omega) q.1
theorem gFst_o (a b w : Int) : gFst a b w = w - a ∨ gFst a b w = 0 := by unfold gFst; split <;> simp
theorem gOth_o (a b w : Int) : gOth a b w = w - b ∨ gOth a b w = 0 := by unfold gOth; split <;> simp
/-- the figures, the last one first -/
def tuO : Nat → Int → Int → Int
  | 0, _, a => a
  | n + 1, r, a => tuO n (r / 10) (a * 10 + r % 10)
def irO (P : Int) : Nat → Int → Bool
  | 0, r => decide (r = 0)
  | n + 1, r => decide (0 ≤ r.tmod 10 - 1 ∧ r.tmod 10 - 1 < P) && irO P n (r.tdiv 10)
theorem irO_1 {P r : Int} {n : Nat} (h : 0 ≤ r.tmod 10 - 1 ∧ r.tmod 10 - 1 < P) : irO P (n + 1) r = irO P n (r.tdiv 10) := by simp only [irO, decide_eq_true h, Bool.true_and]
theorem irO_2 {P r : Int} {n : Nat} (h : ¬ (0 ≤ r.tmod 10 - 1 ∧ r.tmod 10 - 1 < P)) : irO P (n + 1) r = false := by simp only [irO, decide_eq_false h, Bool.false_and]
/-- what is kept behind a row of n hands; what it does on the last one -/
def kpN (own : Int → Int) (rm : Int) : Nat → Int → Int → Int
  | 0, _, k => k
  | n + 1, row, k => behO (kpN own rm n (row / 10) k) (own (row % 10 - 1)) rm
def doN (own : Int → Int) (kd rm : Int) : Nat → Int → Int → Int
  | 0, _, _ => 0
  | n + 1, row, k => repO kd (kpN own rm n (row / 10) k) (own (row % 10 - 1))
def lwO (k : Int) : Nat → Int
  | 0 => k
  | n + 1 => lwO (k / 10) n
theorem tdiv_R {x : Int} (h : -2147483648 ≤ x ∧ x < 2147483648) : (-2147483648 ≤ x.tdiv 10 ∧ x.tdiv 10 < 2147483648) ∧ (-10 < x.tmod 10 ∧ x.tmod 10 < 10) := by
  rcases Int.le_total 0 x with h0 | h0
  · rw [Int.tdiv_eq_ediv_of_nonneg h0, Int.tmod_eq_emod_of_nonneg h0]; omega
  · obtain ⟨y, rfl⟩ : ∃ y, x = -y := ⟨-x, by omega⟩
    rw [Int.neg_tdiv, Int.neg_tmod, Int.tdiv_eq_ediv_of_nonneg (by omega), Int.tmod_eq_emod_of_nonneg (by omega)]; omega
theorem fstN_c (f : Int → Int) : ∀ (n : Nat) (p : Int), fstN f n p = -9 ∨ ∃ q : Int, p ≤ q ∧ q < p + n ∧ fstN f n p = f q
  | 0, p => Or.inl rfl
  | n + 1, p => by
    by_cases h : f p = -9
    · rw [fstN_1 h]
      rcases fstN_c f n (p + 1) with h1 | ⟨q, h1, h2, h3⟩
      · exact Or.inl h1
      · exact Or.inr ⟨q, by omega, by omega, h3⟩
    · exact Or.inr ⟨p, by omega, by omega, fstN_2 h⟩
theorem rowB {row p B : Int} {h : Nat} (h0 : 0 ≤ row) (hp : 0 ≤ p ∧ p < 5) (hB : (row + 1) * 10 ^ (h + 1) ≤ B) : (row * 10 + p + 1 + 1) * 10 ^ h ≤ B := by
  refine Int.le_trans ?_ hB
  have e : (row + 1) * (10 : Int) ^ (h + 1) = (row + 1) * 10 * 10 ^ h := by rw [Int.pow_succ, Int.mul_assoc, Int.mul_comm ((10 : Int) ^ h) 10]
  rw [e]
  exact Int.mul_le_mul_of_nonneg_right (by omega) (Int.pow_nonneg (by decide))
theorem rowL {row B : Int} {h : Nat} (h0 : 0 ≤ row) (hB : (row + 1) * 10 ^ h ≤ B) : row < B := by
  have h1 : (1 : Int) ≤ 10 ^ h := by
    have : (0 : Int) < 10 ^ h := Int.pow_pos (by decide)
    omega
  have h2 : (row + 1) * 1 ≤ (row + 1) * (10 : Int) ^ h := Int.mul_le_mul_of_nonneg_left h1 (by omega)
  omega
theorem frO_b (own : Int → Int) (n kd rm d : Int) (hn : 0 ≤ n ∧ n ≤ 5) : ∀ (h : Nat) (k row : Int), 0 ≤ row → (row + 1) * 10 ^ h ≤ 1000000 → frO own n kd rm d h k row = -9 ∨ (0 ≤ frO own n kd rm d h k row ∧ frO own n kd rm d h k row < 1000000)
  | 0, _, _, _, _ => Or.inl rfl
  | h + 1, k, row, h0, hB => by
    unfold frO
    rcases fstN_c (frS own kd d h (frO own n kd rm d h) rm k row) n.toNat 0 with e | ⟨q, h1, h2, h3⟩
    · exact Or.inl e
    · rw [h3]
      have hb := rowB (p := q) h0 (by omega) hB
      unfold frS
      split
      · split
        · have := rowL (row := row * 10 + q + 1) (by omega) hb
          exact Or.inr ⟨by omega, by omega⟩
        · exact Or.inl rfl
      · exact frO_b own n kd rm d hn h _ _ (by omega) hb
/-- desks that a search can be made over -/
def DK (M : Mem) (x : Int) : Prop := (0 ≤ M 3 6 ∧ M 3 6 ≤ 5) ∧ (∀ p : Int, 0 ≤ p ∧ p < M 3 6 → 0 ≤ M 4 p ∧ M 4 p ≤ 7) ∧ (0 ≤ x ∧ x < 4) ∧ (0 ≤ M 7 x ∧ M 7 x ≤ 3) ∧ (0 ≤ M 8 x ∧ M 8 x ≤ 3)
set_option maxHeartbeats 4000000 in
set_option maxRecDepth 100000 in
theorem c_X6_hasFigure (l : Launch) (g : GT) (M : Mem) (r : Int) (f : Int) (hr : 0 ≤ r ∧ r < 2147483648) (hf : -2147483648 ≤ f ∧ f < 2147483648) : Ctr l g yX6_hasFigure wsX6_hasFigure ({ frames := 0, cells := 0, slots := 0, locals := 0 } : Room) [.int (iI r), .int (iI f)] M (pI (bI (hfO r.toNat r f = true)) M) := by
  refine Ctr.mk (cc := cX6_hasFigure) (maxL := 3) (ret := some .boolean) (lv := [(0, .int (iI r)), (1, .int (iI f))]) (by decide) rfl (Nat.le_of_ble_eq_true rfl) rfl ?_
  intro p e s m below meth c C hr hlk hI ls hl
  have C : CallFix p m c cX6_hasFigure 3 s ([.int (iI r), .int (iI f)] : List Value).toArray wsX6_hasFigure RX6 := C
  have hx := C.1
  have hb := C.2.1
  have hts := C.2.2.2.2
  refine lv_iload_n hx hb dX6_hasFigure_0 rfl (lv_at hl 0 rfl) ?_
  refine lv_istore_n (lv' := [(2, .int (iI r)), (0, .int (iI r)), (1, .int (iI f))]) hx hb dX6_hasFigure_1 rfl hl (by decide) rfl (fun ls hl => ?_)
  have lp2 : ∀ (n2 : Nat) (x : Int) (j : Nat), (0 ≤ x ∧ x < 2147483648 ∧ x.toNat ≤ j) → (hfO j x f = hfO r.toNat r f) → x.toNat < n2 → ∀ (H : Heap) (locs : List Loc), HI g s H locs M → ∀ ls : Array Slot, lv_has ls 3 [(2, .int (iI x)), (0, .int (iI r)), (1, .int (iI f))] → W p l e ({ frames := 0, cells := 0, slots := 0, locals := 0 } : Room) s m ([.int (iI r), .int (iI f)] : List Value).toArray below meth c H locs 0 0 (MQ below (QV g (pI (bI (hfO r.toNat r f = true)) M)) ([.int (iI r), .int (iI f)] : List Value).toArray s 0 0 (AA g)) (F0 m 2 ls []) := by
    intro n2
    induction n2 with
    | zero => intro x j h1 h2 hn2; exact absurd hn2 (Nat.not_lt_zero _)
    | succ n2 ih2 =>
      intro x j h1 h2 hn2 H locs hI ls hl
      refine lv_iload_n hx hb dX6_hasFigure_2 rfl (lv_at hl 0 rfl) ?_
      refine r_if_le hx hb (tgt := 24) (by omega) dX6_hasFigure_3 (by decide) (fun c_1 => ?_) (fun c_1 => ?_)
      · refine lv_iconst (v := iI 0) hx hb dX6_hasFigure_24 rfl ?_
        refine r_zret C hr hlk hI (by decide +kernel) ?_ dX6_hasFigure_25
        exact ⟨congrArg (fun q => some (Value.int (iI q))) (bI_f (by rw [hfO_0 (by omega)] at h2; rw [← h2]; decide)).symm, rfl⟩
      · refine lv_iload_n hx hb dX6_hasFigure_6 rfl (lv_at hl 0 rfl) ?_
        refine lv_bipush (v := iI 10) hx hb dX6_hasFigure_7 (by decide +kernel) ?_
        refine r_irem hx hb (by omega) (by decide) dX6_hasFigure_9 ?_
        refine lv_iload_n hx hb dX6_hasFigure_10 rfl (lv_at hl 2 rfl) ?_
        refine r_icmp_ne hx hb (tgt := 16) (by omega) (by omega) dX6_hasFigure_11 (by decide) (fun c_2 => ?_) (fun c_2 => ?_)
        · refine lv_iload_n hx hb dX6_hasFigure_16 rfl (lv_at hl 0 rfl) ?_
          refine lv_bipush (v := iI 10) hx hb dX6_hasFigure_17 (by decide +kernel) ?_
          refine r_idiv hx hb (by omega) (by decide) dX6_hasFigure_19 ?_
          refine lv_istore_n (lv' := [(2, .int (iI (x / 10))), (0, .int (iI r)), (1, .int (iI f))]) hx hb dX6_hasFigure_20 rfl hl (by decide) rfl (fun ls hl => ?_)
          refine lv_goto (tgt := 2) hx hb dX6_hasFigure_21 (by decide) ?_
          exact ih2 (x / 10) (j - 1) (by omega) (by (obtain ⟨k, hk⟩ : ∃ k, j = k + 1 := ⟨j - 1, by omega⟩); subst hk; rw [hfO_2 (by omega) (by assumption)] at h2; exact h2) (by omega) _ _ hI ls (lv_sub hl [0, 1, 2] rfl)
        · refine lv_iconst (v := iI 1) hx hb dX6_hasFigure_14 rfl ?_
          refine r_zret C hr hlk hI (by decide +kernel) ?_ dX6_hasFigure_15
          exact ⟨congrArg (fun q => some (Value.int (iI q))) (bI_t (by (obtain ⟨k, hk⟩ : ∃ k, j = k + 1 := ⟨j - 1, by omega⟩); subst hk; rw [hfO_1 (by omega) (by assumption)] at h2; exact h2.symm)).symm, rfl⟩
  exact lp2 _ r (r.toNat) (by omega) (by rfl) (Nat.lt_succ_self _) _ _ hI ls (lv_sub hl [0, 1, 2] rfl)
set_option maxHeartbeats 4000000 in
set_option maxRecDepth 100000 in
theorem c_X6_firstRow (l : Launch) (g : GT) (M : Mem) (x : Int) (d : Int)  (dk : DK (M) x) (hd : -2147483648 ≤ d ∧ d < 2147483648) : ∀ (h : Nat) (k : Int) (row : Int), (0 ≤ k ∧ k < 1000) → (0 ≤ row) → ((row + 1) * 10 ^ h ≤ 1000000) → (h ≤ 8) → Ctr l g yX6_firstRow wsX6_firstRow (rmF h) [.ref (gA g 3), .int (iI x), .int (iI k), .int (iI d), .int (iI row), .int (iI ((h : Nat) : Int))] M (pI (frO (M 4) (M 3 6) (M 8 x) (M 7 x) d h k row) M) := by
  intro h
  induction h with
  | zero =>
    intro k row hk h0 hB hh
    refine Ctr.mk (cc := cX6_firstRow) (maxL := 10) (ret := some .int) (lv := [(0, .ref (gA g 3)), (1, .int (iI x)), (2, .int (iI k)), (3, .int (iI d)), (4, .int (iI row)), (5, .int (iI ((0 : Nat) : Int)))]) (by decide) rfl (Nat.le_of_ble_eq_true rfl) rfl ?_
    intro p e s m below meth c C hr hlk hI ls hl
    have C : CallFix p m c cX6_firstRow 10 s ([.ref (gA g 3), .int (iI x), .int (iI k), .int (iI d), .int (iI row), .int (iI ((0 : Nat) : Int))] : List Value).toArray wsX6_firstRow RX6 := C
    have hx := C.1
    have hb := C.2.1
    have hts := C.2.2.2.2
    have dk1 := dk.1
    have dk3 := dk.2.2.1
    have dk4 := dk.2.2.2.1
    have dk5 := dk.2.2.2.2
    refine lv_iload hx hb dX6_firstRow_0 (lv_at hl 5 rfl) ?_
    refine lv_iconst (v := iI 1) hx hb dX6_firstRow_2 rfl ?_
    refine r_icmp_ge hx hb (tgt := 9) (by omega) (by decide) dX6_firstRow_3 (by decide) (fun c_1 => ?_) (fun c_1 => ?_)
    · exact False.elim (by omega)
    · refine lv_bipush (v := iI (-9)) hx hb dX6_firstRow_6 (by decide +kernel) ?_
      refine r_iret C hr hlk hI ?_ dX6_firstRow_8
      exact ⟨congrArg (fun q => some (Value.int (iI q))) (show (-9) = frO (M 4) (M 3 6) (M 8 x) (M 7 x) d (0) k row from by rfl), rfl⟩
  | succ h ih =>
    intro k row hk h0 hB hh
    refine Ctr.mk (cc := cX6_firstRow) (maxL := 10) (ret := some .int) (lv := [(0, .ref (gA g 3)), (1, .int (iI x)), (2, .int (iI k)), (3, .int (iI d)), (4, .int (iI row)), (5, .int (iI ((h + 1 : Nat) : Int)))]) (by decide) rfl (Nat.le_of_ble_eq_true rfl) rfl ?_
    intro p e s m below meth c C hr hlk hI ls hl
    have C : CallFix p m c cX6_firstRow 10 s ([.ref (gA g 3), .int (iI x), .int (iI k), .int (iI d), .int (iI row), .int (iI ((h + 1 : Nat) : Int))] : List Value).toArray wsX6_firstRow RX6 := C
    have hx := C.1
    have hb := C.2.1
    have hts := C.2.2.2.2
    have dk1 := dk.1
    have dk3 := dk.2.2.1
    have dk4 := dk.2.2.2.1
    have dk5 := dk.2.2.2.2
    obtain ⟨F, hF⟩ : ∃ F, F = frS (M 4) (M 8 x) d h (frO (M 4) (M 3 6) (M 8 x) (M 7 x) d h) (M 7 x) k row := ⟨_, rfl⟩
    refine lv_iload hx hb dX6_firstRow_0 (lv_at hl 5 rfl) ?_
    refine lv_iconst (v := iI 1) hx hb dX6_firstRow_2 rfl ?_
    refine r_icmp_ge hx hb (tgt := 9) (by omega) (by decide) dX6_firstRow_3 (by decide) (fun c_1 => ?_) (fun c_1 => ?_)
    · refine lv_iconst (v := iI 0) hx hb dX6_firstRow_9 rfl ?_
      refine lv_istore (lv' := [(6, .int (iI 0)), (0, .ref (gA g 3)), (1, .int (iI x)), (2, .int (iI k)), (3, .int (iI d)), (4, .int (iI row)), (5, .int (iI ((h + 1 : Nat) : Int)))]) hx hb dX6_firstRow_10 hl (by decide) rfl (fun ls hl => ?_)
      have lp12 : ∀ (n12 : Nat) (u : Int), (0 ≤ u ∧ u ≤ M 3 6) → (fstN F (M 3 6 - u).toNat u = fstN F (M 3 6).toNat 0) → (M 3 6 - u).toNat < n12 → ∀ (H : Heap) (locs : List Loc), HI g s H locs M → ∀ ls : Array Slot, lv_has ls 10 [(6, .int (iI u)), (0, .ref (gA g 3)), (1, .int (iI x)), (2, .int (iI k)), (3, .int (iI d)), (4, .int (iI row)), (5, .int (iI ((h + 1 : Nat) : Int)))] → W p l e (rmF (h + 1)) s m ([.ref (gA g 3), .int (iI x), .int (iI k), .int (iI d), .int (iI row), .int (iI ((h + 1 : Nat) : Int))] : List Value).toArray below meth c H locs 0 0 (MQ below (QV g (pI (frO (M 4) (M 3 6) (M 8 x) (M 7 x) d (h + 1) k row) M)) ([.ref (gA g 3), .int (iI x), .int (iI k), .int (iI d), .int (iI row), .int (iI ((h + 1 : Nat) : Int))] : List Value).toArray s 0 0 (AA g)) (F0 m 12 ls []) := by
        intro n12
        induction n12 with
        | zero => intro u h1 h2 hn12; exact absurd hn12 (Nat.not_lt_zero _)
        | succ n12 ih12 =>
          intro u h1 h2 hn12 H locs hI ls hl
          have dkp := dk.2.1 u
          have hbp := fun q : 0 ≤ u ∧ u < 5 => rowL (row := row * 10 + u + 1) (by omega) (rowB h0 q hB)
          refine lv_iload hx hb dX6_firstRow_12 (lv_at hl 0 rfl) ?_
          refine lv_aload_n hx hb dX6_firstRow_14 rfl (lv_at hl 1 rfl) ?_
          refine r_iv C hI (As := []) (rest := [.int (iI u)]) (c_X1_people l g M) (cwV 0 hts gX6_firstRow_X1_people rfl rfl rfl (by decide +kernel) ⟨by simp only [rmF]; omega, by simp only [rmF]; omega⟩) (by decide) rfl rfl rfl hl.1 rfl (Nat.le_of_ble_eq_true rfl) dX6_firstRow_15 ⟨Nat.zero_le _, Nat.zero_le _⟩ (k_I (fun H locs hI => ?_))
          refine r_icmp_ge hx hb (tgt := 104) (by omega) (by omega) dX6_firstRow_18 (by decide) (fun c_2 => ?_) (fun c_2 => ?_)
          · refine lv_bipush (v := iI (-9)) hx hb dX6_firstRow_104 (by decide +kernel) ?_
            refine r_iret C hr hlk hI ?_ dX6_firstRow_106
            exact ⟨congrArg (fun q => some (Value.int (iI q))) (show (-9) = frO (M 4) (M 3 6) (M 8 x) (M 7 x) d (h + 1) k row from by rw [show (M 3 6 - u).toNat = 0 from by omega] at h2; rw [show (-9 : Int) = fstN F 0 u from rfl, h2, hF]; rfl), rfl⟩
          · refine lv_iload hx hb dX6_firstRow_21 (lv_at hl 5 rfl) ?_
            refine lv_bipush (v := iI 10) hx hb dX6_firstRow_23 (by decide +kernel) ?_
            refine r_imul hx hb dX6_firstRow_25 ?_
            refine lv_iload hx hb dX6_firstRow_26 (lv_at hl 0 rfl) ?_
            refine r_iadd hx hb dX6_firstRow_28 ?_
            refine lv_iconst (v := iI 1) hx hb dX6_firstRow_29 rfl ?_
            refine r_iadd hx hb dX6_firstRow_30 ?_
            refine lv_istore (lv' := [(7, .int (iI (((row * 10) + u) + 1))), (6, .int (iI u)), (0, .ref (gA g 3)), (1, .int (iI x)), (2, .int (iI k)), (3, .int (iI d)), (4, .int (iI row)), (5, .int (iI ((h + 1 : Nat) : Int)))]) hx hb dX6_firstRow_31 hl (by decide) rfl (fun ls hl => ?_)
            refine lv_bipush (v := iI (-9)) hx hb dX6_firstRow_33 (by decide +kernel) ?_
            refine lv_istore (lv' := [(8, .int (iI (-9))), (7, .int (iI (((row * 10) + u) + 1))), (6, .int (iI u)), (0, .ref (gA g 3)), (1, .int (iI x)), (2, .int (iI k)), (3, .int (iI d)), (4, .int (iI row)), (5, .int (iI ((h + 1 : Nat) : Int)))]) hx hb dX6_firstRow_35 hl (by decide) rfl (fun ls hl => ?_)
            refine lv_iload hx hb dX6_firstRow_37 (lv_at hl 8 rfl) ?_
            refine lv_iconst (v := iI 1) hx hb dX6_firstRow_39 rfl ?_
            refine r_icmp_le hx hb (tgt := 72) (by omega) (by decide) dX6_firstRow_40 (by decide) (fun c_3 => ?_) (fun c_3 => ?_)
            · refine lv_aload_n hx hb dX6_firstRow_72 rfl (lv_at hl 3 rfl) ?_
              refine lv_iload_n hx hb dX6_firstRow_73 rfl (lv_at hl 4 rfl) ?_
              refine lv_iload_n hx hb dX6_firstRow_74 rfl (lv_at hl 5 rfl) ?_
              refine lv_iload hx hb dX6_firstRow_75 (lv_at hl 2 rfl) ?_
              refine r_iv C hI (As := [.int (iI x), .int (iI k), .int (iI u)]) (rest := []) (c_X1_reply l g M x k u (by omega) (by omega) (by omega) (show -2147483648 ≤ (M 8 x) ∧ (M 8 x) < 2147483648 from by omega) (show -2147483648 ≤ (M 4 u) ∧ (M 4 u) < 2147483648 from by omega)) (cwV 3 hts gX6_firstRow_X1_reply rfl rfl rfl (by decide +kernel) ⟨by simp only [rmF]; omega, by simp only [rmF]; omega⟩) (by decide) rfl rfl rfl hl.1 rfl (Nat.le_of_ble_eq_true rfl) dX6_firstRow_77 ⟨Nat.zero_le _, Nat.zero_le _⟩ (k_I (fun H locs hI => ?_))
              have ff_1 := repO_b (M 8 x) k (M 4 u)
              refine lv_iload_n hx hb dX6_firstRow_80 rfl (lv_at hl 6 rfl) ?_
              refine r_icmp_ne hx hb (tgt := 88) (by omega) (by omega) dX6_firstRow_81 (by decide) (fun c_4 => ?_) (fun c_4 => ?_)
              · refine lv_iload hx hb dX6_firstRow_88 (lv_at hl 0 rfl) ?_
                refine lv_bipush (v := iI (-9)) hx hb dX6_firstRow_90 (by decide +kernel) ?_
                refine r_icmp_eq hx hb (tgt := 98) (by decide) (by decide) dX6_firstRow_92 (by decide) (fun c_5 => ?_) (fun c => absurd c (by decide))
                refine lv_iinc (v := iI (u + 1)) (lv' := [(6, .int (iI (u + 1))), (8, .int (iI (-9))), (7, .int (iI (((row * 10) + u) + 1))), (0, .ref (gA g 3)), (1, .int (iI x)), (2, .int (iI k)), (3, .int (iI d)), (4, .int (iI row)), (5, .int (iI ((h + 1 : Nat) : Int)))]) hx hb dX6_firstRow_98 hl (k := 2) rfl (iI_add _ _) (by decide) rfl (fun ls hl => ?_)
                refine lv_goto (tgt := 12) hx hb dX6_firstRow_101 (by decide) ?_
                exact ih12 (u + 1) (by omega) (by (have e : F u = -9 := by rw [hF]; simp only [frS]; first | (exfalso; omega) | (rw [if_neg (by omega)]; assumption) | (rw [if_pos (by omega), if_neg (by assumption)])); (obtain ⟨j, hj⟩ : ∃ j, (M 3 6 - u).toNat = j + 1 := ⟨(M 3 6 - u).toNat - 1, by omega⟩); rw [hj, fstN_1 e] at h2; rw [show (M 3 6 - (u + 1)).toNat = j from by omega]; exact h2) (by omega) _ _ hI ls (lv_sub hl [0, 3, 4, 5, 6, 7, 8] rfl)
              · refine lv_iload hx hb dX6_firstRow_84 (lv_at hl 1 rfl) ?_
                refine lv_istore (lv' := [(8, .int (iI (((row * 10) + u) + 1))), (7, .int (iI (((row * 10) + u) + 1))), (6, .int (iI u)), (0, .ref (gA g 3)), (1, .int (iI x)), (2, .int (iI k)), (3, .int (iI d)), (4, .int (iI row)), (5, .int (iI ((h + 1 : Nat) : Int)))]) hx hb dX6_firstRow_86 hl (by decide) rfl (fun ls hl => ?_)
                refine lv_iload hx hb dX6_firstRow_88 (lv_at hl 0 rfl) ?_
                refine lv_bipush (v := iI (-9)) hx hb dX6_firstRow_90 (by decide +kernel) ?_
                refine r_icmp_eq hx hb (tgt := 98) (by omega) (by decide) dX6_firstRow_92 (by decide) (fun c_6 => ?_) (fun c_6 => ?_)
                · refine lv_iinc (v := iI (u + 1)) (lv' := [(6, .int (iI (u + 1))), (8, .int (iI (((row * 10) + u) + 1))), (7, .int (iI (((row * 10) + u) + 1))), (0, .ref (gA g 3)), (1, .int (iI x)), (2, .int (iI k)), (3, .int (iI d)), (4, .int (iI row)), (5, .int (iI ((h + 1 : Nat) : Int)))]) hx hb dX6_firstRow_98 hl (k := 2) rfl (iI_add _ _) (by decide) rfl (fun ls hl => ?_)
                  refine lv_goto (tgt := 12) hx hb dX6_firstRow_101 (by decide) ?_
                  exact ih12 (u + 1) (by omega) (by (have e : F u = -9 := by rw [hF]; simp only [frS]; first | (exfalso; omega) | (rw [if_neg (by omega)]; assumption) | (rw [if_pos (by omega), if_neg (by assumption)])); (obtain ⟨j, hj⟩ : ∃ j, (M 3 6 - u).toNat = j + 1 := ⟨(M 3 6 - u).toNat - 1, by omega⟩); rw [hj, fstN_1 e] at h2; rw [show (M 3 6 - (u + 1)).toNat = j from by omega]; exact h2) (by omega) _ _ hI ls (lv_sub hl [0, 3, 4, 5, 6, 7, 8] rfl)
                · refine lv_iload hx hb dX6_firstRow_95 (lv_at hl 0 rfl) ?_
                  refine r_iret C hr hlk hI ?_ dX6_firstRow_97
                  exact ⟨congrArg (fun q => some (Value.int (iI q))) (show ((row * 10) + u) + 1 = frO (M 4) (M 3 6) (M 8 x) (M 7 x) d (h + 1) k row from by (have e : F u = (((row * 10) + u) + 1) := by rw [hF]; simp only [frS]; first | rw [if_neg (by omega)] | rw [if_pos (by omega), if_pos (by assumption)]); (obtain ⟨j, hj⟩ : ∃ j, (M 3 6 - u).toNat = j + 1 := ⟨(M 3 6 - u).toNat - 1, by omega⟩); rw [hj, fstN_2 (by rw [e]; first | assumption | omega), e] at h2; rw [h2, hF]; rfl), rfl⟩
            · refine lv_aload_n hx hb dX6_firstRow_43 rfl (lv_at hl 3 rfl) ?_
              refine lv_iload_n hx hb dX6_firstRow_44 rfl (lv_at hl 4 rfl) ?_
              refine lv_iload_n hx hb dX6_firstRow_45 rfl (lv_at hl 5 rfl) ?_
              refine lv_iload hx hb dX6_firstRow_46 (lv_at hl 2 rfl) ?_
              refine r_iv C hI (As := [.int (iI x), .int (iI k), .int (iI u)]) (rest := []) (c_X1_afterHand l g M x k u (by omega) (by omega) (by omega) (show -2147483648 ≤ (M 7 x) ∧ (M 7 x) < 2147483648 from by omega)) (cwV 3 hts gX6_firstRow_X1_afterHand rfl rfl rfl (by decide +kernel) ⟨by simp only [rmF]; omega, by simp only [rmF]; omega⟩) (by decide) rfl rfl rfl hl.1 rfl (Nat.le_of_ble_eq_true rfl) dX6_firstRow_48 ⟨Nat.zero_le _, Nat.zero_le _⟩ (k_I (fun H locs hI => ?_))
              have ff_2 := @behO_b k (M 4 u) (M 7 x)
              refine lv_istore (lv' := [(9, .int (iI (behO k (M 4 u) (M 7 x)))), (8, .int (iI (-9))), (7, .int (iI (((row * 10) + u) + 1))), (6, .int (iI u)), (0, .ref (gA g 3)), (1, .int (iI x)), (2, .int (iI k)), (3, .int (iI d)), (4, .int (iI row)), (5, .int (iI ((h + 1 : Nat) : Int)))]) hx hb dX6_firstRow_51 hl (by decide) rfl (fun ls hl => ?_)
              refine lv_aload_n hx hb dX6_firstRow_53 rfl (lv_at hl 4 rfl) ?_
              refine lv_iload_n hx hb dX6_firstRow_54 rfl (lv_at hl 5 rfl) ?_
              refine lv_iload hx hb dX6_firstRow_55 (lv_at hl 0 rfl) ?_
              refine lv_iload_n hx hb dX6_firstRow_57 rfl (lv_at hl 7 rfl) ?_
              refine lv_iload hx hb dX6_firstRow_58 (lv_at hl 2 rfl) ?_
              refine lv_iload hx hb dX6_firstRow_60 (lv_at hl 9 rfl) ?_
              refine lv_iconst (v := iI 1) hx hb dX6_firstRow_62 rfl ?_
              refine r_isub hx hb dX6_firstRow_63 ?_
              rw [show ((h + 1 : Nat) : Int) - 1 = ((h : Nat) : Int) from by omega]
              refine r_is C hI (As := [.ref (gA g 3), .int (iI x), .int (iI (behO k (M 4 u) (M 7 x))), .int (iI d), .int (iI (((row * 10) + u) + 1)), .int (iI ((h : Nat) : Int))]) (rest := []) (ih (behO k (M 4 u) (M 7 x)) (((row * 10) + u) + 1) (behO_b hk (by omega)) (by omega) (rowB h0 (by omega) hB) (by omega)) (va_cwS 6 hts gX6_firstRow_X6_firstRow rfl rfl rfl (by decide +kernel) ⟨by simp only [rmF]; omega, by simp only [rmF]; omega⟩) rfl hl.1 rfl (Nat.le_of_ble_eq_true rfl) dX6_firstRow_64 ⟨Nat.zero_le _, Nat.zero_le _⟩ (k_I (fun H locs hI => ?_))
              have hfb := frO_b (M 4) (M 3 6) (M 8 x) (M 7 x) d dk1 h (behO k (M 4 u) (M 7 x)) (row * 10 + u + 1) (by omega) (rowB h0 (by omega) hB)
              refine lv_istore (lv' := [(8, .int (iI (frO (M 4) (M 3 6) (M 8 x) (M 7 x) d h (behO k (M 4 u) (M 7 x)) (((row * 10) + u) + 1)))), (9, .int (iI (behO k (M 4 u) (M 7 x)))), (7, .int (iI (((row * 10) + u) + 1))), (6, .int (iI u)), (0, .ref (gA g 3)), (1, .int (iI x)), (2, .int (iI k)), (3, .int (iI d)), (4, .int (iI row)), (5, .int (iI ((h + 1 : Nat) : Int)))]) hx hb dX6_firstRow_67 hl (by decide) rfl (fun ls hl => ?_)
              refine lv_goto (tgt := 88) hx hb dX6_firstRow_69 (by decide) ?_
              refine lv_iload hx hb dX6_firstRow_88 (lv_at hl 0 rfl) ?_
              refine lv_bipush (v := iI (-9)) hx hb dX6_firstRow_90 (by decide +kernel) ?_
              refine r_icmp_eq hx hb (tgt := 98) (by omega) (by decide) dX6_firstRow_92 (by decide) (fun c_7 => ?_) (fun c_7 => ?_)
              · refine lv_iinc (v := iI (u + 1)) (lv' := [(6, .int (iI (u + 1))), (8, .int (iI (frO (M 4) (M 3 6) (M 8 x) (M 7 x) d h (behO k (M 4 u) (M 7 x)) (((row * 10) + u) + 1)))), (9, .int (iI (behO k (M 4 u) (M 7 x)))), (7, .int (iI (((row * 10) + u) + 1))), (0, .ref (gA g 3)), (1, .int (iI x)), (2, .int (iI k)), (3, .int (iI d)), (4, .int (iI row)), (5, .int (iI ((h + 1 : Nat) : Int)))]) hx hb dX6_firstRow_98 hl (k := 3) rfl (iI_add _ _) (by decide) rfl (fun ls hl => ?_)
                refine lv_goto (tgt := 12) hx hb dX6_firstRow_101 (by decide) ?_
                exact ih12 (u + 1) (by omega) (by (have e : F u = -9 := by rw [hF]; simp only [frS]; first | (exfalso; omega) | (rw [if_neg (by omega)]; assumption) | (rw [if_pos (by omega), if_neg (by assumption)])); (obtain ⟨j, hj⟩ : ∃ j, (M 3 6 - u).toNat = j + 1 := ⟨(M 3 6 - u).toNat - 1, by omega⟩); rw [hj, fstN_1 e] at h2; rw [show (M 3 6 - (u + 1)).toNat = j from by omega]; exact h2) (by omega) _ _ hI ls (lv_sub hl [0, 4, 5, 6, 7, 8, 9] rfl)
              · refine lv_iload hx hb dX6_firstRow_95 (lv_at hl 0 rfl) ?_
                refine r_iret C hr hlk hI ?_ dX6_firstRow_97
                exact ⟨congrArg (fun q => some (Value.int (iI q))) (show frO (M 4) (M 3 6) (M 8 x) (M 7 x) d h (behO k (M 4 u) (M 7 x)) (((row * 10) + u) + 1) = frO (M 4) (M 3 6) (M 8 x) (M 7 x) d (h + 1) k row from by (have e : F u = (frO (M 4) (M 3 6) (M 8 x) (M 7 x) d h (behO k (M 4 u) (M 7 x)) (((row * 10) + u) + 1)) := by rw [hF]; simp only [frS]; first | rw [if_neg (by omega)] | rw [if_pos (by omega), if_pos (by assumption)]); (obtain ⟨j, hj⟩ : ∃ j, (M 3 6 - u).toNat = j + 1 := ⟨(M 3 6 - u).toNat - 1, by omega⟩); rw [hj, fstN_2 (by rw [e]; first | assumption | omega), e] at h2; rw [h2, hF]; rfl), rfl⟩
      exact lp12 _ 0 (by omega) (by rw [Int.sub_zero]) (Nat.lt_succ_self _) _ _ hI ls (lv_sub hl [0, 1, 2, 3, 4, 5, 6] rfl)
    · exact False.elim (by omega)
theorem c_X1_peopleG (l : Launch) (g : GT) (M : Mem) (n : Int) (h36 : M 3 6 = n) : Ctr l g yX1_people wsX1_people ({ frames := 0, cells := 0, slots := 0, locals := 0 } : Room) [.ref (gA g 3)] M (pI n M) := by
  subst h36
  exact c_X1_people l g M
theorem c_X1_replyG (l : Launch) (g : GT) (M : Mem) (x : Int) (k : Int) (q : Int) (kd d : Int) (hx0 : 0 ≤ x ∧ x < 4) (hk : 0 ≤ k ∧ k < 1000) (hq : 0 ≤ q ∧ q < 5) (hK : -2147483648 ≤ kd ∧ kd < 2147483648) (hO : -2147483648 ≤ d ∧ d < 2147483648) (h8 : M 8 x = kd) (h4 : M 4 q = d) : Ctr l g yX1_reply wsX1_reply ({ frames := 2, cells := 0, slots := 0, locals := 42 } : Room) [.ref (gA g 3), .int (iI x), .int (iI k), .int (iI q)] M (pI (repO kd k d) M) := by
  subst h8
  subst h4
  exact c_X1_reply l g M x k q hx0 hk hq hK hO
theorem c_X1_afterHandG (l : Launch) (g : GT) (M : Mem) (x : Int) (k : Int) (q : Int) (d r : Int) (hx0 : 0 ≤ x ∧ x < 4) (hk : 0 ≤ k ∧ k < 1000) (hq : 0 ≤ q ∧ q < 5) (hR : -2147483648 ≤ r ∧ r < 2147483648) (h4 : M 4 q = d) (h7 : M 7 x = r) : Ctr l g yX1_afterHand wsX1_afterHand ({ frames := 2, cells := 0, slots := 0, locals := 42 } : Room) [.ref (gA g 3), .int (iI x), .int (iI k), .int (iI q)] M (pI (behO k d r) M) := by
  subst h4
  subst h7
  exact c_X1_afterHand l g M x k q hx0 hk hq hR
set_option maxHeartbeats 4000000 in
set_option maxRecDepth 100000 in
theorem c_X6_tallyRounds (l : Launch) (g : GT) (x : Int) (own : Int → Int) (n kd rm : Int) (hx0 : 0 ≤ x ∧ x < 4) (hn : 0 ≤ n ∧ n ≤ 5) (hw : ∀ u : Int, 0 ≤ u ∧ u < n → 0 ≤ own u ∧ own u ≤ 7) (hkd : 0 ≤ kd ∧ kd ≤ 3) (hrm : 0 ≤ rm ∧ rm ≤ 3) : ∀ (h : Nat) (M : Mem) (k : Int) (b : Int) (row : Int), (M 3 6 = n) → (∀ u : Int, M 4 u = own u) → (M 8 x = kd) → (M 7 x = rm) → (0 ≤ k ∧ k < 1000) → (-2147483648 ≤ b ∧ b < 2147483648) → (0 ≤ row) → ((row + 1) * 10 ^ h ≤ 1000000) → (h ≤ 8) → (0 ≤ M 14 0 ∧ M 14 0 + ((5 ^ h : Nat) : Int) < 1000000) → Ctr l g yX6_tallyRounds wsX6_tallyRounds (rmF h) [.ref (gA g 3), .ref (gA g 14), .int (iI x), .int (iI k), .int (iI b), .int (iI row), .int (iI ((h : Nat) : Int))] M (pV (tAdds M (rlO own n kd rm h k b row))) := by
  intro h
  induction h with
  | zero =>
    intro M k b row h36 h4 h8 h7 hk hb0 h0 hB hh ht
    refine Ctr.mk (cc := cX6_tallyRounds) (maxL := 10) (ret := none) (lv := [(0, .ref (gA g 3)), (1, .ref (gA g 14)), (2, .int (iI x)), (3, .int (iI k)), (4, .int (iI b)), (5, .int (iI row)), (6, .int (iI ((0 : Nat) : Int)))]) (by decide) rfl (Nat.le_of_ble_eq_true rfl) rfl ?_
    intro p e s m below meth c C hr hlk hI ls hl
    have C : CallFix p m c cX6_tallyRounds 10 s ([.ref (gA g 3), .ref (gA g 14), .int (iI x), .int (iI k), .int (iI b), .int (iI row), .int (iI ((0 : Nat) : Int))] : List Value).toArray wsX6_tallyRounds RX6 := C
    have hx := C.1
    have hb := C.2.1
    have hts := C.2.2.2.2
    refine lv_iload hx hb dX6_tallyRounds_0 (lv_at hl 6 rfl) ?_
    refine lv_iconst (v := iI 1) hx hb dX6_tallyRounds_2 rfl ?_
    refine r_icmp_ge hx hb (tgt := 13) (by omega) (by decide) dX6_tallyRounds_3 (by decide) (fun c_1 => ?_) (fun c_1 => ?_)
    · exact False.elim (by omega)
    · refine lv_aload_n hx hb dX6_tallyRounds_6 rfl (lv_at hl 1 rfl) ?_
      refine lv_iload hx hb dX6_tallyRounds_7 (lv_at hl 5 rfl) ?_
      refine r_iv C hI (As := [.int (iI row)]) (rest := []) (c_X4_add l g M row (show -2147483648 ≤ (M 14 0) ∧ (M 14 0) < 2147483648 from by omega)) (cwV 1 hts gX6_tallyRounds_X4_add rfl rfl rfl (by decide +kernel) ⟨by simp only [rmF]; omega, by simp only [rmF]; omega⟩) (by decide) rfl rfl rfl hl.1 rfl (Nat.le_of_ble_eq_true rfl) dX6_tallyRounds_9 ⟨Nat.zero_le _, Nat.zero_le _⟩ (k_V (fun H locs hI => ?_))
      refine r_vret C hr hlk hI ?_ dX6_tallyRounds_12
      exact ⟨rfl, (show tAdd M row = tAdds M (rlO own n kd rm (0) k b row) from by rfl)⟩
  | succ h ih =>
    intro M k b row h36 h4 h8 h7 hk hb0 h0 hB hh ht
    refine Ctr.mk (cc := cX6_tallyRounds) (maxL := 10) (ret := none) (lv := [(0, .ref (gA g 3)), (1, .ref (gA g 14)), (2, .int (iI x)), (3, .int (iI k)), (4, .int (iI b)), (5, .int (iI row)), (6, .int (iI ((h + 1 : Nat) : Int)))]) (by decide) rfl (Nat.le_of_ble_eq_true rfl) rfl ?_
    intro p e s m below meth c C hr hlk hI ls hl
    have C : CallFix p m c cX6_tallyRounds 10 s ([.ref (gA g 3), .ref (gA g 14), .int (iI x), .int (iI k), .int (iI b), .int (iI row), .int (iI ((h + 1 : Nat) : Int))] : List Value).toArray wsX6_tallyRounds RX6 := C
    have hx := C.1
    have hb := C.2.1
    have hts := C.2.2.2.2
    obtain ⟨F, hF⟩ : ∃ F, F = rlS own kd rm (rlO own n kd rm h) k b row := ⟨_, rfl⟩
    have hFl : ∀ v : Int, (F v).length ≤ 5 ^ h := fun v => by rw [hF]; unfold rlS; split; exact rlO_len own n kd rm hn.2 h _ _ _; simp
    have h5 : 5 ^ (h + 1) = 5 * 5 ^ h := by rw [Nat.pow_succ, Nat.mul_comm]
    have hrl := rowL h0 hB
    refine lv_iload hx hb dX6_tallyRounds_0 (lv_at hl 6 rfl) ?_
    refine lv_iconst (v := iI 1) hx hb dX6_tallyRounds_2 rfl ?_
    refine r_icmp_ge hx hb (tgt := 13) (by omega) (by decide) dX6_tallyRounds_3 (by decide) (fun c_1 => ?_) (fun c_1 => ?_)
    · refine lv_iconst (v := iI 0) hx hb dX6_tallyRounds_13 rfl ?_
      refine lv_istore (lv' := [(7, .int (iI 0)), (0, .ref (gA g 3)), (1, .ref (gA g 14)), (2, .int (iI x)), (3, .int (iI k)), (4, .int (iI b)), (5, .int (iI row)), (6, .int (iI ((h + 1 : Nat) : Int)))]) hx hb dX6_tallyRounds_14 hl (by decide) rfl (fun ls hl => ?_)
      have lp16 : ∀ (n16 : Nat) (v : Int) (N : Mem) (j : Nat), (v = (j : Int) ∧ (j : Int) ≤ n) → (N = tAdds M (flN F j)) → n.toNat - j < n16 → ∀ (H : Heap) (locs : List Loc), HI g s H locs N → ∀ ls : Array Slot, lv_has ls 10 [(7, .int (iI v)), (0, .ref (gA g 3)), (1, .ref (gA g 14)), (2, .int (iI x)), (3, .int (iI k)), (4, .int (iI b)), (5, .int (iI row)), (6, .int (iI ((h + 1 : Nat) : Int)))] → W p l e (rmF (h + 1)) s m ([.ref (gA g 3), .ref (gA g 14), .int (iI x), .int (iI k), .int (iI b), .int (iI row), .int (iI ((h + 1 : Nat) : Int))] : List Value).toArray below meth c H locs 0 0 (MQ below (QV g (pV (tAdds M (rlO own n kd rm (h + 1) k b row)))) ([.ref (gA g 3), .ref (gA g 14), .int (iI x), .int (iI k), .int (iI b), .int (iI row), .int (iI ((h + 1 : Nat) : Int))] : List Value).toArray s 0 0 (AA g)) (F0 m 16 ls []) := by
        intro n16
        induction n16 with
        | zero => intro v N j h1 h2 hn16; exact absurd hn16 (Nat.not_lt_zero _)
        | succ n16 ih16 =>
          intro v N j h1 h2 hn16 H locs hI ls hl
          have eN : ∀ c : Nat, c ≠ 14 → N c = M c := fun c hc => by rw [h2, tAdds_n hc]
          have eN36 : N 3 6 = n := by rw [eN 3 (by decide)]; exact h36
          have eN4 : ∀ u : Int, N 4 u = own u := fun u => by rw [eN 4 (by decide)]; exact h4 u
          have eN8 : N 8 x = kd := by rw [eN 8 (by decide)]; exact h8
          have eN7 : N 7 x = rm := by rw [eN 7 (by decide)]; exact h7
          have hwv := hw v
          have hlen := flN_len hFl j
          have hj5 : j < 5 → j * 5 ^ h + 5 ^ h ≤ 5 * 5 ^ h := fun q => by rw [← Nat.succ_mul]; exact Nat.mul_le_mul_right _ q
          have hN14 : N 14 0 = M 14 0 + (flN F j).length := by rw [h2, tAdds_14]
          refine lv_iload hx hb dX6_tallyRounds_16 (lv_at hl 0 rfl) ?_
          refine lv_aload_n hx hb dX6_tallyRounds_18 rfl (lv_at hl 1 rfl) ?_
          refine r_iv C hI (As := []) (rest := [.int (iI v)]) (c_X1_peopleG l g N n (show (N 3 6) = n from by first | assumption | exact eN36)) (cwV 0 hts gX6_tallyRounds_X1_people rfl rfl rfl (by decide +kernel) ⟨by simp only [rmF]; omega, by simp only [rmF]; omega⟩) (by decide) rfl rfl rfl hl.1 rfl (Nat.le_of_ble_eq_true rfl) dX6_tallyRounds_19 ⟨Nat.zero_le _, Nat.zero_le _⟩ (k_I (fun H locs hI => ?_))
          refine r_icmp_ge hx hb (tgt := 94) (by omega) (by omega) dX6_tallyRounds_22 (by decide) (fun c_2 => ?_) (fun c_2 => ?_)
          · refine r_vret C hr hlk hI ?_ dX6_tallyRounds_94
            exact ⟨rfl, (show N = tAdds M (rlO own n kd rm (h + 1) k b row) from by (have : n.toNat = j := by omega); rw [h2, hF, ← this]; rfl)⟩
          · refine lv_aload_n hx hb dX6_tallyRounds_25 rfl (lv_at hl 1 rfl) ?_
            refine lv_iload_n hx hb dX6_tallyRounds_26 rfl (lv_at hl 3 rfl) ?_
            refine lv_iload_n hx hb dX6_tallyRounds_27 rfl (lv_at hl 4 rfl) ?_
            refine lv_iload hx hb dX6_tallyRounds_28 (lv_at hl 0 rfl) ?_
            refine r_iv C hI (As := [.int (iI x), .int (iI k), .int (iI v)]) (rest := []) (c_X1_replyG l g N x k v kd (own v) (by omega) (by omega) (by omega) (by omega) (by omega) (show (N 8 x) = kd from by first | exact eN8 | assumption) (show (N 4 v) = (own v) from by first | exact eN4 _ | exact h4 _)) (cwV 3 hts gX6_tallyRounds_X1_reply rfl rfl rfl (by decide +kernel) ⟨by simp only [rmF]; omega, by simp only [rmF]; omega⟩) (by decide) rfl rfl rfl hl.1 rfl (Nat.le_of_ble_eq_true rfl) dX6_tallyRounds_30 ⟨Nat.zero_le _, Nat.zero_le _⟩ (k_I (fun H locs hI => ?_))
            have ff_1 := repO_b kd k (own v)
            refine lv_istore (lv' := [(8, .int (iI (repO kd k (own v)))), (7, .int (iI v)), (0, .ref (gA g 3)), (1, .ref (gA g 14)), (2, .int (iI x)), (3, .int (iI k)), (4, .int (iI b)), (5, .int (iI row)), (6, .int (iI ((h + 1 : Nat) : Int)))]) hx hb dX6_tallyRounds_33 hl (by decide) rfl (fun ls hl => ?_)
            refine lv_iload hx hb dX6_tallyRounds_35 (lv_at hl 0 rfl) ?_
            refine lv_iload hx hb dX6_tallyRounds_37 (lv_at hl 6 rfl) ?_
            refine r_icmp_eq hx hb (tgt := 88) (by omega) (by omega) dX6_tallyRounds_39 (by decide) (fun c_3 => ?_) (fun c_3 => ?_)
            · refine lv_iinc (v := iI (v + 1)) (lv' := [(7, .int (iI (v + 1))), (8, .int (iI (repO kd k (own v)))), (0, .ref (gA g 3)), (1, .ref (gA g 14)), (2, .int (iI x)), (3, .int (iI k)), (4, .int (iI b)), (5, .int (iI row)), (6, .int (iI ((h + 1 : Nat) : Int)))]) hx hb dX6_tallyRounds_88 hl (k := 1) rfl (iI_add _ _) (by decide) rfl (fun ls hl => ?_)
              refine lv_goto (tgt := 16) hx hb dX6_tallyRounds_91 (by decide) ?_
              exact ih16 (v + 1) N (j + 1) (by omega) (by first | (rw [h2]; simp only [flN, ← h1.1, hF, rlS]; rw [if_neg (by first | exact fun q => q.1 (by assumption) | exact fun q => q.2 (by assumption)), List.append_nil]) | (rw [h2, tAdds_app]; simp only [flN, ← h1.1, hF, rlS]; rw [if_pos ⟨by assumption, by assumption⟩])) (by omega) _ _ hI ls (lv_sub hl [0, 2, 3, 4, 5, 6, 7, 8] rfl)
            · refine lv_iload hx hb dX6_tallyRounds_42 (lv_at hl 7 rfl) ?_
              refine lv_iload hx hb dX6_tallyRounds_44 (lv_at hl 1 rfl) ?_
              refine lv_iconst (v := iI 1) hx hb dX6_tallyRounds_46 rfl ?_
              refine r_iadd hx hb dX6_tallyRounds_47 ?_
              refine r_is C hI (As := [.int (iI row), .int (iI (v + 1))]) (rest := []) (c_X6_hasFigure l g N row (v + 1) (by omega) (by omega)) (va_cwS 2 hts gX6_tallyRounds_X6_hasFigure rfl rfl rfl (by decide +kernel) ⟨by simp only [rmF]; omega, by simp only [rmF]; omega⟩) rfl hl.1 rfl (Nat.le_of_ble_eq_true rfl) dX6_tallyRounds_48 ⟨Nat.zero_le _, Nat.zero_le _⟩ (k_I (fun H locs hI => ?_))
              refine r_b_ne hx hb (tgt := 88) dX6_tallyRounds_51 (by decide) (fun c_4 => ?_) (fun c_4 => ?_)
              · refine lv_iinc (v := iI (v + 1)) (lv' := [(7, .int (iI (v + 1))), (8, .int (iI (repO kd k (own v)))), (0, .ref (gA g 3)), (1, .ref (gA g 14)), (2, .int (iI x)), (3, .int (iI k)), (4, .int (iI b)), (5, .int (iI row)), (6, .int (iI ((h + 1 : Nat) : Int)))]) hx hb dX6_tallyRounds_88 hl (k := 1) rfl (iI_add _ _) (by decide) rfl (fun ls hl => ?_)
                refine lv_goto (tgt := 16) hx hb dX6_tallyRounds_91 (by decide) ?_
                exact ih16 (v + 1) N (j + 1) (by omega) (by first | (rw [h2]; simp only [flN, ← h1.1, hF, rlS]; rw [if_neg (by first | exact fun q => q.1 (by assumption) | exact fun q => q.2 (by assumption)), List.append_nil]) | (rw [h2, tAdds_app]; simp only [flN, ← h1.1, hF, rlS]; rw [if_pos ⟨by assumption, by assumption⟩])) (by omega) _ _ hI ls (lv_sub hl [0, 2, 3, 4, 5, 6, 7, 8] rfl)
              · refine lv_aload_n hx hb dX6_tallyRounds_54 rfl (lv_at hl 2 rfl) ?_
                refine lv_iload_n hx hb dX6_tallyRounds_55 rfl (lv_at hl 4 rfl) ?_
                refine lv_iload_n hx hb dX6_tallyRounds_56 rfl (lv_at hl 5 rfl) ?_
                refine lv_iload hx hb dX6_tallyRounds_57 (lv_at hl 1 rfl) ?_
                refine r_iv C hI (As := [.int (iI x), .int (iI k), .int (iI v)]) (rest := []) (c_X1_afterHandG l g N x k v (own v) rm (by omega) (by omega) (by omega) (by omega) (show (N 4 v) = (own v) from by first | exact eN4 _ | exact h4 _) (show (N 7 x) = rm from by first | exact eN7 | assumption)) (cwV 3 hts gX6_tallyRounds_X1_afterHand rfl rfl rfl (by decide +kernel) ⟨by simp only [rmF]; omega, by simp only [rmF]; omega⟩) (by decide) rfl rfl rfl hl.1 rfl (Nat.le_of_ble_eq_true rfl) dX6_tallyRounds_59 ⟨Nat.zero_le _, Nat.zero_le _⟩ (k_I (fun H locs hI => ?_))
                have ff_2 := @behO_b k (own v) rm
                refine lv_istore (lv' := [(9, .int (iI (behO k (own v) rm))), (8, .int (iI (repO kd k (own v)))), (7, .int (iI v)), (0, .ref (gA g 3)), (1, .ref (gA g 14)), (2, .int (iI x)), (3, .int (iI k)), (4, .int (iI b)), (5, .int (iI row)), (6, .int (iI ((h + 1 : Nat) : Int)))]) hx hb dX6_tallyRounds_62 hl (by decide) rfl (fun ls hl => ?_)
                refine lv_aload_n hx hb dX6_tallyRounds_64 rfl (lv_at hl 3 rfl) ?_
                refine lv_aload_n hx hb dX6_tallyRounds_65 rfl (lv_at hl 4 rfl) ?_
                refine lv_iload_n hx hb dX6_tallyRounds_66 rfl (lv_at hl 5 rfl) ?_
                refine lv_iload hx hb dX6_tallyRounds_67 (lv_at hl 0 rfl) ?_
                refine lv_iload hx hb dX6_tallyRounds_69 (lv_at hl 1 rfl) ?_
                refine lv_iload hx hb dX6_tallyRounds_71 (lv_at hl 8 rfl) ?_
                refine lv_bipush (v := iI 10) hx hb dX6_tallyRounds_73 (by decide +kernel) ?_
                refine r_imul hx hb dX6_tallyRounds_75 ?_
                refine lv_iload hx hb dX6_tallyRounds_76 (lv_at hl 2 rfl) ?_
                refine r_iadd hx hb dX6_tallyRounds_78 ?_
                refine lv_iconst (v := iI 1) hx hb dX6_tallyRounds_79 rfl ?_
                refine r_iadd hx hb dX6_tallyRounds_80 ?_
                refine lv_iload hx hb dX6_tallyRounds_81 (lv_at hl 9 rfl) ?_
                refine lv_iconst (v := iI 1) hx hb dX6_tallyRounds_83 rfl ?_
                refine r_isub hx hb dX6_tallyRounds_84 ?_
                rw [show ((h + 1 : Nat) : Int) - 1 = ((h : Nat) : Int) from by omega]
                refine r_is C hI (As := [.ref (gA g 3), .ref (gA g 14), .int (iI x), .int (iI (behO k (own v) rm)), .int (iI (repO kd k (own v))), .int (iI (((row * 10) + v) + 1)), .int (iI ((h : Nat) : Int))]) (rest := []) (ih N (behO k (own v) rm) (repO kd k (own v)) (((row * 10) + v) + 1) (by exact eN36) (by exact eN4) (by exact eN8) (by exact eN7) (behO_b hk (by omega)) (by omega) (by omega) (rowB h0 (by omega) hB) (by omega) (by omega)) (va_cwS 7 hts gX6_tallyRounds_X6_tallyRounds rfl rfl rfl (by decide +kernel) ⟨by simp only [rmF]; omega, by simp only [rmF]; omega⟩) rfl hl.1 rfl (Nat.le_of_ble_eq_true rfl) dX6_tallyRounds_85 ⟨Nat.zero_le _, Nat.zero_le _⟩ (k_V (fun H locs hI => ?_))
                refine lv_iinc (v := iI (v + 1)) (lv' := [(7, .int (iI (v + 1))), (9, .int (iI (behO k (own v) rm))), (8, .int (iI (repO kd k (own v)))), (0, .ref (gA g 3)), (1, .ref (gA g 14)), (2, .int (iI x)), (3, .int (iI k)), (4, .int (iI b)), (5, .int (iI row)), (6, .int (iI ((h + 1 : Nat) : Int)))]) hx hb dX6_tallyRounds_88 hl (k := 2) rfl (iI_add _ _) (by decide) rfl (fun ls hl => ?_)
                refine lv_goto (tgt := 16) hx hb dX6_tallyRounds_91 (by decide) ?_
                exact ih16 (v + 1) (tAdds N (rlO own n kd rm h (behO k (own v) rm) (repO kd k (own v)) (((row * 10) + v) + 1))) (j + 1) (by omega) (by first | (rw [h2]; simp only [flN, ← h1.1, hF, rlS]; rw [if_neg (by first | exact fun q => q.1 (by assumption) | exact fun q => q.2 (by assumption)), List.append_nil]) | (rw [h2, tAdds_app]; simp only [flN, ← h1.1, hF, rlS]; rw [if_pos ⟨by assumption, by assumption⟩])) (by omega) _ _ hI ls (lv_sub hl [0, 3, 4, 5, 6, 7, 8, 9] rfl)
      exact lp16 _ 0 M 0 (by omega) (by rfl) (Nat.lt_succ_self _) _ _ hI ls (lv_sub hl [0, 1, 2, 3, 4, 5, 6, 7] rfl)
    · exact False.elim (by omega)
theorem c_X3_sizeG (l : Launch) (g : GT) (M : Mem) (cnt : Int) (h : M 10 3 = cnt) : Ctr l g yX3_size wsX3_size ({ frames := 0, cells := 0, slots := 0, locals := 0 } : Room) [.ref (gA g 10)] M (pI cnt M) := by
  subst h
  exact c_X3_size l g M
theorem c_X3_personAtG (l : Launch) (g : GT) (M : Mem) (k : Int) (z : Int) (hk : 0 ≤ k ∧ k < 4) (h : M 12 k = z) : Ctr l g yX3_personAt wsX3_personAt ({ frames := 1, cells := 0, slots := 0, locals := 21 } : Room) [.ref (gA g 10), .int (iI k)] M (pI z M) := by
  subst h
  exact c_X3_personAt l g M k hk
theorem c_X3_doingAtG (l : Launch) (g : GT) (M : Mem) (k : Int) (z : Int) (hk : 0 ≤ k ∧ k < 4) (h : M 13 k = z) : Ctr l g yX3_doingAt wsX3_doingAt ({ frames := 1, cells := 0, slots := 0, locals := 21 } : Room) [.ref (gA g 10), .int (iI k)] M (pI z M) := by
  subst h
  exact c_X3_doingAt l g M k hk
theorem c_X3_nextOfG (l : Launch) (g : GT) (M : Mem) (a : Int) (b : Int) (ra rp : Int → Int) (n cnt : Int) (hc : 0 ≤ cnt ∧ cnt ≤ 4) (hb0 : 0 ≤ b ∧ b ≤ cnt) (ha : -2147483648 ≤ a ∧ a < 2147483648) (hP : -2147483648 ≤ n ∧ n < 2147483648) (h11R : ∀ j : Int, 0 ≤ j ∧ j < cnt → -2147483648 ≤ ra j ∧ ra j < 2147483648) (h12R : ∀ j : Int, 0 ≤ j ∧ j < cnt → -2147483648 ≤ rp j ∧ rp j < 2147483648) (h11 : ∀ u : Int, M 11 u = ra u) (h12 : ∀ u : Int, M 12 u = rp u) (h36 : M 3 6 = n) (hcnt : M 10 3 = cnt) : Ctr l g yX3_nextOf wsX3_nextOf ({ frames := 2, cells := 0, slots := 0, locals := 42 } : Room) [.ref (gA g 10), .int (iI a), .ref (gA g 3), .int (iI b)] M (pI (nxO ra rp a n (cnt - b).toNat b) M) := by
  obtain rfl : M 11 = ra := funext h11
  obtain rfl : M 12 = rp := funext h12
  subst h36
  subst hcnt
  exact c_X3_nextOf l g M a b hc hb0 ha hP h11R h12R
set_option maxHeartbeats 4000000 in
set_option maxRecDepth 100000 in
theorem c_X6_tallyWearers (l : Launch) (g : GT) (x : Int) (ra rp rd own : Int → Int) (n cnt kd rm : Int) (hx0 : 0 ≤ x ∧ x < 4) (hn : 0 ≤ n ∧ n ≤ 5) (hw : ∀ u : Int, 0 ≤ u ∧ u < n → 0 ≤ own u ∧ own u ≤ 7) (hkd : 0 ≤ kd ∧ kd ≤ 3) (hrm : 0 ≤ rm ∧ rm ≤ 3) (hc : 0 ≤ cnt ∧ cnt ≤ 4) (h11R : ∀ j : Int, 0 ≤ j ∧ j < cnt → -2147483648 ≤ ra j ∧ ra j < 2147483648) (h12R : ∀ j : Int, 0 ≤ j ∧ j < cnt → -2147483648 ≤ rp j ∧ rp j < 2147483648) (h13R : ∀ j : Int, 0 ≤ j ∧ j < cnt → -2147483648 ≤ rd j ∧ rd j < 2147483648) : ∀ (h : Nat) (M : Mem) (k : Int) (row : Int) (b : Int), (M 3 6 = n) → (∀ u : Int, M 4 u = own u) → (M 8 x = kd) → (M 7 x = rm) → (∀ u : Int, M 11 u = ra u) → (∀ u : Int, M 12 u = rp u) → (∀ u : Int, M 13 u = rd u) → (M 10 3 = cnt) → (0 ≤ b ∧ b ≤ cnt ∧ cnt - b < h) → (0 ≤ k ∧ k < 1000) → (0 ≤ row) → ((row + 1) * 10 ^ h ≤ 1000000) → (h ≤ 8) → (0 ≤ M 14 0 ∧ M 14 0 + ((5 ^ h : Nat) : Int) < 1000000) → Ctr l g yX6_tallyWearers wsX6_tallyWearers (rmF h) [.ref (gA g 3), .ref (gA g 10), .ref (gA g 14), .int (iI x), .int (iI k), .int (iI row), .int (iI b)] M (pV (tAdds M (wlO ra rp rd own x n cnt kd rm h k row b))) := by
  intro h
  induction h with
  | zero =>
    intro M k row b h36 h4 h8 h7 h11 h12 h13 hcnt hb0 hk h0 hB hh ht
    refine Ctr.mk (cc := cX6_tallyWearers) (maxL := 12) (ret := none) (lv := [(0, .ref (gA g 3)), (1, .ref (gA g 10)), (2, .ref (gA g 14)), (3, .int (iI x)), (4, .int (iI k)), (5, .int (iI row)), (6, .int (iI b))]) (by decide) rfl (Nat.le_of_ble_eq_true rfl) rfl ?_
    intro p e s m below meth c C hr hlk hI ls hl
    have C : CallFix p m c cX6_tallyWearers 12 s ([.ref (gA g 3), .ref (gA g 10), .ref (gA g 14), .int (iI x), .int (iI k), .int (iI row), .int (iI b)] : List Value).toArray wsX6_tallyWearers RX6 := C
    have hx := C.1
    have hb := C.2.1
    have hts := C.2.2.2.2
    exact False.elim (by omega)
  | succ h ih =>
    intro M k row b h36 h4 h8 h7 h11 h12 h13 hcnt hb0 hk h0 hB hh ht
    refine Ctr.mk (cc := cX6_tallyWearers) (maxL := 12) (ret := none) (lv := [(0, .ref (gA g 3)), (1, .ref (gA g 10)), (2, .ref (gA g 14)), (3, .int (iI x)), (4, .int (iI k)), (5, .int (iI row)), (6, .int (iI b))]) (by decide) rfl (Nat.le_of_ble_eq_true rfl) rfl ?_
    intro p e s m below meth c C hr hlk hI ls hl
    have C : CallFix p m c cX6_tallyWearers 12 s ([.ref (gA g 3), .ref (gA g 10), .ref (gA g 14), .int (iI x), .int (iI k), .int (iI row), .int (iI b)] : List Value).toArray wsX6_tallyWearers RX6 := C
    have hx := C.1
    have hb := C.2.1
    have hts := C.2.2.2.2
    have h5 : 5 ^ (h + 1) = 5 * 5 ^ h := by rw [Nat.pow_succ, Nat.mul_comm]
    have hrl := rowL h0 hB
    have h50 : 0 < 5 ^ h := Nat.pow_pos (by decide)
    refine lv_aload_n hx hb dX6_tallyWearers_0 rfl (lv_at hl 1 rfl) ?_
    refine lv_iload_n hx hb dX6_tallyWearers_1 rfl (lv_at hl 3 rfl) ?_
    refine lv_aload_n hx hb dX6_tallyWearers_2 rfl (lv_at hl 0 rfl) ?_
    refine lv_iload hx hb dX6_tallyWearers_3 (lv_at hl 6 rfl) ?_
    refine r_iv C hI (As := [.int (iI x), .ref (gA g 3), .int (iI b)]) (rest := []) (c_X3_nextOfG l g M x b ra rp n cnt (by omega) (by omega) (by omega) (by omega) (by assumption) (by assumption) h11 h12 h36 hcnt) (cwV 3 hts gX6_tallyWearers_X3_nextOf rfl rfl rfl (by decide +kernel) ⟨by simp only [rmF]; omega, by simp only [rmF]; omega⟩) (by decide) rfl rfl rfl hl.1 rfl (Nat.le_of_ble_eq_true rfl) dX6_tallyWearers_5 ⟨Nat.zero_le _, Nat.zero_le _⟩ (k_I (fun H locs hI => ?_))
    have ff_1 := @nxO_b ra rp x n (cnt - b).toNat b
    have gf_1 := @nxO_at ra rp x n (cnt - b).toNat b
    refine r_nm (fun pl epl => ?_)
    refine lv_istore (lv' := [(7, .int (iI pl)), (0, .ref (gA g 3)), (1, .ref (gA g 10)), (2, .ref (gA g 14)), (3, .int (iI x)), (4, .int (iI k)), (5, .int (iI row)), (6, .int (iI b))]) hx hb dX6_tallyWearers_8 hl (by decide) rfl (fun ls hl => ?_)
    refine lv_iload hx hb dX6_tallyWearers_10 (lv_at hl 0 rfl) ?_
    refine lv_aload_n hx hb dX6_tallyWearers_12 rfl (lv_at hl 2 rfl) ?_
    refine r_iv C hI (As := []) (rest := [.int (iI pl)]) (c_X3_sizeG l g M cnt hcnt) (cwV 0 hts gX6_tallyWearers_X3_size rfl rfl rfl (by decide +kernel) ⟨by simp only [rmF]; omega, by simp only [rmF]; omega⟩) (by decide) rfl rfl rfl hl.1 rfl (Nat.le_of_ble_eq_true rfl) dX6_tallyWearers_13 ⟨Nat.zero_le _, Nat.zero_le _⟩ (k_I (fun H locs hI => ?_))
    refine r_icmp_lt hx hb (tgt := 26) (by omega) (by omega) dX6_tallyWearers_16 (by decide) (fun c_1 => ?_) (fun c_1 => ?_)
    · refine lv_aload_n hx hb dX6_tallyWearers_26 rfl (lv_at hl 2 rfl) ?_
      refine lv_iload hx hb dX6_tallyWearers_27 (lv_at hl 0 rfl) ?_
      refine r_iv C hI (As := [.int (iI pl)]) (rest := []) (c_X3_personAtG l g M pl (rp pl) (by omega) (h12 pl)) (cwV 1 hts gX6_tallyWearers_X3_personAt rfl rfl rfl (by decide +kernel) ⟨by simp only [rmF]; omega, by simp only [rmF]; omega⟩) (by decide) rfl rfl rfl hl.1 rfl (Nat.le_of_ble_eq_true rfl) dX6_tallyWearers_29 ⟨Nat.zero_le _, Nat.zero_le _⟩ (k_I (fun H locs hI => ?_))
      refine lv_istore (lv' := [(8, .int (iI (rp pl))), (7, .int (iI pl)), (0, .ref (gA g 3)), (1, .ref (gA g 10)), (2, .ref (gA g 14)), (3, .int (iI x)), (4, .int (iI k)), (5, .int (iI row)), (6, .int (iI b))]) hx hb dX6_tallyWearers_32 hl (by decide) rfl (fun ls hl => ?_)
      obtain ⟨F, hF⟩ : ∃ F, F = wlS rp rd own kd rm (wlO ra rp rd own x n cnt kd rm h) k row pl := ⟨_, rfl⟩
      have hFl : ∀ v : Int, (F v).length ≤ 5 ^ h := fun v => by rw [hF]; unfold wlS; split; exact wlO_len ra rp rd own x n cnt kd rm hn.2 h _ _ _; simp
      have hat : x = x ∧ 0 ≤ rp pl ∧ rp pl < n := ⟨rfl, by have := gf_1 (by omega); rw [epl]; exact this.2⟩
      have hwp := hw (rp pl)
      have hdp := h13R pl
      refine lv_iconst (v := iI 0) hx hb dX6_tallyWearers_34 rfl ?_
      refine lv_istore (lv' := [(9, .int (iI 0)), (8, .int (iI (rp pl))), (7, .int (iI pl)), (0, .ref (gA g 3)), (1, .ref (gA g 10)), (2, .ref (gA g 14)), (3, .int (iI x)), (4, .int (iI k)), (5, .int (iI row)), (6, .int (iI b))]) hx hb dX6_tallyWearers_35 hl (by decide) rfl (fun ls hl => ?_)
      have lp37 : ∀ (n37 : Nat) (v : Int) (N : Mem) (j : Nat), (v = (j : Int) ∧ (j : Int) ≤ n) → (N = tAdds M (flN F j)) → n.toNat - j < n37 → ∀ (H : Heap) (locs : List Loc), HI g s H locs N → ∀ ls : Array Slot, lv_has ls 12 [(9, .int (iI v)), (8, .int (iI (rp pl))), (7, .int (iI pl)), (0, .ref (gA g 3)), (1, .ref (gA g 10)), (2, .ref (gA g 14)), (3, .int (iI x)), (4, .int (iI k)), (5, .int (iI row)), (6, .int (iI b))] → W p l e (rmF (h + 1)) s m ([.ref (gA g 3), .ref (gA g 10), .ref (gA g 14), .int (iI x), .int (iI k), .int (iI row), .int (iI b)] : List Value).toArray below meth c H locs 0 0 (MQ below (QV g (pV (tAdds M (wlO ra rp rd own x n cnt kd rm (h + 1) k row b)))) ([.ref (gA g 3), .ref (gA g 10), .ref (gA g 14), .int (iI x), .int (iI k), .int (iI row), .int (iI b)] : List Value).toArray s 0 0 (AA g)) (F0 m 37 ls []) := by
        intro n37
        induction n37 with
        | zero => intro v N j h1 h2 hn37; exact absurd hn37 (Nat.not_lt_zero _)
        | succ n37 ih37 =>
          intro v N j h1 h2 hn37 H locs hI ls hl
          have eN : ∀ c : Nat, c ≠ 14 → N c = M c := fun c hc => by rw [h2, tAdds_n hc]
          have eN36 : N 3 6 = n := by rw [eN 3 (by decide)]; exact h36
          have eN4 : ∀ u : Int, N 4 u = own u := fun u => by rw [eN 4 (by decide)]; exact h4 u
          have eN8 : N 8 x = kd := by rw [eN 8 (by decide)]; exact h8
          have eN7 : N 7 x = rm := by rw [eN 7 (by decide)]; exact h7
          have eN11 : ∀ u : Int, N 11 u = ra u := fun u => by rw [eN 11 (by decide)]; exact h11 u
          have eN12 : ∀ u : Int, N 12 u = rp u := fun u => by rw [eN 12 (by decide)]; exact h12 u
          have eN13 : ∀ u : Int, N 13 u = rd u := fun u => by rw [eN 13 (by decide)]; exact h13 u
          have eNc : N 10 3 = cnt := by rw [eN 10 (by decide)]; exact hcnt
          have hwv := hw v
          have hlen := flN_len hFl j
          have hj5 : j < 5 → j * 5 ^ h + 5 ^ h ≤ 5 * 5 ^ h := fun q => by rw [← Nat.succ_mul]; exact Nat.mul_le_mul_right _ q
          have hN14 : N 14 0 = M 14 0 + (flN F j).length := by rw [h2, tAdds_14]
          refine lv_iload hx hb dX6_tallyWearers_37 (lv_at hl 0 rfl) ?_
          refine lv_aload_n hx hb dX6_tallyWearers_39 rfl (lv_at hl 3 rfl) ?_
          refine r_iv C hI (As := []) (rest := [.int (iI v)]) (c_X1_peopleG l g N n (show (N 3 6) = n from by first | assumption | exact eN36)) (cwV 0 hts gX6_tallyWearers_X1_people rfl rfl rfl (by decide +kernel) ⟨by simp only [rmF]; omega, by simp only [rmF]; omega⟩) (by decide) rfl rfl rfl hl.1 rfl (Nat.le_of_ble_eq_true rfl) dX6_tallyWearers_40 ⟨Nat.zero_le _, Nat.zero_le _⟩ (k_I (fun H locs hI => ?_))
          refine r_icmp_ge hx hb (tgt := 115) (by omega) (by omega) dX6_tallyWearers_43 (by decide) (fun c_2 => ?_) (fun c_2 => ?_)
          · refine r_vret C hr hlk hI ?_ dX6_tallyWearers_115
            exact ⟨rfl, (show N = tAdds M (wlO ra rp rd own x n cnt kd rm (h + 1) k row b) from by (have : n.toNat = j := by omega); rw [h2, hF, ← this]; simp only [wlO]; rw [← epl, if_neg (by omega)])⟩
          · refine lv_aload_n hx hb dX6_tallyWearers_46 rfl (lv_at hl 3 rfl) ?_
            refine lv_iload_n hx hb dX6_tallyWearers_47 rfl (lv_at hl 6 rfl) ?_
            refine lv_iload hx hb dX6_tallyWearers_48 (lv_at hl 7 rfl) ?_
            refine lv_iload hx hb dX6_tallyWearers_50 (lv_at hl 0 rfl) ?_
            refine r_iv C hI (As := [.int (iI x), .int (iI k), .int (iI v)]) (rest := []) (c_X1_afterHandG l g N x k v (own v) rm (by omega) (by omega) (by omega) (by omega) (show (N 4 v) = (own v) from by first | exact eN4 _ | exact h4 _) (show (N 7 x) = rm from by first | exact eN7 | assumption)) (cwV 3 hts gX6_tallyWearers_X1_afterHand rfl rfl rfl (by decide +kernel) ⟨by simp only [rmF]; omega, by simp only [rmF]; omega⟩) (by decide) rfl rfl rfl hl.1 rfl (Nat.le_of_ble_eq_true rfl) dX6_tallyWearers_52 ⟨Nat.zero_le _, Nat.zero_le _⟩ (k_I (fun H locs hI => ?_))
            have ff_2 := @behO_b k (own v) rm
            refine lv_istore (lv' := [(10, .int (iI (behO k (own v) rm))), (9, .int (iI v)), (8, .int (iI (rp pl))), (7, .int (iI pl)), (0, .ref (gA g 3)), (1, .ref (gA g 10)), (2, .ref (gA g 14)), (3, .int (iI x)), (4, .int (iI k)), (5, .int (iI row)), (6, .int (iI b))]) hx hb dX6_tallyWearers_55 hl (by decide) rfl (fun ls hl => ?_)
            refine lv_aload_n hx hb dX6_tallyWearers_57 rfl (lv_at hl 4 rfl) ?_
            refine lv_iload_n hx hb dX6_tallyWearers_58 rfl (lv_at hl 7 rfl) ?_
            refine lv_iload hx hb dX6_tallyWearers_59 (lv_at hl 0 rfl) ?_
            refine lv_iload hx hb dX6_tallyWearers_61 (lv_at hl 2 rfl) ?_
            refine r_iv C hI (As := [.int (iI x), .int (iI (behO k (own v) rm)), .int (iI (rp pl))]) (rest := []) (c_X1_replyG l g N x (behO k (own v) rm) (rp pl) kd (own (rp pl)) (by omega) (by omega) (by omega) (by omega) (by omega) (show (N 8 x) = kd from by first | exact eN8 | assumption) (show (N 4 (rp pl)) = (own (rp pl)) from by first | exact eN4 _ | exact h4 _)) (cwV 3 hts gX6_tallyWearers_X1_reply rfl rfl rfl (by decide +kernel) ⟨by simp only [rmF]; omega, by simp only [rmF]; omega⟩) (by decide) rfl rfl rfl hl.1 rfl (Nat.le_of_ble_eq_true rfl) dX6_tallyWearers_63 ⟨Nat.zero_le _, Nat.zero_le _⟩ (k_I (fun H locs hI => ?_))
            have ff_3 := repO_b kd (behO k (own v) rm) (own (rp pl))
            refine lv_aload_n hx hb dX6_tallyWearers_66 rfl (lv_at hl 5 rfl) ?_
            refine lv_iload hx hb dX6_tallyWearers_67 (lv_at hl 3 rfl) ?_
            refine r_iv C hI (As := [.int (iI pl)]) (rest := [.int (iI (repO kd (behO k (own v) rm) (own (rp pl))))]) (c_X3_doingAtG l g N pl (rd pl) (by omega) (eN13 pl)) (cwV 1 hts gX6_tallyWearers_X3_doingAt rfl rfl rfl (by decide +kernel) ⟨by simp only [rmF]; omega, by simp only [rmF]; omega⟩) (by decide) rfl rfl rfl hl.1 rfl (Nat.le_of_ble_eq_true rfl) dX6_tallyWearers_69 ⟨Nat.zero_le _, Nat.zero_le _⟩ (k_I (fun H locs hI => ?_))
            refine r_icmp_ne hx hb (tgt := 109) (by omega) (by omega) dX6_tallyWearers_72 (by decide) (fun c_3 => ?_) (fun c_3 => ?_)
            · refine lv_iinc (v := iI (v + 1)) (lv' := [(9, .int (iI (v + 1))), (10, .int (iI (behO k (own v) rm))), (8, .int (iI (rp pl))), (7, .int (iI pl)), (0, .ref (gA g 3)), (1, .ref (gA g 10)), (2, .ref (gA g 14)), (3, .int (iI x)), (4, .int (iI k)), (5, .int (iI row)), (6, .int (iI b))]) hx hb dX6_tallyWearers_109 hl (k := 1) rfl (iI_add _ _) (by decide) rfl (fun ls hl => ?_)
              refine lv_goto (tgt := 37) hx hb dX6_tallyWearers_112 (by decide) ?_
              exact ih37 (v + 1) N (j + 1) (by omega) (by first | (rw [h2]; simp only [flN, ← h1.1, hF, wlS]; rw [if_neg (by assumption), List.append_nil]) | (rw [h2, tAdds_app]; simp only [flN, ← h1.1, hF, wlS]; rw [if_pos (by assumption)])) (by omega) _ _ hI ls (lv_sub hl [0, 2, 3, 4, 5, 6, 7, 8, 9, 10] rfl)
            · refine lv_aload_n hx hb dX6_tallyWearers_75 rfl (lv_at hl 4 rfl) ?_
              refine lv_iload_n hx hb dX6_tallyWearers_76 rfl (lv_at hl 7 rfl) ?_
              refine lv_iload hx hb dX6_tallyWearers_77 (lv_at hl 0 rfl) ?_
              refine lv_iload hx hb dX6_tallyWearers_79 (lv_at hl 2 rfl) ?_
              refine r_iv C hI (As := [.int (iI x), .int (iI (behO k (own v) rm)), .int (iI (rp pl))]) (rest := []) (c_X1_afterHandG l g N x (behO k (own v) rm) (rp pl) (own (rp pl)) rm (by omega) (by omega) (by omega) (by omega) (show (N 4 (rp pl)) = (own (rp pl)) from by first | exact eN4 _ | exact h4 _) (show (N 7 x) = rm from by first | exact eN7 | assumption)) (cwV 3 hts gX6_tallyWearers_X1_afterHand rfl rfl rfl (by decide +kernel) ⟨by simp only [rmF]; omega, by simp only [rmF]; omega⟩) (by decide) rfl rfl rfl hl.1 rfl (Nat.le_of_ble_eq_true rfl) dX6_tallyWearers_81 ⟨Nat.zero_le _, Nat.zero_le _⟩ (k_I (fun H locs hI => ?_))
              have ff_4 := @behO_b (behO k (own v) rm) (own (rp pl)) rm
              refine lv_istore (lv' := [(11, .int (iI (behO (behO k (own v) rm) (own (rp pl)) rm))), (10, .int (iI (behO k (own v) rm))), (9, .int (iI v)), (8, .int (iI (rp pl))), (7, .int (iI pl)), (0, .ref (gA g 3)), (1, .ref (gA g 10)), (2, .ref (gA g 14)), (3, .int (iI x)), (4, .int (iI k)), (5, .int (iI row)), (6, .int (iI b))]) hx hb dX6_tallyWearers_84 hl (by decide) rfl (fun ls hl => ?_)
              refine lv_aload_n hx hb dX6_tallyWearers_86 rfl (lv_at hl 5 rfl) ?_
              refine lv_aload_n hx hb dX6_tallyWearers_87 rfl (lv_at hl 6 rfl) ?_
              refine lv_aload_n hx hb dX6_tallyWearers_88 rfl (lv_at hl 7 rfl) ?_
              refine lv_iload_n hx hb dX6_tallyWearers_89 rfl (lv_at hl 8 rfl) ?_
              refine lv_iload hx hb dX6_tallyWearers_90 (lv_at hl 0 rfl) ?_
              refine lv_iload hx hb dX6_tallyWearers_92 (lv_at hl 10 rfl) ?_
              refine lv_bipush (v := iI 10) hx hb dX6_tallyWearers_94 (by decide +kernel) ?_
              refine r_imul hx hb dX6_tallyWearers_96 ?_
              refine lv_iload hx hb dX6_tallyWearers_97 (lv_at hl 2 rfl) ?_
              refine r_iadd hx hb dX6_tallyWearers_99 ?_
              refine lv_iconst (v := iI 1) hx hb dX6_tallyWearers_100 rfl ?_
              refine r_iadd hx hb dX6_tallyWearers_101 ?_
              refine lv_iload hx hb dX6_tallyWearers_102 (lv_at hl 4 rfl) ?_
              refine lv_iconst (v := iI 1) hx hb dX6_tallyWearers_104 rfl ?_
              refine r_iadd hx hb dX6_tallyWearers_105 ?_
              refine r_is C hI (As := [.ref (gA g 3), .ref (gA g 10), .ref (gA g 14), .int (iI x), .int (iI (behO (behO k (own v) rm) (own (rp pl)) rm)), .int (iI (((row * 10) + v) + 1)), .int (iI (pl + 1))]) (rest := []) (ih N (behO (behO k (own v) rm) (own (rp pl)) rm) (((row * 10) + v) + 1) (pl + 1) (by exact eN36) (by exact eN4) (by exact eN8) (by exact eN7) (by exact eN11) (by exact eN12) (by exact eN13) (by exact eNc) (by omega) (behO_b (behO_b hk (by omega)) (by omega)) (by omega) (rowB h0 (by omega) hB) (by omega) (by omega)) (va_cwS 7 hts gX6_tallyWearers_X6_tallyWearers rfl rfl rfl (by decide +kernel) ⟨by simp only [rmF]; omega, by simp only [rmF]; omega⟩) rfl hl.1 rfl (Nat.le_of_ble_eq_true rfl) dX6_tallyWearers_106 ⟨Nat.zero_le _, Nat.zero_le _⟩ (k_V (fun H locs hI => ?_))
              refine lv_iinc (v := iI (v + 1)) (lv' := [(9, .int (iI (v + 1))), (11, .int (iI (behO (behO k (own v) rm) (own (rp pl)) rm))), (10, .int (iI (behO k (own v) rm))), (8, .int (iI (rp pl))), (7, .int (iI pl)), (0, .ref (gA g 3)), (1, .ref (gA g 10)), (2, .ref (gA g 14)), (3, .int (iI x)), (4, .int (iI k)), (5, .int (iI row)), (6, .int (iI b))]) hx hb dX6_tallyWearers_109 hl (k := 2) rfl (iI_add _ _) (by decide) rfl (fun ls hl => ?_)
              refine lv_goto (tgt := 37) hx hb dX6_tallyWearers_112 (by decide) ?_
              exact ih37 (v + 1) (tAdds N (wlO ra rp rd own x n cnt kd rm h (behO (behO k (own v) rm) (own (rp pl)) rm) (((row * 10) + v) + 1) (pl + 1))) (j + 1) (by omega) (by first | (rw [h2]; simp only [flN, ← h1.1, hF, wlS]; rw [if_neg (by assumption), List.append_nil]) | (rw [h2, tAdds_app]; simp only [flN, ← h1.1, hF, wlS]; rw [if_pos (by assumption)])) (by omega) _ _ hI ls (lv_sub hl [0, 3, 4, 5, 6, 7, 8, 9, 10, 11] rfl)
      exact lp37 _ 0 M 0 (by omega) (by rfl) (Nat.lt_succ_self _) _ _ hI ls (lv_sub hl [0, 1, 2, 3, 4, 5, 6, 7, 8, 9] rfl)
    · refine lv_aload_n hx hb dX6_tallyWearers_19 rfl (lv_at hl 3 rfl) ?_
      refine lv_iload hx hb dX6_tallyWearers_20 (lv_at hl 6 rfl) ?_
      refine r_iv C hI (As := [.int (iI row)]) (rest := []) (c_X4_add l g M row (show -2147483648 ≤ (M 14 0) ∧ (M 14 0) < 2147483648 from by omega)) (cwV 1 hts gX6_tallyWearers_X4_add rfl rfl rfl (by decide +kernel) ⟨by simp only [rmF]; omega, by simp only [rmF]; omega⟩) (by decide) rfl rfl rfl hl.1 rfl (Nat.le_of_ble_eq_true rfl) dX6_tallyWearers_22 ⟨Nat.zero_le _, Nat.zero_le _⟩ (k_V (fun H locs hI => ?_))
      refine r_vret C hr hlk hI ?_ dX6_tallyWearers_25
      exact ⟨rfl, (show tAdd M row = tAdds M (wlO ra rp rd own x n cnt kd rm (h + 1) k row b) from by simp only [wlO]; rw [← epl, if_pos (by omega)]; rfl)⟩
set_option maxHeartbeats 4000000 in
set_option maxRecDepth 100000 in
theorem c_X6_waysToDo (l : Launch) (g : GT) (M : Mem) (x : Int) (q : Int) (d : Int)  (dk : DK (M) x) (hq : 0 ≤ q ∧ q < M 3 6) (hd : -2147483648 ≤ d ∧ d < 2147483648) : ∀ (h : Nat) (k : Int), (0 ≤ k ∧ k < 1000) → (h ≤ 8) → Ctr l g yX6_waysToDo wsX6_waysToDo (rmF h) [.ref (gA g 3), .int (iI x), .int (iI k), .int (iI q), .int (iI d), .int (iI ((h : Nat) : Int))] M (pI (wyO (M 4) (M 3 6) (M 8 x) (M 7 x) (M 4 q) d h k) M) := by
  intro h
  induction h with
  | zero =>
    intro k hk hh
    refine Ctr.mk (cc := cX6_waysToDo) (maxL := 9) (ret := some .int) (lv := [(0, .ref (gA g 3)), (1, .int (iI x)), (2, .int (iI k)), (3, .int (iI q)), (4, .int (iI d)), (5, .int (iI ((0 : Nat) : Int)))]) (by decide) rfl (Nat.le_of_ble_eq_true rfl) rfl ?_
    intro p e s m below meth c C hr hlk hI ls hl
    have C : CallFix p m c cX6_waysToDo 9 s ([.ref (gA g 3), .int (iI x), .int (iI k), .int (iI q), .int (iI d), .int (iI ((0 : Nat) : Int))] : List Value).toArray wsX6_waysToDo RX6 := C
    have hx := C.1
    have hb := C.2.1
    have hts := C.2.2.2.2
    have dk1 := dk.1
    have dk3 := dk.2.2.1
    have dk4 := dk.2.2.2.1
    have dk5 := dk.2.2.2.2
    have dkq := dk.2.1 q hq
    refine lv_iload hx hb dX6_waysToDo_0 (lv_at hl 5 rfl) ?_
    refine lv_iconst (v := iI 1) hx hb dX6_waysToDo_2 rfl ?_
    refine r_icmp_ge hx hb (tgt := 24) (by omega) (by decide) dX6_waysToDo_3 (by decide) (fun c_1 => ?_) (fun c_1 => ?_)
    · exact False.elim (by omega)
    · refine lv_aload_n hx hb dX6_waysToDo_6 rfl (lv_at hl 0 rfl) ?_
      refine lv_iload_n hx hb dX6_waysToDo_7 rfl (lv_at hl 1 rfl) ?_
      refine lv_iload_n hx hb dX6_waysToDo_8 rfl (lv_at hl 2 rfl) ?_
      refine lv_iload_n hx hb dX6_waysToDo_9 rfl (lv_at hl 3 rfl) ?_
      refine r_iv C hI (As := [.int (iI x), .int (iI k), .int (iI q)]) (rest := []) (c_X1_reply l g M x k q (by omega) (by omega) (by omega) (show -2147483648 ≤ (M 8 x) ∧ (M 8 x) < 2147483648 from by omega) (show -2147483648 ≤ (M 4 q) ∧ (M 4 q) < 2147483648 from by omega)) (cwV 3 hts gX6_waysToDo_X1_reply rfl rfl rfl (by decide +kernel) ⟨by simp only [rmF]; omega, by simp only [rmF]; omega⟩) (by decide) rfl rfl rfl hl.1 rfl (Nat.le_of_ble_eq_true rfl) dX6_waysToDo_10 ⟨Nat.zero_le _, Nat.zero_le _⟩ (k_I (fun H locs hI => ?_))
      have ff_1 := repO_b (M 8 x) k (M 4 q)
      refine lv_iload hx hb dX6_waysToDo_13 (lv_at hl 4 rfl) ?_
      refine r_icmp_ne hx hb (tgt := 22) (by omega) (by omega) dX6_waysToDo_15 (by decide) (fun c_2 => ?_) (fun c_2 => ?_)
      · refine lv_iconst (v := iI 0) hx hb dX6_waysToDo_22 rfl ?_
        refine r_iret C hr hlk hI ?_ dX6_waysToDo_23
        exact ⟨congrArg (fun q => some (Value.int (iI q))) (show 0 = wyO (M 4) (M 3 6) (M 8 x) (M 7 x) (M 4 q) d (0) k from by simp only [wyO]; first | rw [if_pos (by assumption)] | rw [if_neg (by assumption)]), rfl⟩
      · refine lv_iconst (v := iI 1) hx hb dX6_waysToDo_18 rfl ?_
        refine lv_goto (tgt := 23) hx hb dX6_waysToDo_19 (by decide) ?_
        refine r_iret C hr hlk hI ?_ dX6_waysToDo_23
        exact ⟨congrArg (fun q => some (Value.int (iI q))) (show 1 = wyO (M 4) (M 3 6) (M 8 x) (M 7 x) (M 4 q) d (0) k from by simp only [wyO]; first | rw [if_pos (by assumption)] | rw [if_neg (by assumption)]), rfl⟩
  | succ h ih =>
    intro k hk hh
    refine Ctr.mk (cc := cX6_waysToDo) (maxL := 9) (ret := some .int) (lv := [(0, .ref (gA g 3)), (1, .int (iI x)), (2, .int (iI k)), (3, .int (iI q)), (4, .int (iI d)), (5, .int (iI ((h + 1 : Nat) : Int)))]) (by decide) rfl (Nat.le_of_ble_eq_true rfl) rfl ?_
    intro p e s m below meth c C hr hlk hI ls hl
    have C : CallFix p m c cX6_waysToDo 9 s ([.ref (gA g 3), .int (iI x), .int (iI k), .int (iI q), .int (iI d), .int (iI ((h + 1 : Nat) : Int))] : List Value).toArray wsX6_waysToDo RX6 := C
    have hx := C.1
    have hb := C.2.1
    have hts := C.2.2.2.2
    have dk1 := dk.1
    have dk3 := dk.2.2.1
    have dk4 := dk.2.2.2.1
    have dk5 := dk.2.2.2.2
    have dkq := dk.2.1 q hq
    obtain ⟨F, hF⟩ : ∃ F : Int → Int, F = fun f => wyO (M 4) (M 3 6) (M 8 x) (M 7 x) (M 4 q) d h (behO k (M 4 f) (M 7 x)) := ⟨_, rfl⟩
    refine lv_iload hx hb dX6_waysToDo_0 (lv_at hl 5 rfl) ?_
    refine lv_iconst (v := iI 1) hx hb dX6_waysToDo_2 rfl ?_
    refine r_icmp_ge hx hb (tgt := 24) (by omega) (by decide) dX6_waysToDo_3 (by decide) (fun c_1 => ?_) (fun c_1 => ?_)
    · refine lv_iconst (v := iI 0) hx hb dX6_waysToDo_24 rfl ?_
      refine lv_istore (lv' := [(6, .int (iI 0)), (0, .ref (gA g 3)), (1, .int (iI x)), (2, .int (iI k)), (3, .int (iI q)), (4, .int (iI d)), (5, .int (iI ((h + 1 : Nat) : Int)))]) hx hb dX6_waysToDo_25 hl (by decide) rfl (fun ls hl => ?_)
      refine lv_iconst (v := iI 0) hx hb dX6_waysToDo_27 rfl ?_
      refine lv_istore (lv' := [(7, .int (iI 0)), (6, .int (iI 0)), (0, .ref (gA g 3)), (1, .int (iI x)), (2, .int (iI k)), (3, .int (iI q)), (4, .int (iI d)), (5, .int (iI ((h + 1 : Nat) : Int)))]) hx hb dX6_waysToDo_28 hl (by decide) rfl (fun ls hl => ?_)
      have lp30 : ∀ (n30 : Nat) (u : Int) (w : Int) (j : Nat), (u = (j : Int) ∧ (j : Int) ≤ M 3 6) → (w = sumN F j) → (M 3 6).toNat - j < n30 → ∀ (H : Heap) (locs : List Loc), HI g s H locs M → ∀ ls : Array Slot, lv_has ls 9 [(7, .int (iI u)), (6, .int (iI w)), (0, .ref (gA g 3)), (1, .int (iI x)), (2, .int (iI k)), (3, .int (iI q)), (4, .int (iI d)), (5, .int (iI ((h + 1 : Nat) : Int)))] → W p l e (rmF (h + 1)) s m ([.ref (gA g 3), .int (iI x), .int (iI k), .int (iI q), .int (iI d), .int (iI ((h + 1 : Nat) : Int))] : List Value).toArray below meth c H locs 0 0 (MQ below (QV g (pI (wyO (M 4) (M 3 6) (M 8 x) (M 7 x) (M 4 q) d (h + 1) k) M)) ([.ref (gA g 3), .int (iI x), .int (iI k), .int (iI q), .int (iI d), .int (iI ((h + 1 : Nat) : Int))] : List Value).toArray s 0 0 (AA g)) (F0 m 30 ls []) := by
        intro n30
        induction n30 with
        | zero => intro u w j h1 h2 hn30; exact absurd hn30 (Nat.not_lt_zero _)
        | succ n30 ih30 =>
          intro u w j h1 h2 hn30 H locs hI ls hl
          have dku := dk.2.1 u
          refine lv_iload hx hb dX6_waysToDo_30 (lv_at hl 0 rfl) ?_
          refine lv_aload_n hx hb dX6_waysToDo_32 rfl (lv_at hl 2 rfl) ?_
          refine r_iv C hI (As := []) (rest := [.int (iI u)]) (c_X1_people l g M) (cwV 0 hts gX6_waysToDo_X1_people rfl rfl rfl (by decide +kernel) ⟨by simp only [rmF]; omega, by simp only [rmF]; omega⟩) (by decide) rfl rfl rfl hl.1 rfl (Nat.le_of_ble_eq_true rfl) dX6_waysToDo_33 ⟨Nat.zero_le _, Nat.zero_le _⟩ (k_I (fun H locs hI => ?_))
          refine r_icmp_ge hx hb (tgt := 74) (by omega) (by omega) dX6_waysToDo_36 (by decide) (fun c_2 => ?_) (fun c_2 => ?_)
          · refine lv_iload hx hb dX6_waysToDo_74 (lv_at hl 1 rfl) ?_
            refine r_iret C hr hlk hI ?_ dX6_waysToDo_76
            exact ⟨congrArg (fun q => some (Value.int (iI q))) (show w = wyO (M 4) (M 3 6) (M 8 x) (M 7 x) (M 4 q) d (h + 1) k from by (have : (M 3 6).toNat = j := by omega); rw [h2, hF, ← this]; rfl), rfl⟩
          · refine lv_aload_n hx hb dX6_waysToDo_39 rfl (lv_at hl 2 rfl) ?_
            refine lv_iload_n hx hb dX6_waysToDo_40 rfl (lv_at hl 3 rfl) ?_
            refine lv_iload_n hx hb dX6_waysToDo_41 rfl (lv_at hl 4 rfl) ?_
            refine lv_iload hx hb dX6_waysToDo_42 (lv_at hl 0 rfl) ?_
            refine r_iv C hI (As := [.int (iI x), .int (iI k), .int (iI u)]) (rest := []) (c_X1_afterHand l g M x k u (by omega) (by omega) (by omega) (show -2147483648 ≤ (M 7 x) ∧ (M 7 x) < 2147483648 from by omega)) (cwV 3 hts gX6_waysToDo_X1_afterHand rfl rfl rfl (by decide +kernel) ⟨by simp only [rmF]; omega, by simp only [rmF]; omega⟩) (by decide) rfl rfl rfl hl.1 rfl (Nat.le_of_ble_eq_true rfl) dX6_waysToDo_44 ⟨Nat.zero_le _, Nat.zero_le _⟩ (k_I (fun H locs hI => ?_))
            have ff_1 := @behO_b k (M 4 u) (M 7 x)
            refine lv_istore (lv' := [(8, .int (iI (behO k (M 4 u) (M 7 x)))), (7, .int (iI u)), (6, .int (iI w)), (0, .ref (gA g 3)), (1, .int (iI x)), (2, .int (iI k)), (3, .int (iI q)), (4, .int (iI d)), (5, .int (iI ((h + 1 : Nat) : Int)))]) hx hb dX6_waysToDo_47 hl (by decide) rfl (fun ls hl => ?_)
            refine lv_iload hx hb dX6_waysToDo_49 (lv_at hl 2 rfl) ?_
            refine lv_aload_n hx hb dX6_waysToDo_51 rfl (lv_at hl 3 rfl) ?_
            refine lv_iload_n hx hb dX6_waysToDo_52 rfl (lv_at hl 4 rfl) ?_
            refine lv_iload hx hb dX6_waysToDo_53 (lv_at hl 0 rfl) ?_
            refine lv_iload_n hx hb dX6_waysToDo_55 rfl (lv_at hl 6 rfl) ?_
            refine lv_iload hx hb dX6_waysToDo_56 (lv_at hl 7 rfl) ?_
            refine lv_iload hx hb dX6_waysToDo_58 (lv_at hl 8 rfl) ?_
            refine lv_iconst (v := iI 1) hx hb dX6_waysToDo_60 rfl ?_
            refine r_isub hx hb dX6_waysToDo_61 ?_
            rw [show ((h + 1 : Nat) : Int) - 1 = ((h : Nat) : Int) from by omega]
            refine r_is C hI (As := [.ref (gA g 3), .int (iI x), .int (iI (behO k (M 4 u) (M 7 x))), .int (iI q), .int (iI d), .int (iI ((h : Nat) : Int))]) (rest := [.int (iI w)]) (ih (behO k (M 4 u) (M 7 x)) (behO_b hk (by omega)) (by omega)) (va_cwS 6 hts gX6_waysToDo_X6_waysToDo rfl rfl rfl (by decide +kernel) ⟨by simp only [rmF]; omega, by simp only [rmF]; omega⟩) rfl hl.1 rfl (Nat.le_of_ble_eq_true rfl) dX6_waysToDo_62 ⟨Nat.zero_le _, Nat.zero_le _⟩ (k_I (fun H locs hI => ?_))
            refine r_iadd hx hb dX6_waysToDo_65 ?_
            refine lv_istore (lv' := [(6, .int (iI (w + (wyO (M 4) (M 3 6) (M 8 x) (M 7 x) (M 4 q) d h (behO k (M 4 u) (M 7 x)))))), (8, .int (iI (behO k (M 4 u) (M 7 x)))), (7, .int (iI u)), (0, .ref (gA g 3)), (1, .int (iI x)), (2, .int (iI k)), (3, .int (iI q)), (4, .int (iI d)), (5, .int (iI ((h + 1 : Nat) : Int)))]) hx hb dX6_waysToDo_66 hl (by decide) rfl (fun ls hl => ?_)
            refine lv_iinc (v := iI (u + 1)) (lv' := [(7, .int (iI (u + 1))), (6, .int (iI (w + (wyO (M 4) (M 3 6) (M 8 x) (M 7 x) (M 4 q) d h (behO k (M 4 u) (M 7 x)))))), (8, .int (iI (behO k (M 4 u) (M 7 x)))), (0, .ref (gA g 3)), (1, .int (iI x)), (2, .int (iI k)), (3, .int (iI q)), (4, .int (iI d)), (5, .int (iI ((h + 1 : Nat) : Int)))]) hx hb dX6_waysToDo_68 hl (k := 2) rfl (iI_add _ _) (by decide) rfl (fun ls hl => ?_)
            refine lv_goto (tgt := 30) hx hb dX6_waysToDo_71 (by decide) ?_
            exact ih30 (u + 1) (w + (wyO (M 4) (M 3 6) (M 8 x) (M 7 x) (M 4 q) d h (behO k (M 4 u) (M 7 x)))) (j + 1) (by omega) (by (rw [h2]; simp only [sumN, ← h1.1, hF])) (by omega) _ _ hI ls (lv_sub hl [0, 1, 3, 4, 5, 6, 7, 8] rfl)
      exact lp30 _ 0 0 0 (by omega) (by rfl) (Nat.lt_succ_self _) _ _ hI ls (lv_sub hl [0, 1, 2, 3, 4, 5, 6, 7] rfl)
    · exact False.elim (by omega)
