
section
variable {p : Program} {l : Launch} {e : Env} {R : Room} {s : State} {m : MethodId} {args : Array Value} {below : List Frame} {meth : Method} {c : Code} {H : Heap} {locs : List Loc} {cells slots : Nat} {Q : State → Prop} {pc : Nat} {ls : Array Slot} {rest : List Value}
theorem r_eqI {z z2 : Int} (h : z = z2) (k : W p l e R s m args below meth c H locs cells slots Q (F0 m pc ls (.int (iI z2) :: rest))) : W p l e R s m args below meth c H locs cells slots Q (F0 m pc ls (.int (iI z) :: rest)) := h ▸ k
end

/-! WORDS of the class's parts -/
def mix4 (r s : Int → Int) : Int → Int := fun q => if 0 ≤ q ∧ q < 4 then r q else s q
/-- a row of four is copied -/
def cpR (M : Mem) (i j : Nat) : Mem := fun c => if c = j then mix4 (M i) (M j) else M c
theorem cpR_of {M : Mem} {i j : Nat} (h : i ≠ j) : mset (mset (mset (mset M j 0 (M i 0)) j 1 ((mset M j 0 (M i 0)) i 1)) j 2 ((mset (mset M j 0 (M i 0)) j 1 ((mset M j 0 (M i 0)) i 1)) i 2)) j 3 ((mset (mset (mset M j 0 (M i 0)) j 1 ((mset M j 0 (M i 0)) i 1)) j 2 ((mset (mset M j 0 (M i 0)) j 1 ((mset M j 0 (M i 0)) i 1)) i 2)) i 3) = cpR M i j := by
  funext c q
  by_cases hc : c = j
  · subst hc
    simp only [mset, cpR, mix4, rw1, h, if_true, if_false]
    by_cases h0 : q = 0
    · subst h0; simp
    by_cases h1 : q = 1
    · subst h1; simp
    by_cases h2 : q = 2
    · subst h2; simp
    by_cases h3 : q = 3
    · subst h3; simp
    have : ¬ (0 ≤ q ∧ q < 4) := by omega
    simp [h0, h1, h2, h3, this]
  · simp [mset, cpR, hc]
/-- a Moment is copied -/
def cpM (M : Mem) (f o : Nat) : Mem := fun c => if c = o then rw1 (rw1 (M o) 2 (M f 2)) 3 1 else if c = o + 1 then mix4 (M (f + 1)) (M (o + 1)) else if c = o + 2 then mix4 (M (f + 2)) (M (o + 2)) else M c
theorem cpM_of {M : Mem} {f o : Nat} (hf : isMo f) (ho : isMo o) (h : f ≠ o) : mset (mset (cpR (cpR M (f + 1) (o + 1)) (f + 2) (o + 2)) o 2 ((cpR (cpR M (f + 1) (o + 1)) (f + 2) (o + 2)) f 2)) o 3 1 = cpM M f o := by
  obtain ⟨f1, f2, f3⟩ := hf
  obtain ⟨o1, o2, o3⟩ := ho
  have e1 : f + 2 ≠ o + 1 := by omega
  have e2 : f + 2 ≠ o + 2 := by omega
  have e3 : f ≠ o + 2 := by omega
  have e4 : f ≠ o + 1 := by omega
  funext c
  by_cases hc : c = o
  · subst hc
    simp [mset, cpR, cpM, e3, e4, rw1]
  · by_cases h1 : c = o + 1
    · subst h1
      simp [mset, cpR, cpM]
    · by_cases h2 : c = o + 2
      · subst h2
        simp [mset, cpR, cpM, e1]
      · simp [mset, cpR, cpM, hc, h1, h2]
theorem cpM_n {M : Mem} {f o c : Nat} (h : c < o ∨ o + 2 < c) : cpM M f o c = M c := by
  have h0 : c ≠ o := by omega
  have h1 : c ≠ o + 1 := by omega
  have h2 : c ≠ o + 2 := by omega
  simp [cpM, h0, h1, h2]
/-- heads of parts ahead of the n-th that are h -/
def cntP (r : Int → Int) (h : Int) : Nat → Int
  | 0 => 0
  | n + 1 => cntP r h n + (if r (1 + 4 * (n : Int)) = h then 1 else 0)
theorem cntP_R (r : Int → Int) (h : Int) : ∀ n : Nat, 0 ≤ cntP r h n ∧ cntP r h n ≤ n
  | 0 => ⟨by simp [cntP], by simp [cntP]⟩
  | n + 1 => by
    have := cntP_R r h n
    unfold cntP
    split <;> omega
/-- the byte at place p, behind others: may it stand there -/
def fitB (r : Int → Int) (p : Int) : Bool :=
  if p = 0 then decide (r 0 = 71)
  else if (p - 1) % 4 = 0 then (decide (r p = 80) && decide (cntP r 80 ((p - 1) / 4).toNat < 5)) || (decide (r p = 76) && decide (cntP r 76 ((p - 1) / 4).toNat < 4))
  else if r (p - (p - 1) % 4) = 80 then decide (stV 0 ((p - 1) % 4 - 1) ≤ r p - 48 ∧ r p - 48 ≤ stV 2 ((p - 1) % 4 - 1))
  else decide (stV 1 ((p - 1) % 4 - 1) ≤ r p - 48 ∧ r p - 48 ≤ stV 3 ((p - 1) % 4 - 1))
/-- the first fault from place p on, of k more bytes -/
def ffO (r : Int → Int) : Nat → Int → Int
  | 0, p => if 0 < p ∧ (p - 1) % 4 = 0 then -9 else p
  | k + 1, p => if fitB r p = true then ffO r k (p + 1) else p
theorem ffO_1 {r : Int → Int} {k : Nat} {p : Int} (h : fitB r p = true) : ffO r (k + 1) p = ffO r k (p + 1) := by simp [ffO, h]
theorem ffO_2 {r : Int → Int} {k : Nat} {p : Int} (h : ¬ fitB r p = true) : ffO r (k + 1) p = p := by simp [ffO, h]
def adP (M : Mem) (t : Int) : Mem := mset (mset (mset (mset M 4 (M 3 6) (M 2 (t + 1) - 48)) 5 (M 3 6) (M 2 (t + 2) - 48)) 6 (M 3 6) (M 2 (t + 3) - 48)) 3 6 (M 3 6 + 1)
def adG (M : Mem) (t : Int) : Mem := mset (mset (mset (mset M 7 (M 3 7) (M 2 (t + 1) - 48)) 8 (M 3 7) (M 2 (t + 2) - 48)) 9 (M 3 7) (M 2 (t + 3) - 48)) 3 7 (M 3 7 + 1)
def someB (r : Int → Int) (d : Int) : Nat → Bool
  | 0 => false
  | n + 1 => someB r d n || decide (r (n : Int) = d)
theorem someB_up {r : Int → Int} {d : Int} {j : Nat} (h : r (j : Int) = d) : ∀ n : Nat, j < n → someB r d n = true
  | 0, h0 => absurd h0 (Nat.not_lt_zero j)
  | n + 1, h0 => by
    unfold someB
    by_cases e : j = n
    · subst e; simp [h]
    · rw [someB_up h n (by omega)]; rfl
/-- what a glove of a kind that keeps k does on one whose own doing is d -/
def repO (kind k d : Int) : Int := if kind = 1 then (if 4 < k % 10 then k % 10 - 4 else k % 10) else if kind = 2 then fstO k else if kind = 3 then (if k % 10 = d then 0 else k % 10) else k % 10
theorem fstO_b {k : Int} (h : 0 ≤ k ∧ k < 1000) : 0 ≤ fstO k ∧ fstO k ≤ 9 := by unfold fstO; (repeat' split) <;> omega
theorem repO_b (kd k d : Int) (h : 0 ≤ k ∧ k < 1000) : 0 ≤ repO kd k d ∧ repO kd k d ≤ 9 := by
  have := fstO_b h
  unfold repO; (repeat' split) <;> omega
theorem behO_b {k d r : Int} (hk : 0 ≤ k ∧ k < 1000) (hd : 0 ≤ d ∧ d ≤ 7) : 0 ≤ behO k d r ∧ behO k d r < 1000 := by unfold behO; (repeat' split) <;> omega
def gOn (r : Int → Int) (p : Int) : Int := if r 0 = p then 0 else if r 1 = p then 1 else if r 2 = p then 2 else if r 3 = p then 3 else -9
theorem gOn_b (r : Int → Int) (z : Int) : -9 ≤ gOn r z ∧ gOn r z ≤ 3 := by unfold gOn; (repeat' split) <;> omega
def wB (r : Int → Int) : Int := (if r 0 = -9 then 0 else 1) + (if r 1 = -9 then 0 else 2) + (if r 2 = -9 then 0 else 4) + (if r 3 = -9 then 0 else 8)
def tldO (M : Mem) (q : Int) : Int := if q < M 3 7 then M 9 q else 0
def sttM (M : Mem) (o : Nat) : Mem := mset (mset (mset (mset (mset (mset (mset (mset (mset M (o + 1) 0 (tldO M 0)) (o + 2) 0 (-9)) (o + 1) 1 (tldO M 1)) (o + 2) 1 (-9)) (o + 1) 2 (tldO M 2)) (o + 2) 2 (-9)) (o + 1) 3 (tldO M 3)) (o + 2) 3 (-9)) o 2 0
def ringO (M : Mem) (k : Int) : Nat := 38 + 3 * ((M 15 1 + k) % 14).toNat
theorem ringO_b (M : Mem) (k : Int) : 38 ≤ ringO M k ∧ ringO M k < 80 := by unfold ringO; omega
theorem ringO_mo (M : Mem) (k : Int) : isMo (ringO M k) := by
  have h := ringO_b M k
  exact ⟨by omega, by omega, by unfold ringO; omega⟩
def aAdd (M : Mem) : Mem := if M 15 2 < 14 then mset (cpM M 32 (ringO M (M 15 2))) 15 2 (M 15 2 + 1) else mset (cpM M 32 (ringO M (M 15 2))) 15 1 ((M 15 1 + 1) % 14)
def aBack (M : Mem) : Mem := cpM (mset M 15 2 (M 15 2 - 1)) (ringO M (M 15 2 - 1)) 32
def tAdd (M : Mem) (x : Int) : Mem := mset (if M 14 0 = 0 then mset M 14 1 x else M) 14 0 (M 14 0 + 1)
/-- the next place, from p on, of k more, where it is told of glove a and of one of n people -/
def nxO (ra rp : Int → Int) (a n : Int) : Nat → Int → Int
  | 0, p => p
  | k + 1, p => if ra p = a ∧ 0 ≤ rp p ∧ rp p < n then p else nxO ra rp a n k (p + 1)
theorem nxO_1 {ra rp : Int → Int} {a n p : Int} {k : Nat} (h : ¬ (ra p = a ∧ 0 ≤ rp p ∧ rp p < n)) : nxO ra rp a n (k + 1) p = nxO ra rp a n k (p + 1) := by simp only [nxO, if_neg h]
theorem nxO_2 {ra rp : Int → Int} {a n p : Int} {k : Nat} (h : ra p = a ∧ 0 ≤ rp p ∧ rp p < n) : nxO ra rp a n (k + 1) p = p := by simp only [nxO, if_pos h]
/-- k parts are read -/
def rdM (M : Mem) : Nat → Mem
  | 0 => mset (mset M 3 6 0) 3 7 0
  | k + 1 => if M 2 (1 + 4 * (k : Int)) = 80 then adP (rdM M k) (1 + 4 * (k : Int)) else adG (rdM M k) (1 + 4 * (k : Int))
theorem rdM_1 (M : Mem) : ∀ k : Nat, rdM M k 1 = M 1 ∧ rdM M k 2 = M 2
  | 0 => ⟨rfl, rfl⟩
  | k + 1 => by
    obtain ⟨h1, h2⟩ := rdM_1 M k
    unfold rdM
    split
    · exact ⟨h1, h2⟩
    · exact ⟨h1, h2⟩
theorem rdM_3 (M : Mem) : ∀ k : Nat, (∀ j : Nat, j < k → M 2 (1 + 4 * (j : Int)) = 80 ∨ M 2 (1 + 4 * (j : Int)) = 76) → rdM M k 3 6 = cntP (M 2) 80 k ∧ rdM M k 3 7 = cntP (M 2) 76 k
  | 0, _ => ⟨rfl, rfl⟩
  | k + 1, h => by
    obtain ⟨h1, h2⟩ := rdM_3 M k (fun j hj => h j (by omega))
    have hk := h k (by omega)
    unfold rdM cntP
    by_cases e : M 2 (1 + 4 * (k : Int)) = 80
    · have e2 : ¬ M 2 (1 + 4 * (k : Int)) = 76 := by omega
      rw [if_pos e, if_pos e, if_neg e2]
      refine ⟨?_, ?_⟩
      · show rdM M k 3 6 + 1 = _
        rw [h1]
      · show rdM M k 3 7 = _
        rw [h2]; omega
    · have e2 : M 2 (1 + 4 * (k : Int)) = 76 := by omega
      rw [if_neg e, if_neg e, if_pos e2]
      refine ⟨?_, ?_⟩
      · show rdM M k 3 6 = _
        rw [h1]; omega
      · show rdM M k 3 7 + 1 = _
        rw [h2]
set_option maxHeartbeats 4000000 in
set_option maxRecDepth 100000 in
theorem c_X5_size (l : Launch) (g : GT) (M : Mem) : Ctr l g yX5_size wsX5_size ({ frames := 0, cells := 0, slots := 0, locals := 0 } : Room) [.ref (gA g 1)] M (pI (M 1 1) M) := by
  refine Ctr.mk (cc := cX5_size) (maxL := 1) (ret := some .int) (lv := [(0, .ref (gA g 1))]) (by decide) rfl (Nat.le_of_ble_eq_true rfl) rfl ?_
  intro p e s m below meth c C hr hlk hI ls hl
  have C : CallFix p m c cX5_size 1 s ([.ref (gA g 1)] : List Value).toArray wsX5_size RX5 := C
  have hx := C.1
  have hb := C.2.1
  have hts := C.2.2.2.2
  have hin5 : ∀ w ∈ u_ws RX5 TX5 2, w ∈ wsX5_size := by decide +kernel
  refine lv_aload_n hx hb dX5_size_0 rfl (lv_at hl 0 rfl) ?_
  refine r_get C hI 1 (by decide) rfl rfl hin5 1 (by decide) (fn := "length") (fd := "I") (index := 15) (by decide +kernel) ⟨rfl, rfl, rfl⟩ (v := .int (iI (M 1 1))) rfl dX5_size_1 ?_
  refine r_iret C hr hlk hI ?_ dX5_size_4
  exact ⟨congrArg (fun q => some (Value.int (iI q))) (show M 1 1 = M 1 1 from by first | rfl | omega), rfl⟩
set_option maxHeartbeats 4000000 in
set_option maxRecDepth 100000 in
theorem c_X5_add (l : Launch) (g : GT) (M : Mem) (v : Int) (h : 0 ≤ M 1 1 ∧ M 1 1 < 40) : Ctr l g yX5_add wsX5_add ({ frames := 1, cells := 0, slots := 0, locals := 22 } : Room) [.ref (gA g 1), .int (iI v)] M (pV (mset (mset M 2 (M 1 1) v) 1 1 (M 1 1 + 1))) := by
  refine Ctr.mk (cc := cX5_add) (maxL := 2) (ret := none) (lv := [(0, .ref (gA g 1)), (1, .int (iI v))]) (by decide) rfl (Nat.le_of_ble_eq_true rfl) rfl ?_
  intro p e s m below meth c C hr hlk hI ls hl
  have C : CallFix p m c cX5_add 2 s ([.ref (gA g 1), .int (iI v)] : List Value).toArray wsX5_add RX5 := C
  have hx := C.1
  have hb := C.2.1
  have hts := C.2.2.2.2
  have hin5 : ∀ w ∈ u_ws RX5 TX5 2, w ∈ wsX5_add := by decide +kernel
  refine lv_aload_n hx hb dX5_add_0 rfl (lv_at hl 0 rfl) ?_
  refine r_get C hI 1 (by decide) rfl rfl hin5 1 (by decide) (fn := "length") (fd := "I") (index := 15) (by decide +kernel) ⟨rfl, rfl, rfl⟩ (v := .int (iI (M 1 1))) rfl dX5_add_1 ?_
  refine lv_bipush (v := iI 40) hx hb dX5_add_4 (by decide +kernel) ?_
  refine r_icmp_ge hx hb (tgt := 31) (by omega) (by decide) dX5_add_6 (by decide) (fun c_1 => ?_) (fun c_1 => ?_)
  · refine r_vret C hr hlk hI ?_ dX5_add_31
    exact ⟨rfl, (show M = mset (mset M 2 (M 1 1) v) 1 1 (M 1 1 + 1) from by first | rfl | (exfalso; omega))⟩
  · refine lv_aload_n hx hb dX5_add_9 rfl (lv_at hl 0 rfl) ?_
    refine r_get C hI 1 (by decide) rfl rfl hin5 0 (by decide) (fn := "letters") (fd := "[I") (index := 9) (by decide +kernel) ⟨rfl, rfl, rfl⟩ (v := .ref (gA g 2)) rfl dX5_add_10 ?_
    refine lv_aload_n hx hb dX5_add_13 rfl (lv_at hl 0 rfl) ?_
    refine r_get C hI 1 (by decide) rfl rfl hin5 1 (by decide) (fn := "length") (fd := "I") (index := 15) (by decide +kernel) ⟨rfl, rfl, rfl⟩ (v := .int (iI (M 1 1))) rfl dX5_add_14 ?_
    refine lv_iload_n hx hb dX5_add_17 rfl (lv_at hl 1 rfl) ?_
    refine r_isn C hI (As := [.ref (gA g 2), .int (iI (M 1 1)), .int (iI v)]) (rest := []) (c_X6_put l g M 2 (M 1 1) v 40 (by omega) (fun _ => rfl) (by omega) (by omega)) ⟨va_cnB 3 hts gX5_add_X6_put_n19 rfl rfl rfl (hI.2.2.2.2.2.1 (.methodLinkNest RX5 19 yX6_put RX6) (by decide +kernel)) (hts (.initialized RX6) (by decide +kernel)) (by decide +kernel) ⟨Nat.le_of_ble_eq_true rfl, Nat.le_of_ble_eq_true rfl⟩, hts (.static yX6_put) (by decide +kernel), trivial⟩ rfl hl.1 rfl (Nat.le_of_ble_eq_true rfl) dX5_add_18 ⟨Nat.zero_le _, Nat.zero_le _⟩ (k_V (fun H locs hI => ?_))
    refine lv_aload_n hx hb dX5_add_21 rfl (lv_at hl 0 rfl) ?_
    refine lv_dup hx hb dX5_add_22 rfl ?_
    refine r_get C hI 1 (by decide) rfl rfl hin5 1 (by decide) (fn := "length") (fd := "I") (index := 15) (by decide +kernel) ⟨rfl, rfl, rfl⟩ (v := .int (iI (M 1 1))) rfl dX5_add_23 ?_
    refine lv_iconst (v := iI 1) hx hb dX5_add_26 rfl ?_
    refine r_iadd hx hb dX5_add_27 ?_
    refine r_put C hI 1 (by decide) rfl rfl tyX5 tyX5_ok nmX5 hin5 1 (by decide) (fn := "length") (fd := "I") (index := 15) (by decide +kernel) ⟨rfl, rfl, rfl⟩ rfl (z := (M 1 1) + 1) rfl rfl (Nat.le_of_ble_eq_true rfl) rfl dX5_add_28 (fun H locs hI => ?_)
    refine r_vret C hr hlk hI ?_ dX5_add_31
    exact ⟨rfl, (show mset (mset M 2 (M 1 1) v) 1 1 ((M 1 1) + 1) = mset (mset M 2 (M 1 1) v) 1 1 (M 1 1 + 1) from by first | rfl | (exfalso; omega))⟩
set_option maxHeartbeats 4000000 in
set_option maxRecDepth 100000 in
theorem c_X5_clear (l : Launch) (g : GT) (M : Mem) : Ctr l g yX5_clear wsX5_clear ({ frames := 0, cells := 0, slots := 0, locals := 0 } : Room) [.ref (gA g 1)] M (pV (mset M 1 1 0)) := by
  refine Ctr.mk (cc := cX5_clear) (maxL := 1) (ret := none) (lv := [(0, .ref (gA g 1))]) (by decide) rfl (Nat.le_of_ble_eq_true rfl) rfl ?_
  intro p e s m below meth c C hr hlk hI ls hl
  have C : CallFix p m c cX5_clear 1 s ([.ref (gA g 1)] : List Value).toArray wsX5_clear RX5 := C
  have hx := C.1
  have hb := C.2.1
  have hts := C.2.2.2.2
  have hin5 : ∀ w ∈ u_ws RX5 TX5 2, w ∈ wsX5_clear := by decide +kernel
  refine lv_aload_n hx hb dX5_clear_0 rfl (lv_at hl 0 rfl) ?_
  refine lv_iconst (v := iI 0) hx hb dX5_clear_1 rfl ?_
  refine r_put C hI 1 (by decide) rfl rfl tyX5 tyX5_ok nmX5 hin5 1 (by decide) (fn := "length") (fd := "I") (index := 15) (by decide +kernel) ⟨rfl, rfl, rfl⟩ rfl (z := 0) rfl rfl (Nat.le_of_ble_eq_true rfl) rfl dX5_clear_2 (fun H locs hI => ?_)
  refine r_vret C hr hlk hI ?_ dX5_clear_5
  exact ⟨rfl, (show mset M 1 1 0 = mset M 1 1 0 from by first | rfl | (exfalso; omega))⟩
set_option maxHeartbeats 4000000 in
set_option maxRecDepth 100000 in
theorem c_X5_figureAt (l : Launch) (g : GT) (M : Mem) (t : Int) (h : 0 ≤ t ∧ t < 40) : Ctr l g yX5_figureAt wsX5_figureAt ({ frames := 1, cells := 0, slots := 0, locals := 21 } : Room) [.ref (gA g 1), .int (iI t)] M (pI (M 2 t - 48) M) := by
  refine Ctr.mk (cc := cX5_figureAt) (maxL := 2) (ret := some .int) (lv := [(0, .ref (gA g 1)), (1, .int (iI t))]) (by decide) rfl (Nat.le_of_ble_eq_true rfl) rfl ?_
  intro p e s m below meth c C hr hlk hI ls hl
  have C : CallFix p m c cX5_figureAt 2 s ([.ref (gA g 1), .int (iI t)] : List Value).toArray wsX5_figureAt RX5 := C
  have hx := C.1
  have hb := C.2.1
  have hts := C.2.2.2.2
  have hin5 : ∀ w ∈ u_ws RX5 TX5 2, w ∈ wsX5_figureAt := by decide +kernel
  refine lv_aload_n hx hb dX5_figureAt_0 rfl (lv_at hl 0 rfl) ?_
  refine r_get C hI 1 (by decide) rfl rfl hin5 0 (by decide) (fn := "letters") (fd := "[I") (index := 9) (by decide +kernel) ⟨rfl, rfl, rfl⟩ (v := .ref (gA g 2)) rfl dX5_figureAt_1 ?_
  refine lv_iload_n hx hb dX5_figureAt_4 rfl (lv_at hl 1 rfl) ?_
  refine r_isn C hI (As := [.ref (gA g 2), .int (iI t)]) (rest := []) (c_X6_at l g M 2 t 40 (by omega) (fun _ => rfl) (by omega) (by omega)) ⟨va_cnB 2 hts gX5_figureAt_X6_at_n31 rfl rfl rfl (hI.2.2.2.2.2.1 (.methodLinkNest RX5 31 yX6_at RX6) (by decide +kernel)) (hts (.initialized RX6) (by decide +kernel)) (by decide +kernel) ⟨Nat.le_of_ble_eq_true rfl, Nat.le_of_ble_eq_true rfl⟩, hts (.static yX6_at) (by decide +kernel), trivial⟩ rfl hl.1 rfl (Nat.le_of_ble_eq_true rfl) dX5_figureAt_5 ⟨Nat.zero_le _, Nat.zero_le _⟩ (k_I (fun H locs hI => ?_))
  refine lv_bipush (v := iI 48) hx hb dX5_figureAt_8 (by decide +kernel) ?_
  refine r_isub hx hb dX5_figureAt_10 ?_
  refine r_iret C hr hlk hI ?_ dX5_figureAt_11
  exact ⟨congrArg (fun q => some (Value.int (iI q))) (show (M 2 t) - 48 = M 2 t - 48 from by first | rfl | omega), rfl⟩
set_option maxHeartbeats 4000000 in
set_option maxRecDepth 100000 in
theorem c_X5_isPerson (l : Launch) (g : GT) (M : Mem) (t : Int) (h : 0 ≤ t ∧ t < 40) (hl : -2147483648 ≤ M 2 t ∧ M 2 t < 2147483648) : Ctr l g yX5_isPerson wsX5_isPerson ({ frames := 1, cells := 0, slots := 0, locals := 21 } : Room) [.ref (gA g 1), .int (iI t)] M (pI (bI (M 2 t = 80)) M) := by
  refine Ctr.mk (cc := cX5_isPerson) (maxL := 2) (ret := some .boolean) (lv := [(0, .ref (gA g 1)), (1, .int (iI t))]) (by decide) rfl (Nat.le_of_ble_eq_true rfl) rfl ?_
  intro p e s m below meth c C hr hlk hI ls hl
  have C : CallFix p m c cX5_isPerson 2 s ([.ref (gA g 1), .int (iI t)] : List Value).toArray wsX5_isPerson RX5 := C
  have hx := C.1
  have hb := C.2.1
  have hts := C.2.2.2.2
  have hin5 : ∀ w ∈ u_ws RX5 TX5 2, w ∈ wsX5_isPerson := by decide +kernel
  refine lv_aload_n hx hb dX5_isPerson_0 rfl (lv_at hl 0 rfl) ?_
  refine r_get C hI 1 (by decide) rfl rfl hin5 0 (by decide) (fn := "letters") (fd := "[I") (index := 9) (by decide +kernel) ⟨rfl, rfl, rfl⟩ (v := .ref (gA g 2)) rfl dX5_isPerson_1 ?_
  refine lv_iload_n hx hb dX5_isPerson_4 rfl (lv_at hl 1 rfl) ?_
  refine r_isn C hI (As := [.ref (gA g 2), .int (iI t)]) (rest := []) (c_X6_at l g M 2 t 40 (by omega) (fun _ => rfl) (by omega) (by omega)) ⟨va_cnB 2 hts gX5_isPerson_X6_at_n31 rfl rfl rfl (hI.2.2.2.2.2.1 (.methodLinkNest RX5 31 yX6_at RX6) (by decide +kernel)) (hts (.initialized RX6) (by decide +kernel)) (by decide +kernel) ⟨Nat.le_of_ble_eq_true rfl, Nat.le_of_ble_eq_true rfl⟩, hts (.static yX6_at) (by decide +kernel), trivial⟩ rfl hl.1 rfl (Nat.le_of_ble_eq_true rfl) dX5_isPerson_5 ⟨Nat.zero_le _, Nat.zero_le _⟩ (k_I (fun H locs hI => ?_))
  refine lv_bipush (v := iI 80) hx hb dX5_isPerson_8 (by decide +kernel) ?_
  refine r_icmp_ne hx hb (tgt := 17) (by omega) (by decide) dX5_isPerson_10 (by decide) (fun c_1 => ?_) (fun c_1 => ?_)
  · refine lv_iconst (v := iI 0) hx hb dX5_isPerson_17 rfl ?_
    refine r_zret C hr hlk hI (by decide +kernel) ?_ dX5_isPerson_18
    exact ⟨congrArg (fun q => some (Value.int (iI q))) (bI_f (by first | assumption | omega)).symm, rfl⟩
  · refine lv_iconst (v := iI 1) hx hb dX5_isPerson_13 rfl ?_
    refine lv_goto (tgt := 18) hx hb dX5_isPerson_14 (by decide) ?_
    refine r_zret C hr hlk hI (by decide +kernel) ?_ dX5_isPerson_18
    exact ⟨congrArg (fun q => some (Value.int (iI q))) (bI_t (by first | assumption | omega)).symm, rfl⟩
set_option maxHeartbeats 4000000 in
set_option maxRecDepth 100000 in
theorem c_X5_endsAPart (l : Launch) (g : GT) (M : Mem) (h : 0 ≤ M 1 1 ∧ M 1 1 ≤ 40) : Ctr l g yX5_endsAPart wsX5_endsAPart ({ frames := 0, cells := 0, slots := 0, locals := 0 } : Room) [.ref (gA g 1)] M (pI (bI (0 < M 1 1 ∧ (M 1 1 - 1) % 4 = 0)) M) := by
  refine Ctr.mk (cc := cX5_endsAPart) (maxL := 1) (ret := some .boolean) (lv := [(0, .ref (gA g 1))]) (by decide) rfl (Nat.le_of_ble_eq_true rfl) rfl ?_
  intro p e s m below meth c C hr hlk hI ls hl
  have C : CallFix p m c cX5_endsAPart 1 s ([.ref (gA g 1)] : List Value).toArray wsX5_endsAPart RX5 := C
  have hx := C.1
  have hb := C.2.1
  have hts := C.2.2.2.2
  have hin5 : ∀ w ∈ u_ws RX5 TX5 2, w ∈ wsX5_endsAPart := by decide +kernel
  refine lv_aload_n hx hb dX5_endsAPart_0 rfl (lv_at hl 0 rfl) ?_
  refine r_get C hI 1 (by decide) rfl rfl hin5 1 (by decide) (fn := "length") (fd := "I") (index := 15) (by decide +kernel) ⟨rfl, rfl, rfl⟩ (v := .int (iI (M 1 1))) rfl dX5_endsAPart_1 ?_
  refine r_if_le hx hb (tgt := 22) (by omega) dX5_endsAPart_4 (by decide) (fun c_1 => ?_) (fun c_1 => ?_)
  · refine lv_iconst (v := iI 0) hx hb dX5_endsAPart_22 rfl ?_
    refine r_zret C hr hlk hI (by decide +kernel) ?_ dX5_endsAPart_23
    exact ⟨congrArg (fun q => some (Value.int (iI q))) (bI_f (by first | assumption | omega)).symm, rfl⟩
  · refine lv_aload_n hx hb dX5_endsAPart_7 rfl (lv_at hl 0 rfl) ?_
    refine r_get C hI 1 (by decide) rfl rfl hin5 1 (by decide) (fn := "length") (fd := "I") (index := 15) (by decide +kernel) ⟨rfl, rfl, rfl⟩ (v := .int (iI (M 1 1))) rfl dX5_endsAPart_8 ?_
    refine lv_iconst (v := iI 1) hx hb dX5_endsAPart_11 rfl ?_
    refine r_isub hx hb dX5_endsAPart_12 ?_
    refine lv_iconst (v := iI 4) hx hb dX5_endsAPart_13 rfl ?_
    refine r_irem hx hb (by omega) (by decide) dX5_endsAPart_14 ?_
    refine r_if_ne hx hb (tgt := 22) (by omega) dX5_endsAPart_15 (by decide) (fun c_2 => ?_) (fun c_2 => ?_)
    · refine lv_iconst (v := iI 0) hx hb dX5_endsAPart_22 rfl ?_
      refine r_zret C hr hlk hI (by decide +kernel) ?_ dX5_endsAPart_23
      exact ⟨congrArg (fun q => some (Value.int (iI q))) (bI_f (by first | assumption | omega)).symm, rfl⟩
    · refine lv_iconst (v := iI 1) hx hb dX5_endsAPart_18 rfl ?_
      refine lv_goto (tgt := 23) hx hb dX5_endsAPart_19 (by decide) ?_
      refine r_zret C hr hlk hI (by decide +kernel) ?_ dX5_endsAPart_23
      exact ⟨congrArg (fun q => some (Value.int (iI q))) (bI_t (by first | assumption | omega)).symm, rfl⟩
set_option maxHeartbeats 4000000 in
set_option maxRecDepth 100000 in
theorem c_X5_partsAhead (l : Launch) (g : GT) (M : Mem) (t : Int) (h : Int) (q : Nat) (ht : t = 1 + 4 * (q : Int) ∧ q < 10) (hh : 0 ≤ h ∧ h < 256) (hL : ∀ j : Int, 0 ≤ M 2 j ∧ M 2 j ≤ 255) : Ctr l g yX5_partsAhead wsX5_partsAhead ({ frames := 1, cells := 0, slots := 0, locals := 21 } : Room) [.ref (gA g 1), .int (iI t), .int (iI h)] M (pI (cntP (M 2) h q) M) := by
  refine Ctr.mk (cc := cX5_partsAhead) (maxL := 5) (ret := some .int) (lv := [(0, .ref (gA g 1)), (1, .int (iI t)), (2, .int (iI h))]) (by decide) rfl (Nat.le_of_ble_eq_true rfl) rfl ?_
  intro p e s m below meth c C hr hlk hI ls hl
  have C : CallFix p m c cX5_partsAhead 5 s ([.ref (gA g 1), .int (iI t), .int (iI h)] : List Value).toArray wsX5_partsAhead RX5 := C
  have hx := C.1
  have hb := C.2.1
  have hts := C.2.2.2.2
  have hin5 : ∀ w ∈ u_ws RX5 TX5 2, w ∈ wsX5_partsAhead := by decide +kernel
  refine lv_iconst (v := iI 0) hx hb dX5_partsAhead_0 rfl ?_
  refine lv_istore_n (lv' := [(3, .int (iI 0)), (0, .ref (gA g 1)), (1, .int (iI t)), (2, .int (iI h))]) hx hb dX5_partsAhead_1 rfl hl (by decide) rfl (fun ls hl => ?_)
  refine lv_iconst (v := iI 1) hx hb dX5_partsAhead_2 rfl ?_
  refine lv_istore (lv' := [(4, .int (iI 1)), (3, .int (iI 0)), (0, .ref (gA g 1)), (1, .int (iI t)), (2, .int (iI h))]) hx hb dX5_partsAhead_3 hl (by decide) rfl (fun ls hl => ?_)
  have lp5 : ∀ (n5 : Nat) (x : Int) (n : Int) (j : Nat), (x = 1 + 4 * (j : Int) ∧ j ≤ q) → (n = cntP (M 2) h j) → q - j < n5 → ∀ (H : Heap) (locs : List Loc), HI g s H locs M → ∀ ls : Array Slot, lv_has ls 5 [(4, .int (iI x)), (3, .int (iI n)), (0, .ref (gA g 1)), (1, .int (iI t)), (2, .int (iI h))] → W p l e ({ frames := 1, cells := 0, slots := 0, locals := 21 } : Room) s m ([.ref (gA g 1), .int (iI t), .int (iI h)] : List Value).toArray below meth c H locs 0 0 (MQ below (QV g (pI (cntP (M 2) h q) M)) ([.ref (gA g 1), .int (iI t), .int (iI h)] : List Value).toArray s 0 0 (AA g)) (F0 m 5 ls []) := by
    intro n5
    induction n5 with
    | zero => intro x n j h1 h2 hn5; exact absurd hn5 (Nat.not_lt_zero _)
    | succ n5 ih5 =>
      intro x n j h1 h2 hn5 H locs hI ls hl
      have hLx := hL x
      refine lv_iload hx hb dX5_partsAhead_5 (lv_at hl 0 rfl) ?_
      refine lv_iload_n hx hb dX5_partsAhead_7 rfl (lv_at hl 3 rfl) ?_
      refine r_icmp_ge hx hb (tgt := 33) (by omega) (by omega) dX5_partsAhead_8 (by decide) (fun c_1 => ?_) (fun c_1 => ?_)
      · refine lv_iload_n hx hb dX5_partsAhead_33 rfl (lv_at hl 1 rfl) ?_
        refine r_iret C hr hlk hI ?_ dX5_partsAhead_34
        exact ⟨congrArg (fun q => some (Value.int (iI q))) (show n = cntP (M 2) h q from by (have : j = q := by omega); subst this; exact h2), rfl⟩
      · refine lv_aload_n hx hb dX5_partsAhead_11 rfl (lv_at hl 2 rfl) ?_
        refine r_get C hI 1 (by decide) rfl rfl hin5 0 (by decide) (fn := "letters") (fd := "[I") (index := 9) (by decide +kernel) ⟨rfl, rfl, rfl⟩ (v := .ref (gA g 2)) rfl dX5_partsAhead_12 ?_
        refine lv_iload hx hb dX5_partsAhead_15 (lv_at hl 0 rfl) ?_
        refine r_isn C hI (As := [.ref (gA g 2), .int (iI x)]) (rest := []) (c_X6_at l g M 2 x 40 (by omega) (fun _ => rfl) (by omega) (by omega)) ⟨va_cnB 2 hts gX5_partsAhead_X6_at_n31 rfl rfl rfl (hI.2.2.2.2.2.1 (.methodLinkNest RX5 31 yX6_at RX6) (by decide +kernel)) (hts (.initialized RX6) (by decide +kernel)) (by decide +kernel) ⟨Nat.le_of_ble_eq_true rfl, Nat.le_of_ble_eq_true rfl⟩, hts (.static yX6_at) (by decide +kernel), trivial⟩ rfl hl.1 rfl (Nat.le_of_ble_eq_true rfl) dX5_partsAhead_17 ⟨Nat.zero_le _, Nat.zero_le _⟩ (k_I (fun H locs hI => ?_))
        refine lv_iload_n hx hb dX5_partsAhead_20 rfl (lv_at hl 4 rfl) ?_
        refine r_icmp_ne hx hb (tgt := 27) (by omega) (by omega) dX5_partsAhead_21 (by decide) (fun c_2 => ?_) (fun c_2 => ?_)
        · refine lv_iinc (v := iI (x + 4)) (lv' := [(4, .int (iI (x + 4))), (3, .int (iI n)), (0, .ref (gA g 1)), (1, .int (iI t)), (2, .int (iI h))]) hx hb dX5_partsAhead_27 hl (k := 0) rfl (iI_add _ _) (by decide) rfl (fun ls hl => ?_)
          refine lv_goto (tgt := 5) hx hb dX5_partsAhead_30 (by decide) ?_
          exact ih5 (x + 4) n (j + 1) (by omega) (by (unfold cntP; first | (rw [if_pos (by rw [← h1.1]; assumption)]; omega) | (rw [if_neg (by rw [← h1.1]; assumption)]; omega))) (by omega) _ _ hI ls (lv_sub hl [0, 1, 2, 3, 4] rfl)
        · refine lv_iinc (v := iI (n + 1)) (lv' := [(3, .int (iI (n + 1))), (4, .int (iI x)), (0, .ref (gA g 1)), (1, .int (iI t)), (2, .int (iI h))]) hx hb dX5_partsAhead_24 hl (k := 1) rfl (iI_add _ _) (by decide) rfl (fun ls hl => ?_)
          refine lv_iinc (v := iI (x + 4)) (lv' := [(4, .int (iI (x + 4))), (3, .int (iI (n + 1))), (0, .ref (gA g 1)), (1, .int (iI t)), (2, .int (iI h))]) hx hb dX5_partsAhead_27 hl (k := 1) rfl (iI_add _ _) (by decide) rfl (fun ls hl => ?_)
          refine lv_goto (tgt := 5) hx hb dX5_partsAhead_30 (by decide) ?_
          exact ih5 (x + 4) (n + 1) (j + 1) (by omega) (by (unfold cntP; first | (rw [if_pos (by rw [← h1.1]; assumption)]; omega) | (rw [if_neg (by rw [← h1.1]; assumption)]; omega))) (by omega) _ _ hI ls (lv_sub hl [0, 1, 2, 3, 4] rfl)
  exact lp5 _ 1 0 0 (by omega) (by rfl) (Nat.lt_succ_self _) _ _ hI ls (lv_sub hl [0, 1, 2, 3, 4] rfl)
set_option maxHeartbeats 4000000 in
set_option maxRecDepth 100000 in
theorem c_X5_fits (l : Launch) (g : GT) (M : Mem) (t : Int) (ht : 0 ≤ t ∧ t < 40) (hL : ∀ j : Int, 0 ≤ M 2 j ∧ M 2 j ≤ 255) : Ctr l g yX5_fits wsX5_fits ({ frames := 2, cells := 0, slots := 0, locals := 45 } : Room) [.ref (gA g 1), .int (iI t)] M (pI (bI (fitB (M 2) t = true)) M) := by
  refine Ctr.mk (cc := cX5_fits) (maxL := 7) (ret := some .boolean) (lv := [(0, .ref (gA g 1)), (1, .int (iI t))]) (by decide) rfl (Nat.le_of_ble_eq_true rfl) rfl ?_
  intro p e s m below meth c C hr hlk hI ls hl
  have C : CallFix p m c cX5_fits 7 s ([.ref (gA g 1), .int (iI t)] : List Value).toArray wsX5_fits RX5 := C
  have hx := C.1
  have hb := C.2.1
  have hts := C.2.2.2.2
  have hin5 : ∀ w ∈ u_ws RX5 TX5 2, w ∈ wsX5_fits := by decide +kernel
  have hLt := hL t
  have hLs := hL (t - (t - 1) % 4)
  have hLz := hL 0
  refine lv_aload_n hx hb dX5_fits_0 rfl (lv_at hl 0 rfl) ?_
  refine r_get C hI 1 (by decide) rfl rfl hin5 0 (by decide) (fn := "letters") (fd := "[I") (index := 9) (by decide +kernel) ⟨rfl, rfl, rfl⟩ (v := .ref (gA g 2)) rfl dX5_fits_1 ?_
  refine lv_iload_n hx hb dX5_fits_4 rfl (lv_at hl 1 rfl) ?_
  refine r_isn C hI (As := [.ref (gA g 2), .int (iI t)]) (rest := []) (c_X6_at l g M 2 t 40 (by omega) (fun _ => rfl) (by omega) (by omega)) ⟨va_cnB 2 hts gX5_fits_X6_at_n31 rfl rfl rfl (hI.2.2.2.2.2.1 (.methodLinkNest RX5 31 yX6_at RX6) (by decide +kernel)) (hts (.initialized RX6) (by decide +kernel)) (by decide +kernel) ⟨Nat.le_of_ble_eq_true rfl, Nat.le_of_ble_eq_true rfl⟩, hts (.static yX6_at) (by decide +kernel), trivial⟩ rfl hl.1 rfl (Nat.le_of_ble_eq_true rfl) dX5_fits_5 ⟨Nat.zero_le _, Nat.zero_le _⟩ (k_I (fun H locs hI => ?_))
  refine lv_istore_n (lv' := [(2, .int (iI (M 2 t))), (0, .ref (gA g 1)), (1, .int (iI t))]) hx hb dX5_fits_8 rfl hl (by decide) rfl (fun ls hl => ?_)
  refine lv_iload_n hx hb dX5_fits_9 rfl (lv_at hl 2 rfl) ?_
  refine r_if_ne hx hb (tgt := 25) (by omega) dX5_fits_10 (by decide) (fun c_1 => ?_) (fun c_1 => ?_)
  · refine lv_iload_n hx hb dX5_fits_25 rfl (lv_at hl 2 rfl) ?_
    refine lv_iconst (v := iI 1) hx hb dX5_fits_26 rfl ?_
    refine r_isub hx hb dX5_fits_27 ?_
    refine lv_iconst (v := iI 4) hx hb dX5_fits_28 rfl ?_
    refine r_irem hx hb (by omega) (by decide) dX5_fits_29 ?_
    refine lv_istore_n (lv' := [(3, .int (iI ((t - 1) % 4))), (2, .int (iI (M 2 t))), (0, .ref (gA g 1)), (1, .int (iI t))]) hx hb dX5_fits_30 rfl hl (by decide) rfl (fun ls hl => ?_)
    refine lv_iload_n hx hb dX5_fits_31 rfl (lv_at hl 0 rfl) ?_
    refine r_if_ne hx hb (tgt := 75) (by omega) dX5_fits_32 (by decide) (fun c_2 => ?_) (fun c_2 => ?_)
    · refine lv_aload_n hx hb dX5_fits_75 rfl (lv_at hl 2 rfl) ?_
      refine lv_iload_n hx hb dX5_fits_76 rfl (lv_at hl 3 rfl) ?_
      refine lv_iload_n hx hb dX5_fits_77 rfl (lv_at hl 0 rfl) ?_
      refine r_isub hx hb dX5_fits_78 ?_
      refine r_iv C hI (As := [.int (iI (t - ((t - 1) % 4)))]) (rest := []) (c_X5_isPerson l g M (t - ((t - 1) % 4)) (by omega) (show -2147483648 ≤ (M 2 (t - ((t - 1) % 4))) ∧ (M 2 (t - ((t - 1) % 4))) < 2147483648 from by omega)) (cwV 1 hts gX5_fits_X5_isPerson rfl rfl rfl (by decide +kernel) ⟨Nat.le_of_ble_eq_true rfl, Nat.le_of_ble_eq_true rfl⟩) (by decide) rfl rfl rfl hl.1 rfl (Nat.le_of_ble_eq_true rfl) dX5_fits_79 ⟨Nat.zero_le _, Nat.zero_le _⟩ (k_I (fun H locs hI => ?_))
      refine lv_istore (lv' := [(4, .int (iI (bI ((M 2 (t - ((t - 1) % 4))) = 80)))), (3, .int (iI ((t - 1) % 4))), (2, .int (iI (M 2 t))), (0, .ref (gA g 1)), (1, .int (iI t))]) hx hb dX5_fits_82 hl (by decide) rfl (fun ls hl => ?_)
      refine lv_iload hx hb dX5_fits_84 (lv_at hl 0 rfl) ?_
      refine r_b_eq hx hb (tgt := 95) dX5_fits_86 (by decide) (fun c_3 => ?_) (fun c_3 => ?_)
      · refine r_gets C hI 1 (by decide) (index := 45) (by decide +kernel) dX5_fits_95 ?_
        refine lv_iload_n hx hb dX5_fits_98 rfl (lv_at hl 1 rfl) ?_
        refine lv_iconst (v := iI 1) hx hb dX5_fits_99 rfl ?_
        refine r_isub hx hb dX5_fits_100 ?_
        refine r_isn C hI (As := [.ref (gT g 1), .int (iI (((t - 1) % 4) - 1))]) (rest := []) (c_X6_atS l g M 1 (((t - 1) % 4) - 1) (by omega) (by omega)) ⟨va_cnB 2 hts gX5_fits_X6_at_n31 rfl rfl rfl (hI.2.2.2.2.2.1 (.methodLinkNest RX5 31 yX6_at RX6) (by decide +kernel)) (hts (.initialized RX6) (by decide +kernel)) (by decide +kernel) ⟨Nat.le_of_ble_eq_true rfl, Nat.le_of_ble_eq_true rfl⟩, hts (.static yX6_at) (by decide +kernel), trivial⟩ rfl hl.1 rfl (Nat.le_of_ble_eq_true rfl) dX5_fits_101 ⟨Nat.zero_le _, Nat.zero_le _⟩ (k_I (fun H locs hI => ?_))
        have ff_1 := stV_R 1 (((t - 1) % 4) - 1)
        refine r_nm (fun x_1 ex_1 => ?_)
        refine lv_istore (lv' := [(5, .int (iI x_1)), (4, .int (iI (bI ((M 2 (t - ((t - 1) % 4))) = 80)))), (3, .int (iI ((t - 1) % 4))), (2, .int (iI (M 2 t))), (0, .ref (gA g 1)), (1, .int (iI t))]) hx hb dX5_fits_104 hl (by decide) rfl (fun ls hl => ?_)
        refine lv_iload hx hb dX5_fits_106 (lv_at hl 1 rfl) ?_
        refine r_b_eq hx hb (tgt := 117) dX5_fits_108 (by decide) (fun c_4 => ?_) (fun c_4 => ?_)
        · refine r_gets C hI 3 (by decide) (index := 51) (by decide +kernel) dX5_fits_117 ?_
          refine lv_iload_n hx hb dX5_fits_120 rfl (lv_at hl 2 rfl) ?_
          refine lv_iconst (v := iI 1) hx hb dX5_fits_121 rfl ?_
          refine r_isub hx hb dX5_fits_122 ?_
          refine r_isn C hI (As := [.ref (gT g 3), .int (iI (((t - 1) % 4) - 1))]) (rest := []) (c_X6_atS l g M 3 (((t - 1) % 4) - 1) (by omega) (by omega)) ⟨va_cnB 2 hts gX5_fits_X6_at_n31 rfl rfl rfl (hI.2.2.2.2.2.1 (.methodLinkNest RX5 31 yX6_at RX6) (by decide +kernel)) (hts (.initialized RX6) (by decide +kernel)) (by decide +kernel) ⟨Nat.le_of_ble_eq_true rfl, Nat.le_of_ble_eq_true rfl⟩, hts (.static yX6_at) (by decide +kernel), trivial⟩ rfl hl.1 rfl (Nat.le_of_ble_eq_true rfl) dX5_fits_123 ⟨Nat.zero_le _, Nat.zero_le _⟩ (k_I (fun H locs hI => ?_))
          have ff_2 := stV_R 3 (((t - 1) % 4) - 1)
          refine r_nm (fun x_2 ex_2 => ?_)
          refine lv_istore (lv' := [(6, .int (iI x_2)), (5, .int (iI x_1)), (4, .int (iI (bI ((M 2 (t - ((t - 1) % 4))) = 80)))), (3, .int (iI ((t - 1) % 4))), (2, .int (iI (M 2 t))), (0, .ref (gA g 1)), (1, .int (iI t))]) hx hb dX5_fits_126 hl (by decide) rfl (fun ls hl => ?_)
          refine lv_aload_n hx hb dX5_fits_128 rfl (lv_at hl 5 rfl) ?_
          refine lv_iload_n hx hb dX5_fits_129 rfl (lv_at hl 6 rfl) ?_
          refine r_iv C hI (As := [.int (iI t)]) (rest := []) (c_X5_figureAt l g M t (by omega)) (cwV 1 hts gX5_fits_X5_figureAt rfl rfl rfl (by decide +kernel) ⟨Nat.le_of_ble_eq_true rfl, Nat.le_of_ble_eq_true rfl⟩) (by decide) rfl rfl rfl hl.1 rfl (Nat.le_of_ble_eq_true rfl) dX5_fits_130 ⟨Nat.zero_le _, Nat.zero_le _⟩ (k_I (fun H locs hI => ?_))
          refine lv_iload hx hb dX5_fits_133 (lv_at hl 1 rfl) ?_
          refine lv_iload hx hb dX5_fits_135 (lv_at hl 0 rfl) ?_
          refine r_isn C hI (As := [.int (iI ((M 2 t) - 48)), .int (iI x_1), .int (iI x_2)]) (rest := []) (c_X6_within l g M ((M 2 t) - 48) x_1 x_2 (by omega) (by omega) (by omega)) ⟨va_cnB 3 hts gX5_fits_X6_within_n58 rfl rfl rfl (hI.2.2.2.2.2.1 (.methodLinkNest RX5 58 yX6_within RX6) (by decide +kernel)) (hts (.initialized RX6) (by decide +kernel)) (by decide +kernel) ⟨Nat.le_of_ble_eq_true rfl, Nat.le_of_ble_eq_true rfl⟩, hts (.static yX6_within) (by decide +kernel), trivial⟩ rfl hl.1 rfl (Nat.le_of_ble_eq_true rfl) dX5_fits_137 ⟨Nat.zero_le _, Nat.zero_le _⟩ (k_I (fun H locs hI => ?_))
          refine r_zret C hr hlk hI (z_b _) ?_ dX5_fits_140
          exact ⟨congrArg (fun q => some (Value.int (iI q))) (show bI (x_1 ≤ ((M 2 t) - 48) ∧ ((M 2 t) - 48) ≤ x_2) = bI (fitB (M 2) t = true) from by unfold fitB; simp_all), rfl⟩
        · refine r_gets C hI 2 (by decide) (index := 48) (by decide +kernel) dX5_fits_111 ?_
          refine lv_goto (tgt := 120) hx hb dX5_fits_114 (by decide) ?_
          refine lv_iload_n hx hb dX5_fits_120 rfl (lv_at hl 2 rfl) ?_
          refine lv_iconst (v := iI 1) hx hb dX5_fits_121 rfl ?_
          refine r_isub hx hb dX5_fits_122 ?_
          refine r_isn C hI (As := [.ref (gT g 2), .int (iI (((t - 1) % 4) - 1))]) (rest := []) (c_X6_atS l g M 2 (((t - 1) % 4) - 1) (by omega) (by omega)) ⟨va_cnB 2 hts gX5_fits_X6_at_n31 rfl rfl rfl (hI.2.2.2.2.2.1 (.methodLinkNest RX5 31 yX6_at RX6) (by decide +kernel)) (hts (.initialized RX6) (by decide +kernel)) (by decide +kernel) ⟨Nat.le_of_ble_eq_true rfl, Nat.le_of_ble_eq_true rfl⟩, hts (.static yX6_at) (by decide +kernel), trivial⟩ rfl hl.1 rfl (Nat.le_of_ble_eq_true rfl) dX5_fits_123 ⟨Nat.zero_le _, Nat.zero_le _⟩ (k_I (fun H locs hI => ?_))
          have ff_3 := stV_R 2 (((t - 1) % 4) - 1)
          refine r_nm (fun x_3 ex_3 => ?_)
          refine lv_istore (lv' := [(6, .int (iI x_3)), (5, .int (iI x_1)), (4, .int (iI (bI ((M 2 (t - ((t - 1) % 4))) = 80)))), (3, .int (iI ((t - 1) % 4))), (2, .int (iI (M 2 t))), (0, .ref (gA g 1)), (1, .int (iI t))]) hx hb dX5_fits_126 hl (by decide) rfl (fun ls hl => ?_)
          refine lv_aload_n hx hb dX5_fits_128 rfl (lv_at hl 5 rfl) ?_
          refine lv_iload_n hx hb dX5_fits_129 rfl (lv_at hl 6 rfl) ?_
          refine r_iv C hI (As := [.int (iI t)]) (rest := []) (c_X5_figureAt l g M t (by omega)) (cwV 1 hts gX5_fits_X5_figureAt rfl rfl rfl (by decide +kernel) ⟨Nat.le_of_ble_eq_true rfl, Nat.le_of_ble_eq_true rfl⟩) (by decide) rfl rfl rfl hl.1 rfl (Nat.le_of_ble_eq_true rfl) dX5_fits_130 ⟨Nat.zero_le _, Nat.zero_le _⟩ (k_I (fun H locs hI => ?_))
          refine lv_iload hx hb dX5_fits_133 (lv_at hl 1 rfl) ?_
          refine lv_iload hx hb dX5_fits_135 (lv_at hl 0 rfl) ?_
          refine r_isn C hI (As := [.int (iI ((M 2 t) - 48)), .int (iI x_1), .int (iI x_3)]) (rest := []) (c_X6_within l g M ((M 2 t) - 48) x_1 x_3 (by omega) (by omega) (by omega)) ⟨va_cnB 3 hts gX5_fits_X6_within_n58 rfl rfl rfl (hI.2.2.2.2.2.1 (.methodLinkNest RX5 58 yX6_within RX6) (by decide +kernel)) (hts (.initialized RX6) (by decide +kernel)) (by decide +kernel) ⟨Nat.le_of_ble_eq_true rfl, Nat.le_of_ble_eq_true rfl⟩, hts (.static yX6_within) (by decide +kernel), trivial⟩ rfl hl.1 rfl (Nat.le_of_ble_eq_true rfl) dX5_fits_137 ⟨Nat.zero_le _, Nat.zero_le _⟩ (k_I (fun H locs hI => ?_))
          refine r_zret C hr hlk hI (z_b _) ?_ dX5_fits_140
          exact ⟨congrArg (fun q => some (Value.int (iI q))) (show bI (x_1 ≤ ((M 2 t) - 48) ∧ ((M 2 t) - 48) ≤ x_3) = bI (fitB (M 2) t = true) from by unfold fitB; simp_all), rfl⟩
      · refine r_gets C hI 0 (by decide) (index := 42) (by decide +kernel) dX5_fits_89 ?_
        refine lv_goto (tgt := 98) hx hb dX5_fits_92 (by decide) ?_
        refine lv_iload_n hx hb dX5_fits_98 rfl (lv_at hl 1 rfl) ?_
        refine lv_iconst (v := iI 1) hx hb dX5_fits_99 rfl ?_
        refine r_isub hx hb dX5_fits_100 ?_
        refine r_isn C hI (As := [.ref (gT g 0), .int (iI (((t - 1) % 4) - 1))]) (rest := []) (c_X6_atS l g M 0 (((t - 1) % 4) - 1) (by omega) (by omega)) ⟨va_cnB 2 hts gX5_fits_X6_at_n31 rfl rfl rfl (hI.2.2.2.2.2.1 (.methodLinkNest RX5 31 yX6_at RX6) (by decide +kernel)) (hts (.initialized RX6) (by decide +kernel)) (by decide +kernel) ⟨Nat.le_of_ble_eq_true rfl, Nat.le_of_ble_eq_true rfl⟩, hts (.static yX6_at) (by decide +kernel), trivial⟩ rfl hl.1 rfl (Nat.le_of_ble_eq_true rfl) dX5_fits_101 ⟨Nat.zero_le _, Nat.zero_le _⟩ (k_I (fun H locs hI => ?_))
        have ff_4 := stV_R 0 (((t - 1) % 4) - 1)
        refine r_nm (fun x_4 ex_4 => ?_)
        refine lv_istore (lv' := [(5, .int (iI x_4)), (4, .int (iI (bI ((M 2 (t - ((t - 1) % 4))) = 80)))), (3, .int (iI ((t - 1) % 4))), (2, .int (iI (M 2 t))), (0, .ref (gA g 1)), (1, .int (iI t))]) hx hb dX5_fits_104 hl (by decide) rfl (fun ls hl => ?_)
        refine lv_iload hx hb dX5_fits_106 (lv_at hl 1 rfl) ?_
        refine r_b_eq hx hb (tgt := 117) dX5_fits_108 (by decide) (fun c_5 => ?_) (fun c_5 => ?_)
        · refine r_gets C hI 3 (by decide) (index := 51) (by decide +kernel) dX5_fits_117 ?_
          refine lv_iload_n hx hb dX5_fits_120 rfl (lv_at hl 2 rfl) ?_
          refine lv_iconst (v := iI 1) hx hb dX5_fits_121 rfl ?_
          refine r_isub hx hb dX5_fits_122 ?_
          refine r_isn C hI (As := [.ref (gT g 3), .int (iI (((t - 1) % 4) - 1))]) (rest := []) (c_X6_atS l g M 3 (((t - 1) % 4) - 1) (by omega) (by omega)) ⟨va_cnB 2 hts gX5_fits_X6_at_n31 rfl rfl rfl (hI.2.2.2.2.2.1 (.methodLinkNest RX5 31 yX6_at RX6) (by decide +kernel)) (hts (.initialized RX6) (by decide +kernel)) (by decide +kernel) ⟨Nat.le_of_ble_eq_true rfl, Nat.le_of_ble_eq_true rfl⟩, hts (.static yX6_at) (by decide +kernel), trivial⟩ rfl hl.1 rfl (Nat.le_of_ble_eq_true rfl) dX5_fits_123 ⟨Nat.zero_le _, Nat.zero_le _⟩ (k_I (fun H locs hI => ?_))
          have ff_5 := stV_R 3 (((t - 1) % 4) - 1)
          refine r_nm (fun x_5 ex_5 => ?_)
          refine lv_istore (lv' := [(6, .int (iI x_5)), (5, .int (iI x_4)), (4, .int (iI (bI ((M 2 (t - ((t - 1) % 4))) = 80)))), (3, .int (iI ((t - 1) % 4))), (2, .int (iI (M 2 t))), (0, .ref (gA g 1)), (1, .int (iI t))]) hx hb dX5_fits_126 hl (by decide) rfl (fun ls hl => ?_)
          refine lv_aload_n hx hb dX5_fits_128 rfl (lv_at hl 5 rfl) ?_
          refine lv_iload_n hx hb dX5_fits_129 rfl (lv_at hl 6 rfl) ?_
          refine r_iv C hI (As := [.int (iI t)]) (rest := []) (c_X5_figureAt l g M t (by omega)) (cwV 1 hts gX5_fits_X5_figureAt rfl rfl rfl (by decide +kernel) ⟨Nat.le_of_ble_eq_true rfl, Nat.le_of_ble_eq_true rfl⟩) (by decide) rfl rfl rfl hl.1 rfl (Nat.le_of_ble_eq_true rfl) dX5_fits_130 ⟨Nat.zero_le _, Nat.zero_le _⟩ (k_I (fun H locs hI => ?_))
          refine lv_iload hx hb dX5_fits_133 (lv_at hl 1 rfl) ?_
          refine lv_iload hx hb dX5_fits_135 (lv_at hl 0 rfl) ?_
          refine r_isn C hI (As := [.int (iI ((M 2 t) - 48)), .int (iI x_4), .int (iI x_5)]) (rest := []) (c_X6_within l g M ((M 2 t) - 48) x_4 x_5 (by omega) (by omega) (by omega)) ⟨va_cnB 3 hts gX5_fits_X6_within_n58 rfl rfl rfl (hI.2.2.2.2.2.1 (.methodLinkNest RX5 58 yX6_within RX6) (by decide +kernel)) (hts (.initialized RX6) (by decide +kernel)) (by decide +kernel) ⟨Nat.le_of_ble_eq_true rfl, Nat.le_of_ble_eq_true rfl⟩, hts (.static yX6_within) (by decide +kernel), trivial⟩ rfl hl.1 rfl (Nat.le_of_ble_eq_true rfl) dX5_fits_137 ⟨Nat.zero_le _, Nat.zero_le _⟩ (k_I (fun H locs hI => ?_))
          refine r_zret C hr hlk hI (z_b _) ?_ dX5_fits_140
          exact ⟨congrArg (fun q => some (Value.int (iI q))) (show bI (x_4 ≤ ((M 2 t) - 48) ∧ ((M 2 t) - 48) ≤ x_5) = bI (fitB (M 2) t = true) from by unfold fitB; simp_all), rfl⟩
        · refine r_gets C hI 2 (by decide) (index := 48) (by decide +kernel) dX5_fits_111 ?_
          refine lv_goto (tgt := 120) hx hb dX5_fits_114 (by decide) ?_
          refine lv_iload_n hx hb dX5_fits_120 rfl (lv_at hl 2 rfl) ?_
          refine lv_iconst (v := iI 1) hx hb dX5_fits_121 rfl ?_
          refine r_isub hx hb dX5_fits_122 ?_
          refine r_isn C hI (As := [.ref (gT g 2), .int (iI (((t - 1) % 4) - 1))]) (rest := []) (c_X6_atS l g M 2 (((t - 1) % 4) - 1) (by omega) (by omega)) ⟨va_cnB 2 hts gX5_fits_X6_at_n31 rfl rfl rfl (hI.2.2.2.2.2.1 (.methodLinkNest RX5 31 yX6_at RX6) (by decide +kernel)) (hts (.initialized RX6) (by decide +kernel)) (by decide +kernel) ⟨Nat.le_of_ble_eq_true rfl, Nat.le_of_ble_eq_true rfl⟩, hts (.static yX6_at) (by decide +kernel), trivial⟩ rfl hl.1 rfl (Nat.le_of_ble_eq_true rfl) dX5_fits_123 ⟨Nat.zero_le _, Nat.zero_le _⟩ (k_I (fun H locs hI => ?_))
          have ff_6 := stV_R 2 (((t - 1) % 4) - 1)
          refine r_nm (fun x_6 ex_6 => ?_)
          refine lv_istore (lv' := [(6, .int (iI x_6)), (5, .int (iI x_4)), (4, .int (iI (bI ((M 2 (t - ((t - 1) % 4))) = 80)))), (3, .int (iI ((t - 1) % 4))), (2, .int (iI (M 2 t))), (0, .ref (gA g 1)), (1, .int (iI t))]) hx hb dX5_fits_126 hl (by decide) rfl (fun ls hl => ?_)
          refine lv_aload_n hx hb dX5_fits_128 rfl (lv_at hl 5 rfl) ?_
          refine lv_iload_n hx hb dX5_fits_129 rfl (lv_at hl 6 rfl) ?_
          refine r_iv C hI (As := [.int (iI t)]) (rest := []) (c_X5_figureAt l g M t (by omega)) (cwV 1 hts gX5_fits_X5_figureAt rfl rfl rfl (by decide +kernel) ⟨Nat.le_of_ble_eq_true rfl, Nat.le_of_ble_eq_true rfl⟩) (by decide) rfl rfl rfl hl.1 rfl (Nat.le_of_ble_eq_true rfl) dX5_fits_130 ⟨Nat.zero_le _, Nat.zero_le _⟩ (k_I (fun H locs hI => ?_))
          refine lv_iload hx hb dX5_fits_133 (lv_at hl 1 rfl) ?_
          refine lv_iload hx hb dX5_fits_135 (lv_at hl 0 rfl) ?_
          refine r_isn C hI (As := [.int (iI ((M 2 t) - 48)), .int (iI x_4), .int (iI x_6)]) (rest := []) (c_X6_within l g M ((M 2 t) - 48) x_4 x_6 (by omega) (by omega) (by omega)) ⟨va_cnB 3 hts gX5_fits_X6_within_n58 rfl rfl rfl (hI.2.2.2.2.2.1 (.methodLinkNest RX5 58 yX6_within RX6) (by decide +kernel)) (hts (.initialized RX6) (by decide +kernel)) (by decide +kernel) ⟨Nat.le_of_ble_eq_true rfl, Nat.le_of_ble_eq_true rfl⟩, hts (.static yX6_within) (by decide +kernel), trivial⟩ rfl hl.1 rfl (Nat.le_of_ble_eq_true rfl) dX5_fits_137 ⟨Nat.zero_le _, Nat.zero_le _⟩ (k_I (fun H locs hI => ?_))
          refine r_zret C hr hlk hI (z_b _) ?_ dX5_fits_140
          exact ⟨congrArg (fun q => some (Value.int (iI q))) (show bI (x_4 ≤ ((M 2 t) - 48) ∧ ((M 2 t) - 48) ≤ x_6) = bI (fitB (M 2) t = true) from by unfold fitB; simp_all), rfl⟩
    · refine lv_iload_n hx hb dX5_fits_35 rfl (lv_at hl 1 rfl) ?_
      refine lv_bipush (v := iI 80) hx hb dX5_fits_36 (by decide +kernel) ?_
      refine r_icmp_ne hx hb (tgt := 52) (by omega) (by decide) dX5_fits_38 (by decide) (fun c_6 => ?_) (fun c_6 => ?_)
      · refine lv_iload_n hx hb dX5_fits_52 rfl (lv_at hl 1 rfl) ?_
        refine lv_bipush (v := iI 76) hx hb dX5_fits_53 (by decide +kernel) ?_
        refine r_icmp_ne hx hb (tgt := 73) (by omega) (by decide) dX5_fits_55 (by decide) (fun c_7 => ?_) (fun c_7 => ?_)
        · refine lv_iconst (v := iI 0) hx hb dX5_fits_73 rfl ?_
          refine r_zret C hr hlk hI (by decide +kernel) ?_ dX5_fits_74
          exact ⟨congrArg (fun q => some (Value.int (iI q))) (bI_f (by unfold fitB; simp_all)).symm, rfl⟩
        · refine lv_aload_n hx hb dX5_fits_58 rfl (lv_at hl 2 rfl) ?_
          refine lv_iload_n hx hb dX5_fits_59 rfl (lv_at hl 3 rfl) ?_
          refine lv_bipush (v := iI 76) hx hb dX5_fits_60 (by decide +kernel) ?_
          refine r_iv C hI (As := [.int (iI t), .int (iI 76)]) (rest := []) (c_X5_partsAhead l g M t 76 (((t - 1) / 4).toNat) (by omega) (by decide) hL) (cwV 2 hts gX5_fits_X5_partsAhead rfl rfl rfl (by decide +kernel) ⟨Nat.le_of_ble_eq_true rfl, Nat.le_of_ble_eq_true rfl⟩) (by decide) rfl rfl rfl hl.1 rfl (Nat.le_of_ble_eq_true rfl) dX5_fits_62 ⟨Nat.zero_le _, Nat.zero_le _⟩ (k_I (fun H locs hI => ?_))
          have ff_7 := cntP_R (M 2) 76 (((t - 1) / 4).toNat)
          refine lv_iconst (v := iI 4) hx hb dX5_fits_65 rfl ?_
          refine r_icmp_ge hx hb (tgt := 73) (by omega) (by decide) dX5_fits_66 (by decide) (fun c_8 => ?_) (fun c_8 => ?_)
          · refine lv_iconst (v := iI 0) hx hb dX5_fits_73 rfl ?_
            refine r_zret C hr hlk hI (by decide +kernel) ?_ dX5_fits_74
            exact ⟨congrArg (fun q => some (Value.int (iI q))) (bI_f (by unfold fitB; simp_all)).symm, rfl⟩
          · refine lv_iconst (v := iI 1) hx hb dX5_fits_69 rfl ?_
            refine lv_goto (tgt := 74) hx hb dX5_fits_70 (by decide) ?_
            refine r_zret C hr hlk hI (by decide +kernel) ?_ dX5_fits_74
            exact ⟨congrArg (fun q => some (Value.int (iI q))) (bI_t (by unfold fitB; simp_all)).symm, rfl⟩
      · refine lv_aload_n hx hb dX5_fits_41 rfl (lv_at hl 2 rfl) ?_
        refine lv_iload_n hx hb dX5_fits_42 rfl (lv_at hl 3 rfl) ?_
        refine lv_bipush (v := iI 80) hx hb dX5_fits_43 (by decide +kernel) ?_
        refine r_iv C hI (As := [.int (iI t), .int (iI 80)]) (rest := []) (c_X5_partsAhead l g M t 80 (((t - 1) / 4).toNat) (by omega) (by decide) hL) (cwV 2 hts gX5_fits_X5_partsAhead rfl rfl rfl (by decide +kernel) ⟨Nat.le_of_ble_eq_true rfl, Nat.le_of_ble_eq_true rfl⟩) (by decide) rfl rfl rfl hl.1 rfl (Nat.le_of_ble_eq_true rfl) dX5_fits_45 ⟨Nat.zero_le _, Nat.zero_le _⟩ (k_I (fun H locs hI => ?_))
        have ff_8 := cntP_R (M 2) 80 (((t - 1) / 4).toNat)
        refine lv_iconst (v := iI 5) hx hb dX5_fits_48 rfl ?_
        refine r_icmp_lt hx hb (tgt := 69) (by omega) (by decide) dX5_fits_49 (by decide) (fun c_9 => ?_) (fun c_9 => ?_)
        · refine lv_iconst (v := iI 1) hx hb dX5_fits_69 rfl ?_
          refine lv_goto (tgt := 74) hx hb dX5_fits_70 (by decide) ?_
          refine r_zret C hr hlk hI (by decide +kernel) ?_ dX5_fits_74
          exact ⟨congrArg (fun q => some (Value.int (iI q))) (bI_t (by unfold fitB; simp_all)).symm, rfl⟩
        · refine lv_iload_n hx hb dX5_fits_52 rfl (lv_at hl 1 rfl) ?_
          refine lv_bipush (v := iI 76) hx hb dX5_fits_53 (by decide +kernel) ?_
          refine r_icmp_ne hx hb (tgt := 73) (by omega) (by decide) dX5_fits_55 (by decide) (fun c_10 => ?_) (fun c_10 => ?_)
          · refine lv_iconst (v := iI 0) hx hb dX5_fits_73 rfl ?_
            refine r_zret C hr hlk hI (by decide +kernel) ?_ dX5_fits_74
            exact ⟨congrArg (fun q => some (Value.int (iI q))) (bI_f (by unfold fitB; simp_all)).symm, rfl⟩
          · refine lv_aload_n hx hb dX5_fits_58 rfl (lv_at hl 2 rfl) ?_
            refine lv_iload_n hx hb dX5_fits_59 rfl (lv_at hl 3 rfl) ?_
            refine lv_bipush (v := iI 76) hx hb dX5_fits_60 (by decide +kernel) ?_
            refine r_iv C hI (As := [.int (iI t), .int (iI 76)]) (rest := []) (c_X5_partsAhead l g M t 76 (((t - 1) / 4).toNat) (by omega) (by decide) hL) (cwV 2 hts gX5_fits_X5_partsAhead rfl rfl rfl (by decide +kernel) ⟨Nat.le_of_ble_eq_true rfl, Nat.le_of_ble_eq_true rfl⟩) (by decide) rfl rfl rfl hl.1 rfl (Nat.le_of_ble_eq_true rfl) dX5_fits_62 ⟨Nat.zero_le _, Nat.zero_le _⟩ (k_I (fun H locs hI => ?_))
            have ff_9 := cntP_R (M 2) 76 (((t - 1) / 4).toNat)
            refine lv_iconst (v := iI 4) hx hb dX5_fits_65 rfl ?_
            refine r_icmp_ge hx hb (tgt := 73) (by omega) (by decide) dX5_fits_66 (by decide) (fun c_11 => ?_) (fun c_11 => ?_)
            · refine lv_iconst (v := iI 0) hx hb dX5_fits_73 rfl ?_
              refine r_zret C hr hlk hI (by decide +kernel) ?_ dX5_fits_74
              exact ⟨congrArg (fun q => some (Value.int (iI q))) (bI_f (by unfold fitB; simp_all)).symm, rfl⟩
            · refine lv_iconst (v := iI 1) hx hb dX5_fits_69 rfl ?_
              refine lv_goto (tgt := 74) hx hb dX5_fits_70 (by decide) ?_
              refine r_zret C hr hlk hI (by decide +kernel) ?_ dX5_fits_74
              exact ⟨congrArg (fun q => some (Value.int (iI q))) (bI_t (by unfold fitB; simp_all)).symm, rfl⟩
  · refine lv_iload_n hx hb dX5_fits_13 rfl (lv_at hl 0 rfl) ?_
    refine lv_bipush (v := iI 71) hx hb dX5_fits_14 (by decide +kernel) ?_
    refine r_icmp_ne hx hb (tgt := 23) (by omega) (by decide) dX5_fits_16 (by decide) (fun c_12 => ?_) (fun c_12 => ?_)
    · refine lv_iconst (v := iI 0) hx hb dX5_fits_23 rfl ?_
      refine r_zret C hr hlk hI (by decide +kernel) ?_ dX5_fits_24
      exact ⟨congrArg (fun q => some (Value.int (iI q))) (bI_f (by unfold fitB; simp_all)).symm, rfl⟩
    · refine lv_iconst (v := iI 1) hx hb dX5_fits_19 rfl ?_
      refine lv_goto (tgt := 24) hx hb dX5_fits_20 (by decide) ?_
      refine r_zret C hr hlk hI (by decide +kernel) ?_ dX5_fits_24
      exact ⟨congrArg (fun q => some (Value.int (iI q))) (bI_t (by unfold fitB; simp_all)).symm, rfl⟩
set_option maxHeartbeats 4000000 in
set_option maxRecDepth 100000 in
theorem c_X5_firstFault (l : Launch) (g : GT) (M : Mem) (h : 0 ≤ M 1 1 ∧ M 1 1 ≤ 40) (hL : ∀ j : Int, 0 ≤ M 2 j ∧ M 2 j ≤ 255) : Ctr l g yX5_firstFault wsX5_firstFault ({ frames := 3, cells := 0, slots := 0, locals := 71 } : Room) [.ref (gA g 1)] M (pI (ffO (M 2) (M 1 1).toNat 0) M) := by
  refine Ctr.mk (cc := cX5_firstFault) (maxL := 2) (ret := some .int) (lv := [(0, .ref (gA g 1))]) (by decide) rfl (Nat.le_of_ble_eq_true rfl) rfl ?_
  intro p e s m below meth c C hr hlk hI ls hl
  have C : CallFix p m c cX5_firstFault 2 s ([.ref (gA g 1)] : List Value).toArray wsX5_firstFault RX5 := C
  have hx := C.1
  have hb := C.2.1
  have hts := C.2.2.2.2
  have hin5 : ∀ w ∈ u_ws RX5 TX5 2, w ∈ wsX5_firstFault := by decide +kernel
  refine lv_iconst (v := iI 0) hx hb dX5_firstFault_0 rfl ?_
  refine lv_istore_n (lv' := [(1, .int (iI 0)), (0, .ref (gA g 1))]) hx hb dX5_firstFault_1 rfl hl (by decide) rfl (fun ls hl => ?_)
  have lp2 : ∀ (n2 : Nat) (x : Int), (0 ≤ x ∧ x ≤ M 1 1) → (ffO (M 2) (M 1 1 - x).toNat x = ffO (M 2) (M 1 1).toNat 0) → (M 1 1 - x).toNat < n2 → ∀ (H : Heap) (locs : List Loc), HI g s H locs M → ∀ ls : Array Slot, lv_has ls 2 [(1, .int (iI x)), (0, .ref (gA g 1))] → W p l e ({ frames := 3, cells := 0, slots := 0, locals := 71 } : Room) s m ([.ref (gA g 1)] : List Value).toArray below meth c H locs 0 0 (MQ below (QV g (pI (ffO (M 2) (M 1 1).toNat 0) M)) ([.ref (gA g 1)] : List Value).toArray s 0 0 (AA g)) (F0 m 2 ls []) := by
    intro n2
    induction n2 with
    | zero => intro x h1 h2 hn2; exact absurd hn2 (Nat.not_lt_zero _)
    | succ n2 ih2 =>
      intro x h1 h2 hn2 H locs hI ls hl
      refine lv_iload_n hx hb dX5_firstFault_2 rfl (lv_at hl 0 rfl) ?_
      refine lv_aload_n hx hb dX5_firstFault_3 rfl (lv_at hl 1 rfl) ?_
      refine r_get C hI 1 (by decide) rfl rfl hin5 1 (by decide) (fn := "length") (fd := "I") (index := 15) (by decide +kernel) ⟨rfl, rfl, rfl⟩ (v := .int (iI (M 1 1))) rfl dX5_firstFault_4 ?_
      refine r_icmp_ge hx hb (tgt := 26) (by omega) (by omega) dX5_firstFault_7 (by decide) (fun c_1 => ?_) (fun c_1 => ?_)
      · refine lv_aload_n hx hb dX5_firstFault_26 rfl (lv_at hl 1 rfl) ?_
        refine r_iv C hI (As := []) (rest := []) (c_X5_endsAPart l g M (show 0 ≤ (M 1 1) ∧ (M 1 1) ≤ 40 from by omega)) (cwV 0 hts gX5_firstFault_X5_endsAPart rfl rfl rfl (by decide +kernel) ⟨Nat.le_of_ble_eq_true rfl, Nat.le_of_ble_eq_true rfl⟩) (by decide) rfl rfl rfl hl.1 rfl (Nat.le_of_ble_eq_true rfl) dX5_firstFault_27 ⟨Nat.zero_le _, Nat.zero_le _⟩ (k_I (fun H locs hI => ?_))
        refine r_b_eq hx hb (tgt := 38) dX5_firstFault_30 (by decide) (fun c_2 => ?_) (fun c_2 => ?_)
        · refine lv_aload_n hx hb dX5_firstFault_38 rfl (lv_at hl 1 rfl) ?_
          refine r_get C hI 1 (by decide) rfl rfl hin5 1 (by decide) (fn := "length") (fd := "I") (index := 15) (by decide +kernel) ⟨rfl, rfl, rfl⟩ (v := .int (iI (M 1 1))) rfl dX5_firstFault_39 ?_
          refine r_iret C hr hlk hI ?_ dX5_firstFault_42
          exact ⟨congrArg (fun q => some (Value.int (iI q))) (show M 1 1 = ffO (M 2) (M 1 1).toNat 0 from by (have hx1 : x = M 1 1 := by omega); rw [show (M 1 1 - x).toNat = 0 from by omega, hx1] at h2; simp only [ffO] at h2; first | (rw [if_pos (by assumption)] at h2; exact h2) | (rw [if_neg (by assumption)] at h2; exact h2)), rfl⟩
        · refine lv_bipush (v := iI (-9)) hx hb dX5_firstFault_33 (by decide +kernel) ?_
          refine lv_goto (tgt := 42) hx hb dX5_firstFault_35 (by decide) ?_
          refine r_iret C hr hlk hI ?_ dX5_firstFault_42
          exact ⟨congrArg (fun q => some (Value.int (iI q))) (show (-9) = ffO (M 2) (M 1 1).toNat 0 from by (have hx1 : x = M 1 1 := by omega); rw [show (M 1 1 - x).toNat = 0 from by omega, hx1] at h2; simp only [ffO] at h2; first | (rw [if_pos (by assumption)] at h2; exact h2) | (rw [if_neg (by assumption)] at h2; exact h2)), rfl⟩
      · refine lv_aload_n hx hb dX5_firstFault_10 rfl (lv_at hl 1 rfl) ?_
        refine lv_iload_n hx hb dX5_firstFault_11 rfl (lv_at hl 0 rfl) ?_
        refine r_iv C hI (As := [.int (iI x)]) (rest := []) (c_X5_fits l g M x (by omega) hL) (cwV 1 hts gX5_firstFault_X5_fits rfl rfl rfl (by decide +kernel) ⟨Nat.le_of_ble_eq_true rfl, Nat.le_of_ble_eq_true rfl⟩) (by decide) rfl rfl rfl hl.1 rfl (Nat.le_of_ble_eq_true rfl) dX5_firstFault_12 ⟨Nat.zero_le _, Nat.zero_le _⟩ (k_I (fun H locs hI => ?_))
        refine r_b_ne hx hb (tgt := 20) dX5_firstFault_15 (by decide) (fun c_3 => ?_) (fun c_3 => ?_)
        · refine lv_iinc (v := iI (x + 1)) (lv' := [(1, .int (iI (x + 1))), (0, .ref (gA g 1))]) hx hb dX5_firstFault_20 hl (k := 0) rfl (iI_add _ _) (by decide) rfl (fun ls hl => ?_)
          refine lv_goto (tgt := 2) hx hb dX5_firstFault_23 (by decide) ?_
          exact ih2 (x + 1) (by omega) (by (obtain ⟨k, hk⟩ : ∃ k, (M 1 1 - x).toNat = k + 1 := ⟨(M 1 1 - x).toNat - 1, by omega⟩); rw [hk, ffO_1 (by assumption)] at h2; rw [show (M 1 1 - (x + 1)).toNat = k from by omega]; exact h2) (by omega) _ _ hI ls (lv_sub hl [0, 1] rfl)
        · refine lv_iload_n hx hb dX5_firstFault_18 rfl (lv_at hl 0 rfl) ?_
          refine r_iret C hr hlk hI ?_ dX5_firstFault_19
          exact ⟨congrArg (fun q => some (Value.int (iI q))) (show x = ffO (M 2) (M 1 1).toNat 0 from by (obtain ⟨k, hk⟩ : ∃ k, (M 1 1 - x).toNat = k + 1 := ⟨(M 1 1 - x).toNat - 1, by omega⟩); rw [hk, ffO_2 (by assumption)] at h2; exact h2), rfl⟩
  exact lp2 _ 0 (by omega) (by rw [Int.sub_zero]) (Nat.lt_succ_self _) _ _ hI ls (lv_sub hl [0, 1] rfl)
set_option maxHeartbeats 4000000 in
set_option maxRecDepth 100000 in
theorem c_X1_people (l : Launch) (g : GT) (M : Mem) : Ctr l g yX1_people wsX1_people ({ frames := 0, cells := 0, slots := 0, locals := 0 } : Room) [.ref (gA g 3)] M (pI (M 3 6) M) := by
  refine Ctr.mk (cc := cX1_people) (maxL := 1) (ret := some .int) (lv := [(0, .ref (gA g 3))]) (by decide) rfl (Nat.le_of_ble_eq_true rfl) rfl ?_
  intro p e s m below meth c C hr hlk hI ls hl
  have C : CallFix p m c cX1_people 1 s ([.ref (gA g 3)] : List Value).toArray wsX1_people RX1 := C
  have hx := C.1
  have hb := C.2.1
  have hts := C.2.2.2.2
  have hin1 : ∀ w ∈ u_ws RX1 TX1 8, w ∈ wsX1_people := by decide +kernel
  refine lv_aload_n hx hb dX1_people_0 rfl (lv_at hl 0 rfl) ?_
  refine r_get C hI 3 (by decide) rfl rfl hin1 6 (by decide) (fn := "personCount") (fd := "I") (index := 30) (by decide +kernel) ⟨rfl, rfl, rfl⟩ (v := .int (iI (M 3 6))) rfl dX1_people_1 ?_
  refine r_iret C hr hlk hI ?_ dX1_people_4
  exact ⟨congrArg (fun q => some (Value.int (iI q))) (show M 3 6 = M 3 6 from by first | rfl | omega), rfl⟩
set_option maxHeartbeats 4000000 in
set_option maxRecDepth 100000 in
theorem c_X1_gloves (l : Launch) (g : GT) (M : Mem) : Ctr l g yX1_gloves wsX1_gloves ({ frames := 0, cells := 0, slots := 0, locals := 0 } : Room) [.ref (gA g 3)] M (pI (M 3 7) M) := by
  refine Ctr.mk (cc := cX1_gloves) (maxL := 1) (ret := some .int) (lv := [(0, .ref (gA g 3))]) (by decide) rfl (Nat.le_of_ble_eq_true rfl) rfl ?_
  intro p e s m below meth c C hr hlk hI ls hl
  have C : CallFix p m c cX1_gloves 1 s ([.ref (gA g 3)] : List Value).toArray wsX1_gloves RX1 := C
  have hx := C.1
  have hb := C.2.1
  have hts := C.2.2.2.2
  have hin1 : ∀ w ∈ u_ws RX1 TX1 8, w ∈ wsX1_gloves := by decide +kernel
  refine lv_aload_n hx hb dX1_gloves_0 rfl (lv_at hl 0 rfl) ?_
  refine r_get C hI 3 (by decide) rfl rfl hin1 7 (by decide) (fn := "gloveCount") (fd := "I") (index := 34) (by decide +kernel) ⟨rfl, rfl, rfl⟩ (v := .int (iI (M 3 7))) rfl dX1_gloves_1 ?_
  refine r_iret C hr hlk hI ?_ dX1_gloves_4
  exact ⟨congrArg (fun q => some (Value.int (iI q))) (show M 3 7 = M 3 7 from by first | rfl | omega), rfl⟩
set_option maxHeartbeats 4000000 in
set_option maxRecDepth 100000 in
theorem c_X1_hasPerson (l : Launch) (g : GT) (M : Mem) (x : Int) (hx0 : -2147483648 ≤ x ∧ x < 2147483648) (hP : -2147483648 ≤ M 3 6 ∧ M 3 6 < 2147483648) : Ctr l g yX1_hasPerson wsX1_hasPerson ({ frames := 0, cells := 0, slots := 0, locals := 0 } : Room) [.ref (gA g 3), .int (iI x)] M (pI (bI (0 ≤ x ∧ x < M 3 6)) M) := by
  refine Ctr.mk (cc := cX1_hasPerson) (maxL := 2) (ret := some .boolean) (lv := [(0, .ref (gA g 3)), (1, .int (iI x))]) (by decide) rfl (Nat.le_of_ble_eq_true rfl) rfl ?_
  intro p e s m below meth c C hr hlk hI ls hl
  have C : CallFix p m c cX1_hasPerson 2 s ([.ref (gA g 3), .int (iI x)] : List Value).toArray wsX1_hasPerson RX1 := C
  have hx := C.1
  have hb := C.2.1
  have hts := C.2.2.2.2
  have hin1 : ∀ w ∈ u_ws RX1 TX1 8, w ∈ wsX1_hasPerson := by decide +kernel
  refine lv_iload_n hx hb dX1_hasPerson_0 rfl (lv_at hl 1 rfl) ?_
  refine r_if_lt hx hb (tgt := 16) (by omega) dX1_hasPerson_1 (by decide) (fun c_1 => ?_) (fun c_1 => ?_)
  · refine lv_iconst (v := iI 0) hx hb dX1_hasPerson_16 rfl ?_
    refine r_zret C hr hlk hI (by decide +kernel) ?_ dX1_hasPerson_17
    exact ⟨congrArg (fun q => some (Value.int (iI q))) (bI_f (by first | assumption | omega)).symm, rfl⟩
  · refine lv_iload_n hx hb dX1_hasPerson_4 rfl (lv_at hl 1 rfl) ?_
    refine lv_aload_n hx hb dX1_hasPerson_5 rfl (lv_at hl 0 rfl) ?_
    refine r_get C hI 3 (by decide) rfl rfl hin1 6 (by decide) (fn := "personCount") (fd := "I") (index := 30) (by decide +kernel) ⟨rfl, rfl, rfl⟩ (v := .int (iI (M 3 6))) rfl dX1_hasPerson_6 ?_
    refine r_icmp_ge hx hb (tgt := 16) (by omega) (by omega) dX1_hasPerson_9 (by decide) (fun c_2 => ?_) (fun c_2 => ?_)
    · refine lv_iconst (v := iI 0) hx hb dX1_hasPerson_16 rfl ?_
      refine r_zret C hr hlk hI (by decide +kernel) ?_ dX1_hasPerson_17
      exact ⟨congrArg (fun q => some (Value.int (iI q))) (bI_f (by first | assumption | omega)).symm, rfl⟩
    · refine lv_iconst (v := iI 1) hx hb dX1_hasPerson_12 rfl ?_
      refine lv_goto (tgt := 17) hx hb dX1_hasPerson_13 (by decide) ?_
      refine r_zret C hr hlk hI (by decide +kernel) ?_ dX1_hasPerson_17
      exact ⟨congrArg (fun q => some (Value.int (iI q))) (bI_t (by first | assumption | omega)).symm, rfl⟩
set_option maxHeartbeats 4000000 in
set_option maxRecDepth 100000 in
theorem c_X1_hasGlove (l : Launch) (g : GT) (M : Mem) (x : Int) (hx0 : -2147483648 ≤ x ∧ x < 2147483648) (hG : -2147483648 ≤ M 3 7 ∧ M 3 7 < 2147483648) : Ctr l g yX1_hasGlove wsX1_hasGlove ({ frames := 0, cells := 0, slots := 0, locals := 0 } : Room) [.ref (gA g 3), .int (iI x)] M (pI (bI (0 ≤ x ∧ x < M 3 7)) M) := by
  refine Ctr.mk (cc := cX1_hasGlove) (maxL := 2) (ret := some .boolean) (lv := [(0, .ref (gA g 3)), (1, .int (iI x))]) (by decide) rfl (Nat.le_of_ble_eq_true rfl) rfl ?_
  intro p e s m below meth c C hr hlk hI ls hl
  have C : CallFix p m c cX1_hasGlove 2 s ([.ref (gA g 3), .int (iI x)] : List Value).toArray wsX1_hasGlove RX1 := C
  have hx := C.1
  have hb := C.2.1
  have hts := C.2.2.2.2
  have hin1 : ∀ w ∈ u_ws RX1 TX1 8, w ∈ wsX1_hasGlove := by decide +kernel
  refine lv_iload_n hx hb dX1_hasGlove_0 rfl (lv_at hl 1 rfl) ?_
  refine r_if_lt hx hb (tgt := 16) (by omega) dX1_hasGlove_1 (by decide) (fun c_1 => ?_) (fun c_1 => ?_)
  · refine lv_iconst (v := iI 0) hx hb dX1_hasGlove_16 rfl ?_
    refine r_zret C hr hlk hI (by decide +kernel) ?_ dX1_hasGlove_17
    exact ⟨congrArg (fun q => some (Value.int (iI q))) (bI_f (by first | assumption | omega)).symm, rfl⟩
  · refine lv_iload_n hx hb dX1_hasGlove_4 rfl (lv_at hl 1 rfl) ?_
    refine lv_aload_n hx hb dX1_hasGlove_5 rfl (lv_at hl 0 rfl) ?_
    refine r_get C hI 3 (by decide) rfl rfl hin1 7 (by decide) (fn := "gloveCount") (fd := "I") (index := 34) (by decide +kernel) ⟨rfl, rfl, rfl⟩ (v := .int (iI (M 3 7))) rfl dX1_hasGlove_6 ?_
    refine r_icmp_ge hx hb (tgt := 16) (by omega) (by omega) dX1_hasGlove_9 (by decide) (fun c_2 => ?_) (fun c_2 => ?_)
    · refine lv_iconst (v := iI 0) hx hb dX1_hasGlove_16 rfl ?_
      refine r_zret C hr hlk hI (by decide +kernel) ?_ dX1_hasGlove_17
      exact ⟨congrArg (fun q => some (Value.int (iI q))) (bI_f (by first | assumption | omega)).symm, rfl⟩
    · refine lv_iconst (v := iI 1) hx hb dX1_hasGlove_12 rfl ?_
      refine lv_goto (tgt := 17) hx hb dX1_hasGlove_13 (by decide) ?_
      refine r_zret C hr hlk hI (by decide +kernel) ?_ dX1_hasGlove_17
      exact ⟨congrArg (fun q => some (Value.int (iI q))) (bI_t (by first | assumption | omega)).symm, rfl⟩
set_option maxHeartbeats 4000000 in
set_option maxRecDepth 100000 in
theorem c_X1_ownOf (l : Launch) (g : GT) (M : Mem) (x : Int) (h : 0 ≤ x ∧ x < 5) : Ctr l g yX1_ownOf wsX1_ownOf ({ frames := 1, cells := 0, slots := 0, locals := 21 } : Room) [.ref (gA g 3), .int (iI x)] M (pI (M 4 x) M) := by
  refine Ctr.mk (cc := cX1_ownOf) (maxL := 2) (ret := some .int) (lv := [(0, .ref (gA g 3)), (1, .int (iI x))]) (by decide) rfl (Nat.le_of_ble_eq_true rfl) rfl ?_
  intro p e s m below meth c C hr hlk hI ls hl
  have C : CallFix p m c cX1_ownOf 2 s ([.ref (gA g 3), .int (iI x)] : List Value).toArray wsX1_ownOf RX1 := C
  have hx := C.1
  have hb := C.2.1
  have hts := C.2.2.2.2
  have hin1 : ∀ w ∈ u_ws RX1 TX1 8, w ∈ wsX1_ownOf := by decide +kernel
  refine lv_aload_n hx hb dX1_ownOf_0 rfl (lv_at hl 0 rfl) ?_
  refine r_get C hI 3 (by decide) rfl rfl hin1 0 (by decide) (fn := "own") (fd := "[I") (index := 9) (by decide +kernel) ⟨rfl, rfl, rfl⟩ (v := .ref (gA g 4)) rfl dX1_ownOf_1 ?_
  refine lv_iload_n hx hb dX1_ownOf_4 rfl (lv_at hl 1 rfl) ?_
  refine r_isn C hI (As := [.ref (gA g 4), .int (iI x)]) (rest := []) (c_X6_at l g M 4 x 5 (by omega) (fun _ => rfl) (by omega) (by omega)) ⟨va_cnB 2 hts gX1_ownOf_X6_at_n62 rfl rfl rfl (hI.2.2.2.2.2.1 (.methodLinkNest RX1 62 yX6_at RX6) (by decide +kernel)) (hts (.initialized RX6) (by decide +kernel)) (by decide +kernel) ⟨Nat.le_of_ble_eq_true rfl, Nat.le_of_ble_eq_true rfl⟩, hts (.static yX6_at) (by decide +kernel), trivial⟩ rfl hl.1 rfl (Nat.le_of_ble_eq_true rfl) dX1_ownOf_5 ⟨Nat.zero_le _, Nat.zero_le _⟩ (k_I (fun H locs hI => ?_))
  refine r_iret C hr hlk hI ?_ dX1_ownOf_8
  exact ⟨congrArg (fun q => some (Value.int (iI q))) (show M 4 x = M 4 x from by first | rfl | omega), rfl⟩
set_option maxHeartbeats 4000000 in
set_option maxRecDepth 100000 in
theorem c_X1_dearTo (l : Launch) (g : GT) (M : Mem) (x : Int) (h : 0 ≤ x ∧ x < 5) : Ctr l g yX1_dearTo wsX1_dearTo ({ frames := 1, cells := 0, slots := 0, locals := 21 } : Room) [.ref (gA g 3), .int (iI x)] M (pI (M 5 x) M) := by
  refine Ctr.mk (cc := cX1_dearTo) (maxL := 2) (ret := some .int) (lv := [(0, .ref (gA g 3)), (1, .int (iI x))]) (by decide) rfl (Nat.le_of_ble_eq_true rfl) rfl ?_
  intro p e s m below meth c C hr hlk hI ls hl
  have C : CallFix p m c cX1_dearTo 2 s ([.ref (gA g 3), .int (iI x)] : List Value).toArray wsX1_dearTo RX1 := C
  have hx := C.1
  have hb := C.2.1
  have hts := C.2.2.2.2
  have hin1 : ∀ w ∈ u_ws RX1 TX1 8, w ∈ wsX1_dearTo := by decide +kernel
  refine lv_aload_n hx hb dX1_dearTo_0 rfl (lv_at hl 0 rfl) ?_
  refine r_get C hI 3 (by decide) rfl rfl hin1 1 (by decide) (fn := "dear") (fd := "[I") (index := 15) (by decide +kernel) ⟨rfl, rfl, rfl⟩ (v := .ref (gA g 5)) rfl dX1_dearTo_1 ?_
  refine lv_iload_n hx hb dX1_dearTo_4 rfl (lv_at hl 1 rfl) ?_
  refine r_isn C hI (As := [.ref (gA g 5), .int (iI x)]) (rest := []) (c_X6_at l g M 5 x 5 (by omega) (fun _ => rfl) (by omega) (by omega)) ⟨va_cnB 2 hts gX1_dearTo_X6_at_n62 rfl rfl rfl (hI.2.2.2.2.2.1 (.methodLinkNest RX1 62 yX6_at RX6) (by decide +kernel)) (hts (.initialized RX6) (by decide +kernel)) (by decide +kernel) ⟨Nat.le_of_ble_eq_true rfl, Nat.le_of_ble_eq_true rfl⟩, hts (.static yX6_at) (by decide +kernel), trivial⟩ rfl hl.1 rfl (Nat.le_of_ble_eq_true rfl) dX1_dearTo_5 ⟨Nat.zero_le _, Nat.zero_le _⟩ (k_I (fun H locs hI => ?_))
  refine r_iret C hr hlk hI ?_ dX1_dearTo_8
  exact ⟨congrArg (fun q => some (Value.int (iI q))) (show M 5 x = M 5 x from by first | rfl | omega), rfl⟩
set_option maxHeartbeats 4000000 in
set_option maxRecDepth 100000 in
theorem c_X1_worthTo (l : Launch) (g : GT) (M : Mem) (x : Int) (h : 0 ≤ x ∧ x < 5) : Ctr l g yX1_worthTo wsX1_worthTo ({ frames := 1, cells := 0, slots := 0, locals := 21 } : Room) [.ref (gA g 3), .int (iI x)] M (pI (M 6 x) M) := by
  refine Ctr.mk (cc := cX1_worthTo) (maxL := 2) (ret := some .int) (lv := [(0, .ref (gA g 3)), (1, .int (iI x))]) (by decide) rfl (Nat.le_of_ble_eq_true rfl) rfl ?_
  intro p e s m below meth c C hr hlk hI ls hl
  have C : CallFix p m c cX1_worthTo 2 s ([.ref (gA g 3), .int (iI x)] : List Value).toArray wsX1_worthTo RX1 := C
  have hx := C.1
  have hb := C.2.1
  have hts := C.2.2.2.2
  have hin1 : ∀ w ∈ u_ws RX1 TX1 8, w ∈ wsX1_worthTo := by decide +kernel
  refine lv_aload_n hx hb dX1_worthTo_0 rfl (lv_at hl 0 rfl) ?_
  refine r_get C hI 3 (by decide) rfl rfl hin1 2 (by decide) (fn := "worth") (fd := "[I") (index := 18) (by decide +kernel) ⟨rfl, rfl, rfl⟩ (v := .ref (gA g 6)) rfl dX1_worthTo_1 ?_
  refine lv_iload_n hx hb dX1_worthTo_4 rfl (lv_at hl 1 rfl) ?_
  refine r_isn C hI (As := [.ref (gA g 6), .int (iI x)]) (rest := []) (c_X6_at l g M 6 x 5 (by omega) (fun _ => rfl) (by omega) (by omega)) ⟨va_cnB 2 hts gX1_worthTo_X6_at_n62 rfl rfl rfl (hI.2.2.2.2.2.1 (.methodLinkNest RX1 62 yX6_at RX6) (by decide +kernel)) (hts (.initialized RX6) (by decide +kernel)) (by decide +kernel) ⟨Nat.le_of_ble_eq_true rfl, Nat.le_of_ble_eq_true rfl⟩, hts (.static yX6_at) (by decide +kernel), trivial⟩ rfl hl.1 rfl (Nat.le_of_ble_eq_true rfl) dX1_worthTo_5 ⟨Nat.zero_le _, Nat.zero_le _⟩ (k_I (fun H locs hI => ?_))
  refine r_iret C hr hlk hI ?_ dX1_worthTo_8
  exact ⟨congrArg (fun q => some (Value.int (iI q))) (show M 6 x = M 6 x from by first | rfl | omega), rfl⟩
set_option maxHeartbeats 4000000 in
set_option maxRecDepth 100000 in
theorem c_X1_roomOf (l : Launch) (g : GT) (M : Mem) (x : Int) (h : 0 ≤ x ∧ x < 4) : Ctr l g yX1_roomOf wsX1_roomOf ({ frames := 1, cells := 0, slots := 0, locals := 21 } : Room) [.ref (gA g 3), .int (iI x)] M (pI (M 7 x) M) := by
  refine Ctr.mk (cc := cX1_roomOf) (maxL := 2) (ret := some .int) (lv := [(0, .ref (gA g 3)), (1, .int (iI x))]) (by decide) rfl (Nat.le_of_ble_eq_true rfl) rfl ?_
  intro p e s m below meth c C hr hlk hI ls hl
  have C : CallFix p m c cX1_roomOf 2 s ([.ref (gA g 3), .int (iI x)] : List Value).toArray wsX1_roomOf RX1 := C
  have hx := C.1
  have hb := C.2.1
  have hts := C.2.2.2.2
  have hin1 : ∀ w ∈ u_ws RX1 TX1 8, w ∈ wsX1_roomOf := by decide +kernel
  refine lv_aload_n hx hb dX1_roomOf_0 rfl (lv_at hl 0 rfl) ?_
  refine r_get C hI 3 (by decide) rfl rfl hin1 3 (by decide) (fn := "room") (fd := "[I") (index := 21) (by decide +kernel) ⟨rfl, rfl, rfl⟩ (v := .ref (gA g 7)) rfl dX1_roomOf_1 ?_
  refine lv_iload_n hx hb dX1_roomOf_4 rfl (lv_at hl 1 rfl) ?_
  refine r_isn C hI (As := [.ref (gA g 7), .int (iI x)]) (rest := []) (c_X6_at l g M 7 x 4 (by omega) (fun _ => rfl) (by omega) (by omega)) ⟨va_cnB 2 hts gX1_roomOf_X6_at_n62 rfl rfl rfl (hI.2.2.2.2.2.1 (.methodLinkNest RX1 62 yX6_at RX6) (by decide +kernel)) (hts (.initialized RX6) (by decide +kernel)) (by decide +kernel) ⟨Nat.le_of_ble_eq_true rfl, Nat.le_of_ble_eq_true rfl⟩, hts (.static yX6_at) (by decide +kernel), trivial⟩ rfl hl.1 rfl (Nat.le_of_ble_eq_true rfl) dX1_roomOf_5 ⟨Nat.zero_le _, Nat.zero_le _⟩ (k_I (fun H locs hI => ?_))
  refine r_iret C hr hlk hI ?_ dX1_roomOf_8
  exact ⟨congrArg (fun q => some (Value.int (iI q))) (show M 7 x = M 7 x from by first | rfl | omega), rfl⟩
set_option maxHeartbeats 4000000 in
set_option maxRecDepth 100000 in
theorem c_X1_kindOf (l : Launch) (g : GT) (M : Mem) (x : Int) (h : 0 ≤ x ∧ x < 4) : Ctr l g yX1_kindOf wsX1_kindOf ({ frames := 1, cells := 0, slots := 0, locals := 21 } : Room) [.ref (gA g 3), .int (iI x)] M (pI (M 8 x) M) := by
  refine Ctr.mk (cc := cX1_kindOf) (maxL := 2) (ret := some .int) (lv := [(0, .ref (gA g 3)), (1, .int (iI x))]) (by decide) rfl (Nat.le_of_ble_eq_true rfl) rfl ?_
  intro p e s m below meth c C hr hlk hI ls hl
  have C : CallFix p m c cX1_kindOf 2 s ([.ref (gA g 3), .int (iI x)] : List Value).toArray wsX1_kindOf RX1 := C
  have hx := C.1
  have hb := C.2.1
  have hts := C.2.2.2.2
  have hin1 : ∀ w ∈ u_ws RX1 TX1 8, w ∈ wsX1_kindOf := by decide +kernel
  refine lv_aload_n hx hb dX1_kindOf_0 rfl (lv_at hl 0 rfl) ?_
  refine r_get C hI 3 (by decide) rfl rfl hin1 4 (by decide) (fn := "kind") (fd := "[I") (index := 24) (by decide +kernel) ⟨rfl, rfl, rfl⟩ (v := .ref (gA g 8)) rfl dX1_kindOf_1 ?_
  refine lv_iload_n hx hb dX1_kindOf_4 rfl (lv_at hl 1 rfl) ?_
  refine r_isn C hI (As := [.ref (gA g 8), .int (iI x)]) (rest := []) (c_X6_at l g M 8 x 4 (by omega) (fun _ => rfl) (by omega) (by omega)) ⟨va_cnB 2 hts gX1_kindOf_X6_at_n62 rfl rfl rfl (hI.2.2.2.2.2.1 (.methodLinkNest RX1 62 yX6_at RX6) (by decide +kernel)) (hts (.initialized RX6) (by decide +kernel)) (by decide +kernel) ⟨Nat.le_of_ble_eq_true rfl, Nat.le_of_ble_eq_true rfl⟩, hts (.static yX6_at) (by decide +kernel), trivial⟩ rfl hl.1 rfl (Nat.le_of_ble_eq_true rfl) dX1_kindOf_5 ⟨Nat.zero_le _, Nat.zero_le _⟩ (k_I (fun H locs hI => ?_))
  refine r_iret C hr hlk hI ?_ dX1_kindOf_8
  exact ⟨congrArg (fun q => some (Value.int (iI q))) (show M 8 x = M 8 x from by first | rfl | omega), rfl⟩
set_option maxHeartbeats 4000000 in
set_option maxRecDepth 100000 in
theorem c_X1_toldOf (l : Launch) (g : GT) (M : Mem) (x : Int) (h : 0 ≤ x ∧ x < 4) (hG : -2147483648 ≤ M 3 7 ∧ M 3 7 < 2147483648) : Ctr l g yX1_toldOf wsX1_toldOf ({ frames := 1, cells := 0, slots := 0, locals := 21 } : Room) [.ref (gA g 3), .int (iI x)] M (pI (tldO (M) x) M) := by
  refine Ctr.mk (cc := cX1_toldOf) (maxL := 2) (ret := some .int) (lv := [(0, .ref (gA g 3)), (1, .int (iI x))]) (by decide) rfl (Nat.le_of_ble_eq_true rfl) rfl ?_
  intro p e s m below meth c C hr hlk hI ls hl
  have C : CallFix p m c cX1_toldOf 2 s ([.ref (gA g 3), .int (iI x)] : List Value).toArray wsX1_toldOf RX1 := C
  have hx := C.1
  have hb := C.2.1
  have hts := C.2.2.2.2
  have hin1 : ∀ w ∈ u_ws RX1 TX1 8, w ∈ wsX1_toldOf := by decide +kernel
  refine lv_aload_n hx hb dX1_toldOf_0 rfl (lv_at hl 0 rfl) ?_
  refine lv_iload_n hx hb dX1_toldOf_1 rfl (lv_at hl 1 rfl) ?_
  refine r_iv C hI (As := [.int (iI x)]) (rest := []) (c_X1_hasGlove l g M x (by omega) (show -2147483648 ≤ (M 3 7) ∧ (M 3 7) < 2147483648 from by omega)) (cwV 1 hts gX1_toldOf_X1_hasGlove rfl rfl rfl (by decide +kernel) ⟨Nat.le_of_ble_eq_true rfl, Nat.le_of_ble_eq_true rfl⟩) (by decide) rfl rfl rfl hl.1 rfl (Nat.le_of_ble_eq_true rfl) dX1_toldOf_2 ⟨Nat.zero_le _, Nat.zero_le _⟩ (k_I (fun H locs hI => ?_))
  refine r_b_eq hx hb (tgt := 19) dX1_toldOf_5 (by decide) (fun c_1 => ?_) (fun c_1 => ?_)
  · refine lv_iconst (v := iI 0) hx hb dX1_toldOf_19 rfl ?_
    refine r_iret C hr hlk hI ?_ dX1_toldOf_20
    exact ⟨congrArg (fun q => some (Value.int (iI q))) (show 0 = tldO (M) x from by unfold tldO; split <;> omega), rfl⟩
  · refine lv_aload_n hx hb dX1_toldOf_8 rfl (lv_at hl 0 rfl) ?_
    refine r_get C hI 3 (by decide) rfl rfl hin1 5 (by decide) (fn := "told") (fd := "[I") (index := 27) (by decide +kernel) ⟨rfl, rfl, rfl⟩ (v := .ref (gA g 9)) rfl dX1_toldOf_9 ?_
    refine lv_iload_n hx hb dX1_toldOf_12 rfl (lv_at hl 1 rfl) ?_
    refine r_isn C hI (As := [.ref (gA g 9), .int (iI x)]) (rest := []) (c_X6_at l g M 9 x 4 (by omega) (fun _ => rfl) (by omega) (by omega)) ⟨va_cnB 2 hts gX1_toldOf_X6_at_n62 rfl rfl rfl (hI.2.2.2.2.2.1 (.methodLinkNest RX1 62 yX6_at RX6) (by decide +kernel)) (hts (.initialized RX6) (by decide +kernel)) (by decide +kernel) ⟨Nat.le_of_ble_eq_true rfl, Nat.le_of_ble_eq_true rfl⟩, hts (.static yX6_at) (by decide +kernel), trivial⟩ rfl hl.1 rfl (Nat.le_of_ble_eq_true rfl) dX1_toldOf_13 ⟨Nat.zero_le _, Nat.zero_le _⟩ (k_I (fun H locs hI => ?_))
    refine lv_goto (tgt := 20) hx hb dX1_toldOf_16 (by decide) ?_
    refine r_iret C hr hlk hI ?_ dX1_toldOf_20
    exact ⟨congrArg (fun q => some (Value.int (iI q))) (show M 9 x = tldO (M) x from by unfold tldO; split <;> omega), rfl⟩
set_option maxHeartbeats 4000000 in
set_option maxRecDepth 100000 in
theorem c_X1_addPerson (l : Launch) (g : GT) (M : Mem) (t : Int) (h : 0 ≤ M 3 6 ∧ M 3 6 < 5) (ht : 0 ≤ t ∧ t + 3 < 40) : Ctr l g yX1_addPerson wsX1_addPerson ({ frames := 2, cells := 0, slots := 0, locals := 42 } : Room) [.ref (gA g 3), .ref (gA g 1), .int (iI t)] M (pV (adP M t)) := by
  refine Ctr.mk (cc := cX1_addPerson) (maxL := 3) (ret := none) (lv := [(0, .ref (gA g 3)), (1, .ref (gA g 1)), (2, .int (iI t))]) (by decide) rfl (Nat.le_of_ble_eq_true rfl) rfl ?_
  intro p e s m below meth c C hr hlk hI ls hl
  have C : CallFix p m c cX1_addPerson 3 s ([.ref (gA g 3), .ref (gA g 1), .int (iI t)] : List Value).toArray wsX1_addPerson RX1 := C
  have hx := C.1
  have hb := C.2.1
  have hts := C.2.2.2.2
  have hin1 : ∀ w ∈ u_ws RX1 TX1 8, w ∈ wsX1_addPerson := by decide +kernel
  refine lv_aload_n hx hb dX1_addPerson_0 rfl (lv_at hl 0 rfl) ?_
  refine r_get C hI 3 (by decide) rfl rfl hin1 6 (by decide) (fn := "personCount") (fd := "I") (index := 30) (by decide +kernel) ⟨rfl, rfl, rfl⟩ (v := .int (iI (M 3 6))) rfl dX1_addPerson_1 ?_
  refine lv_iconst (v := iI 5) hx hb dX1_addPerson_4 rfl ?_
  refine r_icmp_ge hx hb (tgt := 72) (by omega) (by decide) dX1_addPerson_5 (by decide) (fun c_1 => ?_) (fun c_1 => ?_)
  · refine r_vret C hr hlk hI ?_ dX1_addPerson_72
    exact ⟨rfl, (show M = adP M t from by first | rfl | (exfalso; omega))⟩
  · refine lv_aload_n hx hb dX1_addPerson_8 rfl (lv_at hl 0 rfl) ?_
    refine r_get C hI 3 (by decide) rfl rfl hin1 0 (by decide) (fn := "own") (fd := "[I") (index := 9) (by decide +kernel) ⟨rfl, rfl, rfl⟩ (v := .ref (gA g 4)) rfl dX1_addPerson_9 ?_
    refine lv_aload_n hx hb dX1_addPerson_12 rfl (lv_at hl 0 rfl) ?_
    refine r_get C hI 3 (by decide) rfl rfl hin1 6 (by decide) (fn := "personCount") (fd := "I") (index := 30) (by decide +kernel) ⟨rfl, rfl, rfl⟩ (v := .int (iI (M 3 6))) rfl dX1_addPerson_13 ?_
    refine lv_aload_n hx hb dX1_addPerson_16 rfl (lv_at hl 1 rfl) ?_
    refine lv_iload_n hx hb dX1_addPerson_17 rfl (lv_at hl 2 rfl) ?_
    refine lv_iconst (v := iI 1) hx hb dX1_addPerson_18 rfl ?_
    refine r_iadd hx hb dX1_addPerson_19 ?_
    refine r_iv C hI (As := [.int (iI (t + 1))]) (rest := [.int (iI (M 3 6)), .ref (gA g 4)]) (c_X5_figureAt l g M (t + 1) (by omega)) (cwV 1 hts gX1_addPerson_X5_figureAt rfl rfl rfl (by decide +kernel) ⟨Nat.le_of_ble_eq_true rfl, Nat.le_of_ble_eq_true rfl⟩) (by decide) rfl rfl rfl hl.1 rfl (Nat.le_of_ble_eq_true rfl) dX1_addPerson_20 ⟨Nat.zero_le _, Nat.zero_le _⟩ (k_I (fun H locs hI => ?_))
    refine r_isn C hI (As := [.ref (gA g 4), .int (iI (M 3 6)), .int (iI ((M 2 (t + 1)) - 48))]) (rest := []) (c_X6_put l g M 4 (M 3 6) ((M 2 (t + 1)) - 48) 5 (by omega) (fun _ => rfl) (by omega) (by omega)) ⟨va_cnB 3 hts gX1_addPerson_X6_put_n58 rfl rfl rfl (hI.2.2.2.2.2.1 (.methodLinkNest RX1 58 yX6_put RX6) (by decide +kernel)) (hts (.initialized RX6) (by decide +kernel)) (by decide +kernel) ⟨Nat.le_of_ble_eq_true rfl, Nat.le_of_ble_eq_true rfl⟩, hts (.static yX6_put) (by decide +kernel), trivial⟩ rfl hl.1 rfl (Nat.le_of_ble_eq_true rfl) dX1_addPerson_23 ⟨Nat.zero_le _, Nat.zero_le _⟩ (k_V (fun H locs hI => ?_))
    refine lv_aload_n hx hb dX1_addPerson_26 rfl (lv_at hl 0 rfl) ?_
    refine r_get C hI 3 (by decide) rfl rfl hin1 1 (by decide) (fn := "dear") (fd := "[I") (index := 15) (by decide +kernel) ⟨rfl, rfl, rfl⟩ (v := .ref (gA g 5)) rfl dX1_addPerson_27 ?_
    refine lv_aload_n hx hb dX1_addPerson_30 rfl (lv_at hl 0 rfl) ?_
    refine r_get C hI 3 (by decide) rfl rfl hin1 6 (by decide) (fn := "personCount") (fd := "I") (index := 30) (by decide +kernel) ⟨rfl, rfl, rfl⟩ (v := .int (iI (M 3 6))) rfl dX1_addPerson_31 ?_
    refine lv_aload_n hx hb dX1_addPerson_34 rfl (lv_at hl 1 rfl) ?_
    refine lv_iload_n hx hb dX1_addPerson_35 rfl (lv_at hl 2 rfl) ?_
    refine lv_iconst (v := iI 2) hx hb dX1_addPerson_36 rfl ?_
    refine r_iadd hx hb dX1_addPerson_37 ?_
    refine r_iv C hI (As := [.int (iI (t + 2))]) (rest := [.int (iI (M 3 6)), .ref (gA g 5)]) (c_X5_figureAt l g (mset M 4 (M 3 6) ((M 2 (t + 1)) - 48)) (t + 2) (by omega)) (cwV 1 hts gX1_addPerson_X5_figureAt rfl rfl rfl (by decide +kernel) ⟨Nat.le_of_ble_eq_true rfl, Nat.le_of_ble_eq_true rfl⟩) (by decide) rfl rfl rfl hl.1 rfl (Nat.le_of_ble_eq_true rfl) dX1_addPerson_38 ⟨Nat.zero_le _, Nat.zero_le _⟩ (k_I (fun H locs hI => ?_))
    refine r_eqI (z2 := (M 2 (t + 2)) - 48) rfl ?_
    refine r_isn C hI (As := [.ref (gA g 5), .int (iI (M 3 6)), .int (iI ((M 2 (t + 2)) - 48))]) (rest := []) (c_X6_put l g (mset M 4 (M 3 6) ((M 2 (t + 1)) - 48)) 5 (M 3 6) ((M 2 (t + 2)) - 48) 5 (by omega) (fun _ => rfl) (by omega) (by omega)) ⟨va_cnB 3 hts gX1_addPerson_X6_put_n58 rfl rfl rfl (hI.2.2.2.2.2.1 (.methodLinkNest RX1 58 yX6_put RX6) (by decide +kernel)) (hts (.initialized RX6) (by decide +kernel)) (by decide +kernel) ⟨Nat.le_of_ble_eq_true rfl, Nat.le_of_ble_eq_true rfl⟩, hts (.static yX6_put) (by decide +kernel), trivial⟩ rfl hl.1 rfl (Nat.le_of_ble_eq_true rfl) dX1_addPerson_41 ⟨Nat.zero_le _, Nat.zero_le _⟩ (k_V (fun H locs hI => ?_))
    refine lv_aload_n hx hb dX1_addPerson_44 rfl (lv_at hl 0 rfl) ?_
    refine r_get C hI 3 (by decide) rfl rfl hin1 2 (by decide) (fn := "worth") (fd := "[I") (index := 18) (by decide +kernel) ⟨rfl, rfl, rfl⟩ (v := .ref (gA g 6)) rfl dX1_addPerson_45 ?_
    refine lv_aload_n hx hb dX1_addPerson_48 rfl (lv_at hl 0 rfl) ?_
    refine r_get C hI 3 (by decide) rfl rfl hin1 6 (by decide) (fn := "personCount") (fd := "I") (index := 30) (by decide +kernel) ⟨rfl, rfl, rfl⟩ (v := .int (iI (M 3 6))) rfl dX1_addPerson_49 ?_
    refine lv_aload_n hx hb dX1_addPerson_52 rfl (lv_at hl 1 rfl) ?_
    refine lv_iload_n hx hb dX1_addPerson_53 rfl (lv_at hl 2 rfl) ?_
    refine lv_iconst (v := iI 3) hx hb dX1_addPerson_54 rfl ?_
    refine r_iadd hx hb dX1_addPerson_55 ?_
    refine r_iv C hI (As := [.int (iI (t + 3))]) (rest := [.int (iI (M 3 6)), .ref (gA g 6)]) (c_X5_figureAt l g (mset (mset M 4 (M 3 6) ((M 2 (t + 1)) - 48)) 5 (M 3 6) ((M 2 (t + 2)) - 48)) (t + 3) (by omega)) (cwV 1 hts gX1_addPerson_X5_figureAt rfl rfl rfl (by decide +kernel) ⟨Nat.le_of_ble_eq_true rfl, Nat.le_of_ble_eq_true rfl⟩) (by decide) rfl rfl rfl hl.1 rfl (Nat.le_of_ble_eq_true rfl) dX1_addPerson_56 ⟨Nat.zero_le _, Nat.zero_le _⟩ (k_I (fun H locs hI => ?_))
    refine r_eqI (z2 := (M 2 (t + 3)) - 48) rfl ?_
    refine r_isn C hI (As := [.ref (gA g 6), .int (iI (M 3 6)), .int (iI ((M 2 (t + 3)) - 48))]) (rest := []) (c_X6_put l g (mset (mset M 4 (M 3 6) ((M 2 (t + 1)) - 48)) 5 (M 3 6) ((M 2 (t + 2)) - 48)) 6 (M 3 6) ((M 2 (t + 3)) - 48) 5 (by omega) (fun _ => rfl) (by omega) (by omega)) ⟨va_cnB 3 hts gX1_addPerson_X6_put_n58 rfl rfl rfl (hI.2.2.2.2.2.1 (.methodLinkNest RX1 58 yX6_put RX6) (by decide +kernel)) (hts (.initialized RX6) (by decide +kernel)) (by decide +kernel) ⟨Nat.le_of_ble_eq_true rfl, Nat.le_of_ble_eq_true rfl⟩, hts (.static yX6_put) (by decide +kernel), trivial⟩ rfl hl.1 rfl (Nat.le_of_ble_eq_true rfl) dX1_addPerson_59 ⟨Nat.zero_le _, Nat.zero_le _⟩ (k_V (fun H locs hI => ?_))
    refine lv_aload_n hx hb dX1_addPerson_62 rfl (lv_at hl 0 rfl) ?_
    refine lv_dup hx hb dX1_addPerson_63 rfl ?_
    refine r_get C hI 3 (by decide) rfl rfl hin1 6 (by decide) (fn := "personCount") (fd := "I") (index := 30) (by decide +kernel) ⟨rfl, rfl, rfl⟩ (v := .int (iI (M 3 6))) rfl dX1_addPerson_64 ?_
    refine lv_iconst (v := iI 1) hx hb dX1_addPerson_67 rfl ?_
    refine r_iadd hx hb dX1_addPerson_68 ?_
    refine r_put C hI 3 (by decide) rfl rfl tyX1 tyX1_ok nmX1 hin1 6 (by decide) (fn := "personCount") (fd := "I") (index := 30) (by decide +kernel) ⟨rfl, rfl, rfl⟩ rfl (z := (M 3 6) + 1) rfl rfl (Nat.le_of_ble_eq_true rfl) rfl dX1_addPerson_69 (fun H locs hI => ?_)
    refine r_vret C hr hlk hI ?_ dX1_addPerson_72
    exact ⟨rfl, (show mset (mset (mset (mset M 4 (M 3 6) ((M 2 (t + 1)) - 48)) 5 (M 3 6) ((M 2 (t + 2)) - 48)) 6 (M 3 6) ((M 2 (t + 3)) - 48)) 3 6 ((M 3 6) + 1) = adP M t from by first | rfl | (exfalso; omega))⟩
set_option maxHeartbeats 4000000 in
set_option maxRecDepth 100000 in
theorem c_X1_addGlove (l : Launch) (g : GT) (M : Mem) (t : Int) (h : 0 ≤ M 3 7 ∧ M 3 7 < 4) (ht : 0 ≤ t ∧ t + 3 < 40) : Ctr l g yX1_addGlove wsX1_addGlove ({ frames := 2, cells := 0, slots := 0, locals := 42 } : Room) [.ref (gA g 3), .ref (gA g 1), .int (iI t)] M (pV (adG M t)) := by
  refine Ctr.mk (cc := cX1_addGlove) (maxL := 3) (ret := none) (lv := [(0, .ref (gA g 3)), (1, .ref (gA g 1)), (2, .int (iI t))]) (by decide) rfl (Nat.le_of_ble_eq_true rfl) rfl ?_
  intro p e s m below meth c C hr hlk hI ls hl
  have C : CallFix p m c cX1_addGlove 3 s ([.ref (gA g 3), .ref (gA g 1), .int (iI t)] : List Value).toArray wsX1_addGlove RX1 := C
  have hx := C.1
  have hb := C.2.1
  have hts := C.2.2.2.2
  have hin1 : ∀ w ∈ u_ws RX1 TX1 8, w ∈ wsX1_addGlove := by decide +kernel
  refine lv_aload_n hx hb dX1_addGlove_0 rfl (lv_at hl 0 rfl) ?_
  refine r_get C hI 3 (by decide) rfl rfl hin1 7 (by decide) (fn := "gloveCount") (fd := "I") (index := 34) (by decide +kernel) ⟨rfl, rfl, rfl⟩ (v := .int (iI (M 3 7))) rfl dX1_addGlove_1 ?_
  refine lv_iconst (v := iI 4) hx hb dX1_addGlove_4 rfl ?_
  refine r_icmp_ge hx hb (tgt := 72) (by omega) (by decide) dX1_addGlove_5 (by decide) (fun c_1 => ?_) (fun c_1 => ?_)
  · refine r_vret C hr hlk hI ?_ dX1_addGlove_72
    exact ⟨rfl, (show M = adG M t from by first | rfl | (exfalso; omega))⟩
  · refine lv_aload_n hx hb dX1_addGlove_8 rfl (lv_at hl 0 rfl) ?_
    refine r_get C hI 3 (by decide) rfl rfl hin1 3 (by decide) (fn := "room") (fd := "[I") (index := 21) (by decide +kernel) ⟨rfl, rfl, rfl⟩ (v := .ref (gA g 7)) rfl dX1_addGlove_9 ?_
    refine lv_aload_n hx hb dX1_addGlove_12 rfl (lv_at hl 0 rfl) ?_
    refine r_get C hI 3 (by decide) rfl rfl hin1 7 (by decide) (fn := "gloveCount") (fd := "I") (index := 34) (by decide +kernel) ⟨rfl, rfl, rfl⟩ (v := .int (iI (M 3 7))) rfl dX1_addGlove_13 ?_
    refine lv_aload_n hx hb dX1_addGlove_16 rfl (lv_at hl 1 rfl) ?_
    refine lv_iload_n hx hb dX1_addGlove_17 rfl (lv_at hl 2 rfl) ?_
    refine lv_iconst (v := iI 1) hx hb dX1_addGlove_18 rfl ?_
    refine r_iadd hx hb dX1_addGlove_19 ?_
    refine r_iv C hI (As := [.int (iI (t + 1))]) (rest := [.int (iI (M 3 7)), .ref (gA g 7)]) (c_X5_figureAt l g M (t + 1) (by omega)) (cwV 1 hts gX1_addGlove_X5_figureAt rfl rfl rfl (by decide +kernel) ⟨Nat.le_of_ble_eq_true rfl, Nat.le_of_ble_eq_true rfl⟩) (by decide) rfl rfl rfl hl.1 rfl (Nat.le_of_ble_eq_true rfl) dX1_addGlove_20 ⟨Nat.zero_le _, Nat.zero_le _⟩ (k_I (fun H locs hI => ?_))
    refine r_isn C hI (As := [.ref (gA g 7), .int (iI (M 3 7)), .int (iI ((M 2 (t + 1)) - 48))]) (rest := []) (c_X6_put l g M 7 (M 3 7) ((M 2 (t + 1)) - 48) 4 (by omega) (fun _ => rfl) (by omega) (by omega)) ⟨va_cnB 3 hts gX1_addGlove_X6_put_n58 rfl rfl rfl (hI.2.2.2.2.2.1 (.methodLinkNest RX1 58 yX6_put RX6) (by decide +kernel)) (hts (.initialized RX6) (by decide +kernel)) (by decide +kernel) ⟨Nat.le_of_ble_eq_true rfl, Nat.le_of_ble_eq_true rfl⟩, hts (.static yX6_put) (by decide +kernel), trivial⟩ rfl hl.1 rfl (Nat.le_of_ble_eq_true rfl) dX1_addGlove_23 ⟨Nat.zero_le _, Nat.zero_le _⟩ (k_V (fun H locs hI => ?_))
    refine lv_aload_n hx hb dX1_addGlove_26 rfl (lv_at hl 0 rfl) ?_
    refine r_get C hI 3 (by decide) rfl rfl hin1 4 (by decide) (fn := "kind") (fd := "[I") (index := 24) (by decide +kernel) ⟨rfl, rfl, rfl⟩ (v := .ref (gA g 8)) rfl dX1_addGlove_27 ?_
    refine lv_aload_n hx hb dX1_addGlove_30 rfl (lv_at hl 0 rfl) ?_
    refine r_get C hI 3 (by decide) rfl rfl hin1 7 (by decide) (fn := "gloveCount") (fd := "I") (index := 34) (by decide +kernel) ⟨rfl, rfl, rfl⟩ (v := .int (iI (M 3 7))) rfl dX1_addGlove_31 ?_
    refine lv_aload_n hx hb dX1_addGlove_34 rfl (lv_at hl 1 rfl) ?_
    refine lv_iload_n hx hb dX1_addGlove_35 rfl (lv_at hl 2 rfl) ?_
    refine lv_iconst (v := iI 2) hx hb dX1_addGlove_36 rfl ?_
    refine r_iadd hx hb dX1_addGlove_37 ?_
    refine r_iv C hI (As := [.int (iI (t + 2))]) (rest := [.int (iI (M 3 7)), .ref (gA g 8)]) (c_X5_figureAt l g (mset M 7 (M 3 7) ((M 2 (t + 1)) - 48)) (t + 2) (by omega)) (cwV 1 hts gX1_addGlove_X5_figureAt rfl rfl rfl (by decide +kernel) ⟨Nat.le_of_ble_eq_true rfl, Nat.le_of_ble_eq_true rfl⟩) (by decide) rfl rfl rfl hl.1 rfl (Nat.le_of_ble_eq_true rfl) dX1_addGlove_38 ⟨Nat.zero_le _, Nat.zero_le _⟩ (k_I (fun H locs hI => ?_))
    refine r_eqI (z2 := (M 2 (t + 2)) - 48) rfl ?_
    refine r_isn C hI (As := [.ref (gA g 8), .int (iI (M 3 7)), .int (iI ((M 2 (t + 2)) - 48))]) (rest := []) (c_X6_put l g (mset M 7 (M 3 7) ((M 2 (t + 1)) - 48)) 8 (M 3 7) ((M 2 (t + 2)) - 48) 4 (by omega) (fun _ => rfl) (by omega) (by omega)) ⟨va_cnB 3 hts gX1_addGlove_X6_put_n58 rfl rfl rfl (hI.2.2.2.2.2.1 (.methodLinkNest RX1 58 yX6_put RX6) (by decide +kernel)) (hts (.initialized RX6) (by decide +kernel)) (by decide +kernel) ⟨Nat.le_of_ble_eq_true rfl, Nat.le_of_ble_eq_true rfl⟩, hts (.static yX6_put) (by decide +kernel), trivial⟩ rfl hl.1 rfl (Nat.le_of_ble_eq_true rfl) dX1_addGlove_41 ⟨Nat.zero_le _, Nat.zero_le _⟩ (k_V (fun H locs hI => ?_))
    refine lv_aload_n hx hb dX1_addGlove_44 rfl (lv_at hl 0 rfl) ?_
    refine r_get C hI 3 (by decide) rfl rfl hin1 5 (by decide) (fn := "told") (fd := "[I") (index := 27) (by decide +kernel) ⟨rfl, rfl, rfl⟩ (v := .ref (gA g 9)) rfl dX1_addGlove_45 ?_
    refine lv_aload_n hx hb dX1_addGlove_48 rfl (lv_at hl 0 rfl) ?_
    refine r_get C hI 3 (by decide) rfl rfl hin1 7 (by decide) (fn := "gloveCount") (fd := "I") (index := 34) (by decide +kernel) ⟨rfl, rfl, rfl⟩ (v := .int (iI (M 3 7))) rfl dX1_addGlove_49 ?_
    refine lv_aload_n hx hb dX1_addGlove_52 rfl (lv_at hl 1 rfl) ?_
    refine lv_iload_n hx hb dX1_addGlove_53 rfl (lv_at hl 2 rfl) ?_
    refine lv_iconst (v := iI 3) hx hb dX1_addGlove_54 rfl ?_
    refine r_iadd hx hb dX1_addGlove_55 ?_
    refine r_iv C hI (As := [.int (iI (t + 3))]) (rest := [.int (iI (M 3 7)), .ref (gA g 9)]) (c_X5_figureAt l g (mset (mset M 7 (M 3 7) ((M 2 (t + 1)) - 48)) 8 (M 3 7) ((M 2 (t + 2)) - 48)) (t + 3) (by omega)) (cwV 1 hts gX1_addGlove_X5_figureAt rfl rfl rfl (by decide +kernel) ⟨Nat.le_of_ble_eq_true rfl, Nat.le_of_ble_eq_true rfl⟩) (by decide) rfl rfl rfl hl.1 rfl (Nat.le_of_ble_eq_true rfl) dX1_addGlove_56 ⟨Nat.zero_le _, Nat.zero_le _⟩ (k_I (fun H locs hI => ?_))
    refine r_eqI (z2 := (M 2 (t + 3)) - 48) rfl ?_
    refine r_isn C hI (As := [.ref (gA g 9), .int (iI (M 3 7)), .int (iI ((M 2 (t + 3)) - 48))]) (rest := []) (c_X6_put l g (mset (mset M 7 (M 3 7) ((M 2 (t + 1)) - 48)) 8 (M 3 7) ((M 2 (t + 2)) - 48)) 9 (M 3 7) ((M 2 (t + 3)) - 48) 4 (by omega) (fun _ => rfl) (by omega) (by omega)) ⟨va_cnB 3 hts gX1_addGlove_X6_put_n58 rfl rfl rfl (hI.2.2.2.2.2.1 (.methodLinkNest RX1 58 yX6_put RX6) (by decide +kernel)) (hts (.initialized RX6) (by decide +kernel)) (by decide +kernel) ⟨Nat.le_of_ble_eq_true rfl, Nat.le_of_ble_eq_true rfl⟩, hts (.static yX6_put) (by decide +kernel), trivial⟩ rfl hl.1 rfl (Nat.le_of_ble_eq_true rfl) dX1_addGlove_59 ⟨Nat.zero_le _, Nat.zero_le _⟩ (k_V (fun H locs hI => ?_))
    refine lv_aload_n hx hb dX1_addGlove_62 rfl (lv_at hl 0 rfl) ?_
    refine lv_dup hx hb dX1_addGlove_63 rfl ?_
    refine r_get C hI 3 (by decide) rfl rfl hin1 7 (by decide) (fn := "gloveCount") (fd := "I") (index := 34) (by decide +kernel) ⟨rfl, rfl, rfl⟩ (v := .int (iI (M 3 7))) rfl dX1_addGlove_64 ?_
    refine lv_iconst (v := iI 1) hx hb dX1_addGlove_67 rfl ?_
    refine r_iadd hx hb dX1_addGlove_68 ?_
    refine r_put C hI 3 (by decide) rfl rfl tyX1 tyX1_ok nmX1 hin1 7 (by decide) (fn := "gloveCount") (fd := "I") (index := 34) (by decide +kernel) ⟨rfl, rfl, rfl⟩ rfl (z := (M 3 7) + 1) rfl rfl (Nat.le_of_ble_eq_true rfl) rfl dX1_addGlove_69 (fun H locs hI => ?_)
    refine r_vret C hr hlk hI ?_ dX1_addGlove_72
    exact ⟨rfl, (show mset (mset (mset (mset M 7 (M 3 7) ((M 2 (t + 1)) - 48)) 8 (M 3 7) ((M 2 (t + 2)) - 48)) 9 (M 3 7) ((M 2 (t + 3)) - 48)) 3 7 ((M 3 7) + 1) = adG M t from by first | rfl | (exfalso; omega))⟩
set_option maxHeartbeats 4000000 in
set_option maxRecDepth 100000 in
theorem c_X1_isSomeonesOwn (l : Launch) (g : GT) (M : Mem) (d : Int) (hP : 0 ≤ M 3 6 ∧ M 3 6 ≤ 5) (hO : ∀ j : Int, 0 ≤ j ∧ j < M 3 6 → -2147483648 ≤ M 4 j ∧ M 4 j < 2147483648) (hd : -2147483648 ≤ d ∧ d < 2147483648) : Ctr l g yX1_isSomeonesOwn wsX1_isSomeonesOwn ({ frames := 2, cells := 0, slots := 0, locals := 42 } : Room) [.ref (gA g 3), .int (iI d)] M (pI (bI (someB (M 4) d (M 3 6).toNat = true)) M) := by
  refine Ctr.mk (cc := cX1_isSomeonesOwn) (maxL := 3) (ret := some .boolean) (lv := [(0, .ref (gA g 3)), (1, .int (iI d))]) (by decide) rfl (Nat.le_of_ble_eq_true rfl) rfl ?_
  intro p e s m below meth c C hr hlk hI ls hl
  have C : CallFix p m c cX1_isSomeonesOwn 3 s ([.ref (gA g 3), .int (iI d)] : List Value).toArray wsX1_isSomeonesOwn RX1 := C
  have hx := C.1
  have hb := C.2.1
  have hts := C.2.2.2.2
  have hin1 : ∀ w ∈ u_ws RX1 TX1 8, w ∈ wsX1_isSomeonesOwn := by decide +kernel
  refine lv_iconst (v := iI 0) hx hb dX1_isSomeonesOwn_0 rfl ?_
  refine lv_istore_n (lv' := [(2, .int (iI 0)), (0, .ref (gA g 3)), (1, .int (iI d))]) hx hb dX1_isSomeonesOwn_1 rfl hl (by decide) rfl (fun ls hl => ?_)
  have lp2 : ∀ (n2 : Nat) (x : Int) (j : Nat), (x = (j : Int) ∧ (j : Int) ≤ M 3 6) → (someB (M 4) d j = false) → (M 3 6).toNat - j < n2 → ∀ (H : Heap) (locs : List Loc), HI g s H locs M → ∀ ls : Array Slot, lv_has ls 3 [(2, .int (iI x)), (0, .ref (gA g 3)), (1, .int (iI d))] → W p l e ({ frames := 2, cells := 0, slots := 0, locals := 42 } : Room) s m ([.ref (gA g 3), .int (iI d)] : List Value).toArray below meth c H locs 0 0 (MQ below (QV g (pI (bI (someB (M 4) d (M 3 6).toNat = true)) M)) ([.ref (gA g 3), .int (iI d)] : List Value).toArray s 0 0 (AA g)) (F0 m 2 ls []) := by
    intro n2
    induction n2 with
    | zero => intro x j h1 h2 hn2; exact absurd hn2 (Nat.not_lt_zero _)
    | succ n2 ih2 =>
      intro x j h1 h2 hn2 H locs hI ls hl
      have hOx := hO x
      refine lv_iload_n hx hb dX1_isSomeonesOwn_2 rfl (lv_at hl 0 rfl) ?_
      refine lv_aload_n hx hb dX1_isSomeonesOwn_3 rfl (lv_at hl 1 rfl) ?_
      refine r_get C hI 3 (by decide) rfl rfl hin1 6 (by decide) (fn := "personCount") (fd := "I") (index := 30) (by decide +kernel) ⟨rfl, rfl, rfl⟩ (v := .int (iI (M 3 6))) rfl dX1_isSomeonesOwn_4 ?_
      refine r_icmp_ge hx hb (tgt := 27) (by omega) (by omega) dX1_isSomeonesOwn_7 (by decide) (fun c_1 => ?_) (fun c_1 => ?_)
      · refine lv_iconst (v := iI 0) hx hb dX1_isSomeonesOwn_27 rfl ?_
        refine r_zret C hr hlk hI (by decide +kernel) ?_ dX1_isSomeonesOwn_28
        exact ⟨congrArg (fun q => some (Value.int (iI q))) (bI_f (by first | exact someB_up (j := j) (by rw [← h1.1]; assumption) _ (by omega) | (rw [show (M 3 6).toNat = j from by omega, h2]; decide))).symm, rfl⟩
      · refine lv_aload_n hx hb dX1_isSomeonesOwn_10 rfl (lv_at hl 1 rfl) ?_
        refine lv_iload_n hx hb dX1_isSomeonesOwn_11 rfl (lv_at hl 0 rfl) ?_
        refine r_iv C hI (As := [.int (iI x)]) (rest := []) (c_X1_ownOf l g M x (by omega)) (cwV 1 hts gX1_isSomeonesOwn_X1_ownOf rfl rfl rfl (by decide +kernel) ⟨Nat.le_of_ble_eq_true rfl, Nat.le_of_ble_eq_true rfl⟩) (by decide) rfl rfl rfl hl.1 rfl (Nat.le_of_ble_eq_true rfl) dX1_isSomeonesOwn_12 ⟨Nat.zero_le _, Nat.zero_le _⟩ (k_I (fun H locs hI => ?_))
        refine lv_iload_n hx hb dX1_isSomeonesOwn_15 rfl (lv_at hl 2 rfl) ?_
        refine r_icmp_ne hx hb (tgt := 21) (by omega) (by omega) dX1_isSomeonesOwn_16 (by decide) (fun c_2 => ?_) (fun c_2 => ?_)
        · refine lv_iinc (v := iI (x + 1)) (lv' := [(2, .int (iI (x + 1))), (0, .ref (gA g 3)), (1, .int (iI d))]) hx hb dX1_isSomeonesOwn_21 hl (k := 0) rfl (iI_add _ _) (by decide) rfl (fun ls hl => ?_)
          refine lv_goto (tgt := 2) hx hb dX1_isSomeonesOwn_24 (by decide) ?_
          exact ih2 (x + 1) (j + 1) (by omega) (by (unfold someB; rw [h2, ← h1.1]; simp; assumption)) (by omega) _ _ hI ls (lv_sub hl [0, 1, 2] rfl)
        · refine lv_iconst (v := iI 1) hx hb dX1_isSomeonesOwn_19 rfl ?_
          refine r_zret C hr hlk hI (by decide +kernel) ?_ dX1_isSomeonesOwn_20
          exact ⟨congrArg (fun q => some (Value.int (iI q))) (bI_t (by first | exact someB_up (j := j) (by rw [← h1.1]; assumption) _ (by omega) | (rw [show (M 3 6).toNat = j from by omega, h2]; decide))).symm, rfl⟩
  exact lp2 _ 0 0 (by omega) (by rfl) (Nat.lt_succ_self _) _ _ hI ls (lv_sub hl [0, 1, 2] rfl)
set_option maxHeartbeats 4000000 in
set_option maxRecDepth 100000 in
theorem c_X1_reply (l : Launch) (g : GT) (M : Mem) (x : Int) (k : Int) (q : Int) (hx0 : 0 ≤ x ∧ x < 4) (hk : 0 ≤ k ∧ k < 1000) (hq : 0 ≤ q ∧ q < 5) (hK : -2147483648 ≤ M 8 x ∧ M 8 x < 2147483648) (hO : -2147483648 ≤ M 4 q ∧ M 4 q < 2147483648) : Ctr l g yX1_reply wsX1_reply ({ frames := 2, cells := 0, slots := 0, locals := 42 } : Room) [.ref (gA g 3), .int (iI x), .int (iI k), .int (iI q)] M (pI (repO (M 8 x) k (M 4 q)) M) := by
  refine Ctr.mk (cc := cX1_reply) (maxL := 5) (ret := some .int) (lv := [(0, .ref (gA g 3)), (1, .int (iI x)), (2, .int (iI k)), (3, .int (iI q))]) (by decide) rfl (Nat.le_of_ble_eq_true rfl) rfl ?_
  intro p e s m below meth c C hr hlk hI ls hl
  have C : CallFix p m c cX1_reply 5 s ([.ref (gA g 3), .int (iI x), .int (iI k), .int (iI q)] : List Value).toArray wsX1_reply RX1 := C
  have hx := C.1
  have hb := C.2.1
  have hts := C.2.2.2.2
  refine lv_iload_n hx hb dX1_reply_0 rfl (lv_at hl 2 rfl) ?_
  refine r_isn C hI (As := [.int (iI k)]) (rest := []) (c_X6_lastOf l g M k (by omega)) ⟨va_cnB 1 hts gX1_reply_X6_lastOf_n72 rfl rfl rfl (hI.2.2.2.2.2.1 (.methodLinkNest RX1 72 yX6_lastOf RX6) (by decide +kernel)) (hts (.initialized RX6) (by decide +kernel)) (by decide +kernel) ⟨Nat.le_of_ble_eq_true rfl, Nat.le_of_ble_eq_true rfl⟩, hts (.static yX6_lastOf) (by decide +kernel), trivial⟩ rfl hl.1 rfl (Nat.le_of_ble_eq_true rfl) dX1_reply_1 ⟨Nat.zero_le _, Nat.zero_le _⟩ (k_I (fun H locs hI => ?_))
  refine lv_istore (lv' := [(4, .int (iI (k % 10))), (0, .ref (gA g 3)), (1, .int (iI x)), (2, .int (iI k)), (3, .int (iI q))]) hx hb dX1_reply_4 hl (by decide) rfl (fun ls hl => ?_)
  refine lv_aload_n hx hb dX1_reply_6 rfl (lv_at hl 1 rfl) ?_
  refine lv_iload_n hx hb dX1_reply_7 rfl (lv_at hl 2 rfl) ?_
  refine r_iv C hI (As := [.int (iI x)]) (rest := []) (c_X1_kindOf l g M x (by omega)) (cwV 1 hts gX1_reply_X1_kindOf rfl rfl rfl (by decide +kernel) ⟨Nat.le_of_ble_eq_true rfl, Nat.le_of_ble_eq_true rfl⟩) (by decide) rfl rfl rfl hl.1 rfl (Nat.le_of_ble_eq_true rfl) dX1_reply_8 ⟨Nat.zero_le _, Nat.zero_le _⟩ (k_I (fun H locs hI => ?_))
  refine r_tsw hx hb (by omega) dX1_reply_11 (by decide) (fun j hj c_1 => ?_) (fun c_1 => ?_)
  · match j, hj with
    | 0, _ =>
      have c_1 : M 8 x = 1 := c_1
      refine W.eq (g2 := F0 m 36 ls []) rfl ?_
      refine lv_iload hx hb dX1_reply_36 (lv_at hl 0 rfl) ?_
      refine lv_iconst (v := iI 4) hx hb dX1_reply_38 rfl ?_
      refine r_icmp_le hx hb (tgt := 49) (by omega) (by decide) dX1_reply_39 (by decide) (fun c_2 => ?_) (fun c_2 => ?_)
      · refine lv_iload hx hb dX1_reply_49 (lv_at hl 0 rfl) ?_
        refine r_iret C hr hlk hI ?_ dX1_reply_51
        exact ⟨congrArg (fun q => some (Value.int (iI q))) (show k % 10 = repO (M 8 x) k (M 4 q) from by unfold repO; (repeat' split) <;> omega), rfl⟩
      · refine lv_iload hx hb dX1_reply_42 (lv_at hl 0 rfl) ?_
        refine lv_iconst (v := iI 4) hx hb dX1_reply_44 rfl ?_
        refine r_isub hx hb dX1_reply_45 ?_
        refine lv_goto (tgt := 51) hx hb dX1_reply_46 (by decide) ?_
        refine r_iret C hr hlk hI ?_ dX1_reply_51
        exact ⟨congrArg (fun q => some (Value.int (iI q))) (show (k % 10) - 4 = repO (M 8 x) k (M 4 q) from by unfold repO; (repeat' split) <;> omega), rfl⟩
    | 1, _ =>
      have c_1 : M 8 x = 2 := c_1
      refine W.eq (g2 := F0 m 52 ls []) rfl ?_
      refine lv_iload_n hx hb dX1_reply_52 rfl (lv_at hl 3 rfl) ?_
      refine r_isn C hI (As := [.int (iI k)]) (rest := []) (c_X6_firstOf l g M k (by omega)) ⟨va_cnB 1 hts gX1_reply_X6_firstOf_n78 rfl rfl rfl (hI.2.2.2.2.2.1 (.methodLinkNest RX1 78 yX6_firstOf RX6) (by decide +kernel)) (hts (.initialized RX6) (by decide +kernel)) (by decide +kernel) ⟨Nat.le_of_ble_eq_true rfl, Nat.le_of_ble_eq_true rfl⟩, hts (.static yX6_firstOf) (by decide +kernel), trivial⟩ rfl hl.1 rfl (Nat.le_of_ble_eq_true rfl) dX1_reply_53 ⟨Nat.zero_le _, Nat.zero_le _⟩ (k_I (fun H locs hI => ?_))
      refine r_iret C hr hlk hI ?_ dX1_reply_56
      exact ⟨congrArg (fun q => some (Value.int (iI q))) (show fstO k = repO (M 8 x) k (M 4 q) from by unfold repO; (repeat' split) <;> omega), rfl⟩
    | 2, _ =>
      have c_1 : M 8 x = 3 := c_1
      refine W.eq (g2 := F0 m 57 ls []) rfl ?_
      refine lv_iload hx hb dX1_reply_57 (lv_at hl 0 rfl) ?_
      refine lv_aload_n hx hb dX1_reply_59 rfl (lv_at hl 1 rfl) ?_
      refine lv_iload_n hx hb dX1_reply_60 rfl (lv_at hl 4 rfl) ?_
      refine r_iv C hI (As := [.int (iI q)]) (rest := [.int (iI (k % 10))]) (c_X1_ownOf l g M q (by omega)) (cwV 1 hts gX1_reply_X1_ownOf rfl rfl rfl (by decide +kernel) ⟨Nat.le_of_ble_eq_true rfl, Nat.le_of_ble_eq_true rfl⟩) (by decide) rfl rfl rfl hl.1 rfl (Nat.le_of_ble_eq_true rfl) dX1_reply_61 ⟨Nat.zero_le _, Nat.zero_le _⟩ (k_I (fun H locs hI => ?_))
      refine r_icmp_ne hx hb (tgt := 71) (by omega) (by omega) dX1_reply_64 (by decide) (fun c_3 => ?_) (fun c_3 => ?_)
      · refine lv_iload hx hb dX1_reply_71 (lv_at hl 0 rfl) ?_
        refine r_iret C hr hlk hI ?_ dX1_reply_73
        exact ⟨congrArg (fun q => some (Value.int (iI q))) (show k % 10 = repO (M 8 x) k (M 4 q) from by unfold repO; (repeat' split) <;> omega), rfl⟩
      · refine lv_iconst (v := iI 0) hx hb dX1_reply_67 rfl ?_
        refine lv_goto (tgt := 73) hx hb dX1_reply_68 (by decide) ?_
        refine r_iret C hr hlk hI ?_ dX1_reply_73
        exact ⟨congrArg (fun q => some (Value.int (iI q))) (show 0 = repO (M 8 x) k (M 4 q) from by unfold repO; (repeat' split) <;> omega), rfl⟩
  · refine W.eq (g2 := F0 m 74 ls []) rfl ?_
    refine lv_iload hx hb dX1_reply_74 (lv_at hl 0 rfl) ?_
    refine r_iret C hr hlk hI ?_ dX1_reply_76
    exact ⟨congrArg (fun q => some (Value.int (iI q))) (show k % 10 = repO (M 8 x) k (M 4 q) from by unfold repO; (repeat' split) <;> omega), rfl⟩
set_option maxHeartbeats 4000000 in
set_option maxRecDepth 100000 in
theorem c_X1_afterHand (l : Launch) (g : GT) (M : Mem) (x : Int) (k : Int) (q : Int) (hx0 : 0 ≤ x ∧ x < 4) (hk : 0 ≤ k ∧ k < 1000) (hq : 0 ≤ q ∧ q < 5) (hR : -2147483648 ≤ M 7 x ∧ M 7 x < 2147483648) : Ctr l g yX1_afterHand wsX1_afterHand ({ frames := 2, cells := 0, slots := 0, locals := 42 } : Room) [.ref (gA g 3), .int (iI x), .int (iI k), .int (iI q)] M (pI (behO k (M 4 q) (M 7 x)) M) := by
  refine Ctr.mk (cc := cX1_afterHand) (maxL := 4) (ret := some .int) (lv := [(0, .ref (gA g 3)), (1, .int (iI x)), (2, .int (iI k)), (3, .int (iI q))]) (by decide) rfl (Nat.le_of_ble_eq_true rfl) rfl ?_
  intro p e s m below meth c C hr hlk hI ls hl
  have C : CallFix p m c cX1_afterHand 4 s ([.ref (gA g 3), .int (iI x), .int (iI k), .int (iI q)] : List Value).toArray wsX1_afterHand RX1 := C
  have hx := C.1
  have hb := C.2.1
  have hts := C.2.2.2.2
  refine lv_iload_n hx hb dX1_afterHand_0 rfl (lv_at hl 2 rfl) ?_
  refine lv_aload_n hx hb dX1_afterHand_1 rfl (lv_at hl 0 rfl) ?_
  refine lv_iload_n hx hb dX1_afterHand_2 rfl (lv_at hl 3 rfl) ?_
  refine r_iv C hI (As := [.int (iI q)]) (rest := [.int (iI k)]) (c_X1_ownOf l g M q (by omega)) (cwV 1 hts gX1_afterHand_X1_ownOf rfl rfl rfl (by decide +kernel) ⟨Nat.le_of_ble_eq_true rfl, Nat.le_of_ble_eq_true rfl⟩) (by decide) rfl rfl rfl hl.1 rfl (Nat.le_of_ble_eq_true rfl) dX1_afterHand_3 ⟨Nat.zero_le _, Nat.zero_le _⟩ (k_I (fun H locs hI => ?_))
  refine lv_aload_n hx hb dX1_afterHand_6 rfl (lv_at hl 0 rfl) ?_
  refine lv_iload_n hx hb dX1_afterHand_7 rfl (lv_at hl 1 rfl) ?_
  refine r_iv C hI (As := [.int (iI x)]) (rest := [.int (iI (M 4 q)), .int (iI k)]) (c_X1_roomOf l g M x (by omega)) (cwV 1 hts gX1_afterHand_X1_roomOf rfl rfl rfl (by decide +kernel) ⟨Nat.le_of_ble_eq_true rfl, Nat.le_of_ble_eq_true rfl⟩) (by decide) rfl rfl rfl hl.1 rfl (Nat.le_of_ble_eq_true rfl) dX1_afterHand_8 ⟨Nat.zero_le _, Nat.zero_le _⟩ (k_I (fun H locs hI => ?_))
  refine r_isn C hI (As := [.int (iI k), .int (iI (M 4 q)), .int (iI (M 7 x))]) (rest := []) (c_X6_withBehind l g M k (M 4 q) (M 7 x) (by omega) (by omega)) ⟨va_cnB 3 hts gX1_afterHand_X6_withBehind_n84 rfl rfl rfl (hI.2.2.2.2.2.1 (.methodLinkNest RX1 84 yX6_withBehind RX6) (by decide +kernel)) (hts (.initialized RX6) (by decide +kernel)) (by decide +kernel) ⟨Nat.le_of_ble_eq_true rfl, Nat.le_of_ble_eq_true rfl⟩, hts (.static yX6_withBehind) (by decide +kernel), trivial⟩ rfl hl.1 rfl (Nat.le_of_ble_eq_true rfl) dX1_afterHand_11 ⟨Nat.zero_le _, Nat.zero_le _⟩ (k_I (fun H locs hI => ?_))
  refine r_iret C hr hlk hI ?_ dX1_afterHand_14
  exact ⟨congrArg (fun q => some (Value.int (iI q))) (show behO k (M 4 q) (M 7 x) = behO k (M 4 q) (M 7 x) from by first | rfl | omega), rfl⟩
set_option maxHeartbeats 4000000 in
set_option maxRecDepth 100000 in
theorem c_X6_copyRow (l : Launch) (g : GT) (M : Mem) (i : Nat) (j : Nat) (hi : i < 86) (hie : ∀ r, cel g i r = gI g 4 r) (hj : j < 86) (hje : ∀ r, cel g j r = gI g 4 r) (hne : i ≠ j) : Ctr l g yX6_copyRow wsX6_copyRow ({ frames := 0, cells := 0, slots := 0, locals := 0 } : Room) [.ref (gA g i), .ref (gA g j)] M (pV (cpR M i j)) := by
  refine Ctr.mk (cc := cX6_copyRow) (maxL := 3) (ret := none) (lv := [(0, .ref (gA g i)), (1, .ref (gA g j))]) (by decide) rfl (Nat.le_of_ble_eq_true rfl) rfl ?_
  intro p e s m below meth c C hr hlk hI ls hl
  have C : CallFix p m c cX6_copyRow 3 s ([.ref (gA g i), .ref (gA g j)] : List Value).toArray wsX6_copyRow RX6 := C
  have hx := C.1
  have hb := C.2.1
  have hts := C.2.2.2.2
  refine lv_iconst (v := iI 0) hx hb dX6_copyRow_0 rfl ?_
  refine lv_istore_n (lv' := [(2, .int (iI 0)), (0, .ref (gA g i)), (1, .ref (gA g j))]) hx hb dX6_copyRow_1 rfl hl (by decide) rfl (fun ls hl => ?_)
  refine lv_iload_n hx hb dX6_copyRow_2 rfl (lv_at hl 0 rfl) ?_
  refine lv_aload_n hx hb dX6_copyRow_3 rfl (lv_at hl 1 rfl) ?_
  refine r_alen C hI i hi (hie _) dX6_copyRow_4 ?_
  refine r_icmp_ge hx hb (tgt := 26) (by decide) (by decide) dX6_copyRow_5 (by decide) (fun c => absurd c (by decide)) (fun c_1 => ?_)
  refine lv_iload_n hx hb dX6_copyRow_8 rfl (lv_at hl 0 rfl) ?_
  refine lv_aload_n hx hb dX6_copyRow_9 rfl (lv_at hl 2 rfl) ?_
  refine r_alen C hI j hj (hje _) dX6_copyRow_10 ?_
  refine r_icmp_ge hx hb (tgt := 26) (by decide) (by decide) dX6_copyRow_11 (by decide) (fun c => absurd c (by decide)) (fun c_2 => ?_)
  refine lv_aload_n hx hb dX6_copyRow_14 rfl (lv_at hl 2 rfl) ?_
  refine lv_iload_n hx hb dX6_copyRow_15 rfl (lv_at hl 0 rfl) ?_
  refine lv_aload_n hx hb dX6_copyRow_16 rfl (lv_at hl 1 rfl) ?_
  refine lv_iload_n hx hb dX6_copyRow_17 rfl (lv_at hl 0 rfl) ?_
  refine r_ald C hI i hi (hie _) (by omega) (by decide) dX6_copyRow_18 ?_
  refine r_ast C hI j hj hje (by omega) (by decide) dX6_copyRow_19 (fun H locs hI => ?_)
  refine lv_iinc (v := iI (1)) (lv' := [(2, .int (iI 1)), (0, .ref (gA g i)), (1, .ref (gA g j))]) hx hb dX6_copyRow_20 hl (k := 0) rfl (iI_add _ _) (by decide) rfl (fun ls hl => ?_)
  refine lv_goto (tgt := 2) hx hb dX6_copyRow_23 (by decide) ?_
  refine lv_iload_n hx hb dX6_copyRow_2 rfl (lv_at hl 0 rfl) ?_
  refine lv_aload_n hx hb dX6_copyRow_3 rfl (lv_at hl 1 rfl) ?_
  refine r_alen C hI i hi (hie _) dX6_copyRow_4 ?_
  refine r_icmp_ge hx hb (tgt := 26) (by decide) (by decide) dX6_copyRow_5 (by decide) (fun c => absurd c (by decide)) (fun c_3 => ?_)
  refine lv_iload_n hx hb dX6_copyRow_8 rfl (lv_at hl 0 rfl) ?_
  refine lv_aload_n hx hb dX6_copyRow_9 rfl (lv_at hl 2 rfl) ?_
  refine r_alen C hI j hj (hje _) dX6_copyRow_10 ?_
  refine r_icmp_ge hx hb (tgt := 26) (by decide) (by decide) dX6_copyRow_11 (by decide) (fun c => absurd c (by decide)) (fun c_4 => ?_)
  refine lv_aload_n hx hb dX6_copyRow_14 rfl (lv_at hl 2 rfl) ?_
  refine lv_iload_n hx hb dX6_copyRow_15 rfl (lv_at hl 0 rfl) ?_
  refine lv_aload_n hx hb dX6_copyRow_16 rfl (lv_at hl 1 rfl) ?_
  refine lv_iload_n hx hb dX6_copyRow_17 rfl (lv_at hl 0 rfl) ?_
  refine r_ald C hI i hi (hie _) (by omega) (by decide) dX6_copyRow_18 ?_
  refine r_ast C hI j hj hje (by omega) (by decide) dX6_copyRow_19 (fun H locs hI => ?_)
  refine lv_iinc (v := iI (2)) (lv' := [(2, .int (iI 2)), (0, .ref (gA g i)), (1, .ref (gA g j))]) hx hb dX6_copyRow_20 hl (k := 0) rfl (iI_add _ _) (by decide) rfl (fun ls hl => ?_)
  refine lv_goto (tgt := 2) hx hb dX6_copyRow_23 (by decide) ?_
  refine lv_iload_n hx hb dX6_copyRow_2 rfl (lv_at hl 0 rfl) ?_
  refine lv_aload_n hx hb dX6_copyRow_3 rfl (lv_at hl 1 rfl) ?_
  refine r_alen C hI i hi (hie _) dX6_copyRow_4 ?_
  refine r_icmp_ge hx hb (tgt := 26) (by decide) (by decide) dX6_copyRow_5 (by decide) (fun c => absurd c (by decide)) (fun c_5 => ?_)
  refine lv_iload_n hx hb dX6_copyRow_8 rfl (lv_at hl 0 rfl) ?_
  refine lv_aload_n hx hb dX6_copyRow_9 rfl (lv_at hl 2 rfl) ?_
  refine r_alen C hI j hj (hje _) dX6_copyRow_10 ?_
  refine r_icmp_ge hx hb (tgt := 26) (by decide) (by decide) dX6_copyRow_11 (by decide) (fun c => absurd c (by decide)) (fun c_6 => ?_)
  refine lv_aload_n hx hb dX6_copyRow_14 rfl (lv_at hl 2 rfl) ?_
  refine lv_iload_n hx hb dX6_copyRow_15 rfl (lv_at hl 0 rfl) ?_
  refine lv_aload_n hx hb dX6_copyRow_16 rfl (lv_at hl 1 rfl) ?_
  refine lv_iload_n hx hb dX6_copyRow_17 rfl (lv_at hl 0 rfl) ?_
  refine r_ald C hI i hi (hie _) (by omega) (by decide) dX6_copyRow_18 ?_
  refine r_ast C hI j hj hje (by omega) (by decide) dX6_copyRow_19 (fun H locs hI => ?_)
  refine lv_iinc (v := iI (3)) (lv' := [(2, .int (iI 3)), (0, .ref (gA g i)), (1, .ref (gA g j))]) hx hb dX6_copyRow_20 hl (k := 0) rfl (iI_add _ _) (by decide) rfl (fun ls hl => ?_)
  refine lv_goto (tgt := 2) hx hb dX6_copyRow_23 (by decide) ?_
  refine lv_iload_n hx hb dX6_copyRow_2 rfl (lv_at hl 0 rfl) ?_
  refine lv_aload_n hx hb dX6_copyRow_3 rfl (lv_at hl 1 rfl) ?_
  refine r_alen C hI i hi (hie _) dX6_copyRow_4 ?_
  refine r_icmp_ge hx hb (tgt := 26) (by decide) (by decide) dX6_copyRow_5 (by decide) (fun c => absurd c (by decide)) (fun c_7 => ?_)
  refine lv_iload_n hx hb dX6_copyRow_8 rfl (lv_at hl 0 rfl) ?_
  refine lv_aload_n hx hb dX6_copyRow_9 rfl (lv_at hl 2 rfl) ?_
  refine r_alen C hI j hj (hje _) dX6_copyRow_10 ?_
  refine r_icmp_ge hx hb (tgt := 26) (by decide) (by decide) dX6_copyRow_11 (by decide) (fun c => absurd c (by decide)) (fun c_8 => ?_)
  refine lv_aload_n hx hb dX6_copyRow_14 rfl (lv_at hl 2 rfl) ?_
  refine lv_iload_n hx hb dX6_copyRow_15 rfl (lv_at hl 0 rfl) ?_
  refine lv_aload_n hx hb dX6_copyRow_16 rfl (lv_at hl 1 rfl) ?_
  refine lv_iload_n hx hb dX6_copyRow_17 rfl (lv_at hl 0 rfl) ?_
  refine r_ald C hI i hi (hie _) (by omega) (by decide) dX6_copyRow_18 ?_
  refine r_ast C hI j hj hje (by omega) (by decide) dX6_copyRow_19 (fun H locs hI => ?_)
  refine lv_iinc (v := iI (4)) (lv' := [(2, .int (iI 4)), (0, .ref (gA g i)), (1, .ref (gA g j))]) hx hb dX6_copyRow_20 hl (k := 0) rfl (iI_add _ _) (by decide) rfl (fun ls hl => ?_)
  refine lv_goto (tgt := 2) hx hb dX6_copyRow_23 (by decide) ?_
  refine lv_iload_n hx hb dX6_copyRow_2 rfl (lv_at hl 0 rfl) ?_
  refine lv_aload_n hx hb dX6_copyRow_3 rfl (lv_at hl 1 rfl) ?_
  refine r_alen C hI i hi (hie _) dX6_copyRow_4 ?_
  refine r_icmp_ge hx hb (tgt := 26) (by decide) (by decide) dX6_copyRow_5 (by decide) (fun c_9 => ?_) (fun c => absurd c (by decide))
  refine r_vret C hr hlk hI ?_ dX6_copyRow_26
  exact ⟨rfl, (show mset (mset (mset (mset M j 0 (M i 0)) j 1 ((mset M j 0 (M i 0)) i 1)) j 2 ((mset (mset M j 0 (M i 0)) j 1 ((mset M j 0 (M i 0)) i 1)) i 2)) j 3 ((mset (mset (mset M j 0 (M i 0)) j 1 ((mset M j 0 (M i 0)) i 1)) j 2 ((mset (mset M j 0 (M i 0)) j 1 ((mset M j 0 (M i 0)) i 1)) i 2)) i 3) = cpR M i j from by exact cpR_of hne)⟩
set_option maxHeartbeats 4000000 in
set_option maxRecDepth 100000 in
theorem c_X2_isTaken (l : Launch) (g : GT) (M : Mem) (o : Nat) (ho : isMo o) (ht : M o 3 = 0 ∨ M o 3 = 1) : Ctr l g yX2_isTaken wsX2_isTaken ({ frames := 0, cells := 0, slots := 0, locals := 0 } : Room) [.ref (gA g o)] M (pI (bI (M o 3 = 1)) M) := by
  refine Ctr.mk (cc := cX2_isTaken) (maxL := 1) (ret := some .boolean) (lv := [(0, .ref (gA g o))]) (by decide) rfl (Nat.le_of_ble_eq_true rfl) rfl ?_
  intro p e s m below meth c C hr hlk hI ls hl
  have C : CallFix p m c cX2_isTaken 1 s ([.ref (gA g o)] : List Value).toArray wsX2_isTaken RX2 := C
  have hx := C.1
  have hb := C.2.1
  have hts := C.2.2.2.2
  have hin2 : ∀ w ∈ u_ws RX2 TX2 4, w ∈ wsX2_isTaken := by decide +kernel
  have hoa := ho.1
  have hob := ho.2.1
  have hoc := ho.2.2
  refine lv_aload_n hx hb dX2_isTaken_0 rfl (lv_at hl 0 rfl) ?_
  refine r_get C hI o (by omega) (ceMo ho _) rfl hin2 3 (by decide) (fn := "taken") (fd := "Z") (index := 22) (by decide +kernel) ⟨rfl, rfl, rfl⟩ (v := .int (iI (M o 3))) rfl dX2_isTaken_1 ?_
  refine r_zret C hr hlk hI (by rcases ht with h | h <;> rw [h] <;> decide +kernel) ?_ dX2_isTaken_4
  exact ⟨congrArg (fun q => some (Value.int (iI q))) (show M o 3 = bI (M o 3 = 1) from by rcases ht with h | h <;> rw [h] <;> decide), rfl⟩
set_option maxHeartbeats 4000000 in
set_option maxRecDepth 100000 in
theorem c_X2_release (l : Launch) (g : GT) (M : Mem) (o : Nat) (ho : isMo o) : Ctr l g yX2_release wsX2_release ({ frames := 0, cells := 0, slots := 0, locals := 0 } : Room) [.ref (gA g o)] M (pV (mset M o 3 0)) := by
  refine Ctr.mk (cc := cX2_release) (maxL := 1) (ret := none) (lv := [(0, .ref (gA g o))]) (by decide) rfl (Nat.le_of_ble_eq_true rfl) rfl ?_
  intro p e s m below meth c C hr hlk hI ls hl
  have C : CallFix p m c cX2_release 1 s ([.ref (gA g o)] : List Value).toArray wsX2_release RX2 := C
  have hx := C.1
  have hb := C.2.1
  have hts := C.2.2.2.2
  have hin2 : ∀ w ∈ u_ws RX2 TX2 4, w ∈ wsX2_release := by decide +kernel
  have hoa := ho.1
  have hob := ho.2.1
  have hoc := ho.2.2
  refine lv_aload_n hx hb dX2_release_0 rfl (lv_at hl 0 rfl) ?_
  refine lv_iconst (v := iI 0) hx hb dX2_release_1 rfl ?_
  refine r_put C hI o (by omega) (ceMo ho _) rfl tyX2 tyX2_ok nmX2 hin2 3 (by decide) (fn := "taken") (fd := "Z") (index := 22) (by decide +kernel) ⟨rfl, rfl, rfl⟩ rfl (z := 0) (by decide +kernel) (by decide +kernel) (Nat.le_of_ble_eq_true rfl) (ceMo ho _) dX2_release_2 (fun H locs hI => ?_)
  refine r_vret C hr hlk hI ?_ dX2_release_5
  exact ⟨rfl, (show mset M o 3 0 = mset M o 3 0 from by first | rfl | (exfalso; omega))⟩
set_option maxHeartbeats 4000000 in
set_option maxRecDepth 100000 in
theorem c_X2_today (l : Launch) (g : GT) (M : Mem) (o : Nat) (ho : isMo o) : Ctr l g yX2_today wsX2_today ({ frames := 0, cells := 0, slots := 0, locals := 0 } : Room) [.ref (gA g o)] M (pI (M o 2) M) := by
  refine Ctr.mk (cc := cX2_today) (maxL := 1) (ret := some .int) (lv := [(0, .ref (gA g o))]) (by decide) rfl (Nat.le_of_ble_eq_true rfl) rfl ?_
  intro p e s m below meth c C hr hlk hI ls hl
  have C : CallFix p m c cX2_today 1 s ([.ref (gA g o)] : List Value).toArray wsX2_today RX2 := C
  have hx := C.1
  have hb := C.2.1
  have hts := C.2.2.2.2
  have hin2 : ∀ w ∈ u_ws RX2 TX2 4, w ∈ wsX2_today := by decide +kernel
  have hoa := ho.1
  have hob := ho.2.1
  have hoc := ho.2.2
  refine lv_aload_n hx hb dX2_today_0 rfl (lv_at hl 0 rfl) ?_
  refine r_get C hI o (by omega) (ceMo ho _) rfl hin2 2 (by decide) (fn := "date") (fd := "I") (index := 18) (by decide +kernel) ⟨rfl, rfl, rfl⟩ (v := .int (iI (M o 2))) rfl dX2_today_1 ?_
  refine r_iret C hr hlk hI ?_ dX2_today_4
  exact ⟨congrArg (fun q => some (Value.int (iI q))) (show M o 2 = M o 2 from by first | rfl | omega), rfl⟩
set_option maxHeartbeats 4000000 in
set_option maxRecDepth 100000 in
theorem c_X2_nextDay (l : Launch) (g : GT) (M : Mem) (o : Nat) (ho : isMo o) : Ctr l g yX2_nextDay wsX2_nextDay ({ frames := 0, cells := 0, slots := 0, locals := 0 } : Room) [.ref (gA g o)] M (pV (mset M o 2 (M o 2 + 1))) := by
  refine Ctr.mk (cc := cX2_nextDay) (maxL := 1) (ret := none) (lv := [(0, .ref (gA g o))]) (by decide) rfl (Nat.le_of_ble_eq_true rfl) rfl ?_
  intro p e s m below meth c C hr hlk hI ls hl
  have C : CallFix p m c cX2_nextDay 1 s ([.ref (gA g o)] : List Value).toArray wsX2_nextDay RX2 := C
  have hx := C.1
  have hb := C.2.1
  have hts := C.2.2.2.2
  have hin2 : ∀ w ∈ u_ws RX2 TX2 4, w ∈ wsX2_nextDay := by decide +kernel
  have hoa := ho.1
  have hob := ho.2.1
  have hoc := ho.2.2
  refine lv_aload_n hx hb dX2_nextDay_0 rfl (lv_at hl 0 rfl) ?_
  refine lv_dup hx hb dX2_nextDay_1 rfl ?_
  refine r_get C hI o (by omega) (ceMo ho _) rfl hin2 2 (by decide) (fn := "date") (fd := "I") (index := 18) (by decide +kernel) ⟨rfl, rfl, rfl⟩ (v := .int (iI (M o 2))) rfl dX2_nextDay_2 ?_
  refine lv_iconst (v := iI 1) hx hb dX2_nextDay_5 rfl ?_
  refine r_iadd hx hb dX2_nextDay_6 ?_
  refine r_put C hI o (by omega) (ceMo ho _) rfl tyX2 tyX2_ok nmX2 hin2 2 (by decide) (fn := "date") (fd := "I") (index := 18) (by decide +kernel) ⟨rfl, rfl, rfl⟩ rfl (z := (M o 2) + 1) rfl rfl (Nat.le_of_ble_eq_true rfl) (ceMo ho _) dX2_nextDay_7 (fun H locs hI => ?_)
  refine r_vret C hr hlk hI ?_ dX2_nextDay_10
  exact ⟨rfl, (show mset M o 2 ((M o 2) + 1) = mset M o 2 (M o 2 + 1) from by first | rfl | (exfalso; omega))⟩
set_option maxHeartbeats 4000000 in
set_option maxRecDepth 100000 in
theorem c_X2_keptBy (l : Launch) (g : GT) (M : Mem) (o : Nat) (x : Int) (ho : isMo o) (hx0 : 0 ≤ x ∧ x < 4) : Ctr l g yX2_keptBy wsX2_keptBy ({ frames := 1, cells := 0, slots := 0, locals := 21 } : Room) [.ref (gA g o), .int (iI x)] M (pI (M (o + 1) x) M) := by
  refine Ctr.mk (cc := cX2_keptBy) (maxL := 2) (ret := some .int) (lv := [(0, .ref (gA g o)), (1, .int (iI x))]) (by decide) rfl (Nat.le_of_ble_eq_true rfl) rfl ?_
  intro p e s m below meth c C hr hlk hI ls hl
  have C : CallFix p m c cX2_keptBy 2 s ([.ref (gA g o), .int (iI x)] : List Value).toArray wsX2_keptBy RX2 := C
  have hx := C.1
  have hb := C.2.1
  have hts := C.2.2.2.2
  have hin2 : ∀ w ∈ u_ws RX2 TX2 4, w ∈ wsX2_keptBy := by decide +kernel
  have hoa := ho.1
  have hob := ho.2.1
  have hoc := ho.2.2
  refine lv_aload_n hx hb dX2_keptBy_0 rfl (lv_at hl 0 rfl) ?_
  refine r_get C hI o (by omega) (ceMo ho _) rfl hin2 0 (by decide) (fn := "kept") (fd := "[I") (index := 9) (by decide +kernel) ⟨rfl, rfl, rfl⟩ (v := .ref (gA g (o + 1))) rfl dX2_keptBy_1 ?_
  refine lv_iload_n hx hb dX2_keptBy_4 rfl (lv_at hl 1 rfl) ?_
  refine r_isn C hI (As := [.ref (gA g (o + 1)), .int (iI x)]) (rest := []) (c_X6_at l g M (o + 1) x 4 (by omega) (ceMk ho) (by omega) (by omega)) ⟨va_cnB 2 hts gX2_keptBy_X6_at_n40 rfl rfl rfl (hI.2.2.2.2.2.1 (.methodLinkNest RX2 40 yX6_at RX6) (by decide +kernel)) (hts (.initialized RX6) (by decide +kernel)) (by decide +kernel) ⟨Nat.le_of_ble_eq_true rfl, Nat.le_of_ble_eq_true rfl⟩, hts (.static yX6_at) (by decide +kernel), trivial⟩ rfl hl.1 rfl (Nat.le_of_ble_eq_true rfl) dX2_keptBy_5 ⟨Nat.zero_le _, Nat.zero_le _⟩ (k_I (fun H locs hI => ?_))
  refine r_iret C hr hlk hI ?_ dX2_keptBy_8
  exact ⟨congrArg (fun q => some (Value.int (iI q))) (show M (o + 1) x = M (o + 1) x from by first | rfl | omega), rfl⟩
set_option maxHeartbeats 4000000 in
set_option maxRecDepth 100000 in
theorem c_X2_setKept (l : Launch) (g : GT) (M : Mem) (o : Nat) (x : Int) (v : Int) (ho : isMo o) (hx0 : 0 ≤ x ∧ x < 4) : Ctr l g yX2_setKept wsX2_setKept ({ frames := 1, cells := 0, slots := 0, locals := 22 } : Room) [.ref (gA g o), .int (iI x), .int (iI v)] M (pV (mset M (o + 1) x v)) := by
  refine Ctr.mk (cc := cX2_setKept) (maxL := 3) (ret := none) (lv := [(0, .ref (gA g o)), (1, .int (iI x)), (2, .int (iI v))]) (by decide) rfl (Nat.le_of_ble_eq_true rfl) rfl ?_
  intro p e s m below meth c C hr hlk hI ls hl
  have C : CallFix p m c cX2_setKept 3 s ([.ref (gA g o), .int (iI x), .int (iI v)] : List Value).toArray wsX2_setKept RX2 := C
  have hx := C.1
  have hb := C.2.1
  have hts := C.2.2.2.2
  have hin2 : ∀ w ∈ u_ws RX2 TX2 4, w ∈ wsX2_setKept := by decide +kernel
  have hoa := ho.1
  have hob := ho.2.1
  have hoc := ho.2.2
  refine lv_aload_n hx hb dX2_setKept_0 rfl (lv_at hl 0 rfl) ?_
  refine r_get C hI o (by omega) (ceMo ho _) rfl hin2 0 (by decide) (fn := "kept") (fd := "[I") (index := 9) (by decide +kernel) ⟨rfl, rfl, rfl⟩ (v := .ref (gA g (o + 1))) rfl dX2_setKept_1 ?_
  refine lv_iload_n hx hb dX2_setKept_4 rfl (lv_at hl 1 rfl) ?_
  refine lv_iload_n hx hb dX2_setKept_5 rfl (lv_at hl 2 rfl) ?_
  refine r_isn C hI (As := [.ref (gA g (o + 1)), .int (iI x), .int (iI v)]) (rest := []) (c_X6_put l g M (o + 1) x v 4 (by omega) (ceMk ho) (by omega) (by omega)) ⟨va_cnB 3 hts gX2_setKept_X6_put_n32 rfl rfl rfl (hI.2.2.2.2.2.1 (.methodLinkNest RX2 32 yX6_put RX6) (by decide +kernel)) (hts (.initialized RX6) (by decide +kernel)) (by decide +kernel) ⟨Nat.le_of_ble_eq_true rfl, Nat.le_of_ble_eq_true rfl⟩, hts (.static yX6_put) (by decide +kernel), trivial⟩ rfl hl.1 rfl (Nat.le_of_ble_eq_true rfl) dX2_setKept_6 ⟨Nat.zero_le _, Nat.zero_le _⟩ (k_V (fun H locs hI => ?_))
  refine r_vret C hr hlk hI ?_ dX2_setKept_9
  exact ⟨rfl, (show mset M (o + 1) x v = mset M (o + 1) x v from by first | rfl | (exfalso; omega))⟩
set_option maxHeartbeats 4000000 in
set_option maxRecDepth 100000 in
theorem c_X2_wearerOf (l : Launch) (g : GT) (M : Mem) (o : Nat) (x : Int) (ho : isMo o) (hx0 : 0 ≤ x ∧ x < 4) : Ctr l g yX2_wearerOf wsX2_wearerOf ({ frames := 1, cells := 0, slots := 0, locals := 21 } : Room) [.ref (gA g o), .int (iI x)] M (pI (M (o + 2) x) M) := by
  refine Ctr.mk (cc := cX2_wearerOf) (maxL := 2) (ret := some .int) (lv := [(0, .ref (gA g o)), (1, .int (iI x))]) (by decide) rfl (Nat.le_of_ble_eq_true rfl) rfl ?_
  intro p e s m below meth c C hr hlk hI ls hl
  have C : CallFix p m c cX2_wearerOf 2 s ([.ref (gA g o), .int (iI x)] : List Value).toArray wsX2_wearerOf RX2 := C
  have hx := C.1
  have hb := C.2.1
  have hts := C.2.2.2.2
  have hin2 : ∀ w ∈ u_ws RX2 TX2 4, w ∈ wsX2_wearerOf := by decide +kernel
  have hoa := ho.1
  have hob := ho.2.1
  have hoc := ho.2.2
  refine lv_aload_n hx hb dX2_wearerOf_0 rfl (lv_at hl 0 rfl) ?_
  refine r_get C hI o (by omega) (ceMo ho _) rfl hin2 1 (by decide) (fn := "wearer") (fd := "[I") (index := 15) (by decide +kernel) ⟨rfl, rfl, rfl⟩ (v := .ref (gA g (o + 2))) rfl dX2_wearerOf_1 ?_
  refine lv_iload_n hx hb dX2_wearerOf_4 rfl (lv_at hl 1 rfl) ?_
  refine r_isn C hI (As := [.ref (gA g (o + 2)), .int (iI x)]) (rest := []) (c_X6_at l g M (o + 2) x 4 (by omega) (ceMw ho) (by omega) (by omega)) ⟨va_cnB 2 hts gX2_wearerOf_X6_at_n40 rfl rfl rfl (hI.2.2.2.2.2.1 (.methodLinkNest RX2 40 yX6_at RX6) (by decide +kernel)) (hts (.initialized RX6) (by decide +kernel)) (by decide +kernel) ⟨Nat.le_of_ble_eq_true rfl, Nat.le_of_ble_eq_true rfl⟩, hts (.static yX6_at) (by decide +kernel), trivial⟩ rfl hl.1 rfl (Nat.le_of_ble_eq_true rfl) dX2_wearerOf_5 ⟨Nat.zero_le _, Nat.zero_le _⟩ (k_I (fun H locs hI => ?_))
  refine r_iret C hr hlk hI ?_ dX2_wearerOf_8
  exact ⟨congrArg (fun q => some (Value.int (iI q))) (show M (o + 2) x = M (o + 2) x from by first | rfl | omega), rfl⟩
set_option maxHeartbeats 4000000 in
set_option maxRecDepth 100000 in
theorem c_X2_putOn (l : Launch) (g : GT) (M : Mem) (o : Nat) (x : Int) (v : Int) (ho : isMo o) (hx0 : 0 ≤ x ∧ x < 4) : Ctr l g yX2_putOn wsX2_putOn ({ frames := 1, cells := 0, slots := 0, locals := 22 } : Room) [.ref (gA g o), .int (iI x), .int (iI v)] M (pV (mset M (o + 2) x v)) := by
  refine Ctr.mk (cc := cX2_putOn) (maxL := 3) (ret := none) (lv := [(0, .ref (gA g o)), (1, .int (iI x)), (2, .int (iI v))]) (by decide) rfl (Nat.le_of_ble_eq_true rfl) rfl ?_
  intro p e s m below meth c C hr hlk hI ls hl
  have C : CallFix p m c cX2_putOn 3 s ([.ref (gA g o), .int (iI x), .int (iI v)] : List Value).toArray wsX2_putOn RX2 := C
  have hx := C.1
  have hb := C.2.1
  have hts := C.2.2.2.2
  have hin2 : ∀ w ∈ u_ws RX2 TX2 4, w ∈ wsX2_putOn := by decide +kernel
  have hoa := ho.1
  have hob := ho.2.1
  have hoc := ho.2.2
  refine lv_aload_n hx hb dX2_putOn_0 rfl (lv_at hl 0 rfl) ?_
  refine r_get C hI o (by omega) (ceMo ho _) rfl hin2 1 (by decide) (fn := "wearer") (fd := "[I") (index := 15) (by decide +kernel) ⟨rfl, rfl, rfl⟩ (v := .ref (gA g (o + 2))) rfl dX2_putOn_1 ?_
  refine lv_iload_n hx hb dX2_putOn_4 rfl (lv_at hl 1 rfl) ?_
  refine lv_iload_n hx hb dX2_putOn_5 rfl (lv_at hl 2 rfl) ?_
  refine r_isn C hI (As := [.ref (gA g (o + 2)), .int (iI x), .int (iI v)]) (rest := []) (c_X6_put l g M (o + 2) x v 4 (by omega) (ceMw ho) (by omega) (by omega)) ⟨va_cnB 3 hts gX2_putOn_X6_put_n32 rfl rfl rfl (hI.2.2.2.2.2.1 (.methodLinkNest RX2 32 yX6_put RX6) (by decide +kernel)) (hts (.initialized RX6) (by decide +kernel)) (by decide +kernel) ⟨Nat.le_of_ble_eq_true rfl, Nat.le_of_ble_eq_true rfl⟩, hts (.static yX6_put) (by decide +kernel), trivial⟩ rfl hl.1 rfl (Nat.le_of_ble_eq_true rfl) dX2_putOn_6 ⟨Nat.zero_le _, Nat.zero_le _⟩ (k_V (fun H locs hI => ?_))
  refine r_vret C hr hlk hI ?_ dX2_putOn_9
  exact ⟨rfl, (show mset M (o + 2) x v = mset M (o + 2) x v from by first | rfl | (exfalso; omega))⟩
set_option maxHeartbeats 4000000 in
set_option maxRecDepth 100000 in
theorem c_X2_isWorn (l : Launch) (g : GT) (M : Mem) (o : Nat) (x : Int) (ho : isMo o) (hx0 : 0 ≤ x ∧ x < 4) (hw : -2147483648 ≤ M (o + 2) x ∧ M (o + 2) x < 2147483648) : Ctr l g yX2_isWorn wsX2_isWorn ({ frames := 2, cells := 0, slots := 0, locals := 42 } : Room) [.ref (gA g o), .int (iI x)] M (pI (bI (¬ M (o + 2) x = -9)) M) := by
  refine Ctr.mk (cc := cX2_isWorn) (maxL := 2) (ret := some .boolean) (lv := [(0, .ref (gA g o)), (1, .int (iI x))]) (by decide) rfl (Nat.le_of_ble_eq_true rfl) rfl ?_
  intro p e s m below meth c C hr hlk hI ls hl
  have C : CallFix p m c cX2_isWorn 2 s ([.ref (gA g o), .int (iI x)] : List Value).toArray wsX2_isWorn RX2 := C
  have hx := C.1
  have hb := C.2.1
  have hts := C.2.2.2.2
  have hoa := ho.1
  have hob := ho.2.1
  have hoc := ho.2.2
  refine lv_aload_n hx hb dX2_isWorn_0 rfl (lv_at hl 0 rfl) ?_
  refine lv_iload_n hx hb dX2_isWorn_1 rfl (lv_at hl 1 rfl) ?_
  refine r_iv C hI (As := [.int (iI x)]) (rest := []) (c_X2_wearerOf l g M o x ho (by omega)) (cwV 1 hts gX2_isWorn_X2_wearerOf rfl rfl rfl (by decide +kernel) ⟨Nat.le_of_ble_eq_true rfl, Nat.le_of_ble_eq_true rfl⟩) (by omega) (ceMo ho _) rfl rfl hl.1 rfl (Nat.le_of_ble_eq_true rfl) dX2_isWorn_2 ⟨Nat.zero_le _, Nat.zero_le _⟩ (k_I (fun H locs hI => ?_))
  refine lv_bipush (v := iI (-9)) hx hb dX2_isWorn_5 (by decide +kernel) ?_
  refine r_icmp_eq hx hb (tgt := 14) (by omega) (by decide) dX2_isWorn_7 (by decide) (fun c_1 => ?_) (fun c_1 => ?_)
  · refine lv_iconst (v := iI 0) hx hb dX2_isWorn_14 rfl ?_
    refine r_zret C hr hlk hI (by decide +kernel) ?_ dX2_isWorn_15
    exact ⟨congrArg (fun q => some (Value.int (iI q))) (bI_f (by first | assumption | omega)).symm, rfl⟩
  · refine lv_iconst (v := iI 1) hx hb dX2_isWorn_10 rfl ?_
    refine lv_goto (tgt := 15) hx hb dX2_isWorn_11 (by decide) ?_
    refine r_zret C hr hlk hI (by decide +kernel) ?_ dX2_isWorn_15
    exact ⟨congrArg (fun q => some (Value.int (iI q))) (bI_t (by first | assumption | omega)).symm, rfl⟩
set_option maxHeartbeats 4000000 in
set_option maxRecDepth 100000 in
theorem c_X2_gloveOn (l : Launch) (g : GT) (M : Mem) (o : Nat) (q : Int) (ho : isMo o) (hq : -2147483648 ≤ q ∧ q < 2147483648) (hw : ∀ j : Int, 0 ≤ j ∧ j < 4 → -2147483648 ≤ M (o + 2) j ∧ M (o + 2) j < 2147483648) : Ctr l g yX2_gloveOn wsX2_gloveOn ({ frames := 2, cells := 0, slots := 0, locals := 42 } : Room) [.ref (gA g o), .int (iI q)] M (pI (gOn (M (o + 2)) q) M) := by
  refine Ctr.mk (cc := cX2_gloveOn) (maxL := 3) (ret := some .int) (lv := [(0, .ref (gA g o)), (1, .int (iI q))]) (by decide) rfl (Nat.le_of_ble_eq_true rfl) rfl ?_
  intro p e s m below meth c C hr hlk hI ls hl
  have C : CallFix p m c cX2_gloveOn 3 s ([.ref (gA g o), .int (iI q)] : List Value).toArray wsX2_gloveOn RX2 := C
  have hx := C.1
  have hb := C.2.1
  have hts := C.2.2.2.2
  have hoa := ho.1
  have hob := ho.2.1
  have hoc := ho.2.2
  have hw0 := hw 0
  have hw1 := hw 1
  have hw2 := hw 2
  have hw3 := hw 3
  refine lv_iconst (v := iI 0) hx hb dX2_gloveOn_0 rfl ?_
  refine lv_istore_n (lv' := [(2, .int (iI 0)), (0, .ref (gA g o)), (1, .int (iI q))]) hx hb dX2_gloveOn_1 rfl hl (by decide) rfl (fun ls hl => ?_)
  refine lv_iload_n hx hb dX2_gloveOn_2 rfl (lv_at hl 0 rfl) ?_
  refine lv_iconst (v := iI 4) hx hb dX2_gloveOn_3 rfl ?_
  refine r_icmp_ge hx hb (tgt := 24) (by decide) (by decide) dX2_gloveOn_4 (by decide) (fun c => absurd c (by decide)) (fun c_1 => ?_)
  refine lv_aload_n hx hb dX2_gloveOn_7 rfl (lv_at hl 1 rfl) ?_
  refine lv_iload_n hx hb dX2_gloveOn_8 rfl (lv_at hl 0 rfl) ?_
  refine r_iv C hI (As := [.int (iI 0)]) (rest := []) (c_X2_wearerOf l g M o 0 ho (by omega)) (cwV 1 hts gX2_gloveOn_X2_wearerOf rfl rfl rfl (by decide +kernel) ⟨Nat.le_of_ble_eq_true rfl, Nat.le_of_ble_eq_true rfl⟩) (by omega) (ceMo ho _) rfl rfl hl.1 rfl (Nat.le_of_ble_eq_true rfl) dX2_gloveOn_9 ⟨Nat.zero_le _, Nat.zero_le _⟩ (k_I (fun H locs hI => ?_))
  refine lv_iload_n hx hb dX2_gloveOn_12 rfl (lv_at hl 2 rfl) ?_
  refine r_icmp_ne hx hb (tgt := 18) (by omega) (by omega) dX2_gloveOn_13 (by decide) (fun c_2 => ?_) (fun c_2 => ?_)
  · refine lv_iinc (v := iI (1)) (lv' := [(2, .int (iI 1)), (0, .ref (gA g o)), (1, .int (iI q))]) hx hb dX2_gloveOn_18 hl (k := 0) rfl (iI_add _ _) (by decide) rfl (fun ls hl => ?_)
    refine lv_goto (tgt := 2) hx hb dX2_gloveOn_21 (by decide) ?_
    refine lv_iload_n hx hb dX2_gloveOn_2 rfl (lv_at hl 0 rfl) ?_
    refine lv_iconst (v := iI 4) hx hb dX2_gloveOn_3 rfl ?_
    refine r_icmp_ge hx hb (tgt := 24) (by decide) (by decide) dX2_gloveOn_4 (by decide) (fun c => absurd c (by decide)) (fun c_3 => ?_)
    refine lv_aload_n hx hb dX2_gloveOn_7 rfl (lv_at hl 1 rfl) ?_
    refine lv_iload_n hx hb dX2_gloveOn_8 rfl (lv_at hl 0 rfl) ?_
    refine r_iv C hI (As := [.int (iI 1)]) (rest := []) (c_X2_wearerOf l g M o 1 ho (by omega)) (cwV 1 hts gX2_gloveOn_X2_wearerOf rfl rfl rfl (by decide +kernel) ⟨Nat.le_of_ble_eq_true rfl, Nat.le_of_ble_eq_true rfl⟩) (by omega) (ceMo ho _) rfl rfl hl.1 rfl (Nat.le_of_ble_eq_true rfl) dX2_gloveOn_9 ⟨Nat.zero_le _, Nat.zero_le _⟩ (k_I (fun H locs hI => ?_))
    refine lv_iload_n hx hb dX2_gloveOn_12 rfl (lv_at hl 2 rfl) ?_
    refine r_icmp_ne hx hb (tgt := 18) (by omega) (by omega) dX2_gloveOn_13 (by decide) (fun c_4 => ?_) (fun c_4 => ?_)
    · refine lv_iinc (v := iI (2)) (lv' := [(2, .int (iI 2)), (0, .ref (gA g o)), (1, .int (iI q))]) hx hb dX2_gloveOn_18 hl (k := 0) rfl (iI_add _ _) (by decide) rfl (fun ls hl => ?_)
      refine lv_goto (tgt := 2) hx hb dX2_gloveOn_21 (by decide) ?_
      refine lv_iload_n hx hb dX2_gloveOn_2 rfl (lv_at hl 0 rfl) ?_
      refine lv_iconst (v := iI 4) hx hb dX2_gloveOn_3 rfl ?_
      refine r_icmp_ge hx hb (tgt := 24) (by decide) (by decide) dX2_gloveOn_4 (by decide) (fun c => absurd c (by decide)) (fun c_5 => ?_)
      refine lv_aload_n hx hb dX2_gloveOn_7 rfl (lv_at hl 1 rfl) ?_
      refine lv_iload_n hx hb dX2_gloveOn_8 rfl (lv_at hl 0 rfl) ?_
      refine r_iv C hI (As := [.int (iI 2)]) (rest := []) (c_X2_wearerOf l g M o 2 ho (by omega)) (cwV 1 hts gX2_gloveOn_X2_wearerOf rfl rfl rfl (by decide +kernel) ⟨Nat.le_of_ble_eq_true rfl, Nat.le_of_ble_eq_true rfl⟩) (by omega) (ceMo ho _) rfl rfl hl.1 rfl (Nat.le_of_ble_eq_true rfl) dX2_gloveOn_9 ⟨Nat.zero_le _, Nat.zero_le _⟩ (k_I (fun H locs hI => ?_))
      refine lv_iload_n hx hb dX2_gloveOn_12 rfl (lv_at hl 2 rfl) ?_
      refine r_icmp_ne hx hb (tgt := 18) (by omega) (by omega) dX2_gloveOn_13 (by decide) (fun c_6 => ?_) (fun c_6 => ?_)
      · refine lv_iinc (v := iI (3)) (lv' := [(2, .int (iI 3)), (0, .ref (gA g o)), (1, .int (iI q))]) hx hb dX2_gloveOn_18 hl (k := 0) rfl (iI_add _ _) (by decide) rfl (fun ls hl => ?_)
        refine lv_goto (tgt := 2) hx hb dX2_gloveOn_21 (by decide) ?_
        refine lv_iload_n hx hb dX2_gloveOn_2 rfl (lv_at hl 0 rfl) ?_
        refine lv_iconst (v := iI 4) hx hb dX2_gloveOn_3 rfl ?_
        refine r_icmp_ge hx hb (tgt := 24) (by decide) (by decide) dX2_gloveOn_4 (by decide) (fun c => absurd c (by decide)) (fun c_7 => ?_)
        refine lv_aload_n hx hb dX2_gloveOn_7 rfl (lv_at hl 1 rfl) ?_
        refine lv_iload_n hx hb dX2_gloveOn_8 rfl (lv_at hl 0 rfl) ?_
        refine r_iv C hI (As := [.int (iI 3)]) (rest := []) (c_X2_wearerOf l g M o 3 ho (by omega)) (cwV 1 hts gX2_gloveOn_X2_wearerOf rfl rfl rfl (by decide +kernel) ⟨Nat.le_of_ble_eq_true rfl, Nat.le_of_ble_eq_true rfl⟩) (by omega) (ceMo ho _) rfl rfl hl.1 rfl (Nat.le_of_ble_eq_true rfl) dX2_gloveOn_9 ⟨Nat.zero_le _, Nat.zero_le _⟩ (k_I (fun H locs hI => ?_))
        refine lv_iload_n hx hb dX2_gloveOn_12 rfl (lv_at hl 2 rfl) ?_
        refine r_icmp_ne hx hb (tgt := 18) (by omega) (by omega) dX2_gloveOn_13 (by decide) (fun c_8 => ?_) (fun c_8 => ?_)
        · refine lv_iinc (v := iI (4)) (lv' := [(2, .int (iI 4)), (0, .ref (gA g o)), (1, .int (iI q))]) hx hb dX2_gloveOn_18 hl (k := 0) rfl (iI_add _ _) (by decide) rfl (fun ls hl => ?_)
          refine lv_goto (tgt := 2) hx hb dX2_gloveOn_21 (by decide) ?_
          refine lv_iload_n hx hb dX2_gloveOn_2 rfl (lv_at hl 0 rfl) ?_
          refine lv_iconst (v := iI 4) hx hb dX2_gloveOn_3 rfl ?_
          refine r_icmp_ge hx hb (tgt := 24) (by decide) (by decide) dX2_gloveOn_4 (by decide) (fun c_9 => ?_) (fun c => absurd c (by decide))
          refine lv_bipush (v := iI (-9)) hx hb dX2_gloveOn_24 (by decide +kernel) ?_
          refine r_iret C hr hlk hI ?_ dX2_gloveOn_26
          exact ⟨congrArg (fun q => some (Value.int (iI q))) (show (-9) = gOn (M (o + 2)) q from by unfold gOn; (repeat' split) <;> omega), rfl⟩
        · refine lv_iload_n hx hb dX2_gloveOn_16 rfl (lv_at hl 0 rfl) ?_
          refine r_iret C hr hlk hI ?_ dX2_gloveOn_17
          exact ⟨congrArg (fun q => some (Value.int (iI q))) (show 3 = gOn (M (o + 2)) q from by unfold gOn; (repeat' split) <;> omega), rfl⟩
      · refine lv_iload_n hx hb dX2_gloveOn_16 rfl (lv_at hl 0 rfl) ?_
        refine r_iret C hr hlk hI ?_ dX2_gloveOn_17
        exact ⟨congrArg (fun q => some (Value.int (iI q))) (show 2 = gOn (M (o + 2)) q from by unfold gOn; (repeat' split) <;> omega), rfl⟩
    · refine lv_iload_n hx hb dX2_gloveOn_16 rfl (lv_at hl 0 rfl) ?_
      refine r_iret C hr hlk hI ?_ dX2_gloveOn_17
      exact ⟨congrArg (fun q => some (Value.int (iI q))) (show 1 = gOn (M (o + 2)) q from by unfold gOn; (repeat' split) <;> omega), rfl⟩
  · refine lv_iload_n hx hb dX2_gloveOn_16 rfl (lv_at hl 0 rfl) ?_
    refine r_iret C hr hlk hI ?_ dX2_gloveOn_17
    exact ⟨congrArg (fun q => some (Value.int (iI q))) (show 0 = gOn (M (o + 2)) q from by unfold gOn; (repeat' split) <;> omega), rfl⟩
set_option maxHeartbeats 4000000 in
set_option maxRecDepth 100000 in
theorem c_X2_wornBits (l : Launch) (g : GT) (M : Mem) (o : Nat) (ho : isMo o) (hw : ∀ j : Int, 0 ≤ j ∧ j < 4 → -2147483648 ≤ M (o + 2) j ∧ M (o + 2) j < 2147483648) : Ctr l g yX2_wornBits wsX2_wornBits ({ frames := 3, cells := 0, slots := 0, locals := 63 } : Room) [.ref (gA g o)] M (pI (wB (M (o + 2))) M) := by
  refine Ctr.mk (cc := cX2_wornBits) (maxL := 3) (ret := some .int) (lv := [(0, .ref (gA g o))]) (by decide) rfl (Nat.le_of_ble_eq_true rfl) rfl ?_
  intro p e s m below meth c C hr hlk hI ls hl
  have C : CallFix p m c cX2_wornBits 3 s ([.ref (gA g o)] : List Value).toArray wsX2_wornBits RX2 := C
  have hx := C.1
  have hb := C.2.1
  have hts := C.2.2.2.2
  have hoa := ho.1
  have hob := ho.2.1
  have hoc := ho.2.2
  have hw0 := hw 0
  have hw1 := hw 1
  have hw2 := hw 2
  have hw3 := hw 3
  refine lv_iconst (v := iI 0) hx hb dX2_wornBits_0 rfl ?_
  refine lv_istore_n (lv' := [(1, .int (iI 0)), (0, .ref (gA g o))]) hx hb dX2_wornBits_1 rfl hl (by decide) rfl (fun ls hl => ?_)
  refine lv_iconst (v := iI 0) hx hb dX2_wornBits_2 rfl ?_
  refine lv_istore_n (lv' := [(2, .int (iI 0)), (1, .int (iI 0)), (0, .ref (gA g o))]) hx hb dX2_wornBits_3 rfl hl (by decide) rfl (fun ls hl => ?_)
  refine lv_iload_n hx hb dX2_wornBits_4 rfl (lv_at hl 0 rfl) ?_
  refine lv_iconst (v := iI 4) hx hb dX2_wornBits_5 rfl ?_
  refine r_icmp_ge hx hb (tgt := 29) (by decide) (by decide) dX2_wornBits_6 (by decide) (fun c => absurd c (by decide)) (fun c_1 => ?_)
  refine lv_aload_n hx hb dX2_wornBits_9 rfl (lv_at hl 2 rfl) ?_
  refine lv_iload_n hx hb dX2_wornBits_10 rfl (lv_at hl 0 rfl) ?_
  refine r_iv C hI (As := [.int (iI 0)]) (rest := []) (c_X2_isWorn l g M o 0 ho (by omega) (show -2147483648 ≤ (M (o + 2) 0) ∧ (M (o + 2) 0) < 2147483648 from by omega)) (cwV 1 hts gX2_wornBits_X2_isWorn rfl rfl rfl (by decide +kernel) ⟨Nat.le_of_ble_eq_true rfl, Nat.le_of_ble_eq_true rfl⟩) (by omega) (ceMo ho _) rfl rfl hl.1 rfl (Nat.le_of_ble_eq_true rfl) dX2_wornBits_11 ⟨Nat.zero_le _, Nat.zero_le _⟩ (k_I (fun H locs hI => ?_))
  refine r_b_eq hx hb (tgt := 23) dX2_wornBits_14 (by decide) (fun c_2 => ?_) (fun c_2 => ?_)
  · refine lv_iinc (v := iI (1)) (lv' := [(2, .int (iI 1)), (1, .int (iI 0)), (0, .ref (gA g o))]) hx hb dX2_wornBits_23 hl (k := 0) rfl (iI_add _ _) (by decide) rfl (fun ls hl => ?_)
    refine lv_goto (tgt := 4) hx hb dX2_wornBits_26 (by decide) ?_
    refine lv_iload_n hx hb dX2_wornBits_4 rfl (lv_at hl 0 rfl) ?_
    refine lv_iconst (v := iI 4) hx hb dX2_wornBits_5 rfl ?_
    refine r_icmp_ge hx hb (tgt := 29) (by decide) (by decide) dX2_wornBits_6 (by decide) (fun c => absurd c (by decide)) (fun c_3 => ?_)
    refine lv_aload_n hx hb dX2_wornBits_9 rfl (lv_at hl 2 rfl) ?_
    refine lv_iload_n hx hb dX2_wornBits_10 rfl (lv_at hl 0 rfl) ?_
    refine r_iv C hI (As := [.int (iI 1)]) (rest := []) (c_X2_isWorn l g M o 1 ho (by omega) (show -2147483648 ≤ (M (o + 2) 1) ∧ (M (o + 2) 1) < 2147483648 from by omega)) (cwV 1 hts gX2_wornBits_X2_isWorn rfl rfl rfl (by decide +kernel) ⟨Nat.le_of_ble_eq_true rfl, Nat.le_of_ble_eq_true rfl⟩) (by omega) (ceMo ho _) rfl rfl hl.1 rfl (Nat.le_of_ble_eq_true rfl) dX2_wornBits_11 ⟨Nat.zero_le _, Nat.zero_le _⟩ (k_I (fun H locs hI => ?_))
    refine r_b_eq hx hb (tgt := 23) dX2_wornBits_14 (by decide) (fun c_4 => ?_) (fun c_4 => ?_)
    · refine lv_iinc (v := iI (2)) (lv' := [(2, .int (iI 2)), (1, .int (iI 0)), (0, .ref (gA g o))]) hx hb dX2_wornBits_23 hl (k := 0) rfl (iI_add _ _) (by decide) rfl (fun ls hl => ?_)
      refine lv_goto (tgt := 4) hx hb dX2_wornBits_26 (by decide) ?_
      refine lv_iload_n hx hb dX2_wornBits_4 rfl (lv_at hl 0 rfl) ?_
      refine lv_iconst (v := iI 4) hx hb dX2_wornBits_5 rfl ?_
      refine r_icmp_ge hx hb (tgt := 29) (by decide) (by decide) dX2_wornBits_6 (by decide) (fun c => absurd c (by decide)) (fun c_5 => ?_)
      refine lv_aload_n hx hb dX2_wornBits_9 rfl (lv_at hl 2 rfl) ?_
      refine lv_iload_n hx hb dX2_wornBits_10 rfl (lv_at hl 0 rfl) ?_
      refine r_iv C hI (As := [.int (iI 2)]) (rest := []) (c_X2_isWorn l g M o 2 ho (by omega) (show -2147483648 ≤ (M (o + 2) 2) ∧ (M (o + 2) 2) < 2147483648 from by omega)) (cwV 1 hts gX2_wornBits_X2_isWorn rfl rfl rfl (by decide +kernel) ⟨Nat.le_of_ble_eq_true rfl, Nat.le_of_ble_eq_true rfl⟩) (by omega) (ceMo ho _) rfl rfl hl.1 rfl (Nat.le_of_ble_eq_true rfl) dX2_wornBits_11 ⟨Nat.zero_le _, Nat.zero_le _⟩ (k_I (fun H locs hI => ?_))
      refine r_b_eq hx hb (tgt := 23) dX2_wornBits_14 (by decide) (fun c_6 => ?_) (fun c_6 => ?_)
      · refine lv_iinc (v := iI (3)) (lv' := [(2, .int (iI 3)), (1, .int (iI 0)), (0, .ref (gA g o))]) hx hb dX2_wornBits_23 hl (k := 0) rfl (iI_add _ _) (by decide) rfl (fun ls hl => ?_)
        refine lv_goto (tgt := 4) hx hb dX2_wornBits_26 (by decide) ?_
        refine lv_iload_n hx hb dX2_wornBits_4 rfl (lv_at hl 0 rfl) ?_
        refine lv_iconst (v := iI 4) hx hb dX2_wornBits_5 rfl ?_
        refine r_icmp_ge hx hb (tgt := 29) (by decide) (by decide) dX2_wornBits_6 (by decide) (fun c => absurd c (by decide)) (fun c_7 => ?_)
        refine lv_aload_n hx hb dX2_wornBits_9 rfl (lv_at hl 2 rfl) ?_
        refine lv_iload_n hx hb dX2_wornBits_10 rfl (lv_at hl 0 rfl) ?_
        refine r_iv C hI (As := [.int (iI 3)]) (rest := []) (c_X2_isWorn l g M o 3 ho (by omega) (show -2147483648 ≤ (M (o + 2) 3) ∧ (M (o + 2) 3) < 2147483648 from by omega)) (cwV 1 hts gX2_wornBits_X2_isWorn rfl rfl rfl (by decide +kernel) ⟨Nat.le_of_ble_eq_true rfl, Nat.le_of_ble_eq_true rfl⟩) (by omega) (ceMo ho _) rfl rfl hl.1 rfl (Nat.le_of_ble_eq_true rfl) dX2_wornBits_11 ⟨Nat.zero_le _, Nat.zero_le _⟩ (k_I (fun H locs hI => ?_))
        refine r_b_eq hx hb (tgt := 23) dX2_wornBits_14 (by decide) (fun c_8 => ?_) (fun c_8 => ?_)
        · refine lv_iinc (v := iI (4)) (lv' := [(2, .int (iI 4)), (1, .int (iI 0)), (0, .ref (gA g o))]) hx hb dX2_wornBits_23 hl (k := 0) rfl (iI_add _ _) (by decide) rfl (fun ls hl => ?_)
          refine lv_goto (tgt := 4) hx hb dX2_wornBits_26 (by decide) ?_
          refine lv_iload_n hx hb dX2_wornBits_4 rfl (lv_at hl 0 rfl) ?_
          refine lv_iconst (v := iI 4) hx hb dX2_wornBits_5 rfl ?_
          refine r_icmp_ge hx hb (tgt := 29) (by decide) (by decide) dX2_wornBits_6 (by decide) (fun c_9 => ?_) (fun c => absurd c (by decide))
          refine lv_iload_n hx hb dX2_wornBits_29 rfl (lv_at hl 1 rfl) ?_
          refine r_iret C hr hlk hI ?_ dX2_wornBits_30
          exact ⟨congrArg (fun q => some (Value.int (iI q))) (show 0 = wB (M (o + 2)) from by unfold wB; (repeat' split) <;> first | (exfalso; omega) | decide +kernel), rfl⟩
        · refine lv_iload_n hx hb dX2_wornBits_17 rfl (lv_at hl 1 rfl) ?_
          refine lv_iconst (v := iI 1) hx hb dX2_wornBits_18 rfl ?_
          refine lv_iload_n hx hb dX2_wornBits_19 rfl (lv_at hl 0 rfl) ?_
          refine r_ishl hx hb (by refine ⟨?_, ?_⟩ <;> decide +kernel) dX2_wornBits_20 ?_
          refine r_ior hx hb (by refine ⟨?_, ?_⟩ <;> decide +kernel) dX2_wornBits_21 ?_
          refine lv_istore_n (lv' := [(1, .int (iI (orI 0 (shlI 1 3)))), (2, .int (iI 3)), (0, .ref (gA g o))]) hx hb dX2_wornBits_22 rfl hl (by decide) rfl (fun ls hl => ?_)
          refine lv_iinc (v := iI (4)) (lv' := [(2, .int (iI 4)), (1, .int (iI (orI 0 (shlI 1 3)))), (0, .ref (gA g o))]) hx hb dX2_wornBits_23 hl (k := 1) rfl (iI_add _ _) (by decide) rfl (fun ls hl => ?_)
          refine lv_goto (tgt := 4) hx hb dX2_wornBits_26 (by decide) ?_
          refine lv_iload_n hx hb dX2_wornBits_4 rfl (lv_at hl 0 rfl) ?_
          refine lv_iconst (v := iI 4) hx hb dX2_wornBits_5 rfl ?_
          refine r_icmp_ge hx hb (tgt := 29) (by decide) (by decide) dX2_wornBits_6 (by decide) (fun c_10 => ?_) (fun c => absurd c (by decide))
          refine lv_iload_n hx hb dX2_wornBits_29 rfl (lv_at hl 1 rfl) ?_
          refine r_iret C hr hlk hI ?_ dX2_wornBits_30
          exact ⟨congrArg (fun q => some (Value.int (iI q))) (show orI 0 (shlI 1 3) = wB (M (o + 2)) from by unfold wB; (repeat' split) <;> first | (exfalso; omega) | decide +kernel), rfl⟩
      · refine lv_iload_n hx hb dX2_wornBits_17 rfl (lv_at hl 1 rfl) ?_
        refine lv_iconst (v := iI 1) hx hb dX2_wornBits_18 rfl ?_
        refine lv_iload_n hx hb dX2_wornBits_19 rfl (lv_at hl 0 rfl) ?_
        refine r_ishl hx hb (by refine ⟨?_, ?_⟩ <;> decide +kernel) dX2_wornBits_20 ?_
        refine r_ior hx hb (by refine ⟨?_, ?_⟩ <;> decide +kernel) dX2_wornBits_21 ?_
        refine lv_istore_n (lv' := [(1, .int (iI (orI 0 (shlI 1 2)))), (2, .int (iI 2)), (0, .ref (gA g o))]) hx hb dX2_wornBits_22 rfl hl (by decide) rfl (fun ls hl => ?_)
        refine lv_iinc (v := iI (3)) (lv' := [(2, .int (iI 3)), (1, .int (iI (orI 0 (shlI 1 2)))), (0, .ref (gA g o))]) hx hb dX2_wornBits_23 hl (k := 1) rfl (iI_add _ _) (by decide) rfl (fun ls hl => ?_)
        refine lv_goto (tgt := 4) hx hb dX2_wornBits_26 (by decide) ?_
        refine lv_iload_n hx hb dX2_wornBits_4 rfl (lv_at hl 0 rfl) ?_
        refine lv_iconst (v := iI 4) hx hb dX2_wornBits_5 rfl ?_
        refine r_icmp_ge hx hb (tgt := 29) (by decide) (by decide) dX2_wornBits_6 (by decide) (fun c => absurd c (by decide)) (fun c_11 => ?_)
        refine lv_aload_n hx hb dX2_wornBits_9 rfl (lv_at hl 2 rfl) ?_
        refine lv_iload_n hx hb dX2_wornBits_10 rfl (lv_at hl 0 rfl) ?_
        refine r_iv C hI (As := [.int (iI 3)]) (rest := []) (c_X2_isWorn l g M o 3 ho (by omega) (show -2147483648 ≤ (M (o + 2) 3) ∧ (M (o + 2) 3) < 2147483648 from by omega)) (cwV 1 hts gX2_wornBits_X2_isWorn rfl rfl rfl (by decide +kernel) ⟨Nat.le_of_ble_eq_true rfl, Nat.le_of_ble_eq_true rfl⟩) (by omega) (ceMo ho _) rfl rfl hl.1 rfl (Nat.le_of_ble_eq_true rfl) dX2_wornBits_11 ⟨Nat.zero_le _, Nat.zero_le _⟩ (k_I (fun H locs hI => ?_))
        refine r_b_eq hx hb (tgt := 23) dX2_wornBits_14 (by decide) (fun c_12 => ?_) (fun c_12 => ?_)
        · refine lv_iinc (v := iI (4)) (lv' := [(2, .int (iI 4)), (1, .int (iI (orI 0 (shlI 1 2)))), (0, .ref (gA g o))]) hx hb dX2_wornBits_23 hl (k := 0) rfl (iI_add _ _) (by decide) rfl (fun ls hl => ?_)
          refine lv_goto (tgt := 4) hx hb dX2_wornBits_26 (by decide) ?_
          refine lv_iload_n hx hb dX2_wornBits_4 rfl (lv_at hl 0 rfl) ?_
          refine lv_iconst (v := iI 4) hx hb dX2_wornBits_5 rfl ?_
          refine r_icmp_ge hx hb (tgt := 29) (by decide) (by decide) dX2_wornBits_6 (by decide) (fun c_13 => ?_) (fun c => absurd c (by decide))
          refine lv_iload_n hx hb dX2_wornBits_29 rfl (lv_at hl 1 rfl) ?_
          refine r_iret C hr hlk hI ?_ dX2_wornBits_30
          exact ⟨congrArg (fun q => some (Value.int (iI q))) (show orI 0 (shlI 1 2) = wB (M (o + 2)) from by unfold wB; (repeat' split) <;> first | (exfalso; omega) | decide +kernel), rfl⟩
        · refine lv_iload_n hx hb dX2_wornBits_17 rfl (lv_at hl 1 rfl) ?_
          refine lv_iconst (v := iI 1) hx hb dX2_wornBits_18 rfl ?_
          refine lv_iload_n hx hb dX2_wornBits_19 rfl (lv_at hl 0 rfl) ?_
          refine r_ishl hx hb (by refine ⟨?_, ?_⟩ <;> decide +kernel) dX2_wornBits_20 ?_
          refine r_ior hx hb (by refine ⟨?_, ?_⟩ <;> decide +kernel) dX2_wornBits_21 ?_
          refine lv_istore_n (lv' := [(1, .int (iI (orI (orI 0 (shlI 1 2)) (shlI 1 3)))), (2, .int (iI 3)), (0, .ref (gA g o))]) hx hb dX2_wornBits_22 rfl hl (by decide) rfl (fun ls hl => ?_)
          refine lv_iinc (v := iI (4)) (lv' := [(2, .int (iI 4)), (1, .int (iI (orI (orI 0 (shlI 1 2)) (shlI 1 3)))), (0, .ref (gA g o))]) hx hb dX2_wornBits_23 hl (k := 1) rfl (iI_add _ _) (by decide) rfl (fun ls hl => ?_)
          refine lv_goto (tgt := 4) hx hb dX2_wornBits_26 (by decide) ?_
          refine lv_iload_n hx hb dX2_wornBits_4 rfl (lv_at hl 0 rfl) ?_
          refine lv_iconst (v := iI 4) hx hb dX2_wornBits_5 rfl ?_
          refine r_icmp_ge hx hb (tgt := 29) (by decide) (by decide) dX2_wornBits_6 (by decide) (fun c_14 => ?_) (fun c => absurd c (by decide))
          refine lv_iload_n hx hb dX2_wornBits_29 rfl (lv_at hl 1 rfl) ?_
          refine r_iret C hr hlk hI ?_ dX2_wornBits_30
          exact ⟨congrArg (fun q => some (Value.int (iI q))) (show orI (orI 0 (shlI 1 2)) (shlI 1 3) = wB (M (o + 2)) from by unfold wB; (repeat' split) <;> first | (exfalso; omega) | decide +kernel), rfl⟩
    · refine lv_iload_n hx hb dX2_wornBits_17 rfl (lv_at hl 1 rfl) ?_
      refine lv_iconst (v := iI 1) hx hb dX2_wornBits_18 rfl ?_
      refine lv_iload_n hx hb dX2_wornBits_19 rfl (lv_at hl 0 rfl) ?_
      refine r_ishl hx hb (by refine ⟨?_, ?_⟩ <;> decide +kernel) dX2_wornBits_20 ?_
      refine r_ior hx hb (by refine ⟨?_, ?_⟩ <;> decide +kernel) dX2_wornBits_21 ?_
      refine lv_istore_n (lv' := [(1, .int (iI (orI 0 (shlI 1 1)))), (2, .int (iI 1)), (0, .ref (gA g o))]) hx hb dX2_wornBits_22 rfl hl (by decide) rfl (fun ls hl => ?_)
      refine lv_iinc (v := iI (2)) (lv' := [(2, .int (iI 2)), (1, .int (iI (orI 0 (shlI 1 1)))), (0, .ref (gA g o))]) hx hb dX2_wornBits_23 hl (k := 1) rfl (iI_add _ _) (by decide) rfl (fun ls hl => ?_)
      refine lv_goto (tgt := 4) hx hb dX2_wornBits_26 (by decide) ?_
      refine lv_iload_n hx hb dX2_wornBits_4 rfl (lv_at hl 0 rfl) ?_
      refine lv_iconst (v := iI 4) hx hb dX2_wornBits_5 rfl ?_
      refine r_icmp_ge hx hb (tgt := 29) (by decide) (by decide) dX2_wornBits_6 (by decide) (fun c => absurd c (by decide)) (fun c_15 => ?_)
      refine lv_aload_n hx hb dX2_wornBits_9 rfl (lv_at hl 2 rfl) ?_
      refine lv_iload_n hx hb dX2_wornBits_10 rfl (lv_at hl 0 rfl) ?_
      refine r_iv C hI (As := [.int (iI 2)]) (rest := []) (c_X2_isWorn l g M o 2 ho (by omega) (show -2147483648 ≤ (M (o + 2) 2) ∧ (M (o + 2) 2) < 2147483648 from by omega)) (cwV 1 hts gX2_wornBits_X2_isWorn rfl rfl rfl (by decide +kernel) ⟨Nat.le_of_ble_eq_true rfl, Nat.le_of_ble_eq_true rfl⟩) (by omega) (ceMo ho _) rfl rfl hl.1 rfl (Nat.le_of_ble_eq_true rfl) dX2_wornBits_11 ⟨Nat.zero_le _, Nat.zero_le _⟩ (k_I (fun H locs hI => ?_))
      refine r_b_eq hx hb (tgt := 23) dX2_wornBits_14 (by decide) (fun c_16 => ?_) (fun c_16 => ?_)
      · refine lv_iinc (v := iI (3)) (lv' := [(2, .int (iI 3)), (1, .int (iI (orI 0 (shlI 1 1)))), (0, .ref (gA g o))]) hx hb dX2_wornBits_23 hl (k := 0) rfl (iI_add _ _) (by decide) rfl (fun ls hl => ?_)
        refine lv_goto (tgt := 4) hx hb dX2_wornBits_26 (by decide) ?_
        refine lv_iload_n hx hb dX2_wornBits_4 rfl (lv_at hl 0 rfl) ?_
        refine lv_iconst (v := iI 4) hx hb dX2_wornBits_5 rfl ?_
        refine r_icmp_ge hx hb (tgt := 29) (by decide) (by decide) dX2_wornBits_6 (by decide) (fun c => absurd c (by decide)) (fun c_17 => ?_)
        refine lv_aload_n hx hb dX2_wornBits_9 rfl (lv_at hl 2 rfl) ?_
        refine lv_iload_n hx hb dX2_wornBits_10 rfl (lv_at hl 0 rfl) ?_
        refine r_iv C hI (As := [.int (iI 3)]) (rest := []) (c_X2_isWorn l g M o 3 ho (by omega) (show -2147483648 ≤ (M (o + 2) 3) ∧ (M (o + 2) 3) < 2147483648 from by omega)) (cwV 1 hts gX2_wornBits_X2_isWorn rfl rfl rfl (by decide +kernel) ⟨Nat.le_of_ble_eq_true rfl, Nat.le_of_ble_eq_true rfl⟩) (by omega) (ceMo ho _) rfl rfl hl.1 rfl (Nat.le_of_ble_eq_true rfl) dX2_wornBits_11 ⟨Nat.zero_le _, Nat.zero_le _⟩ (k_I (fun H locs hI => ?_))
        refine r_b_eq hx hb (tgt := 23) dX2_wornBits_14 (by decide) (fun c_18 => ?_) (fun c_18 => ?_)
        · refine lv_iinc (v := iI (4)) (lv' := [(2, .int (iI 4)), (1, .int (iI (orI 0 (shlI 1 1)))), (0, .ref (gA g o))]) hx hb dX2_wornBits_23 hl (k := 0) rfl (iI_add _ _) (by decide) rfl (fun ls hl => ?_)
          refine lv_goto (tgt := 4) hx hb dX2_wornBits_26 (by decide) ?_
          refine lv_iload_n hx hb dX2_wornBits_4 rfl (lv_at hl 0 rfl) ?_
          refine lv_iconst (v := iI 4) hx hb dX2_wornBits_5 rfl ?_
          refine r_icmp_ge hx hb (tgt := 29) (by decide) (by decide) dX2_wornBits_6 (by decide) (fun c_19 => ?_) (fun c => absurd c (by decide))
          refine lv_iload_n hx hb dX2_wornBits_29 rfl (lv_at hl 1 rfl) ?_
          refine r_iret C hr hlk hI ?_ dX2_wornBits_30
          exact ⟨congrArg (fun q => some (Value.int (iI q))) (show orI 0 (shlI 1 1) = wB (M (o + 2)) from by unfold wB; (repeat' split) <;> first | (exfalso; omega) | decide +kernel), rfl⟩
        · refine lv_iload_n hx hb dX2_wornBits_17 rfl (lv_at hl 1 rfl) ?_
          refine lv_iconst (v := iI 1) hx hb dX2_wornBits_18 rfl ?_
          refine lv_iload_n hx hb dX2_wornBits_19 rfl (lv_at hl 0 rfl) ?_
          refine r_ishl hx hb (by refine ⟨?_, ?_⟩ <;> decide +kernel) dX2_wornBits_20 ?_
          refine r_ior hx hb (by refine ⟨?_, ?_⟩ <;> decide +kernel) dX2_wornBits_21 ?_
          refine lv_istore_n (lv' := [(1, .int (iI (orI (orI 0 (shlI 1 1)) (shlI 1 3)))), (2, .int (iI 3)), (0, .ref (gA g o))]) hx hb dX2_wornBits_22 rfl hl (by decide) rfl (fun ls hl => ?_)
          refine lv_iinc (v := iI (4)) (lv' := [(2, .int (iI 4)), (1, .int (iI (orI (orI 0 (shlI 1 1)) (shlI 1 3)))), (0, .ref (gA g o))]) hx hb dX2_wornBits_23 hl (k := 1) rfl (iI_add _ _) (by decide) rfl (fun ls hl => ?_)
          refine lv_goto (tgt := 4) hx hb dX2_wornBits_26 (by decide) ?_
          refine lv_iload_n hx hb dX2_wornBits_4 rfl (lv_at hl 0 rfl) ?_
          refine lv_iconst (v := iI 4) hx hb dX2_wornBits_5 rfl ?_
          refine r_icmp_ge hx hb (tgt := 29) (by decide) (by decide) dX2_wornBits_6 (by decide) (fun c_20 => ?_) (fun c => absurd c (by decide))
          refine lv_iload_n hx hb dX2_wornBits_29 rfl (lv_at hl 1 rfl) ?_
          refine r_iret C hr hlk hI ?_ dX2_wornBits_30
          exact ⟨congrArg (fun q => some (Value.int (iI q))) (show orI (orI 0 (shlI 1 1)) (shlI 1 3) = wB (M (o + 2)) from by unfold wB; (repeat' split) <;> first | (exfalso; omega) | decide +kernel), rfl⟩
      · refine lv_iload_n hx hb dX2_wornBits_17 rfl (lv_at hl 1 rfl) ?_
        refine lv_iconst (v := iI 1) hx hb dX2_wornBits_18 rfl ?_
        refine lv_iload_n hx hb dX2_wornBits_19 rfl (lv_at hl 0 rfl) ?_
        refine r_ishl hx hb (by refine ⟨?_, ?_⟩ <;> decide +kernel) dX2_wornBits_20 ?_
        refine r_ior hx hb (by refine ⟨?_, ?_⟩ <;> decide +kernel) dX2_wornBits_21 ?_
        refine lv_istore_n (lv' := [(1, .int (iI (orI (orI 0 (shlI 1 1)) (shlI 1 2)))), (2, .int (iI 2)), (0, .ref (gA g o))]) hx hb dX2_wornBits_22 rfl hl (by decide) rfl (fun ls hl => ?_)
        refine lv_iinc (v := iI (3)) (lv' := [(2, .int (iI 3)), (1, .int (iI (orI (orI 0 (shlI 1 1)) (shlI 1 2)))), (0, .ref (gA g o))]) hx hb dX2_wornBits_23 hl (k := 1) rfl (iI_add _ _) (by decide) rfl (fun ls hl => ?_)
        refine lv_goto (tgt := 4) hx hb dX2_wornBits_26 (by decide) ?_
        refine lv_iload_n hx hb dX2_wornBits_4 rfl (lv_at hl 0 rfl) ?_
        refine lv_iconst (v := iI 4) hx hb dX2_wornBits_5 rfl ?_
        refine r_icmp_ge hx hb (tgt := 29) (by decide) (by decide) dX2_wornBits_6 (by decide) (fun c => absurd c (by decide)) (fun c_21 => ?_)
        refine lv_aload_n hx hb dX2_wornBits_9 rfl (lv_at hl 2 rfl) ?_
        refine lv_iload_n hx hb dX2_wornBits_10 rfl (lv_at hl 0 rfl) ?_
        refine r_iv C hI (As := [.int (iI 3)]) (rest := []) (c_X2_isWorn l g M o 3 ho (by omega) (show -2147483648 ≤ (M (o + 2) 3) ∧ (M (o + 2) 3) < 2147483648 from by omega)) (cwV 1 hts gX2_wornBits_X2_isWorn rfl rfl rfl (by decide +kernel) ⟨Nat.le_of_ble_eq_true rfl, Nat.le_of_ble_eq_true rfl⟩) (by omega) (ceMo ho _) rfl rfl hl.1 rfl (Nat.le_of_ble_eq_true rfl) dX2_wornBits_11 ⟨Nat.zero_le _, Nat.zero_le _⟩ (k_I (fun H locs hI => ?_))
        refine r_b_eq hx hb (tgt := 23) dX2_wornBits_14 (by decide) (fun c_22 => ?_) (fun c_22 => ?_)
        · refine lv_iinc (v := iI (4)) (lv' := [(2, .int (iI 4)), (1, .int (iI (orI (orI 0 (shlI 1 1)) (shlI 1 2)))), (0, .ref (gA g o))]) hx hb dX2_wornBits_23 hl (k := 0) rfl (iI_add _ _) (by decide) rfl (fun ls hl => ?_)
          refine lv_goto (tgt := 4) hx hb dX2_wornBits_26 (by decide) ?_
          refine lv_iload_n hx hb dX2_wornBits_4 rfl (lv_at hl 0 rfl) ?_
          refine lv_iconst (v := iI 4) hx hb dX2_wornBits_5 rfl ?_
          refine r_icmp_ge hx hb (tgt := 29) (by decide) (by decide) dX2_wornBits_6 (by decide) (fun c_23 => ?_) (fun c => absurd c (by decide))
          refine lv_iload_n hx hb dX2_wornBits_29 rfl (lv_at hl 1 rfl) ?_
          refine r_iret C hr hlk hI ?_ dX2_wornBits_30
          exact ⟨congrArg (fun q => some (Value.int (iI q))) (show orI (orI 0 (shlI 1 1)) (shlI 1 2) = wB (M (o + 2)) from by unfold wB; (repeat' split) <;> first | (exfalso; omega) | decide +kernel), rfl⟩
        · refine lv_iload_n hx hb dX2_wornBits_17 rfl (lv_at hl 1 rfl) ?_
          refine lv_iconst (v := iI 1) hx hb dX2_wornBits_18 rfl ?_
          refine lv_iload_n hx hb dX2_wornBits_19 rfl (lv_at hl 0 rfl) ?_
          refine r_ishl hx hb (by refine ⟨?_, ?_⟩ <;> decide +kernel) dX2_wornBits_20 ?_
          refine r_ior hx hb (by refine ⟨?_, ?_⟩ <;> decide +kernel) dX2_wornBits_21 ?_
          refine lv_istore_n (lv' := [(1, .int (iI (orI (orI (orI 0 (shlI 1 1)) (shlI 1 2)) (shlI 1 3)))), (2, .int (iI 3)), (0, .ref (gA g o))]) hx hb dX2_wornBits_22 rfl hl (by decide) rfl (fun ls hl => ?_)
          refine lv_iinc (v := iI (4)) (lv' := [(2, .int (iI 4)), (1, .int (iI (orI (orI (orI 0 (shlI 1 1)) (shlI 1 2)) (shlI 1 3)))), (0, .ref (gA g o))]) hx hb dX2_wornBits_23 hl (k := 1) rfl (iI_add _ _) (by decide) rfl (fun ls hl => ?_)
          refine lv_goto (tgt := 4) hx hb dX2_wornBits_26 (by decide) ?_
          refine lv_iload_n hx hb dX2_wornBits_4 rfl (lv_at hl 0 rfl) ?_
          refine lv_iconst (v := iI 4) hx hb dX2_wornBits_5 rfl ?_
          refine r_icmp_ge hx hb (tgt := 29) (by decide) (by decide) dX2_wornBits_6 (by decide) (fun c_24 => ?_) (fun c => absurd c (by decide))
          refine lv_iload_n hx hb dX2_wornBits_29 rfl (lv_at hl 1 rfl) ?_
          refine r_iret C hr hlk hI ?_ dX2_wornBits_30
          exact ⟨congrArg (fun q => some (Value.int (iI q))) (show orI (orI (orI 0 (shlI 1 1)) (shlI 1 2)) (shlI 1 3) = wB (M (o + 2)) from by unfold wB; (repeat' split) <;> first | (exfalso; omega) | decide +kernel), rfl⟩
  · refine lv_iload_n hx hb dX2_wornBits_17 rfl (lv_at hl 1 rfl) ?_
    refine lv_iconst (v := iI 1) hx hb dX2_wornBits_18 rfl ?_
    refine lv_iload_n hx hb dX2_wornBits_19 rfl (lv_at hl 0 rfl) ?_
    refine r_ishl hx hb (by refine ⟨?_, ?_⟩ <;> decide +kernel) dX2_wornBits_20 ?_
    refine r_ior hx hb (by refine ⟨?_, ?_⟩ <;> decide +kernel) dX2_wornBits_21 ?_
    refine lv_istore_n (lv' := [(1, .int (iI (orI 0 (shlI 1 0)))), (2, .int (iI 0)), (0, .ref (gA g o))]) hx hb dX2_wornBits_22 rfl hl (by decide) rfl (fun ls hl => ?_)
    refine lv_iinc (v := iI (1)) (lv' := [(2, .int (iI 1)), (1, .int (iI (orI 0 (shlI 1 0)))), (0, .ref (gA g o))]) hx hb dX2_wornBits_23 hl (k := 1) rfl (iI_add _ _) (by decide) rfl (fun ls hl => ?_)
    refine lv_goto (tgt := 4) hx hb dX2_wornBits_26 (by decide) ?_
    refine lv_iload_n hx hb dX2_wornBits_4 rfl (lv_at hl 0 rfl) ?_
    refine lv_iconst (v := iI 4) hx hb dX2_wornBits_5 rfl ?_
    refine r_icmp_ge hx hb (tgt := 29) (by decide) (by decide) dX2_wornBits_6 (by decide) (fun c => absurd c (by decide)) (fun c_25 => ?_)
    refine lv_aload_n hx hb dX2_wornBits_9 rfl (lv_at hl 2 rfl) ?_
    refine lv_iload_n hx hb dX2_wornBits_10 rfl (lv_at hl 0 rfl) ?_
    refine r_iv C hI (As := [.int (iI 1)]) (rest := []) (c_X2_isWorn l g M o 1 ho (by omega) (show -2147483648 ≤ (M (o + 2) 1) ∧ (M (o + 2) 1) < 2147483648 from by omega)) (cwV 1 hts gX2_wornBits_X2_isWorn rfl rfl rfl (by decide +kernel) ⟨Nat.le_of_ble_eq_true rfl, Nat.le_of_ble_eq_true rfl⟩) (by omega) (ceMo ho _) rfl rfl hl.1 rfl (Nat.le_of_ble_eq_true rfl) dX2_wornBits_11 ⟨Nat.zero_le _, Nat.zero_le _⟩ (k_I (fun H locs hI => ?_))
    refine r_b_eq hx hb (tgt := 23) dX2_wornBits_14 (by decide) (fun c_26 => ?_) (fun c_26 => ?_)
    · refine lv_iinc (v := iI (2)) (lv' := [(2, .int (iI 2)), (1, .int (iI (orI 0 (shlI 1 0)))), (0, .ref (gA g o))]) hx hb dX2_wornBits_23 hl (k := 0) rfl (iI_add _ _) (by decide) rfl (fun ls hl => ?_)
      refine lv_goto (tgt := 4) hx hb dX2_wornBits_26 (by decide) ?_
      refine lv_iload_n hx hb dX2_wornBits_4 rfl (lv_at hl 0 rfl) ?_
      refine lv_iconst (v := iI 4) hx hb dX2_wornBits_5 rfl ?_
      refine r_icmp_ge hx hb (tgt := 29) (by decide) (by decide) dX2_wornBits_6 (by decide) (fun c => absurd c (by decide)) (fun c_27 => ?_)
      refine lv_aload_n hx hb dX2_wornBits_9 rfl (lv_at hl 2 rfl) ?_
      refine lv_iload_n hx hb dX2_wornBits_10 rfl (lv_at hl 0 rfl) ?_
      refine r_iv C hI (As := [.int (iI 2)]) (rest := []) (c_X2_isWorn l g M o 2 ho (by omega) (show -2147483648 ≤ (M (o + 2) 2) ∧ (M (o + 2) 2) < 2147483648 from by omega)) (cwV 1 hts gX2_wornBits_X2_isWorn rfl rfl rfl (by decide +kernel) ⟨Nat.le_of_ble_eq_true rfl, Nat.le_of_ble_eq_true rfl⟩) (by omega) (ceMo ho _) rfl rfl hl.1 rfl (Nat.le_of_ble_eq_true rfl) dX2_wornBits_11 ⟨Nat.zero_le _, Nat.zero_le _⟩ (k_I (fun H locs hI => ?_))
      refine r_b_eq hx hb (tgt := 23) dX2_wornBits_14 (by decide) (fun c_28 => ?_) (fun c_28 => ?_)
      · refine lv_iinc (v := iI (3)) (lv' := [(2, .int (iI 3)), (1, .int (iI (orI 0 (shlI 1 0)))), (0, .ref (gA g o))]) hx hb dX2_wornBits_23 hl (k := 0) rfl (iI_add _ _) (by decide) rfl (fun ls hl => ?_)
        refine lv_goto (tgt := 4) hx hb dX2_wornBits_26 (by decide) ?_
        refine lv_iload_n hx hb dX2_wornBits_4 rfl (lv_at hl 0 rfl) ?_
        refine lv_iconst (v := iI 4) hx hb dX2_wornBits_5 rfl ?_
        refine r_icmp_ge hx hb (tgt := 29) (by decide) (by decide) dX2_wornBits_6 (by decide) (fun c => absurd c (by decide)) (fun c_29 => ?_)
        refine lv_aload_n hx hb dX2_wornBits_9 rfl (lv_at hl 2 rfl) ?_
        refine lv_iload_n hx hb dX2_wornBits_10 rfl (lv_at hl 0 rfl) ?_
        refine r_iv C hI (As := [.int (iI 3)]) (rest := []) (c_X2_isWorn l g M o 3 ho (by omega) (show -2147483648 ≤ (M (o + 2) 3) ∧ (M (o + 2) 3) < 2147483648 from by omega)) (cwV 1 hts gX2_wornBits_X2_isWorn rfl rfl rfl (by decide +kernel) ⟨Nat.le_of_ble_eq_true rfl, Nat.le_of_ble_eq_true rfl⟩) (by omega) (ceMo ho _) rfl rfl hl.1 rfl (Nat.le_of_ble_eq_true rfl) dX2_wornBits_11 ⟨Nat.zero_le _, Nat.zero_le _⟩ (k_I (fun H locs hI => ?_))
        refine r_b_eq hx hb (tgt := 23) dX2_wornBits_14 (by decide) (fun c_30 => ?_) (fun c_30 => ?_)
        · refine lv_iinc (v := iI (4)) (lv' := [(2, .int (iI 4)), (1, .int (iI (orI 0 (shlI 1 0)))), (0, .ref (gA g o))]) hx hb dX2_wornBits_23 hl (k := 0) rfl (iI_add _ _) (by decide) rfl (fun ls hl => ?_)
          refine lv_goto (tgt := 4) hx hb dX2_wornBits_26 (by decide) ?_
          refine lv_iload_n hx hb dX2_wornBits_4 rfl (lv_at hl 0 rfl) ?_
          refine lv_iconst (v := iI 4) hx hb dX2_wornBits_5 rfl ?_
          refine r_icmp_ge hx hb (tgt := 29) (by decide) (by decide) dX2_wornBits_6 (by decide) (fun c_31 => ?_) (fun c => absurd c (by decide))
          refine lv_iload_n hx hb dX2_wornBits_29 rfl (lv_at hl 1 rfl) ?_
          refine r_iret C hr hlk hI ?_ dX2_wornBits_30
          exact ⟨congrArg (fun q => some (Value.int (iI q))) (show orI 0 (shlI 1 0) = wB (M (o + 2)) from by unfold wB; (repeat' split) <;> first | (exfalso; omega) | decide +kernel), rfl⟩
        · refine lv_iload_n hx hb dX2_wornBits_17 rfl (lv_at hl 1 rfl) ?_
          refine lv_iconst (v := iI 1) hx hb dX2_wornBits_18 rfl ?_
          refine lv_iload_n hx hb dX2_wornBits_19 rfl (lv_at hl 0 rfl) ?_
          refine r_ishl hx hb (by refine ⟨?_, ?_⟩ <;> decide +kernel) dX2_wornBits_20 ?_
          refine r_ior hx hb (by refine ⟨?_, ?_⟩ <;> decide +kernel) dX2_wornBits_21 ?_
          refine lv_istore_n (lv' := [(1, .int (iI (orI (orI 0 (shlI 1 0)) (shlI 1 3)))), (2, .int (iI 3)), (0, .ref (gA g o))]) hx hb dX2_wornBits_22 rfl hl (by decide) rfl (fun ls hl => ?_)
          refine lv_iinc (v := iI (4)) (lv' := [(2, .int (iI 4)), (1, .int (iI (orI (orI 0 (shlI 1 0)) (shlI 1 3)))), (0, .ref (gA g o))]) hx hb dX2_wornBits_23 hl (k := 1) rfl (iI_add _ _) (by decide) rfl (fun ls hl => ?_)
          refine lv_goto (tgt := 4) hx hb dX2_wornBits_26 (by decide) ?_
          refine lv_iload_n hx hb dX2_wornBits_4 rfl (lv_at hl 0 rfl) ?_
          refine lv_iconst (v := iI 4) hx hb dX2_wornBits_5 rfl ?_
          refine r_icmp_ge hx hb (tgt := 29) (by decide) (by decide) dX2_wornBits_6 (by decide) (fun c_32 => ?_) (fun c => absurd c (by decide))
          refine lv_iload_n hx hb dX2_wornBits_29 rfl (lv_at hl 1 rfl) ?_
          refine r_iret C hr hlk hI ?_ dX2_wornBits_30
          exact ⟨congrArg (fun q => some (Value.int (iI q))) (show orI (orI 0 (shlI 1 0)) (shlI 1 3) = wB (M (o + 2)) from by unfold wB; (repeat' split) <;> first | (exfalso; omega) | decide +kernel), rfl⟩
      · refine lv_iload_n hx hb dX2_wornBits_17 rfl (lv_at hl 1 rfl) ?_
        refine lv_iconst (v := iI 1) hx hb dX2_wornBits_18 rfl ?_
        refine lv_iload_n hx hb dX2_wornBits_19 rfl (lv_at hl 0 rfl) ?_
        refine r_ishl hx hb (by refine ⟨?_, ?_⟩ <;> decide +kernel) dX2_wornBits_20 ?_
        refine r_ior hx hb (by refine ⟨?_, ?_⟩ <;> decide +kernel) dX2_wornBits_21 ?_
        refine lv_istore_n (lv' := [(1, .int (iI (orI (orI 0 (shlI 1 0)) (shlI 1 2)))), (2, .int (iI 2)), (0, .ref (gA g o))]) hx hb dX2_wornBits_22 rfl hl (by decide) rfl (fun ls hl => ?_)
        refine lv_iinc (v := iI (3)) (lv' := [(2, .int (iI 3)), (1, .int (iI (orI (orI 0 (shlI 1 0)) (shlI 1 2)))), (0, .ref (gA g o))]) hx hb dX2_wornBits_23 hl (k := 1) rfl (iI_add _ _) (by decide) rfl (fun ls hl => ?_)
        refine lv_goto (tgt := 4) hx hb dX2_wornBits_26 (by decide) ?_
        refine lv_iload_n hx hb dX2_wornBits_4 rfl (lv_at hl 0 rfl) ?_
        refine lv_iconst (v := iI 4) hx hb dX2_wornBits_5 rfl ?_
        refine r_icmp_ge hx hb (tgt := 29) (by decide) (by decide) dX2_wornBits_6 (by decide) (fun c => absurd c (by decide)) (fun c_33 => ?_)
        refine lv_aload_n hx hb dX2_wornBits_9 rfl (lv_at hl 2 rfl) ?_
        refine lv_iload_n hx hb dX2_wornBits_10 rfl (lv_at hl 0 rfl) ?_
        refine r_iv C hI (As := [.int (iI 3)]) (rest := []) (c_X2_isWorn l g M o 3 ho (by omega) (show -2147483648 ≤ (M (o + 2) 3) ∧ (M (o + 2) 3) < 2147483648 from by omega)) (cwV 1 hts gX2_wornBits_X2_isWorn rfl rfl rfl (by decide +kernel) ⟨Nat.le_of_ble_eq_true rfl, Nat.le_of_ble_eq_true rfl⟩) (by omega) (ceMo ho _) rfl rfl hl.1 rfl (Nat.le_of_ble_eq_true rfl) dX2_wornBits_11 ⟨Nat.zero_le _, Nat.zero_le _⟩ (k_I (fun H locs hI => ?_))
        refine r_b_eq hx hb (tgt := 23) dX2_wornBits_14 (by decide) (fun c_34 => ?_) (fun c_34 => ?_)
        · refine lv_iinc (v := iI (4)) (lv' := [(2, .int (iI 4)), (1, .int (iI (orI (orI 0 (shlI 1 0)) (shlI 1 2)))), (0, .ref (gA g o))]) hx hb dX2_wornBits_23 hl (k := 0) rfl (iI_add _ _) (by decide) rfl (fun ls hl => ?_)
          refine lv_goto (tgt := 4) hx hb dX2_wornBits_26 (by decide) ?_
          refine lv_iload_n hx hb dX2_wornBits_4 rfl (lv_at hl 0 rfl) ?_
          refine lv_iconst (v := iI 4) hx hb dX2_wornBits_5 rfl ?_
          refine r_icmp_ge hx hb (tgt := 29) (by decide) (by decide) dX2_wornBits_6 (by decide) (fun c_35 => ?_) (fun c => absurd c (by decide))
          refine lv_iload_n hx hb dX2_wornBits_29 rfl (lv_at hl 1 rfl) ?_
          refine r_iret C hr hlk hI ?_ dX2_wornBits_30
          exact ⟨congrArg (fun q => some (Value.int (iI q))) (show orI (orI 0 (shlI 1 0)) (shlI 1 2) = wB (M (o + 2)) from by unfold wB; (repeat' split) <;> first | (exfalso; omega) | decide +kernel), rfl⟩
        · refine lv_iload_n hx hb dX2_wornBits_17 rfl (lv_at hl 1 rfl) ?_
          refine lv_iconst (v := iI 1) hx hb dX2_wornBits_18 rfl ?_
          refine lv_iload_n hx hb dX2_wornBits_19 rfl (lv_at hl 0 rfl) ?_
          refine r_ishl hx hb (by refine ⟨?_, ?_⟩ <;> decide +kernel) dX2_wornBits_20 ?_
          refine r_ior hx hb (by refine ⟨?_, ?_⟩ <;> decide +kernel) dX2_wornBits_21 ?_
          refine lv_istore_n (lv' := [(1, .int (iI (orI (orI (orI 0 (shlI 1 0)) (shlI 1 2)) (shlI 1 3)))), (2, .int (iI 3)), (0, .ref (gA g o))]) hx hb dX2_wornBits_22 rfl hl (by decide) rfl (fun ls hl => ?_)
          refine lv_iinc (v := iI (4)) (lv' := [(2, .int (iI 4)), (1, .int (iI (orI (orI (orI 0 (shlI 1 0)) (shlI 1 2)) (shlI 1 3)))), (0, .ref (gA g o))]) hx hb dX2_wornBits_23 hl (k := 1) rfl (iI_add _ _) (by decide) rfl (fun ls hl => ?_)
          refine lv_goto (tgt := 4) hx hb dX2_wornBits_26 (by decide) ?_
          refine lv_iload_n hx hb dX2_wornBits_4 rfl (lv_at hl 0 rfl) ?_
          refine lv_iconst (v := iI 4) hx hb dX2_wornBits_5 rfl ?_
          refine r_icmp_ge hx hb (tgt := 29) (by decide) (by decide) dX2_wornBits_6 (by decide) (fun c_36 => ?_) (fun c => absurd c (by decide))
          refine lv_iload_n hx hb dX2_wornBits_29 rfl (lv_at hl 1 rfl) ?_
          refine r_iret C hr hlk hI ?_ dX2_wornBits_30
          exact ⟨congrArg (fun q => some (Value.int (iI q))) (show orI (orI (orI 0 (shlI 1 0)) (shlI 1 2)) (shlI 1 3) = wB (M (o + 2)) from by unfold wB; (repeat' split) <;> first | (exfalso; omega) | decide +kernel), rfl⟩
    · refine lv_iload_n hx hb dX2_wornBits_17 rfl (lv_at hl 1 rfl) ?_
      refine lv_iconst (v := iI 1) hx hb dX2_wornBits_18 rfl ?_
      refine lv_iload_n hx hb dX2_wornBits_19 rfl (lv_at hl 0 rfl) ?_
      refine r_ishl hx hb (by refine ⟨?_, ?_⟩ <;> decide +kernel) dX2_wornBits_20 ?_
      refine r_ior hx hb (by refine ⟨?_, ?_⟩ <;> decide +kernel) dX2_wornBits_21 ?_
      refine lv_istore_n (lv' := [(1, .int (iI (orI (orI 0 (shlI 1 0)) (shlI 1 1)))), (2, .int (iI 1)), (0, .ref (gA g o))]) hx hb dX2_wornBits_22 rfl hl (by decide) rfl (fun ls hl => ?_)
      refine lv_iinc (v := iI (2)) (lv' := [(2, .int (iI 2)), (1, .int (iI (orI (orI 0 (shlI 1 0)) (shlI 1 1)))), (0, .ref (gA g o))]) hx hb dX2_wornBits_23 hl (k := 1) rfl (iI_add _ _) (by decide) rfl (fun ls hl => ?_)
      refine lv_goto (tgt := 4) hx hb dX2_wornBits_26 (by decide) ?_
      refine lv_iload_n hx hb dX2_wornBits_4 rfl (lv_at hl 0 rfl) ?_
      refine lv_iconst (v := iI 4) hx hb dX2_wornBits_5 rfl ?_
      refine r_icmp_ge hx hb (tgt := 29) (by decide) (by decide) dX2_wornBits_6 (by decide) (fun c => absurd c (by decide)) (fun c_37 => ?_)
      refine lv_aload_n hx hb dX2_wornBits_9 rfl (lv_at hl 2 rfl) ?_
      refine lv_iload_n hx hb dX2_wornBits_10 rfl (lv_at hl 0 rfl) ?_
      refine r_iv C hI (As := [.int (iI 2)]) (rest := []) (c_X2_isWorn l g M o 2 ho (by omega) (show -2147483648 ≤ (M (o + 2) 2) ∧ (M (o + 2) 2) < 2147483648 from by omega)) (cwV 1 hts gX2_wornBits_X2_isWorn rfl rfl rfl (by decide +kernel) ⟨Nat.le_of_ble_eq_true rfl, Nat.le_of_ble_eq_true rfl⟩) (by omega) (ceMo ho _) rfl rfl hl.1 rfl (Nat.le_of_ble_eq_true rfl) dX2_wornBits_11 ⟨Nat.zero_le _, Nat.zero_le _⟩ (k_I (fun H locs hI => ?_))
      refine r_b_eq hx hb (tgt := 23) dX2_wornBits_14 (by decide) (fun c_38 => ?_) (fun c_38 => ?_)
      · refine lv_iinc (v := iI (3)) (lv' := [(2, .int (iI 3)), (1, .int (iI (orI (orI 0 (shlI 1 0)) (shlI 1 1)))), (0, .ref (gA g o))]) hx hb dX2_wornBits_23 hl (k := 0) rfl (iI_add _ _) (by decide) rfl (fun ls hl => ?_)
        refine lv_goto (tgt := 4) hx hb dX2_wornBits_26 (by decide) ?_
        refine lv_iload_n hx hb dX2_wornBits_4 rfl (lv_at hl 0 rfl) ?_
        refine lv_iconst (v := iI 4) hx hb dX2_wornBits_5 rfl ?_
        refine r_icmp_ge hx hb (tgt := 29) (by decide) (by decide) dX2_wornBits_6 (by decide) (fun c => absurd c (by decide)) (fun c_39 => ?_)
        refine lv_aload_n hx hb dX2_wornBits_9 rfl (lv_at hl 2 rfl) ?_
        refine lv_iload_n hx hb dX2_wornBits_10 rfl (lv_at hl 0 rfl) ?_
        refine r_iv C hI (As := [.int (iI 3)]) (rest := []) (c_X2_isWorn l g M o 3 ho (by omega) (show -2147483648 ≤ (M (o + 2) 3) ∧ (M (o + 2) 3) < 2147483648 from by omega)) (cwV 1 hts gX2_wornBits_X2_isWorn rfl rfl rfl (by decide +kernel) ⟨Nat.le_of_ble_eq_true rfl, Nat.le_of_ble_eq_true rfl⟩) (by omega) (ceMo ho _) rfl rfl hl.1 rfl (Nat.le_of_ble_eq_true rfl) dX2_wornBits_11 ⟨Nat.zero_le _, Nat.zero_le _⟩ (k_I (fun H locs hI => ?_))
        refine r_b_eq hx hb (tgt := 23) dX2_wornBits_14 (by decide) (fun c_40 => ?_) (fun c_40 => ?_)
        · refine lv_iinc (v := iI (4)) (lv' := [(2, .int (iI 4)), (1, .int (iI (orI (orI 0 (shlI 1 0)) (shlI 1 1)))), (0, .ref (gA g o))]) hx hb dX2_wornBits_23 hl (k := 0) rfl (iI_add _ _) (by decide) rfl (fun ls hl => ?_)
          refine lv_goto (tgt := 4) hx hb dX2_wornBits_26 (by decide) ?_
          refine lv_iload_n hx hb dX2_wornBits_4 rfl (lv_at hl 0 rfl) ?_
          refine lv_iconst (v := iI 4) hx hb dX2_wornBits_5 rfl ?_
          refine r_icmp_ge hx hb (tgt := 29) (by decide) (by decide) dX2_wornBits_6 (by decide) (fun c_41 => ?_) (fun c => absurd c (by decide))
          refine lv_iload_n hx hb dX2_wornBits_29 rfl (lv_at hl 1 rfl) ?_
          refine r_iret C hr hlk hI ?_ dX2_wornBits_30
          exact ⟨congrArg (fun q => some (Value.int (iI q))) (show orI (orI 0 (shlI 1 0)) (shlI 1 1) = wB (M (o + 2)) from by unfold wB; (repeat' split) <;> first | (exfalso; omega) | decide +kernel), rfl⟩
        · refine lv_iload_n hx hb dX2_wornBits_17 rfl (lv_at hl 1 rfl) ?_
          refine lv_iconst (v := iI 1) hx hb dX2_wornBits_18 rfl ?_
          refine lv_iload_n hx hb dX2_wornBits_19 rfl (lv_at hl 0 rfl) ?_
          refine r_ishl hx hb (by refine ⟨?_, ?_⟩ <;> decide +kernel) dX2_wornBits_20 ?_
          refine r_ior hx hb (by refine ⟨?_, ?_⟩ <;> decide +kernel) dX2_wornBits_21 ?_
          refine lv_istore_n (lv' := [(1, .int (iI (orI (orI (orI 0 (shlI 1 0)) (shlI 1 1)) (shlI 1 3)))), (2, .int (iI 3)), (0, .ref (gA g o))]) hx hb dX2_wornBits_22 rfl hl (by decide) rfl (fun ls hl => ?_)
          refine lv_iinc (v := iI (4)) (lv' := [(2, .int (iI 4)), (1, .int (iI (orI (orI (orI 0 (shlI 1 0)) (shlI 1 1)) (shlI 1 3)))), (0, .ref (gA g o))]) hx hb dX2_wornBits_23 hl (k := 1) rfl (iI_add _ _) (by decide) rfl (fun ls hl => ?_)
          refine lv_goto (tgt := 4) hx hb dX2_wornBits_26 (by decide) ?_
          refine lv_iload_n hx hb dX2_wornBits_4 rfl (lv_at hl 0 rfl) ?_
          refine lv_iconst (v := iI 4) hx hb dX2_wornBits_5 rfl ?_
          refine r_icmp_ge hx hb (tgt := 29) (by decide) (by decide) dX2_wornBits_6 (by decide) (fun c_42 => ?_) (fun c => absurd c (by decide))
          refine lv_iload_n hx hb dX2_wornBits_29 rfl (lv_at hl 1 rfl) ?_
          refine r_iret C hr hlk hI ?_ dX2_wornBits_30
          exact ⟨congrArg (fun q => some (Value.int (iI q))) (show orI (orI (orI 0 (shlI 1 0)) (shlI 1 1)) (shlI 1 3) = wB (M (o + 2)) from by unfold wB; (repeat' split) <;> first | (exfalso; omega) | decide +kernel), rfl⟩
      · refine lv_iload_n hx hb dX2_wornBits_17 rfl (lv_at hl 1 rfl) ?_
        refine lv_iconst (v := iI 1) hx hb dX2_wornBits_18 rfl ?_
        refine lv_iload_n hx hb dX2_wornBits_19 rfl (lv_at hl 0 rfl) ?_
        refine r_ishl hx hb (by refine ⟨?_, ?_⟩ <;> decide +kernel) dX2_wornBits_20 ?_
        refine r_ior hx hb (by refine ⟨?_, ?_⟩ <;> decide +kernel) dX2_wornBits_21 ?_
        refine lv_istore_n (lv' := [(1, .int (iI (orI (orI (orI 0 (shlI 1 0)) (shlI 1 1)) (shlI 1 2)))), (2, .int (iI 2)), (0, .ref (gA g o))]) hx hb dX2_wornBits_22 rfl hl (by decide) rfl (fun ls hl => ?_)
        refine lv_iinc (v := iI (3)) (lv' := [(2, .int (iI 3)), (1, .int (iI (orI (orI (orI 0 (shlI 1 0)) (shlI 1 1)) (shlI 1 2)))), (0, .ref (gA g o))]) hx hb dX2_wornBits_23 hl (k := 1) rfl (iI_add _ _) (by decide) rfl (fun ls hl => ?_)
        refine lv_goto (tgt := 4) hx hb dX2_wornBits_26 (by decide) ?_
        refine lv_iload_n hx hb dX2_wornBits_4 rfl (lv_at hl 0 rfl) ?_
        refine lv_iconst (v := iI 4) hx hb dX2_wornBits_5 rfl ?_
        refine r_icmp_ge hx hb (tgt := 29) (by decide) (by decide) dX2_wornBits_6 (by decide) (fun c => absurd c (by decide)) (fun c_43 => ?_)
        refine lv_aload_n hx hb dX2_wornBits_9 rfl (lv_at hl 2 rfl) ?_
        refine lv_iload_n hx hb dX2_wornBits_10 rfl (lv_at hl 0 rfl) ?_
        refine r_iv C hI (As := [.int (iI 3)]) (rest := []) (c_X2_isWorn l g M o 3 ho (by omega) (show -2147483648 ≤ (M (o + 2) 3) ∧ (M (o + 2) 3) < 2147483648 from by omega)) (cwV 1 hts gX2_wornBits_X2_isWorn rfl rfl rfl (by decide +kernel) ⟨Nat.le_of_ble_eq_true rfl, Nat.le_of_ble_eq_true rfl⟩) (by omega) (ceMo ho _) rfl rfl hl.1 rfl (Nat.le_of_ble_eq_true rfl) dX2_wornBits_11 ⟨Nat.zero_le _, Nat.zero_le _⟩ (k_I (fun H locs hI => ?_))
        refine r_b_eq hx hb (tgt := 23) dX2_wornBits_14 (by decide) (fun c_44 => ?_) (fun c_44 => ?_)
        · refine lv_iinc (v := iI (4)) (lv' := [(2, .int (iI 4)), (1, .int (iI (orI (orI (orI 0 (shlI 1 0)) (shlI 1 1)) (shlI 1 2)))), (0, .ref (gA g o))]) hx hb dX2_wornBits_23 hl (k := 0) rfl (iI_add _ _) (by decide) rfl (fun ls hl => ?_)
          refine lv_goto (tgt := 4) hx hb dX2_wornBits_26 (by decide) ?_
          refine lv_iload_n hx hb dX2_wornBits_4 rfl (lv_at hl 0 rfl) ?_
          refine lv_iconst (v := iI 4) hx hb dX2_wornBits_5 rfl ?_
          refine r_icmp_ge hx hb (tgt := 29) (by decide) (by decide) dX2_wornBits_6 (by decide) (fun c_45 => ?_) (fun c => absurd c (by decide))
          refine lv_iload_n hx hb dX2_wornBits_29 rfl (lv_at hl 1 rfl) ?_
          refine r_iret C hr hlk hI ?_ dX2_wornBits_30
          exact ⟨congrArg (fun q => some (Value.int (iI q))) (show orI (orI (orI 0 (shlI 1 0)) (shlI 1 1)) (shlI 1 2) = wB (M (o + 2)) from by unfold wB; (repeat' split) <;> first | (exfalso; omega) | decide +kernel), rfl⟩
        · refine lv_iload_n hx hb dX2_wornBits_17 rfl (lv_at hl 1 rfl) ?_
          refine lv_iconst (v := iI 1) hx hb dX2_wornBits_18 rfl ?_
          refine lv_iload_n hx hb dX2_wornBits_19 rfl (lv_at hl 0 rfl) ?_
          refine r_ishl hx hb (by refine ⟨?_, ?_⟩ <;> decide +kernel) dX2_wornBits_20 ?_
          refine r_ior hx hb (by refine ⟨?_, ?_⟩ <;> decide +kernel) dX2_wornBits_21 ?_
          refine lv_istore_n (lv' := [(1, .int (iI (orI (orI (orI (orI 0 (shlI 1 0)) (shlI 1 1)) (shlI 1 2)) (shlI 1 3)))), (2, .int (iI 3)), (0, .ref (gA g o))]) hx hb dX2_wornBits_22 rfl hl (by decide) rfl (fun ls hl => ?_)
          refine lv_iinc (v := iI (4)) (lv' := [(2, .int (iI 4)), (1, .int (iI (orI (orI (orI (orI 0 (shlI 1 0)) (shlI 1 1)) (shlI 1 2)) (shlI 1 3)))), (0, .ref (gA g o))]) hx hb dX2_wornBits_23 hl (k := 1) rfl (iI_add _ _) (by decide) rfl (fun ls hl => ?_)
          refine lv_goto (tgt := 4) hx hb dX2_wornBits_26 (by decide) ?_
          refine lv_iload_n hx hb dX2_wornBits_4 rfl (lv_at hl 0 rfl) ?_
          refine lv_iconst (v := iI 4) hx hb dX2_wornBits_5 rfl ?_
          refine r_icmp_ge hx hb (tgt := 29) (by decide) (by decide) dX2_wornBits_6 (by decide) (fun c_46 => ?_) (fun c => absurd c (by decide))
          refine lv_iload_n hx hb dX2_wornBits_29 rfl (lv_at hl 1 rfl) ?_
          refine r_iret C hr hlk hI ?_ dX2_wornBits_30
          exact ⟨congrArg (fun q => some (Value.int (iI q))) (show orI (orI (orI (orI 0 (shlI 1 0)) (shlI 1 1)) (shlI 1 2)) (shlI 1 3) = wB (M (o + 2)) from by unfold wB; (repeat' split) <;> first | (exfalso; omega) | decide +kernel), rfl⟩
set_option maxHeartbeats 4000000 in
set_option maxRecDepth 100000 in
theorem c_X2_start (l : Launch) (g : GT) (M : Mem) (hG : -2147483648 ≤ M 3 7 ∧ M 3 7 < 2147483648) : Ctr l g yX2_start wsX2_start ({ frames := 2, cells := 0, slots := 0, locals := 42 } : Room) [.ref (gA g 32), .ref (gA g 3)] M (pV (sttM M 32)) := by
  refine Ctr.mk (cc := cX2_start) (maxL := 3) (ret := none) (lv := [(0, .ref (gA g 32)), (1, .ref (gA g 3))]) (by decide) rfl (Nat.le_of_ble_eq_true rfl) rfl ?_
  intro p e s m below meth c C hr hlk hI ls hl
  have C : CallFix p m c cX2_start 3 s ([.ref (gA g 32), .ref (gA g 3)] : List Value).toArray wsX2_start RX2 := C
  have hx := C.1
  have hb := C.2.1
  have hts := C.2.2.2.2
  have hin2 : ∀ w ∈ u_ws RX2 TX2 4, w ∈ wsX2_start := by decide +kernel
  refine lv_iconst (v := iI 0) hx hb dX2_start_0 rfl ?_
  refine lv_istore_n (lv' := [(2, .int (iI 0)), (0, .ref (gA g 32)), (1, .ref (gA g 3))]) hx hb dX2_start_1 rfl hl (by decide) rfl (fun ls hl => ?_)
  refine lv_iload_n hx hb dX2_start_2 rfl (lv_at hl 0 rfl) ?_
  refine lv_iconst (v := iI 4) hx hb dX2_start_3 rfl ?_
  refine r_icmp_ge hx hb (tgt := 36) (by decide) (by decide) dX2_start_4 (by decide) (fun c => absurd c (by decide)) (fun c_1 => ?_)
  refine lv_aload_n hx hb dX2_start_7 rfl (lv_at hl 1 rfl) ?_
  refine r_get C hI 32 (by decide) (ceMo (show isMo 32 from by decide) _) rfl hin2 0 (by decide) (fn := "kept") (fd := "[I") (index := 9) (by decide +kernel) ⟨rfl, rfl, rfl⟩ (v := .ref (gA g 33)) rfl dX2_start_8 ?_
  refine lv_iload_n hx hb dX2_start_11 rfl (lv_at hl 0 rfl) ?_
  refine lv_aload_n hx hb dX2_start_12 rfl (lv_at hl 2 rfl) ?_
  refine lv_iload_n hx hb dX2_start_13 rfl (lv_at hl 0 rfl) ?_
  refine r_iv C hI (As := [.int (iI 0)]) (rest := [.int (iI 0), .ref (gA g 33)]) (c_X1_toldOf l g M 0 (by omega) (show -2147483648 ≤ (M 3 7) ∧ (M 3 7) < 2147483648 from by omega)) (cwV 1 hts gX2_start_X1_toldOf rfl rfl rfl (by decide +kernel) ⟨Nat.le_of_ble_eq_true rfl, Nat.le_of_ble_eq_true rfl⟩) (by decide) rfl rfl rfl hl.1 rfl (Nat.le_of_ble_eq_true rfl) dX2_start_14 ⟨Nat.zero_le _, Nat.zero_le _⟩ (k_I (fun H locs hI => ?_))
  refine r_isn C hI (As := [.ref (gA g 33), .int (iI 0), .int (iI (tldO (M) 0))]) (rest := []) (c_X6_put l g M 33 0 (tldO (M) 0) 4 (by omega) (ceMk (show isMo 32 from by decide)) (by omega) (by omega)) ⟨va_cnB 3 hts gX2_start_X6_put_n32 rfl rfl rfl (hI.2.2.2.2.2.1 (.methodLinkNest RX2 32 yX6_put RX6) (by decide +kernel)) (hts (.initialized RX6) (by decide +kernel)) (by decide +kernel) ⟨Nat.le_of_ble_eq_true rfl, Nat.le_of_ble_eq_true rfl⟩, hts (.static yX6_put) (by decide +kernel), trivial⟩ rfl hl.1 rfl (Nat.le_of_ble_eq_true rfl) dX2_start_17 ⟨Nat.zero_le _, Nat.zero_le _⟩ (k_V (fun H locs hI => ?_))
  refine lv_aload_n hx hb dX2_start_20 rfl (lv_at hl 1 rfl) ?_
  refine r_get C hI 32 (by decide) (ceMo (show isMo 32 from by decide) _) rfl hin2 1 (by decide) (fn := "wearer") (fd := "[I") (index := 15) (by decide +kernel) ⟨rfl, rfl, rfl⟩ (v := .ref (gA g 34)) rfl dX2_start_21 ?_
  refine lv_iload_n hx hb dX2_start_24 rfl (lv_at hl 0 rfl) ?_
  refine lv_bipush (v := iI (-9)) hx hb dX2_start_25 (by decide +kernel) ?_
  refine r_isn C hI (As := [.ref (gA g 34), .int (iI 0), .int (iI (-9))]) (rest := []) (c_X6_put l g (mset M 33 0 (tldO (M) 0)) 34 0 (-9) 4 (by omega) (ceMw (show isMo 32 from by decide)) (by omega) (by omega)) ⟨va_cnB 3 hts gX2_start_X6_put_n32 rfl rfl rfl (hI.2.2.2.2.2.1 (.methodLinkNest RX2 32 yX6_put RX6) (by decide +kernel)) (hts (.initialized RX6) (by decide +kernel)) (by decide +kernel) ⟨Nat.le_of_ble_eq_true rfl, Nat.le_of_ble_eq_true rfl⟩, hts (.static yX6_put) (by decide +kernel), trivial⟩ rfl hl.1 rfl (Nat.le_of_ble_eq_true rfl) dX2_start_27 ⟨Nat.zero_le _, Nat.zero_le _⟩ (k_V (fun H locs hI => ?_))
  refine lv_iinc (v := iI (1)) (lv' := [(2, .int (iI 1)), (0, .ref (gA g 32)), (1, .ref (gA g 3))]) hx hb dX2_start_30 hl (k := 0) rfl (iI_add _ _) (by decide) rfl (fun ls hl => ?_)
  refine lv_goto (tgt := 2) hx hb dX2_start_33 (by decide) ?_
  refine lv_iload_n hx hb dX2_start_2 rfl (lv_at hl 0 rfl) ?_
  refine lv_iconst (v := iI 4) hx hb dX2_start_3 rfl ?_
  refine r_icmp_ge hx hb (tgt := 36) (by decide) (by decide) dX2_start_4 (by decide) (fun c => absurd c (by decide)) (fun c_2 => ?_)
  refine lv_aload_n hx hb dX2_start_7 rfl (lv_at hl 1 rfl) ?_
  refine r_get C hI 32 (by decide) (ceMo (show isMo 32 from by decide) _) rfl hin2 0 (by decide) (fn := "kept") (fd := "[I") (index := 9) (by decide +kernel) ⟨rfl, rfl, rfl⟩ (v := .ref (gA g 33)) rfl dX2_start_8 ?_
  refine lv_iload_n hx hb dX2_start_11 rfl (lv_at hl 0 rfl) ?_
  refine lv_aload_n hx hb dX2_start_12 rfl (lv_at hl 2 rfl) ?_
  refine lv_iload_n hx hb dX2_start_13 rfl (lv_at hl 0 rfl) ?_
  refine r_iv C hI (As := [.int (iI 1)]) (rest := [.int (iI 1), .ref (gA g 33)]) (c_X1_toldOf l g (mset (mset M 33 0 (tldO (M) 0)) 34 0 (-9)) 1 (by omega) (show -2147483648 ≤ (M 3 7) ∧ (M 3 7) < 2147483648 from by omega)) (cwV 1 hts gX2_start_X1_toldOf rfl rfl rfl (by decide +kernel) ⟨Nat.le_of_ble_eq_true rfl, Nat.le_of_ble_eq_true rfl⟩) (by decide) rfl rfl rfl hl.1 rfl (Nat.le_of_ble_eq_true rfl) dX2_start_14 ⟨Nat.zero_le _, Nat.zero_le _⟩ (k_I (fun H locs hI => ?_))
  refine r_isn C hI (As := [.ref (gA g 33), .int (iI 1), .int (iI (tldO ((mset (mset M 33 0 (tldO (M) 0)) 34 0 (-9))) 1))]) (rest := []) (c_X6_put l g (mset (mset M 33 0 (tldO (M) 0)) 34 0 (-9)) 33 1 (tldO ((mset (mset M 33 0 (tldO (M) 0)) 34 0 (-9))) 1) 4 (by omega) (ceMk (show isMo 32 from by decide)) (by omega) (by omega)) ⟨va_cnB 3 hts gX2_start_X6_put_n32 rfl rfl rfl (hI.2.2.2.2.2.1 (.methodLinkNest RX2 32 yX6_put RX6) (by decide +kernel)) (hts (.initialized RX6) (by decide +kernel)) (by decide +kernel) ⟨Nat.le_of_ble_eq_true rfl, Nat.le_of_ble_eq_true rfl⟩, hts (.static yX6_put) (by decide +kernel), trivial⟩ rfl hl.1 rfl (Nat.le_of_ble_eq_true rfl) dX2_start_17 ⟨Nat.zero_le _, Nat.zero_le _⟩ (k_V (fun H locs hI => ?_))
  refine lv_aload_n hx hb dX2_start_20 rfl (lv_at hl 1 rfl) ?_
  refine r_get C hI 32 (by decide) (ceMo (show isMo 32 from by decide) _) rfl hin2 1 (by decide) (fn := "wearer") (fd := "[I") (index := 15) (by decide +kernel) ⟨rfl, rfl, rfl⟩ (v := .ref (gA g 34)) rfl dX2_start_21 ?_
  refine lv_iload_n hx hb dX2_start_24 rfl (lv_at hl 0 rfl) ?_
  refine lv_bipush (v := iI (-9)) hx hb dX2_start_25 (by decide +kernel) ?_
  refine r_isn C hI (As := [.ref (gA g 34), .int (iI 1), .int (iI (-9))]) (rest := []) (c_X6_put l g (mset (mset (mset M 33 0 (tldO (M) 0)) 34 0 (-9)) 33 1 (tldO ((mset (mset M 33 0 (tldO (M) 0)) 34 0 (-9))) 1)) 34 1 (-9) 4 (by omega) (ceMw (show isMo 32 from by decide)) (by omega) (by omega)) ⟨va_cnB 3 hts gX2_start_X6_put_n32 rfl rfl rfl (hI.2.2.2.2.2.1 (.methodLinkNest RX2 32 yX6_put RX6) (by decide +kernel)) (hts (.initialized RX6) (by decide +kernel)) (by decide +kernel) ⟨Nat.le_of_ble_eq_true rfl, Nat.le_of_ble_eq_true rfl⟩, hts (.static yX6_put) (by decide +kernel), trivial⟩ rfl hl.1 rfl (Nat.le_of_ble_eq_true rfl) dX2_start_27 ⟨Nat.zero_le _, Nat.zero_le _⟩ (k_V (fun H locs hI => ?_))
  refine lv_iinc (v := iI (2)) (lv' := [(2, .int (iI 2)), (0, .ref (gA g 32)), (1, .ref (gA g 3))]) hx hb dX2_start_30 hl (k := 0) rfl (iI_add _ _) (by decide) rfl (fun ls hl => ?_)
  refine lv_goto (tgt := 2) hx hb dX2_start_33 (by decide) ?_
  refine lv_iload_n hx hb dX2_start_2 rfl (lv_at hl 0 rfl) ?_
  refine lv_iconst (v := iI 4) hx hb dX2_start_3 rfl ?_
  refine r_icmp_ge hx hb (tgt := 36) (by decide) (by decide) dX2_start_4 (by decide) (fun c => absurd c (by decide)) (fun c_3 => ?_)
  refine lv_aload_n hx hb dX2_start_7 rfl (lv_at hl 1 rfl) ?_
  refine r_get C hI 32 (by decide) (ceMo (show isMo 32 from by decide) _) rfl hin2 0 (by decide) (fn := "kept") (fd := "[I") (index := 9) (by decide +kernel) ⟨rfl, rfl, rfl⟩ (v := .ref (gA g 33)) rfl dX2_start_8 ?_
  refine lv_iload_n hx hb dX2_start_11 rfl (lv_at hl 0 rfl) ?_
  refine lv_aload_n hx hb dX2_start_12 rfl (lv_at hl 2 rfl) ?_
  refine lv_iload_n hx hb dX2_start_13 rfl (lv_at hl 0 rfl) ?_
  refine r_iv C hI (As := [.int (iI 2)]) (rest := [.int (iI 2), .ref (gA g 33)]) (c_X1_toldOf l g (mset (mset (mset (mset M 33 0 (tldO (M) 0)) 34 0 (-9)) 33 1 (tldO ((mset (mset M 33 0 (tldO (M) 0)) 34 0 (-9))) 1)) 34 1 (-9)) 2 (by omega) (show -2147483648 ≤ (M 3 7) ∧ (M 3 7) < 2147483648 from by omega)) (cwV 1 hts gX2_start_X1_toldOf rfl rfl rfl (by decide +kernel) ⟨Nat.le_of_ble_eq_true rfl, Nat.le_of_ble_eq_true rfl⟩) (by decide) rfl rfl rfl hl.1 rfl (Nat.le_of_ble_eq_true rfl) dX2_start_14 ⟨Nat.zero_le _, Nat.zero_le _⟩ (k_I (fun H locs hI => ?_))
  refine r_isn C hI (As := [.ref (gA g 33), .int (iI 2), .int (iI (tldO ((mset (mset (mset (mset M 33 0 (tldO (M) 0)) 34 0 (-9)) 33 1 (tldO ((mset (mset M 33 0 (tldO (M) 0)) 34 0 (-9))) 1)) 34 1 (-9))) 2))]) (rest := []) (c_X6_put l g (mset (mset (mset (mset M 33 0 (tldO (M) 0)) 34 0 (-9)) 33 1 (tldO ((mset (mset M 33 0 (tldO (M) 0)) 34 0 (-9))) 1)) 34 1 (-9)) 33 2 (tldO ((mset (mset (mset (mset M 33 0 (tldO (M) 0)) 34 0 (-9)) 33 1 (tldO ((mset (mset M 33 0 (tldO (M) 0)) 34 0 (-9))) 1)) 34 1 (-9))) 2) 4 (by omega) (ceMk (show isMo 32 from by decide)) (by omega) (by omega)) ⟨va_cnB 3 hts gX2_start_X6_put_n32 rfl rfl rfl (hI.2.2.2.2.2.1 (.methodLinkNest RX2 32 yX6_put RX6) (by decide +kernel)) (hts (.initialized RX6) (by decide +kernel)) (by decide +kernel) ⟨Nat.le_of_ble_eq_true rfl, Nat.le_of_ble_eq_true rfl⟩, hts (.static yX6_put) (by decide +kernel), trivial⟩ rfl hl.1 rfl (Nat.le_of_ble_eq_true rfl) dX2_start_17 ⟨Nat.zero_le _, Nat.zero_le _⟩ (k_V (fun H locs hI => ?_))
  refine lv_aload_n hx hb dX2_start_20 rfl (lv_at hl 1 rfl) ?_
  refine r_get C hI 32 (by decide) (ceMo (show isMo 32 from by decide) _) rfl hin2 1 (by decide) (fn := "wearer") (fd := "[I") (index := 15) (by decide +kernel) ⟨rfl, rfl, rfl⟩ (v := .ref (gA g 34)) rfl dX2_start_21 ?_
  refine lv_iload_n hx hb dX2_start_24 rfl (lv_at hl 0 rfl) ?_
  refine lv_bipush (v := iI (-9)) hx hb dX2_start_25 (by decide +kernel) ?_
  refine r_isn C hI (As := [.ref (gA g 34), .int (iI 2), .int (iI (-9))]) (rest := []) (c_X6_put l g (mset (mset (mset (mset (mset M 33 0 (tldO (M) 0)) 34 0 (-9)) 33 1 (tldO ((mset (mset M 33 0 (tldO (M) 0)) 34 0 (-9))) 1)) 34 1 (-9)) 33 2 (tldO ((mset (mset (mset (mset M 33 0 (tldO (M) 0)) 34 0 (-9)) 33 1 (tldO ((mset (mset M 33 0 (tldO (M) 0)) 34 0 (-9))) 1)) 34 1 (-9))) 2)) 34 2 (-9) 4 (by omega) (ceMw (show isMo 32 from by decide)) (by omega) (by omega)) ⟨va_cnB 3 hts gX2_start_X6_put_n32 rfl rfl rfl (hI.2.2.2.2.2.1 (.methodLinkNest RX2 32 yX6_put RX6) (by decide +kernel)) (hts (.initialized RX6) (by decide +kernel)) (by decide +kernel) ⟨Nat.le_of_ble_eq_true rfl, Nat.le_of_ble_eq_true rfl⟩, hts (.static yX6_put) (by decide +kernel), trivial⟩ rfl hl.1 rfl (Nat.le_of_ble_eq_true rfl) dX2_start_27 ⟨Nat.zero_le _, Nat.zero_le _⟩ (k_V (fun H locs hI => ?_))
  refine lv_iinc (v := iI (3)) (lv' := [(2, .int (iI 3)), (0, .ref (gA g 32)), (1, .ref (gA g 3))]) hx hb dX2_start_30 hl (k := 0) rfl (iI_add _ _) (by decide) rfl (fun ls hl => ?_)
  refine lv_goto (tgt := 2) hx hb dX2_start_33 (by decide) ?_
  refine lv_iload_n hx hb dX2_start_2 rfl (lv_at hl 0 rfl) ?_
  refine lv_iconst (v := iI 4) hx hb dX2_start_3 rfl ?_
  refine r_icmp_ge hx hb (tgt := 36) (by decide) (by decide) dX2_start_4 (by decide) (fun c => absurd c (by decide)) (fun c_4 => ?_)
  refine lv_aload_n hx hb dX2_start_7 rfl (lv_at hl 1 rfl) ?_
  refine r_get C hI 32 (by decide) (ceMo (show isMo 32 from by decide) _) rfl hin2 0 (by decide) (fn := "kept") (fd := "[I") (index := 9) (by decide +kernel) ⟨rfl, rfl, rfl⟩ (v := .ref (gA g 33)) rfl dX2_start_8 ?_
  refine lv_iload_n hx hb dX2_start_11 rfl (lv_at hl 0 rfl) ?_
  refine lv_aload_n hx hb dX2_start_12 rfl (lv_at hl 2 rfl) ?_
  refine lv_iload_n hx hb dX2_start_13 rfl (lv_at hl 0 rfl) ?_
  refine r_iv C hI (As := [.int (iI 3)]) (rest := [.int (iI 3), .ref (gA g 33)]) (c_X1_toldOf l g (mset (mset (mset (mset (mset (mset M 33 0 (tldO (M) 0)) 34 0 (-9)) 33 1 (tldO ((mset (mset M 33 0 (tldO (M) 0)) 34 0 (-9))) 1)) 34 1 (-9)) 33 2 (tldO ((mset (mset (mset (mset M 33 0 (tldO (M) 0)) 34 0 (-9)) 33 1 (tldO ((mset (mset M 33 0 (tldO (M) 0)) 34 0 (-9))) 1)) 34 1 (-9))) 2)) 34 2 (-9)) 3 (by omega) (show -2147483648 ≤ (M 3 7) ∧ (M 3 7) < 2147483648 from by omega)) (cwV 1 hts gX2_start_X1_toldOf rfl rfl rfl (by decide +kernel) ⟨Nat.le_of_ble_eq_true rfl, Nat.le_of_ble_eq_true rfl⟩) (by decide) rfl rfl rfl hl.1 rfl (Nat.le_of_ble_eq_true rfl) dX2_start_14 ⟨Nat.zero_le _, Nat.zero_le _⟩ (k_I (fun H locs hI => ?_))
  refine r_isn C hI (As := [.ref (gA g 33), .int (iI 3), .int (iI (tldO ((mset (mset (mset (mset (mset (mset M 33 0 (tldO (M) 0)) 34 0 (-9)) 33 1 (tldO ((mset (mset M 33 0 (tldO (M) 0)) 34 0 (-9))) 1)) 34 1 (-9)) 33 2 (tldO ((mset (mset (mset (mset M 33 0 (tldO (M) 0)) 34 0 (-9)) 33 1 (tldO ((mset (mset M 33 0 (tldO (M) 0)) 34 0 (-9))) 1)) 34 1 (-9))) 2)) 34 2 (-9))) 3))]) (rest := []) (c_X6_put l g (mset (mset (mset (mset (mset (mset M 33 0 (tldO (M) 0)) 34 0 (-9)) 33 1 (tldO ((mset (mset M 33 0 (tldO (M) 0)) 34 0 (-9))) 1)) 34 1 (-9)) 33 2 (tldO ((mset (mset (mset (mset M 33 0 (tldO (M) 0)) 34 0 (-9)) 33 1 (tldO ((mset (mset M 33 0 (tldO (M) 0)) 34 0 (-9))) 1)) 34 1 (-9))) 2)) 34 2 (-9)) 33 3 (tldO ((mset (mset (mset (mset (mset (mset M 33 0 (tldO (M) 0)) 34 0 (-9)) 33 1 (tldO ((mset (mset M 33 0 (tldO (M) 0)) 34 0 (-9))) 1)) 34 1 (-9)) 33 2 (tldO ((mset (mset (mset (mset M 33 0 (tldO (M) 0)) 34 0 (-9)) 33 1 (tldO ((mset (mset M 33 0 (tldO (M) 0)) 34 0 (-9))) 1)) 34 1 (-9))) 2)) 34 2 (-9))) 3) 4 (by omega) (ceMk (show isMo 32 from by decide)) (by omega) (by omega)) ⟨va_cnB 3 hts gX2_start_X6_put_n32 rfl rfl rfl (hI.2.2.2.2.2.1 (.methodLinkNest RX2 32 yX6_put RX6) (by decide +kernel)) (hts (.initialized RX6) (by decide +kernel)) (by decide +kernel) ⟨Nat.le_of_ble_eq_true rfl, Nat.le_of_ble_eq_true rfl⟩, hts (.static yX6_put) (by decide +kernel), trivial⟩ rfl hl.1 rfl (Nat.le_of_ble_eq_true rfl) dX2_start_17 ⟨Nat.zero_le _, Nat.zero_le _⟩ (k_V (fun H locs hI => ?_))
  refine lv_aload_n hx hb dX2_start_20 rfl (lv_at hl 1 rfl) ?_
  refine r_get C hI 32 (by decide) (ceMo (show isMo 32 from by decide) _) rfl hin2 1 (by decide) (fn := "wearer") (fd := "[I") (index := 15) (by decide +kernel) ⟨rfl, rfl, rfl⟩ (v := .ref (gA g 34)) rfl dX2_start_21 ?_
  refine lv_iload_n hx hb dX2_start_24 rfl (lv_at hl 0 rfl) ?_
  refine lv_bipush (v := iI (-9)) hx hb dX2_start_25 (by decide +kernel) ?_
  refine r_isn C hI (As := [.ref (gA g 34), .int (iI 3), .int (iI (-9))]) (rest := []) (c_X6_put l g (mset (mset (mset (mset (mset (mset (mset M 33 0 (tldO (M) 0)) 34 0 (-9)) 33 1 (tldO ((mset (mset M 33 0 (tldO (M) 0)) 34 0 (-9))) 1)) 34 1 (-9)) 33 2 (tldO ((mset (mset (mset (mset M 33 0 (tldO (M) 0)) 34 0 (-9)) 33 1 (tldO ((mset (mset M 33 0 (tldO (M) 0)) 34 0 (-9))) 1)) 34 1 (-9))) 2)) 34 2 (-9)) 33 3 (tldO ((mset (mset (mset (mset (mset (mset M 33 0 (tldO (M) 0)) 34 0 (-9)) 33 1 (tldO ((mset (mset M 33 0 (tldO (M) 0)) 34 0 (-9))) 1)) 34 1 (-9)) 33 2 (tldO ((mset (mset (mset (mset M 33 0 (tldO (M) 0)) 34 0 (-9)) 33 1 (tldO ((mset (mset M 33 0 (tldO (M) 0)) 34 0 (-9))) 1)) 34 1 (-9))) 2)) 34 2 (-9))) 3)) 34 3 (-9) 4 (by omega) (ceMw (show isMo 32 from by decide)) (by omega) (by omega)) ⟨va_cnB 3 hts gX2_start_X6_put_n32 rfl rfl rfl (hI.2.2.2.2.2.1 (.methodLinkNest RX2 32 yX6_put RX6) (by decide +kernel)) (hts (.initialized RX6) (by decide +kernel)) (by decide +kernel) ⟨Nat.le_of_ble_eq_true rfl, Nat.le_of_ble_eq_true rfl⟩, hts (.static yX6_put) (by decide +kernel), trivial⟩ rfl hl.1 rfl (Nat.le_of_ble_eq_true rfl) dX2_start_27 ⟨Nat.zero_le _, Nat.zero_le _⟩ (k_V (fun H locs hI => ?_))
  refine lv_iinc (v := iI (4)) (lv' := [(2, .int (iI 4)), (0, .ref (gA g 32)), (1, .ref (gA g 3))]) hx hb dX2_start_30 hl (k := 0) rfl (iI_add _ _) (by decide) rfl (fun ls hl => ?_)
  refine lv_goto (tgt := 2) hx hb dX2_start_33 (by decide) ?_
  refine lv_iload_n hx hb dX2_start_2 rfl (lv_at hl 0 rfl) ?_
  refine lv_iconst (v := iI 4) hx hb dX2_start_3 rfl ?_
  refine r_icmp_ge hx hb (tgt := 36) (by decide) (by decide) dX2_start_4 (by decide) (fun c_5 => ?_) (fun c => absurd c (by decide))
  refine lv_aload_n hx hb dX2_start_36 rfl (lv_at hl 1 rfl) ?_
  refine lv_iconst (v := iI 0) hx hb dX2_start_37 rfl ?_
  refine r_put C hI 32 (by decide) (ceMo (show isMo 32 from by decide) _) rfl tyX2 tyX2_ok nmX2 hin2 2 (by decide) (fn := "date") (fd := "I") (index := 18) (by decide +kernel) ⟨rfl, rfl, rfl⟩ rfl (z := 0) rfl rfl (Nat.le_of_ble_eq_true rfl) (ceMo (show isMo 32 from by decide) _) dX2_start_38 (fun H locs hI => ?_)
  refine r_vret C hr hlk hI ?_ dX2_start_41
  exact ⟨rfl, (show mset (mset (mset (mset (mset (mset (mset (mset (mset M 33 0 (tldO (M) 0)) 34 0 (-9)) 33 1 (tldO ((mset (mset M 33 0 (tldO (M) 0)) 34 0 (-9))) 1)) 34 1 (-9)) 33 2 (tldO ((mset (mset (mset (mset M 33 0 (tldO (M) 0)) 34 0 (-9)) 33 1 (tldO ((mset (mset M 33 0 (tldO (M) 0)) 34 0 (-9))) 1)) 34 1 (-9))) 2)) 34 2 (-9)) 33 3 (tldO ((mset (mset (mset (mset (mset (mset M 33 0 (tldO (M) 0)) 34 0 (-9)) 33 1 (tldO ((mset (mset M 33 0 (tldO (M) 0)) 34 0 (-9))) 1)) 34 1 (-9)) 33 2 (tldO ((mset (mset (mset (mset M 33 0 (tldO (M) 0)) 34 0 (-9)) 33 1 (tldO ((mset (mset M 33 0 (tldO (M) 0)) 34 0 (-9))) 1)) 34 1 (-9))) 2)) 34 2 (-9))) 3)) 34 3 (-9)) 32 2 0 = sttM M 32 from by first | rfl | (exfalso; omega))⟩
set_option maxHeartbeats 4000000 in
set_option maxRecDepth 100000 in
theorem c_X2_copy (l : Launch) (g : GT) (M : Mem) (o : Nat) (f : Nat) (ho : isMo o) (hf : isMo f) (hne : f ≠ o) : Ctr l g yX2_copy wsX2_copy ({ frames := 1, cells := 0, slots := 0, locals := 22 } : Room) [.ref (gA g o), .ref (gA g f)] M (pV (cpM M f o)) := by
  refine Ctr.mk (cc := cX2_copy) (maxL := 2) (ret := none) (lv := [(0, .ref (gA g o)), (1, .ref (gA g f))]) (by decide) rfl (Nat.le_of_ble_eq_true rfl) rfl ?_
  intro p e s m below meth c C hr hlk hI ls hl
  have C : CallFix p m c cX2_copy 2 s ([.ref (gA g o), .ref (gA g f)] : List Value).toArray wsX2_copy RX2 := C
  have hx := C.1
  have hb := C.2.1
  have hts := C.2.2.2.2
  have hin2 : ∀ w ∈ u_ws RX2 TX2 4, w ∈ wsX2_copy := by decide +kernel
  have hoa := ho.1
  have hob := ho.2.1
  have hoc := ho.2.2
  have hfa := hf.1
  have hfb := hf.2.1
  have hfc := hf.2.2
  refine lv_aload_n hx hb dX2_copy_0 rfl (lv_at hl 1 rfl) ?_
  refine r_get C hI f (by omega) (ceMo hf _) rfl hin2 0 (by decide) (fn := "kept") (fd := "[I") (index := 9) (by decide +kernel) ⟨rfl, rfl, rfl⟩ (v := .ref (gA g (f + 1))) rfl dX2_copy_1 ?_
  refine lv_aload_n hx hb dX2_copy_4 rfl (lv_at hl 0 rfl) ?_
  refine r_get C hI o (by omega) (ceMo ho _) rfl hin2 0 (by decide) (fn := "kept") (fd := "[I") (index := 9) (by decide +kernel) ⟨rfl, rfl, rfl⟩ (v := .ref (gA g (o + 1))) rfl dX2_copy_5 ?_
  refine r_isn C hI (As := [.ref (gA g (f + 1)), .ref (gA g (o + 1))]) (rest := []) (c_X6_copyRow l g M (f + 1) (o + 1) (by omega) (ceMk hf) (by omega) (ceMk ho) (by omega)) ⟨va_cnB 2 hts gX2_copy_X6_copyRow_n36 rfl rfl rfl (hI.2.2.2.2.2.1 (.methodLinkNest RX2 36 yX6_copyRow RX6) (by decide +kernel)) (hts (.initialized RX6) (by decide +kernel)) (by decide +kernel) ⟨Nat.le_of_ble_eq_true rfl, Nat.le_of_ble_eq_true rfl⟩, hts (.static yX6_copyRow) (by decide +kernel), trivial⟩ rfl hl.1 rfl (Nat.le_of_ble_eq_true rfl) dX2_copy_8 ⟨Nat.zero_le _, Nat.zero_le _⟩ (k_V (fun H locs hI => ?_))
  refine lv_aload_n hx hb dX2_copy_11 rfl (lv_at hl 1 rfl) ?_
  refine r_get C hI f (by omega) (ceMo hf _) rfl hin2 1 (by decide) (fn := "wearer") (fd := "[I") (index := 15) (by decide +kernel) ⟨rfl, rfl, rfl⟩ (v := .ref (gA g (f + 2))) rfl dX2_copy_12 ?_
  refine lv_aload_n hx hb dX2_copy_15 rfl (lv_at hl 0 rfl) ?_
  refine r_get C hI o (by omega) (ceMo ho _) rfl hin2 1 (by decide) (fn := "wearer") (fd := "[I") (index := 15) (by decide +kernel) ⟨rfl, rfl, rfl⟩ (v := .ref (gA g (o + 2))) rfl dX2_copy_16 ?_
  refine r_isn C hI (As := [.ref (gA g (f + 2)), .ref (gA g (o + 2))]) (rest := []) (c_X6_copyRow l g (cpR M (f + 1) (o + 1)) (f + 2) (o + 2) (by omega) (ceMw hf) (by omega) (ceMw ho) (by omega)) ⟨va_cnB 2 hts gX2_copy_X6_copyRow_n36 rfl rfl rfl (hI.2.2.2.2.2.1 (.methodLinkNest RX2 36 yX6_copyRow RX6) (by decide +kernel)) (hts (.initialized RX6) (by decide +kernel)) (by decide +kernel) ⟨Nat.le_of_ble_eq_true rfl, Nat.le_of_ble_eq_true rfl⟩, hts (.static yX6_copyRow) (by decide +kernel), trivial⟩ rfl hl.1 rfl (Nat.le_of_ble_eq_true rfl) dX2_copy_19 ⟨Nat.zero_le _, Nat.zero_le _⟩ (k_V (fun H locs hI => ?_))
  refine lv_aload_n hx hb dX2_copy_22 rfl (lv_at hl 0 rfl) ?_
  refine lv_aload_n hx hb dX2_copy_23 rfl (lv_at hl 1 rfl) ?_
  refine r_get C hI f (by omega) (ceMo hf _) rfl hin2 2 (by decide) (fn := "date") (fd := "I") (index := 18) (by decide +kernel) ⟨rfl, rfl, rfl⟩ (v := .int (iI ((cpR (cpR M (f + 1) (o + 1)) (f + 2) (o + 2)) f 2))) rfl dX2_copy_24 ?_
  refine r_put C hI o (by omega) (ceMo ho _) rfl tyX2 tyX2_ok nmX2 hin2 2 (by decide) (fn := "date") (fd := "I") (index := 18) (by decide +kernel) ⟨rfl, rfl, rfl⟩ rfl (z := (cpR (cpR M (f + 1) (o + 1)) (f + 2) (o + 2)) f 2) rfl rfl (Nat.le_of_ble_eq_true rfl) (ceMo ho _) dX2_copy_27 (fun H locs hI => ?_)
  refine lv_aload_n hx hb dX2_copy_30 rfl (lv_at hl 0 rfl) ?_
  refine lv_iconst (v := iI 1) hx hb dX2_copy_31 rfl ?_
  refine r_put C hI o (by omega) (ceMo ho _) rfl tyX2 tyX2_ok nmX2 hin2 3 (by decide) (fn := "taken") (fd := "Z") (index := 22) (by decide +kernel) ⟨rfl, rfl, rfl⟩ rfl (z := 1) (by decide +kernel) (by decide +kernel) (Nat.le_of_ble_eq_true rfl) (ceMo ho _) dX2_copy_32 (fun H locs hI => ?_)
  refine r_vret C hr hlk hI ?_ dX2_copy_35
  exact ⟨rfl, (show mset (mset (cpR (cpR M (f + 1) (o + 1)) (f + 2) (o + 2)) o 2 ((cpR (cpR M (f + 1) (o + 1)) (f + 2) (o + 2)) f 2)) o 3 1 = cpM M f o from by exact cpM_of hf ho hne)⟩
set_option maxHeartbeats 4000000 in
set_option maxRecDepth 100000 in
theorem c_X0_size (l : Launch) (g : GT) (M : Mem) : Ctr l g yX0_size wsX0_size ({ frames := 0, cells := 0, slots := 0, locals := 0 } : Room) [.ref (gA g 15)] M (pI (M 15 2) M) := by
  refine Ctr.mk (cc := cX0_size) (maxL := 1) (ret := some .int) (lv := [(0, .ref (gA g 15))]) (by decide) rfl (Nat.le_of_ble_eq_true rfl) rfl ?_
  intro p e s m below meth c C hr hlk hI ls hl
  have C : CallFix p m c cX0_size 1 s ([.ref (gA g 15)] : List Value).toArray wsX0_size RX0 := C
  have hx := C.1
  have hb := C.2.1
  have hts := C.2.2.2.2
  have hin0 : ∀ w ∈ u_ws RX0 TX0 3, w ∈ wsX0_size := by decide +kernel
  refine lv_aload_n hx hb dX0_size_0 rfl (lv_at hl 0 rfl) ?_
  refine r_get C hI 15 (by decide) rfl rfl hin0 2 (by decide) (fn := "count") (fd := "I") (index := 22) (by decide +kernel) ⟨rfl, rfl, rfl⟩ (v := .int (iI (M 15 2))) rfl dX0_size_1 ?_
  refine r_iret C hr hlk hI ?_ dX0_size_4
  exact ⟨congrArg (fun q => some (Value.int (iI q))) (show M 15 2 = M 15 2 from by first | rfl | omega), rfl⟩
set_option maxHeartbeats 4000000 in
set_option maxRecDepth 100000 in
theorem c_X0_clear (l : Launch) (g : GT) (M : Mem) : Ctr l g yX0_clear wsX0_clear ({ frames := 0, cells := 0, slots := 0, locals := 0 } : Room) [.ref (gA g 15)] M (pV (mset M 15 2 0)) := by
  refine Ctr.mk (cc := cX0_clear) (maxL := 1) (ret := none) (lv := [(0, .ref (gA g 15))]) (by decide) rfl (Nat.le_of_ble_eq_true rfl) rfl ?_
  intro p e s m below meth c C hr hlk hI ls hl
  have C : CallFix p m c cX0_clear 1 s ([.ref (gA g 15)] : List Value).toArray wsX0_clear RX0 := C
  have hx := C.1
  have hb := C.2.1
  have hts := C.2.2.2.2
  have hin0 : ∀ w ∈ u_ws RX0 TX0 3, w ∈ wsX0_clear := by decide +kernel
  refine lv_aload_n hx hb dX0_clear_0 rfl (lv_at hl 0 rfl) ?_
  refine lv_iconst (v := iI 0) hx hb dX0_clear_1 rfl ?_
  refine r_put C hI 15 (by decide) rfl rfl tyX0 tyX0_ok nmX0 hin0 2 (by decide) (fn := "count") (fd := "I") (index := 22) (by decide +kernel) ⟨rfl, rfl, rfl⟩ rfl (z := 0) rfl rfl (Nat.le_of_ble_eq_true rfl) rfl dX0_clear_2 (fun H locs hI => ?_)
  refine r_vret C hr hlk hI ?_ dX0_clear_5
  exact ⟨rfl, (show mset M 15 2 0 = mset M 15 2 0 from by first | rfl | (exfalso; omega))⟩
set_option maxHeartbeats 4000000 in
set_option maxRecDepth 100000 in
theorem c_X0_placeAt (l : Launch) (g : GT) (M : Mem) (k : Int) (ha : 0 ≤ M 15 1 ∧ M 15 1 < 14) (hk : 0 ≤ k ∧ k ≤ 14) : Ctr l g yX0_placeAt wsX0_placeAt ({ frames := 0, cells := 0, slots := 0, locals := 0 } : Room) [.ref (gA g 15), .int (iI k)] M (pR (gA g (ringO (M) k)) M) := by
  refine Ctr.mk (cc := cX0_placeAt) (maxL := 3) (ret := some (.object "GloveReply$Moment")) (lv := [(0, .ref (gA g 15)), (1, .int (iI k))]) (by decide) rfl (Nat.le_of_ble_eq_true rfl) rfl ?_
  intro p e s m below meth c C hr hlk hI ls hl
  have C : CallFix p m c cX0_placeAt 3 s ([.ref (gA g 15), .int (iI k)] : List Value).toArray wsX0_placeAt RX0 := C
  have hx := C.1
  have hb := C.2.1
  have hts := C.2.2.2.2
  have hin0 : ∀ w ∈ u_ws RX0 TX0 3, w ∈ wsX0_placeAt := by decide +kernel
  refine lv_aload_n hx hb dX0_placeAt_0 rfl (lv_at hl 0 rfl) ?_
  refine r_get C hI 15 (by decide) rfl rfl hin0 1 (by decide) (fn := "oldest") (fd := "I") (index := 18) (by decide +kernel) ⟨rfl, rfl, rfl⟩ (v := .int (iI (M 15 1))) rfl dX0_placeAt_1 ?_
  refine lv_iload_n hx hb dX0_placeAt_4 rfl (lv_at hl 1 rfl) ?_
  refine r_iadd hx hb dX0_placeAt_5 ?_
  refine lv_bipush (v := iI 14) hx hb dX0_placeAt_6 (by decide +kernel) ?_
  refine r_irem hx hb (by omega) (by decide) dX0_placeAt_8 ?_
  refine lv_istore_n (lv' := [(2, .int (iI (((M 15 1) + k) % 14))), (0, .ref (gA g 15)), (1, .int (iI k))]) hx hb dX0_placeAt_9 rfl hl (by decide) rfl (fun ls hl => ?_)
  refine lv_iload_n hx hb dX0_placeAt_10 rfl (lv_at hl 0 rfl) ?_
  refine r_if_lt hx hb (tgt := 32) (by omega) dX0_placeAt_11 (by decide) (fun c_1 => ?_) (fun c_1 => ?_)
  · exact False.elim (by omega)
  · refine lv_iload_n hx hb dX0_placeAt_14 rfl (lv_at hl 0 rfl) ?_
    refine lv_aload_n hx hb dX0_placeAt_15 rfl (lv_at hl 1 rfl) ?_
    refine r_get C hI 15 (by decide) rfl rfl hin0 0 (by decide) (fn := "ring") (fd := "[LGloveReply$Moment;") (index := 11) (by decide +kernel) ⟨rfl, rfl, rfl⟩ (v := .ref (gA g 16)) rfl dX0_placeAt_16 ?_
    refine r_qlen C hI 16 (by decide) rfl dX0_placeAt_19 ?_
    refine r_icmp_ge hx hb (tgt := 32) (by omega) (by decide) dX0_placeAt_20 (by decide) (fun c_2 => ?_) (fun c_2 => ?_)
    · exact False.elim (by omega)
    · refine lv_aload_n hx hb dX0_placeAt_23 rfl (lv_at hl 1 rfl) ?_
      refine r_get C hI 15 (by decide) rfl rfl hin0 0 (by decide) (fn := "ring") (fd := "[LGloveReply$Moment;") (index := 11) (by decide +kernel) ⟨rfl, rfl, rfl⟩ (v := .ref (gA g 16)) rfl dX0_placeAt_24 ?_
      refine lv_iload_n hx hb dX0_placeAt_27 rfl (lv_at hl 0 rfl) ?_
      refine r_qld C hI 16 (by decide) rfl (by omega) (by decide) (a := gA g (38 + 3 * (((M 15 1) + k) % 14).toNat)) rfl dX0_placeAt_28 ?_
      refine r_nmC (fun o_1 eo_1 => ?_)
      have mo_1 : isMo o_1 := ⟨by omega, by omega, by omega⟩
      have mo_1a := mo_1.1
      have mo_1b := mo_1.2.1
      have mo_1c := mo_1.2.2
      refine lv_goto (tgt := 33) hx hb dX0_placeAt_29 (by decide) ?_
      refine r_aret C hr hlk hI rfl ?_ dX0_placeAt_33
      exact ⟨by rw [eo_1]; rfl, rfl⟩
set_option maxHeartbeats 4000000 in
set_option maxRecDepth 100000 in
theorem c_X0_add (l : Launch) (g : GT) (M : Mem) (ha : 0 ≤ M 15 1 ∧ M 15 1 < 14) (hc : 0 ≤ M 15 2 ∧ M 15 2 ≤ 14) : Ctr l g yX0_add wsX0_add ({ frames := 2, cells := 0, slots := 0, locals := 43 } : Room) [.ref (gA g 15), .ref (gA g 32)] M (pV (aAdd M)) := by
  refine Ctr.mk (cc := cX0_add) (maxL := 3) (ret := none) (lv := [(0, .ref (gA g 15)), (1, .ref (gA g 32))]) (by decide) rfl (Nat.le_of_ble_eq_true rfl) rfl ?_
  intro p e s m below meth c C hr hlk hI ls hl
  have C : CallFix p m c cX0_add 3 s ([.ref (gA g 15), .ref (gA g 32)] : List Value).toArray wsX0_add RX0 := C
  have hx := C.1
  have hb := C.2.1
  have hts := C.2.2.2.2
  have hin0 : ∀ w ∈ u_ws RX0 TX0 3, w ∈ wsX0_add := by decide +kernel
  refine lv_aload_n hx hb dX0_add_0 rfl (lv_at hl 0 rfl) ?_
  refine lv_aload_n hx hb dX0_add_1 rfl (lv_at hl 0 rfl) ?_
  refine r_get C hI 15 (by decide) rfl rfl hin0 2 (by decide) (fn := "count") (fd := "I") (index := 22) (by decide +kernel) ⟨rfl, rfl, rfl⟩ (v := .int (iI (M 15 2))) rfl dX0_add_2 ?_
  refine r_iv C hI (As := [.int (iI (M 15 2))]) (rest := []) (c_X0_placeAt l g M (M 15 2) (show 0 ≤ (M 15 1) ∧ (M 15 1) < 14 from by omega) (by omega)) (cwV 1 hts gX0_add_X0_placeAt rfl rfl rfl (by decide +kernel) ⟨Nat.le_of_ble_eq_true rfl, Nat.le_of_ble_eq_true rfl⟩) (by decide) rfl rfl rfl hl.1 rfl (Nat.le_of_ble_eq_true rfl) dX0_add_5 ⟨Nat.zero_le _, Nat.zero_le _⟩ (k_R (fun H locs hI => ?_))
  refine r_nmC (fun o_1 eo_1 => ?_)
  have mo_1 : isMo o_1 := by rw [eo_1]; exact ringO_mo _ _
  have bo_1 : 38 ≤ o_1 ∧ o_1 < 80 := by rw [eo_1]; exact ringO_b _ _
  have mo_1a := mo_1.1
  have mo_1b := mo_1.2.1
  have mo_1c := mo_1.2.2
  refine lv_astore_n (lv' := [(2, .ref (gA g o_1)), (0, .ref (gA g 15)), (1, .ref (gA g 32))]) hx hb dX0_add_8 rfl hl (by decide) rfl (fun ls hl => ?_)
  refine lv_aload_n hx hb dX0_add_9 rfl (lv_at hl 0 rfl) ?_
  refine lv_ifnull hx hb dX0_add_10 ?_
  refine lv_aload_n hx hb dX0_add_13 rfl (lv_at hl 0 rfl) ?_
  refine lv_aload_n hx hb dX0_add_14 rfl (lv_at hl 2 rfl) ?_
  refine r_iv C hI (As := [.ref (gA g 32)]) (rest := []) (c_X2_copy l g M o_1 32 mo_1 (by decide) (by omega)) (cwV 1 hts gX0_add_X2_copy rfl rfl rfl (by decide +kernel) ⟨Nat.le_of_ble_eq_true rfl, Nat.le_of_ble_eq_true rfl⟩) (by omega) (ceMo mo_1 _) rfl rfl hl.1 rfl (Nat.le_of_ble_eq_true rfl) dX0_add_15 ⟨Nat.zero_le _, Nat.zero_le _⟩ (k_V (fun H locs hI => ?_))
  have ec : cpM M 32 o_1 15 = M 15 := cpM_n (by omega)
  have ec1 : cpM M 32 o_1 15 1 = M 15 1 := congrFun ec 1
  have ec2 : cpM M 32 o_1 15 2 = M 15 2 := congrFun ec 2
  refine lv_aload_n hx hb dX0_add_18 rfl (lv_at hl 1 rfl) ?_
  refine r_get C hI 15 (by decide) rfl rfl hin0 2 (by decide) (fn := "count") (fd := "I") (index := 22) (by decide +kernel) ⟨rfl, rfl, rfl⟩ (v := .int (iI ((cpM M 32 o_1) 15 2))) rfl dX0_add_19 ?_
  refine lv_bipush (v := iI 14) hx hb dX0_add_22 (by decide +kernel) ?_
  refine r_icmp_ge hx hb (tgt := 40) (by omega) (by decide) dX0_add_24 (by decide) (fun c_1 => ?_) (fun c_1 => ?_)
  · refine lv_aload_n hx hb dX0_add_40 rfl (lv_at hl 1 rfl) ?_
    refine lv_aload_n hx hb dX0_add_41 rfl (lv_at hl 1 rfl) ?_
    refine r_get C hI 15 (by decide) rfl rfl hin0 1 (by decide) (fn := "oldest") (fd := "I") (index := 18) (by decide +kernel) ⟨rfl, rfl, rfl⟩ (v := .int (iI ((cpM M 32 o_1) 15 1))) rfl dX0_add_42 ?_
    refine lv_iconst (v := iI 1) hx hb dX0_add_45 rfl ?_
    refine r_iadd hx hb dX0_add_46 ?_
    refine lv_bipush (v := iI 14) hx hb dX0_add_47 (by decide +kernel) ?_
    refine r_irem hx hb (by omega) (by decide) dX0_add_49 ?_
    refine r_put C hI 15 (by decide) rfl rfl tyX0 tyX0_ok nmX0 hin0 1 (by decide) (fn := "oldest") (fd := "I") (index := 18) (by decide +kernel) ⟨rfl, rfl, rfl⟩ rfl (z := (((cpM M 32 o_1) 15 1) + 1) % 14) rfl rfl (Nat.le_of_ble_eq_true rfl) rfl dX0_add_50 (fun H locs hI => ?_)
    refine r_vret C hr hlk hI ?_ dX0_add_53
    exact ⟨rfl, (show mset (cpM M 32 o_1) 15 1 ((((cpM M 32 o_1) 15 1) + 1) % 14) = aAdd M from by unfold aAdd; first | (rw [if_pos (by omega), ← eo_1, ← ec2]) | (rw [if_neg (by omega), ← eo_1, ← ec1]))⟩
  · refine lv_aload_n hx hb dX0_add_27 rfl (lv_at hl 1 rfl) ?_
    refine lv_dup hx hb dX0_add_28 rfl ?_
    refine r_get C hI 15 (by decide) rfl rfl hin0 2 (by decide) (fn := "count") (fd := "I") (index := 22) (by decide +kernel) ⟨rfl, rfl, rfl⟩ (v := .int (iI ((cpM M 32 o_1) 15 2))) rfl dX0_add_29 ?_
    refine lv_iconst (v := iI 1) hx hb dX0_add_32 rfl ?_
    refine r_iadd hx hb dX0_add_33 ?_
    refine r_put C hI 15 (by decide) rfl rfl tyX0 tyX0_ok nmX0 hin0 2 (by decide) (fn := "count") (fd := "I") (index := 22) (by decide +kernel) ⟨rfl, rfl, rfl⟩ rfl (z := ((cpM M 32 o_1) 15 2) + 1) rfl rfl (Nat.le_of_ble_eq_true rfl) rfl dX0_add_34 (fun H locs hI => ?_)
    refine lv_goto (tgt := 53) hx hb dX0_add_37 (by decide) ?_
    refine r_vret C hr hlk hI ?_ dX0_add_53
    exact ⟨rfl, (show mset (cpM M 32 o_1) 15 2 (((cpM M 32 o_1) 15 2) + 1) = aAdd M from by unfold aAdd; first | (rw [if_pos (by omega), ← eo_1, ← ec2]) | (rw [if_neg (by omega), ← eo_1, ← ec1]))⟩
set_option maxHeartbeats 4000000 in
set_option maxRecDepth 100000 in
theorem c_X0_giveBackLast (l : Launch) (g : GT) (M : Mem) (ha : 0 ≤ M 15 1 ∧ M 15 1 < 14) (hc : 0 < M 15 2 ∧ M 15 2 ≤ 14) : Ctr l g yX0_giveBackLast wsX0_giveBackLast ({ frames := 2, cells := 0, slots := 0, locals := 43 } : Room) [.ref (gA g 15), .ref (gA g 32)] M (pV (aBack M)) := by
  refine Ctr.mk (cc := cX0_giveBackLast) (maxL := 3) (ret := none) (lv := [(0, .ref (gA g 15)), (1, .ref (gA g 32))]) (by decide) rfl (Nat.le_of_ble_eq_true rfl) rfl ?_
  intro p e s m below meth c C hr hlk hI ls hl
  have C : CallFix p m c cX0_giveBackLast 3 s ([.ref (gA g 15), .ref (gA g 32)] : List Value).toArray wsX0_giveBackLast RX0 := C
  have hx := C.1
  have hb := C.2.1
  have hts := C.2.2.2.2
  have hin0 : ∀ w ∈ u_ws RX0 TX0 3, w ∈ wsX0_giveBackLast := by decide +kernel
  refine lv_aload_n hx hb dX0_giveBackLast_0 rfl (lv_at hl 0 rfl) ?_
  refine r_get C hI 15 (by decide) rfl rfl hin0 2 (by decide) (fn := "count") (fd := "I") (index := 22) (by decide +kernel) ⟨rfl, rfl, rfl⟩ (v := .int (iI (M 15 2))) rfl dX0_giveBackLast_1 ?_
  refine r_if_le hx hb (tgt := 35) (by omega) dX0_giveBackLast_4 (by decide) (fun c_1 => ?_) (fun c_1 => ?_)
  · refine r_vret C hr hlk hI ?_ dX0_giveBackLast_35
    exact ⟨rfl, (show M = aBack M from by first | (rw [eo_1]; rfl) | (exfalso; omega))⟩
  · refine lv_aload_n hx hb dX0_giveBackLast_7 rfl (lv_at hl 0 rfl) ?_
    refine lv_dup hx hb dX0_giveBackLast_8 rfl ?_
    refine r_get C hI 15 (by decide) rfl rfl hin0 2 (by decide) (fn := "count") (fd := "I") (index := 22) (by decide +kernel) ⟨rfl, rfl, rfl⟩ (v := .int (iI (M 15 2))) rfl dX0_giveBackLast_9 ?_
    refine lv_iconst (v := iI 1) hx hb dX0_giveBackLast_12 rfl ?_
    refine r_isub hx hb dX0_giveBackLast_13 ?_
    refine r_put C hI 15 (by decide) rfl rfl tyX0 tyX0_ok nmX0 hin0 2 (by decide) (fn := "count") (fd := "I") (index := 22) (by decide +kernel) ⟨rfl, rfl, rfl⟩ rfl (z := (M 15 2) - 1) rfl rfl (Nat.le_of_ble_eq_true rfl) rfl dX0_giveBackLast_14 (fun H locs hI => ?_)
    refine lv_aload_n hx hb dX0_giveBackLast_17 rfl (lv_at hl 0 rfl) ?_
    refine lv_aload_n hx hb dX0_giveBackLast_18 rfl (lv_at hl 0 rfl) ?_
    refine r_get C hI 15 (by decide) rfl rfl hin0 2 (by decide) (fn := "count") (fd := "I") (index := 22) (by decide +kernel) ⟨rfl, rfl, rfl⟩ (v := .int (iI ((M 15 2) - 1))) rfl dX0_giveBackLast_19 ?_
    refine r_iv C hI (As := [.int (iI ((M 15 2) - 1))]) (rest := []) (c_X0_placeAt l g (mset M 15 2 ((M 15 2) - 1)) ((M 15 2) - 1) (show 0 ≤ (M 15 1) ∧ (M 15 1) < 14 from by omega) (by omega)) (cwV 1 hts gX0_giveBackLast_X0_placeAt rfl rfl rfl (by decide +kernel) ⟨Nat.le_of_ble_eq_true rfl, Nat.le_of_ble_eq_true rfl⟩) (by decide) rfl rfl rfl hl.1 rfl (Nat.le_of_ble_eq_true rfl) dX0_giveBackLast_22 ⟨Nat.zero_le _, Nat.zero_le _⟩ (k_R (fun H locs hI => ?_))
    refine r_nmC (fun o_1 eo_1 => ?_)
    have mo_1 : isMo o_1 := by rw [eo_1]; exact ringO_mo _ _
    have bo_1 : 38 ≤ o_1 ∧ o_1 < 80 := by rw [eo_1]; exact ringO_b _ _
    have mo_1a := mo_1.1
    have mo_1b := mo_1.2.1
    have mo_1c := mo_1.2.2
    refine lv_astore_n (lv' := [(2, .ref (gA g o_1)), (0, .ref (gA g 15)), (1, .ref (gA g 32))]) hx hb dX0_giveBackLast_25 rfl hl (by decide) rfl (fun ls hl => ?_)
    refine lv_aload_n hx hb dX0_giveBackLast_26 rfl (lv_at hl 0 rfl) ?_
    refine lv_ifnull hx hb dX0_giveBackLast_27 ?_
    refine lv_aload_n hx hb dX0_giveBackLast_30 rfl (lv_at hl 2 rfl) ?_
    refine lv_aload_n hx hb dX0_giveBackLast_31 rfl (lv_at hl 0 rfl) ?_
    refine r_iv C hI (As := [.ref (gA g o_1)]) (rest := []) (c_X2_copy l g (mset M 15 2 ((M 15 2) - 1)) 32 o_1 (by decide) mo_1 (by omega)) (cwV 1 hts gX0_giveBackLast_X2_copy rfl rfl rfl (by decide +kernel) ⟨Nat.le_of_ble_eq_true rfl, Nat.le_of_ble_eq_true rfl⟩) (by decide) (ceMo (show isMo 32 from by decide) _) rfl rfl hl.1 rfl (Nat.le_of_ble_eq_true rfl) dX0_giveBackLast_32 ⟨Nat.zero_le _, Nat.zero_le _⟩ (k_V (fun H locs hI => ?_))
    refine r_vret C hr hlk hI ?_ dX0_giveBackLast_35
    exact ⟨rfl, (show cpM (mset M 15 2 ((M 15 2) - 1)) o_1 32 = aBack M from by first | (rw [eo_1]; rfl) | (exfalso; omega))⟩
set_option maxHeartbeats 4000000 in
set_option maxRecDepth 100000 in
theorem c_X3_size (l : Launch) (g : GT) (M : Mem) : Ctr l g yX3_size wsX3_size ({ frames := 0, cells := 0, slots := 0, locals := 0 } : Room) [.ref (gA g 10)] M (pI (M 10 3) M) := by
  refine Ctr.mk (cc := cX3_size) (maxL := 1) (ret := some .int) (lv := [(0, .ref (gA g 10))]) (by decide) rfl (Nat.le_of_ble_eq_true rfl) rfl ?_
  intro p e s m below meth c C hr hlk hI ls hl
  have C : CallFix p m c cX3_size 1 s ([.ref (gA g 10)] : List Value).toArray wsX3_size RX3 := C
  have hx := C.1
  have hb := C.2.1
  have hts := C.2.2.2.2
  have hin3 : ∀ w ∈ u_ws RX3 TX3 4, w ∈ wsX3_size := by decide +kernel
  refine lv_aload_n hx hb dX3_size_0 rfl (lv_at hl 0 rfl) ?_
  refine r_get C hI 10 (by decide) rfl rfl hin3 3 (by decide) (fn := "count") (fd := "I") (index := 21) (by decide +kernel) ⟨rfl, rfl, rfl⟩ (v := .int (iI (M 10 3))) rfl dX3_size_1 ?_
  refine r_iret C hr hlk hI ?_ dX3_size_4
  exact ⟨congrArg (fun q => some (Value.int (iI q))) (show M 10 3 = M 10 3 from by first | rfl | omega), rfl⟩
set_option maxHeartbeats 4000000 in
set_option maxRecDepth 100000 in
theorem c_X3_clear (l : Launch) (g : GT) (M : Mem) : Ctr l g yX3_clear wsX3_clear ({ frames := 0, cells := 0, slots := 0, locals := 0 } : Room) [.ref (gA g 10)] M (pV (mset M 10 3 0)) := by
  refine Ctr.mk (cc := cX3_clear) (maxL := 1) (ret := none) (lv := [(0, .ref (gA g 10))]) (by decide) rfl (Nat.le_of_ble_eq_true rfl) rfl ?_
  intro p e s m below meth c C hr hlk hI ls hl
  have C : CallFix p m c cX3_clear 1 s ([.ref (gA g 10)] : List Value).toArray wsX3_clear RX3 := C
  have hx := C.1
  have hb := C.2.1
  have hts := C.2.2.2.2
  have hin3 : ∀ w ∈ u_ws RX3 TX3 4, w ∈ wsX3_clear := by decide +kernel
  refine lv_aload_n hx hb dX3_clear_0 rfl (lv_at hl 0 rfl) ?_
  refine lv_iconst (v := iI 0) hx hb dX3_clear_1 rfl ?_
  refine r_put C hI 10 (by decide) rfl rfl tyX3 tyX3_ok nmX3 hin3 3 (by decide) (fn := "count") (fd := "I") (index := 21) (by decide +kernel) ⟨rfl, rfl, rfl⟩ rfl (z := 0) rfl rfl (Nat.le_of_ble_eq_true rfl) rfl dX3_clear_2 (fun H locs hI => ?_)
  refine r_vret C hr hlk hI ?_ dX3_clear_5
  exact ⟨rfl, (show mset M 10 3 0 = mset M 10 3 0 from by first | rfl | (exfalso; omega))⟩
set_option maxHeartbeats 4000000 in
set_option maxRecDepth 100000 in
theorem c_X3_add (l : Launch) (g : GT) (M : Mem) (a : Int) (b : Int) (d : Int) (h : 0 ≤ M 10 3 ∧ M 10 3 < 4) : Ctr l g yX3_add wsX3_add ({ frames := 1, cells := 0, slots := 0, locals := 22 } : Room) [.ref (gA g 10), .int (iI a), .int (iI b), .int (iI d)] M (pV (mset (mset (mset (mset M 11 (M 10 3) a) 12 (M 10 3) b) 13 (M 10 3) d) 10 3 (M 10 3 + 1))) := by
  refine Ctr.mk (cc := cX3_add) (maxL := 4) (ret := none) (lv := [(0, .ref (gA g 10)), (1, .int (iI a)), (2, .int (iI b)), (3, .int (iI d))]) (by decide) rfl (Nat.le_of_ble_eq_true rfl) rfl ?_
  intro p e s m below meth c C hr hlk hI ls hl
  have C : CallFix p m c cX3_add 4 s ([.ref (gA g 10), .int (iI a), .int (iI b), .int (iI d)] : List Value).toArray wsX3_add RX3 := C
  have hx := C.1
  have hb := C.2.1
  have hts := C.2.2.2.2
  have hin3 : ∀ w ∈ u_ws RX3 TX3 4, w ∈ wsX3_add := by decide +kernel
  refine lv_aload_n hx hb dX3_add_0 rfl (lv_at hl 0 rfl) ?_
  refine r_get C hI 10 (by decide) rfl rfl hin3 3 (by decide) (fn := "count") (fd := "I") (index := 21) (by decide +kernel) ⟨rfl, rfl, rfl⟩ (v := .int (iI (M 10 3))) rfl dX3_add_1 ?_
  refine lv_iconst (v := iI 4) hx hb dX3_add_4 rfl ?_
  refine r_icmp_ge hx hb (tgt := 54) (by omega) (by decide) dX3_add_5 (by decide) (fun c_1 => ?_) (fun c_1 => ?_)
  · refine r_vret C hr hlk hI ?_ dX3_add_54
    exact ⟨rfl, (show M = mset (mset (mset (mset M 11 (M 10 3) a) 12 (M 10 3) b) 13 (M 10 3) d) 10 3 (M 10 3 + 1) from by first | rfl | (exfalso; omega))⟩
  · refine lv_aload_n hx hb dX3_add_8 rfl (lv_at hl 0 rfl) ?_
    refine r_get C hI 10 (by decide) rfl rfl hin3 0 (by decide) (fn := "gloves") (fd := "[I") (index := 9) (by decide +kernel) ⟨rfl, rfl, rfl⟩ (v := .ref (gA g 11)) rfl dX3_add_9 ?_
    refine lv_aload_n hx hb dX3_add_12 rfl (lv_at hl 0 rfl) ?_
    refine r_get C hI 10 (by decide) rfl rfl hin3 3 (by decide) (fn := "count") (fd := "I") (index := 21) (by decide +kernel) ⟨rfl, rfl, rfl⟩ (v := .int (iI (M 10 3))) rfl dX3_add_13 ?_
    refine lv_iload_n hx hb dX3_add_16 rfl (lv_at hl 1 rfl) ?_
    refine r_isn C hI (As := [.ref (gA g 11), .int (iI (M 10 3)), .int (iI a)]) (rest := []) (c_X6_put l g M 11 (M 10 3) a 4 (by omega) (fun _ => rfl) (by omega) (by omega)) ⟨va_cnB 3 hts gX3_add_X6_put_n25 rfl rfl rfl (hI.2.2.2.2.2.1 (.methodLinkNest RX3 25 yX6_put RX6) (by decide +kernel)) (hts (.initialized RX6) (by decide +kernel)) (by decide +kernel) ⟨Nat.le_of_ble_eq_true rfl, Nat.le_of_ble_eq_true rfl⟩, hts (.static yX6_put) (by decide +kernel), trivial⟩ rfl hl.1 rfl (Nat.le_of_ble_eq_true rfl) dX3_add_17 ⟨Nat.zero_le _, Nat.zero_le _⟩ (k_V (fun H locs hI => ?_))
    refine lv_aload_n hx hb dX3_add_20 rfl (lv_at hl 0 rfl) ?_
    refine r_get C hI 10 (by decide) rfl rfl hin3 1 (by decide) (fn := "people") (fd := "[I") (index := 15) (by decide +kernel) ⟨rfl, rfl, rfl⟩ (v := .ref (gA g 12)) rfl dX3_add_21 ?_
    refine lv_aload_n hx hb dX3_add_24 rfl (lv_at hl 0 rfl) ?_
    refine r_get C hI 10 (by decide) rfl rfl hin3 3 (by decide) (fn := "count") (fd := "I") (index := 21) (by decide +kernel) ⟨rfl, rfl, rfl⟩ (v := .int (iI (M 10 3))) rfl dX3_add_25 ?_
    refine lv_iload_n hx hb dX3_add_28 rfl (lv_at hl 2 rfl) ?_
    refine r_isn C hI (As := [.ref (gA g 12), .int (iI (M 10 3)), .int (iI b)]) (rest := []) (c_X6_put l g (mset M 11 (M 10 3) a) 12 (M 10 3) b 4 (by omega) (fun _ => rfl) (by omega) (by omega)) ⟨va_cnB 3 hts gX3_add_X6_put_n25 rfl rfl rfl (hI.2.2.2.2.2.1 (.methodLinkNest RX3 25 yX6_put RX6) (by decide +kernel)) (hts (.initialized RX6) (by decide +kernel)) (by decide +kernel) ⟨Nat.le_of_ble_eq_true rfl, Nat.le_of_ble_eq_true rfl⟩, hts (.static yX6_put) (by decide +kernel), trivial⟩ rfl hl.1 rfl (Nat.le_of_ble_eq_true rfl) dX3_add_29 ⟨Nat.zero_le _, Nat.zero_le _⟩ (k_V (fun H locs hI => ?_))
    refine lv_aload_n hx hb dX3_add_32 rfl (lv_at hl 0 rfl) ?_
    refine r_get C hI 10 (by decide) rfl rfl hin3 2 (by decide) (fn := "doings") (fd := "[I") (index := 18) (by decide +kernel) ⟨rfl, rfl, rfl⟩ (v := .ref (gA g 13)) rfl dX3_add_33 ?_
    refine lv_aload_n hx hb dX3_add_36 rfl (lv_at hl 0 rfl) ?_
    refine r_get C hI 10 (by decide) rfl rfl hin3 3 (by decide) (fn := "count") (fd := "I") (index := 21) (by decide +kernel) ⟨rfl, rfl, rfl⟩ (v := .int (iI (M 10 3))) rfl dX3_add_37 ?_
    refine lv_iload_n hx hb dX3_add_40 rfl (lv_at hl 3 rfl) ?_
    refine r_isn C hI (As := [.ref (gA g 13), .int (iI (M 10 3)), .int (iI d)]) (rest := []) (c_X6_put l g (mset (mset M 11 (M 10 3) a) 12 (M 10 3) b) 13 (M 10 3) d 4 (by omega) (fun _ => rfl) (by omega) (by omega)) ⟨va_cnB 3 hts gX3_add_X6_put_n25 rfl rfl rfl (hI.2.2.2.2.2.1 (.methodLinkNest RX3 25 yX6_put RX6) (by decide +kernel)) (hts (.initialized RX6) (by decide +kernel)) (by decide +kernel) ⟨Nat.le_of_ble_eq_true rfl, Nat.le_of_ble_eq_true rfl⟩, hts (.static yX6_put) (by decide +kernel), trivial⟩ rfl hl.1 rfl (Nat.le_of_ble_eq_true rfl) dX3_add_41 ⟨Nat.zero_le _, Nat.zero_le _⟩ (k_V (fun H locs hI => ?_))
    refine lv_aload_n hx hb dX3_add_44 rfl (lv_at hl 0 rfl) ?_
    refine lv_dup hx hb dX3_add_45 rfl ?_
    refine r_get C hI 10 (by decide) rfl rfl hin3 3 (by decide) (fn := "count") (fd := "I") (index := 21) (by decide +kernel) ⟨rfl, rfl, rfl⟩ (v := .int (iI (M 10 3))) rfl dX3_add_46 ?_
    refine lv_iconst (v := iI 1) hx hb dX3_add_49 rfl ?_
    refine r_iadd hx hb dX3_add_50 ?_
    refine r_put C hI 10 (by decide) rfl rfl tyX3 tyX3_ok nmX3 hin3 3 (by decide) (fn := "count") (fd := "I") (index := 21) (by decide +kernel) ⟨rfl, rfl, rfl⟩ rfl (z := (M 10 3) + 1) rfl rfl (Nat.le_of_ble_eq_true rfl) rfl dX3_add_51 (fun H locs hI => ?_)
    refine r_vret C hr hlk hI ?_ dX3_add_54
    exact ⟨rfl, (show mset (mset (mset (mset M 11 (M 10 3) a) 12 (M 10 3) b) 13 (M 10 3) d) 10 3 ((M 10 3) + 1) = mset (mset (mset (mset M 11 (M 10 3) a) 12 (M 10 3) b) 13 (M 10 3) d) 10 3 (M 10 3 + 1) from by first | rfl | (exfalso; omega))⟩
set_option maxHeartbeats 4000000 in
set_option maxRecDepth 100000 in
theorem c_X3_personAt (l : Launch) (g : GT) (M : Mem) (k : Int) (h : 0 ≤ k ∧ k < 4) : Ctr l g yX3_personAt wsX3_personAt ({ frames := 1, cells := 0, slots := 0, locals := 21 } : Room) [.ref (gA g 10), .int (iI k)] M (pI (M 12 k) M) := by
  refine Ctr.mk (cc := cX3_personAt) (maxL := 2) (ret := some .int) (lv := [(0, .ref (gA g 10)), (1, .int (iI k))]) (by decide) rfl (Nat.le_of_ble_eq_true rfl) rfl ?_
  intro p e s m below meth c C hr hlk hI ls hl
  have C : CallFix p m c cX3_personAt 2 s ([.ref (gA g 10), .int (iI k)] : List Value).toArray wsX3_personAt RX3 := C
  have hx := C.1
  have hb := C.2.1
  have hts := C.2.2.2.2
  have hin3 : ∀ w ∈ u_ws RX3 TX3 4, w ∈ wsX3_personAt := by decide +kernel
  refine lv_aload_n hx hb dX3_personAt_0 rfl (lv_at hl 0 rfl) ?_
  refine r_get C hI 10 (by decide) rfl rfl hin3 1 (by decide) (fn := "people") (fd := "[I") (index := 15) (by decide +kernel) ⟨rfl, rfl, rfl⟩ (v := .ref (gA g 12)) rfl dX3_personAt_1 ?_
  refine lv_iload_n hx hb dX3_personAt_4 rfl (lv_at hl 1 rfl) ?_
  refine r_isn C hI (As := [.ref (gA g 12), .int (iI k)]) (rest := []) (c_X6_at l g M 12 k 4 (by omega) (fun _ => rfl) (by omega) (by omega)) ⟨va_cnB 2 hts gX3_personAt_X6_at_n29 rfl rfl rfl (hI.2.2.2.2.2.1 (.methodLinkNest RX3 29 yX6_at RX6) (by decide +kernel)) (hts (.initialized RX6) (by decide +kernel)) (by decide +kernel) ⟨Nat.le_of_ble_eq_true rfl, Nat.le_of_ble_eq_true rfl⟩, hts (.static yX6_at) (by decide +kernel), trivial⟩ rfl hl.1 rfl (Nat.le_of_ble_eq_true rfl) dX3_personAt_5 ⟨Nat.zero_le _, Nat.zero_le _⟩ (k_I (fun H locs hI => ?_))
  refine r_iret C hr hlk hI ?_ dX3_personAt_8
  exact ⟨congrArg (fun q => some (Value.int (iI q))) (show M 12 k = M 12 k from by first | rfl | omega), rfl⟩
set_option maxHeartbeats 4000000 in
set_option maxRecDepth 100000 in
theorem c_X3_doingAt (l : Launch) (g : GT) (M : Mem) (k : Int) (h : 0 ≤ k ∧ k < 4) : Ctr l g yX3_doingAt wsX3_doingAt ({ frames := 1, cells := 0, slots := 0, locals := 21 } : Room) [.ref (gA g 10), .int (iI k)] M (pI (M 13 k) M) := by
  refine Ctr.mk (cc := cX3_doingAt) (maxL := 2) (ret := some .int) (lv := [(0, .ref (gA g 10)), (1, .int (iI k))]) (by decide) rfl (Nat.le_of_ble_eq_true rfl) rfl ?_
  intro p e s m below meth c C hr hlk hI ls hl
  have C : CallFix p m c cX3_doingAt 2 s ([.ref (gA g 10), .int (iI k)] : List Value).toArray wsX3_doingAt RX3 := C
  have hx := C.1
  have hb := C.2.1
  have hts := C.2.2.2.2
  have hin3 : ∀ w ∈ u_ws RX3 TX3 4, w ∈ wsX3_doingAt := by decide +kernel
  refine lv_aload_n hx hb dX3_doingAt_0 rfl (lv_at hl 0 rfl) ?_
  refine r_get C hI 10 (by decide) rfl rfl hin3 2 (by decide) (fn := "doings") (fd := "[I") (index := 18) (by decide +kernel) ⟨rfl, rfl, rfl⟩ (v := .ref (gA g 13)) rfl dX3_doingAt_1 ?_
  refine lv_iload_n hx hb dX3_doingAt_4 rfl (lv_at hl 1 rfl) ?_
  refine r_isn C hI (As := [.ref (gA g 13), .int (iI k)]) (rest := []) (c_X6_at l g M 13 k 4 (by omega) (fun _ => rfl) (by omega) (by omega)) ⟨va_cnB 2 hts gX3_doingAt_X6_at_n29 rfl rfl rfl (hI.2.2.2.2.2.1 (.methodLinkNest RX3 29 yX6_at RX6) (by decide +kernel)) (hts (.initialized RX6) (by decide +kernel)) (by decide +kernel) ⟨Nat.le_of_ble_eq_true rfl, Nat.le_of_ble_eq_true rfl⟩, hts (.static yX6_at) (by decide +kernel), trivial⟩ rfl hl.1 rfl (Nat.le_of_ble_eq_true rfl) dX3_doingAt_5 ⟨Nat.zero_le _, Nat.zero_le _⟩ (k_I (fun H locs hI => ?_))
  refine r_iret C hr hlk hI ?_ dX3_doingAt_8
  exact ⟨congrArg (fun q => some (Value.int (iI q))) (show M 13 k = M 13 k from by first | rfl | omega), rfl⟩
set_option maxHeartbeats 4000000 in
set_option maxRecDepth 100000 in
theorem c_X3_nextOf (l : Launch) (g : GT) (M : Mem) (a : Int) (b : Int) (hc : 0 ≤ M 10 3 ∧ M 10 3 ≤ 4) (hb0 : 0 ≤ b ∧ b ≤ M 10 3) (ha : -2147483648 ≤ a ∧ a < 2147483648) (hP : -2147483648 ≤ M 3 6 ∧ M 3 6 < 2147483648) (h11 : ∀ j : Int, 0 ≤ j ∧ j < M 10 3 → -2147483648 ≤ M 11 j ∧ M 11 j < 2147483648) (h12 : ∀ j : Int, 0 ≤ j ∧ j < M 10 3 → -2147483648 ≤ M 12 j ∧ M 12 j < 2147483648) : Ctr l g yX3_nextOf wsX3_nextOf ({ frames := 2, cells := 0, slots := 0, locals := 42 } : Room) [.ref (gA g 10), .int (iI a), .ref (gA g 3), .int (iI b)] M (pI (nxO (M 11) (M 12) a (M 3 6) (M 10 3 - b).toNat b) M) := by
  refine Ctr.mk (cc := cX3_nextOf) (maxL := 5) (ret := some .int) (lv := [(0, .ref (gA g 10)), (1, .int (iI a)), (2, .ref (gA g 3)), (3, .int (iI b))]) (by decide) rfl (Nat.le_of_ble_eq_true rfl) rfl ?_
  intro p e s m below meth c C hr hlk hI ls hl
  have C : CallFix p m c cX3_nextOf 5 s ([.ref (gA g 10), .int (iI a), .ref (gA g 3), .int (iI b)] : List Value).toArray wsX3_nextOf RX3 := C
  have hx := C.1
  have hb := C.2.1
  have hts := C.2.2.2.2
  have hin3 : ∀ w ∈ u_ws RX3 TX3 4, w ∈ wsX3_nextOf := by decide +kernel
  refine lv_iload_n hx hb dX3_nextOf_0 rfl (lv_at hl 3 rfl) ?_
  refine lv_istore (lv' := [(4, .int (iI b)), (0, .ref (gA g 10)), (1, .int (iI a)), (2, .ref (gA g 3)), (3, .int (iI b))]) hx hb dX3_nextOf_1 hl (by decide) rfl (fun ls hl => ?_)
  have lp3 : ∀ (n3 : Nat) (x : Int), (0 ≤ x ∧ x ≤ M 10 3) → (nxO (M 11) (M 12) a (M 3 6) (M 10 3 - x).toNat x = nxO (M 11) (M 12) a (M 3 6) (M 10 3 - b).toNat b) → (M 10 3 - x).toNat < n3 → ∀ (H : Heap) (locs : List Loc), HI g s H locs M → ∀ ls : Array Slot, lv_has ls 5 [(4, .int (iI x)), (0, .ref (gA g 10)), (1, .int (iI a)), (2, .ref (gA g 3)), (3, .int (iI b))] → W p l e ({ frames := 2, cells := 0, slots := 0, locals := 42 } : Room) s m ([.ref (gA g 10), .int (iI a), .ref (gA g 3), .int (iI b)] : List Value).toArray below meth c H locs 0 0 (MQ below (QV g (pI (nxO (M 11) (M 12) a (M 3 6) (M 10 3 - b).toNat b) M)) ([.ref (gA g 10), .int (iI a), .ref (gA g 3), .int (iI b)] : List Value).toArray s 0 0 (AA g)) (F0 m 3 ls []) := by
    intro n3
    induction n3 with
    | zero => intro x h1 h2 hn3; exact absurd hn3 (Nat.not_lt_zero _)
    | succ n3 ih3 =>
      intro x h1 h2 hn3 H locs hI ls hl
      have h11x := h11 x
      have h12x := h12 x
      refine lv_iload hx hb dX3_nextOf_3 (lv_at hl 0 rfl) ?_
      refine lv_aload_n hx hb dX3_nextOf_5 rfl (lv_at hl 1 rfl) ?_
      refine r_get C hI 10 (by decide) rfl rfl hin3 3 (by decide) (fn := "count") (fd := "I") (index := 21) (by decide +kernel) ⟨rfl, rfl, rfl⟩ (v := .int (iI (M 10 3))) rfl dX3_nextOf_6 ?_
      refine r_icmp_ge hx hb (tgt := 47) (by omega) (by omega) dX3_nextOf_9 (by decide) (fun c_1 => ?_) (fun c_1 => ?_)
      · refine lv_aload_n hx hb dX3_nextOf_47 rfl (lv_at hl 1 rfl) ?_
        refine r_get C hI 10 (by decide) rfl rfl hin3 3 (by decide) (fn := "count") (fd := "I") (index := 21) (by decide +kernel) ⟨rfl, rfl, rfl⟩ (v := .int (iI (M 10 3))) rfl dX3_nextOf_48 ?_
        refine r_iret C hr hlk hI ?_ dX3_nextOf_51
        exact ⟨congrArg (fun q => some (Value.int (iI q))) (show M 10 3 = nxO (M 11) (M 12) a (M 3 6) (M 10 3 - b).toNat b from by (have hx1 : x = M 10 3 := by omega); rw [show (M 10 3 - x).toNat = 0 from by omega] at h2; simp only [nxO] at h2; omega), rfl⟩
      · refine lv_aload_n hx hb dX3_nextOf_12 rfl (lv_at hl 1 rfl) ?_
        refine r_get C hI 10 (by decide) rfl rfl hin3 0 (by decide) (fn := "gloves") (fd := "[I") (index := 9) (by decide +kernel) ⟨rfl, rfl, rfl⟩ (v := .ref (gA g 11)) rfl dX3_nextOf_13 ?_
        refine lv_iload hx hb dX3_nextOf_16 (lv_at hl 0 rfl) ?_
        refine r_isn C hI (As := [.ref (gA g 11), .int (iI x)]) (rest := []) (c_X6_at l g M 11 x 4 (by omega) (fun _ => rfl) (by omega) (by omega)) ⟨va_cnB 2 hts gX3_nextOf_X6_at_n29 rfl rfl rfl (hI.2.2.2.2.2.1 (.methodLinkNest RX3 29 yX6_at RX6) (by decide +kernel)) (hts (.initialized RX6) (by decide +kernel)) (by decide +kernel) ⟨Nat.le_of_ble_eq_true rfl, Nat.le_of_ble_eq_true rfl⟩, hts (.static yX6_at) (by decide +kernel), trivial⟩ rfl hl.1 rfl (Nat.le_of_ble_eq_true rfl) dX3_nextOf_18 ⟨Nat.zero_le _, Nat.zero_le _⟩ (k_I (fun H locs hI => ?_))
        refine lv_iload_n hx hb dX3_nextOf_21 rfl (lv_at hl 2 rfl) ?_
        refine r_icmp_ne hx hb (tgt := 41) (by omega) (by omega) dX3_nextOf_22 (by decide) (fun c_2 => ?_) (fun c_2 => ?_)
        · refine lv_iinc (v := iI (x + 1)) (lv' := [(4, .int (iI (x + 1))), (0, .ref (gA g 10)), (1, .int (iI a)), (2, .ref (gA g 3)), (3, .int (iI b))]) hx hb dX3_nextOf_41 hl (k := 0) rfl (iI_add _ _) (by decide) rfl (fun ls hl => ?_)
          refine lv_goto (tgt := 3) hx hb dX3_nextOf_44 (by decide) ?_
          exact ih3 (x + 1) (by omega) (by (obtain ⟨k, hk⟩ : ∃ k, (M 10 3 - x).toNat = k + 1 := ⟨(M 10 3 - x).toNat - 1, by omega⟩); rw [hk, nxO_1 (by omega)] at h2; rw [show (M 10 3 - (x + 1)).toNat = k from by omega]; exact h2) (by omega) _ _ hI ls (lv_sub hl [0, 1, 2, 3, 4] rfl)
        · refine lv_aload_n hx hb dX3_nextOf_25 rfl (lv_at hl 3 rfl) ?_
          refine lv_aload_n hx hb dX3_nextOf_26 rfl (lv_at hl 1 rfl) ?_
          refine lv_iload hx hb dX3_nextOf_27 (lv_at hl 0 rfl) ?_
          refine r_iv C hI (As := [.int (iI x)]) (rest := [.ref (gA g 3)]) (c_X3_personAt l g M x (by omega)) (cwV 1 hts gX3_nextOf_X3_personAt rfl rfl rfl (by decide +kernel) ⟨Nat.le_of_ble_eq_true rfl, Nat.le_of_ble_eq_true rfl⟩) (by decide) rfl rfl rfl hl.1 rfl (Nat.le_of_ble_eq_true rfl) dX3_nextOf_29 ⟨Nat.zero_le _, Nat.zero_le _⟩ (k_I (fun H locs hI => ?_))
          refine r_iv C hI (As := [.int (iI (M 12 x))]) (rest := []) (c_X1_hasPerson l g M (M 12 x) (by omega) (show -2147483648 ≤ (M 3 6) ∧ (M 3 6) < 2147483648 from by omega)) (cwV 1 hts gX3_nextOf_X1_hasPerson rfl rfl rfl (by decide +kernel) ⟨Nat.le_of_ble_eq_true rfl, Nat.le_of_ble_eq_true rfl⟩) (by decide) rfl rfl rfl hl.1 rfl (Nat.le_of_ble_eq_true rfl) dX3_nextOf_32 ⟨Nat.zero_le _, Nat.zero_le _⟩ (k_I (fun H locs hI => ?_))
          refine r_b_eq hx hb (tgt := 41) dX3_nextOf_35 (by decide) (fun c_3 => ?_) (fun c_3 => ?_)
          · refine lv_iinc (v := iI (x + 1)) (lv' := [(4, .int (iI (x + 1))), (0, .ref (gA g 10)), (1, .int (iI a)), (2, .ref (gA g 3)), (3, .int (iI b))]) hx hb dX3_nextOf_41 hl (k := 0) rfl (iI_add _ _) (by decide) rfl (fun ls hl => ?_)
            refine lv_goto (tgt := 3) hx hb dX3_nextOf_44 (by decide) ?_
            exact ih3 (x + 1) (by omega) (by (obtain ⟨k, hk⟩ : ∃ k, (M 10 3 - x).toNat = k + 1 := ⟨(M 10 3 - x).toNat - 1, by omega⟩); rw [hk, nxO_1 (by omega)] at h2; rw [show (M 10 3 - (x + 1)).toNat = k from by omega]; exact h2) (by omega) _ _ hI ls (lv_sub hl [0, 1, 2, 3, 4] rfl)
          · refine lv_iload hx hb dX3_nextOf_38 (lv_at hl 0 rfl) ?_
            refine r_iret C hr hlk hI ?_ dX3_nextOf_40
            exact ⟨congrArg (fun q => some (Value.int (iI q))) (show x = nxO (M 11) (M 12) a (M 3 6) (M 10 3 - b).toNat b from by (obtain ⟨k, hk⟩ : ∃ k, (M 10 3 - x).toNat = k + 1 := ⟨(M 10 3 - x).toNat - 1, by omega⟩); rw [hk, nxO_2 (by omega)] at h2; exact h2), rfl⟩
  exact lp3 _ b (by omega) (by rfl) (Nat.lt_succ_self _) _ _ hI ls (lv_sub hl [0, 1, 2, 3, 4] rfl)
set_option maxHeartbeats 4000000 in
set_option maxRecDepth 100000 in
theorem c_X4_start (l : Launch) (g : GT) (M : Mem) : Ctr l g yX4_start wsX4_start ({ frames := 0, cells := 0, slots := 0, locals := 0 } : Room) [.ref (gA g 14)] M (pV (mset (mset M 14 0 0) 14 1 (-9))) := by
  refine Ctr.mk (cc := cX4_start) (maxL := 1) (ret := none) (lv := [(0, .ref (gA g 14))]) (by decide) rfl (Nat.le_of_ble_eq_true rfl) rfl ?_
  intro p e s m below meth c C hr hlk hI ls hl
  have C : CallFix p m c cX4_start 1 s ([.ref (gA g 14)] : List Value).toArray wsX4_start RX4 := C
  have hx := C.1
  have hb := C.2.1
  have hts := C.2.2.2.2
  have hin4 : ∀ w ∈ u_ws RX4 TX4 2, w ∈ wsX4_start := by decide +kernel
  refine lv_aload_n hx hb dX4_start_0 rfl (lv_at hl 0 rfl) ?_
  refine lv_iconst (v := iI 0) hx hb dX4_start_1 rfl ?_
  refine r_put C hI 14 (by decide) rfl rfl tyX4 tyX4_ok nmX4 hin4 0 (by decide) (fn := "count") (fd := "I") (index := 9) (by decide +kernel) ⟨rfl, rfl, rfl⟩ rfl (z := 0) rfl rfl (Nat.le_of_ble_eq_true rfl) rfl dX4_start_2 (fun H locs hI => ?_)
  refine lv_aload_n hx hb dX4_start_5 rfl (lv_at hl 0 rfl) ?_
  refine lv_bipush (v := iI (-9)) hx hb dX4_start_6 (by decide +kernel) ?_
  refine r_put C hI 14 (by decide) rfl rfl tyX4 tyX4_ok nmX4 hin4 1 (by decide) (fn := "first") (fd := "I") (index := 15) (by decide +kernel) ⟨rfl, rfl, rfl⟩ rfl (z := (-9)) rfl rfl (Nat.le_of_ble_eq_true rfl) rfl dX4_start_8 (fun H locs hI => ?_)
  refine r_vret C hr hlk hI ?_ dX4_start_11
  exact ⟨rfl, (show mset (mset M 14 0 0) 14 1 (-9) = mset (mset M 14 0 0) 14 1 (-9) from by first | rfl | (exfalso; omega))⟩
set_option maxHeartbeats 4000000 in
set_option maxRecDepth 100000 in
theorem c_X4_add (l : Launch) (g : GT) (M : Mem) (x : Int) (h : -2147483648 ≤ M 14 0 ∧ M 14 0 < 2147483648) : Ctr l g yX4_add wsX4_add ({ frames := 0, cells := 0, slots := 0, locals := 0 } : Room) [.ref (gA g 14), .int (iI x)] M (pV (tAdd M x)) := by
  refine Ctr.mk (cc := cX4_add) (maxL := 2) (ret := none) (lv := [(0, .ref (gA g 14)), (1, .int (iI x))]) (by decide) rfl (Nat.le_of_ble_eq_true rfl) rfl ?_
  intro p e s m below meth c C hr hlk hI ls hl
  have C : CallFix p m c cX4_add 2 s ([.ref (gA g 14), .int (iI x)] : List Value).toArray wsX4_add RX4 := C
  have hx := C.1
  have hb := C.2.1
  have hts := C.2.2.2.2
  have hin4 : ∀ w ∈ u_ws RX4 TX4 2, w ∈ wsX4_add := by decide +kernel
  refine lv_aload_n hx hb dX4_add_0 rfl (lv_at hl 0 rfl) ?_
  refine r_get C hI 14 (by decide) rfl rfl hin4 0 (by decide) (fn := "count") (fd := "I") (index := 9) (by decide +kernel) ⟨rfl, rfl, rfl⟩ (v := .int (iI (M 14 0))) rfl dX4_add_1 ?_
  refine r_if_ne hx hb (tgt := 12) (by omega) dX4_add_4 (by decide) (fun c_1 => ?_) (fun c_1 => ?_)
  · refine lv_aload_n hx hb dX4_add_12 rfl (lv_at hl 0 rfl) ?_
    refine lv_dup hx hb dX4_add_13 rfl ?_
    refine r_get C hI 14 (by decide) rfl rfl hin4 0 (by decide) (fn := "count") (fd := "I") (index := 9) (by decide +kernel) ⟨rfl, rfl, rfl⟩ (v := .int (iI (M 14 0))) rfl dX4_add_14 ?_
    refine lv_iconst (v := iI 1) hx hb dX4_add_17 rfl ?_
    refine r_iadd hx hb dX4_add_18 ?_
    refine r_put C hI 14 (by decide) rfl rfl tyX4 tyX4_ok nmX4 hin4 0 (by decide) (fn := "count") (fd := "I") (index := 9) (by decide +kernel) ⟨rfl, rfl, rfl⟩ rfl (z := (M 14 0) + 1) rfl rfl (Nat.le_of_ble_eq_true rfl) rfl dX4_add_19 (fun H locs hI => ?_)
    refine r_vret C hr hlk hI ?_ dX4_add_22
    exact ⟨rfl, (show mset M 14 0 ((M 14 0) + 1) = tAdd M x from by unfold tAdd; first | rw [if_pos (by assumption)] | rw [if_neg (by assumption)])⟩
  · refine lv_aload_n hx hb dX4_add_7 rfl (lv_at hl 0 rfl) ?_
    refine lv_iload_n hx hb dX4_add_8 rfl (lv_at hl 1 rfl) ?_
    refine r_put C hI 14 (by decide) rfl rfl tyX4 tyX4_ok nmX4 hin4 1 (by decide) (fn := "first") (fd := "I") (index := 15) (by decide +kernel) ⟨rfl, rfl, rfl⟩ rfl (z := x) rfl rfl (Nat.le_of_ble_eq_true rfl) rfl dX4_add_9 (fun H locs hI => ?_)
    refine lv_aload_n hx hb dX4_add_12 rfl (lv_at hl 0 rfl) ?_
    refine lv_dup hx hb dX4_add_13 rfl ?_
    refine r_get C hI 14 (by decide) rfl rfl hin4 0 (by decide) (fn := "count") (fd := "I") (index := 9) (by decide +kernel) ⟨rfl, rfl, rfl⟩ (v := .int (iI (M 14 0))) rfl dX4_add_14 ?_
    refine lv_iconst (v := iI 1) hx hb dX4_add_17 rfl ?_
    refine r_iadd hx hb dX4_add_18 ?_
    refine r_put C hI 14 (by decide) rfl rfl tyX4 tyX4_ok nmX4 hin4 0 (by decide) (fn := "count") (fd := "I") (index := 9) (by decide +kernel) ⟨rfl, rfl, rfl⟩ rfl (z := (M 14 0) + 1) rfl rfl (Nat.le_of_ble_eq_true rfl) rfl dX4_add_19 (fun H locs hI => ?_)
    refine r_vret C hr hlk hI ?_ dX4_add_22
    exact ⟨rfl, (show mset (mset M 14 1 x) 14 0 ((M 14 0) + 1) = tAdd M x from by unfold tAdd; first | rw [if_pos (by assumption)] | rw [if_neg (by assumption)])⟩
set_option maxHeartbeats 4000000 in
set_option maxRecDepth 100000 in
theorem c_X4_told (l : Launch) (g : GT) (M : Mem) (w : Int) (h : -2147483648 ≤ w ∧ w < 2147483648) : Ctr l g yX4_told wsX4_told ({ frames := 0, cells := 0, slots := 0, locals := 0 } : Room) [.ref (gA g 14), .int (iI w)] M (pI (if w = 0 then M 14 0 else M 14 1) M) := by
  refine Ctr.mk (cc := cX4_told) (maxL := 2) (ret := some .int) (lv := [(0, .ref (gA g 14)), (1, .int (iI w))]) (by decide) rfl (Nat.le_of_ble_eq_true rfl) rfl ?_
  intro p e s m below meth c C hr hlk hI ls hl
  have C : CallFix p m c cX4_told 2 s ([.ref (gA g 14), .int (iI w)] : List Value).toArray wsX4_told RX4 := C
  have hx := C.1
  have hb := C.2.1
  have hts := C.2.2.2.2
  have hin4 : ∀ w ∈ u_ws RX4 TX4 2, w ∈ wsX4_told := by decide +kernel
  refine lv_iload_n hx hb dX4_told_0 rfl (lv_at hl 1 rfl) ?_
  refine r_if_ne hx hb (tgt := 11) (by omega) dX4_told_1 (by decide) (fun c_1 => ?_) (fun c_1 => ?_)
  · refine lv_aload_n hx hb dX4_told_11 rfl (lv_at hl 0 rfl) ?_
    refine r_get C hI 14 (by decide) rfl rfl hin4 1 (by decide) (fn := "first") (fd := "I") (index := 15) (by decide +kernel) ⟨rfl, rfl, rfl⟩ (v := .int (iI (M 14 1))) rfl dX4_told_12 ?_
    refine r_iret C hr hlk hI ?_ dX4_told_15
    exact ⟨congrArg (fun q => some (Value.int (iI q))) (show M 14 1 = if w = 0 then M 14 0 else M 14 1 from by split <;> first | rfl | omega), rfl⟩
  · refine lv_aload_n hx hb dX4_told_4 rfl (lv_at hl 0 rfl) ?_
    refine r_get C hI 14 (by decide) rfl rfl hin4 0 (by decide) (fn := "count") (fd := "I") (index := 9) (by decide +kernel) ⟨rfl, rfl, rfl⟩ (v := .int (iI (M 14 0))) rfl dX4_told_5 ?_
    refine lv_goto (tgt := 15) hx hb dX4_told_8 (by decide) ?_
    refine r_iret C hr hlk hI ?_ dX4_told_15
    exact ⟨congrArg (fun q => some (Value.int (iI q))) (show M 14 0 = if w = 0 then M 14 0 else M 14 1 from by split <;> first | rfl | omega), rfl⟩
set_option maxHeartbeats 4000000 in
set_option maxRecDepth 100000 in
theorem c_X1_read (l : Launch) (g : GT) (M : Mem) (q : Nat) (hq : M 1 1 = 1 + 4 * (q : Int) ∧ q < 10) (hf : ∀ j : Nat, j < q → (M 2 (1 + 4 * (j : Int)) = 80 ∧ cntP (M 2) 80 j < 5) ∨ (M 2 (1 + 4 * (j : Int)) = 76 ∧ cntP (M 2) 76 j < 4)) (hL : ∀ j : Int, 0 ≤ M 2 j ∧ M 2 j ≤ 255) : Ctr l g yX1_read wsX1_read ({ frames := 3, cells := 0, slots := 0, locals := 64 } : Room) [.ref (gA g 3), .ref (gA g 1)] M (pV (rdM M q)) := by
  refine Ctr.mk (cc := cX1_read) (maxL := 3) (ret := none) (lv := [(0, .ref (gA g 3)), (1, .ref (gA g 1))]) (by decide) rfl (Nat.le_of_ble_eq_true rfl) rfl ?_
  intro p e s m below meth c C hr hlk hI ls hl
  have C : CallFix p m c cX1_read 3 s ([.ref (gA g 3), .ref (gA g 1)] : List Value).toArray wsX1_read RX1 := C
  have hx := C.1
  have hb := C.2.1
  have hts := C.2.2.2.2
  have hin1 : ∀ w ∈ u_ws RX1 TX1 8, w ∈ wsX1_read := by decide +kernel
  refine lv_aload_n hx hb dX1_read_0 rfl (lv_at hl 0 rfl) ?_
  refine lv_iconst (v := iI 0) hx hb dX1_read_1 rfl ?_
  refine r_put C hI 3 (by decide) rfl rfl tyX1 tyX1_ok nmX1 hin1 6 (by decide) (fn := "personCount") (fd := "I") (index := 30) (by decide +kernel) ⟨rfl, rfl, rfl⟩ rfl (z := 0) rfl rfl (Nat.le_of_ble_eq_true rfl) rfl dX1_read_2 (fun H locs hI => ?_)
  refine lv_aload_n hx hb dX1_read_5 rfl (lv_at hl 0 rfl) ?_
  refine lv_iconst (v := iI 0) hx hb dX1_read_6 rfl ?_
  refine r_put C hI 3 (by decide) rfl rfl tyX1 tyX1_ok nmX1 hin1 7 (by decide) (fn := "gloveCount") (fd := "I") (index := 34) (by decide +kernel) ⟨rfl, rfl, rfl⟩ rfl (z := 0) rfl rfl (Nat.le_of_ble_eq_true rfl) rfl dX1_read_7 (fun H locs hI => ?_)
  refine lv_iconst (v := iI 1) hx hb dX1_read_10 rfl ?_
  refine lv_istore_n (lv' := [(2, .int (iI 1)), (0, .ref (gA g 3)), (1, .ref (gA g 1))]) hx hb dX1_read_11 rfl hl (by decide) rfl (fun ls hl => ?_)
  have lp12 : ∀ (n12 : Nat) (x : Int) (N : Mem) (j : Nat), (x = 1 + 4 * (j : Int) ∧ j ≤ q) → (N = rdM M j) → q - j < n12 → ∀ (H : Heap) (locs : List Loc), HI g s H locs N → ∀ ls : Array Slot, lv_has ls 3 [(2, .int (iI x)), (0, .ref (gA g 3)), (1, .ref (gA g 1))] → W p l e ({ frames := 3, cells := 0, slots := 0, locals := 64 } : Room) s m ([.ref (gA g 3), .ref (gA g 1)] : List Value).toArray below meth c H locs 0 0 (MQ below (QV g (pV (rdM M q))) ([.ref (gA g 3), .ref (gA g 1)] : List Value).toArray s 0 0 (AA g)) (F0 m 12 ls []) := by
    intro n12
    induction n12 with
    | zero => intro x N j h1 h2 hn12; exact absurd hn12 (Nat.not_lt_zero _)
    | succ n12 ih12 =>
      intro x N j h1 h2 hn12 H locs hI ls hl
      have eN1 : N 1 1 = M 1 1 := by rw [h2, (rdM_1 M j).1]
      have eN2 : N 2 = M 2 := by rw [h2, (rdM_1 M j).2]
      have e3 := rdM_3 M j (fun k hk => (hf k (by omega)).imp And.left And.left)
      rw [← h2] at e3
      have eNx : N 2 x = M 2 x := congrFun eN2 x
      have hfj := hf j
      have hx2 : M 2 x = M 2 (1 + 4 * (j : Int)) := by rw [h1.1]
      have hLx := hL x
      have c80 := cntP_R (M 2) 80 j
      have c76 := cntP_R (M 2) 76 j
      refine lv_iload_n hx hb dX1_read_12 rfl (lv_at hl 0 rfl) ?_
      refine lv_aload_n hx hb dX1_read_13 rfl (lv_at hl 2 rfl) ?_
      refine r_iv C hI (As := []) (rest := [.int (iI x)]) (c_X5_size l g N) (cwV 0 hts gX1_read_X5_size rfl rfl rfl (by decide +kernel) ⟨Nat.le_of_ble_eq_true rfl, Nat.le_of_ble_eq_true rfl⟩) (by decide) rfl rfl rfl hl.1 rfl (Nat.le_of_ble_eq_true rfl) dX1_read_14 ⟨Nat.zero_le _, Nat.zero_le _⟩ (k_I (fun H locs hI => ?_))
      refine r_icmp_ge hx hb (tgt := 49) (by omega) (by omega) dX1_read_17 (by decide) (fun c_1 => ?_) (fun c_1 => ?_)
      · refine r_vret C hr hlk hI ?_ dX1_read_49
        exact ⟨rfl, (show N = rdM M q from by (have : j = q := by omega); subst this; exact h2)⟩
      · refine lv_aload_n hx hb dX1_read_20 rfl (lv_at hl 2 rfl) ?_
        refine lv_iload_n hx hb dX1_read_21 rfl (lv_at hl 0 rfl) ?_
        refine r_iv C hI (As := [.int (iI x)]) (rest := []) (c_X5_isPerson l g N x (by omega) (show -2147483648 ≤ (N 2 x) ∧ (N 2 x) < 2147483648 from by omega)) (cwV 1 hts gX1_read_X5_isPerson rfl rfl rfl (by decide +kernel) ⟨Nat.le_of_ble_eq_true rfl, Nat.le_of_ble_eq_true rfl⟩) (by decide) rfl rfl rfl hl.1 rfl (Nat.le_of_ble_eq_true rfl) dX1_read_22 ⟨Nat.zero_le _, Nat.zero_le _⟩ (k_I (fun H locs hI => ?_))
        refine r_b_eq hx hb (tgt := 37) dX1_read_25 (by decide) (fun c_2 => ?_) (fun c_2 => ?_)
        · refine lv_aload_n hx hb dX1_read_37 rfl (lv_at hl 1 rfl) ?_
          refine lv_aload_n hx hb dX1_read_38 rfl (lv_at hl 2 rfl) ?_
          refine lv_iload_n hx hb dX1_read_39 rfl (lv_at hl 0 rfl) ?_
          refine r_iv C hI (As := [.ref (gA g 1), .int (iI x)]) (rest := []) (c_X1_addGlove l g N x (show 0 ≤ (N 3 7) ∧ (N 3 7) < 4 from by omega) (by omega)) (cwV 2 hts gX1_read_X1_addGlove rfl rfl rfl (by decide +kernel) ⟨Nat.le_of_ble_eq_true rfl, Nat.le_of_ble_eq_true rfl⟩) (by decide) rfl rfl rfl hl.1 rfl (Nat.le_of_ble_eq_true rfl) dX1_read_40 ⟨Nat.zero_le _, Nat.zero_le _⟩ (k_V (fun H locs hI => ?_))
          refine lv_iinc (v := iI (x + 4)) (lv' := [(2, .int (iI (x + 4))), (0, .ref (gA g 3)), (1, .ref (gA g 1))]) hx hb dX1_read_43 hl (k := 0) rfl (iI_add _ _) (by decide) rfl (fun ls hl => ?_)
          refine lv_goto (tgt := 12) hx hb dX1_read_46 (by decide) ?_
          exact ih12 (x + 4) (adG N x) (j + 1) (by omega) (by (rw [h2]; simp only [rdM]; first | rw [if_pos (by rw [← h1.1, ← eN2]; assumption), h1.1] | rw [if_neg (by rw [← h1.1, ← eN2]; assumption), h1.1])) (by omega) _ _ hI ls (lv_sub hl [0, 1, 2] rfl)
        · refine lv_aload_n hx hb dX1_read_28 rfl (lv_at hl 1 rfl) ?_
          refine lv_aload_n hx hb dX1_read_29 rfl (lv_at hl 2 rfl) ?_
          refine lv_iload_n hx hb dX1_read_30 rfl (lv_at hl 0 rfl) ?_
          refine r_iv C hI (As := [.ref (gA g 1), .int (iI x)]) (rest := []) (c_X1_addPerson l g N x (show 0 ≤ (N 3 6) ∧ (N 3 6) < 5 from by omega) (by omega)) (cwV 2 hts gX1_read_X1_addPerson rfl rfl rfl (by decide +kernel) ⟨Nat.le_of_ble_eq_true rfl, Nat.le_of_ble_eq_true rfl⟩) (by decide) rfl rfl rfl hl.1 rfl (Nat.le_of_ble_eq_true rfl) dX1_read_31 ⟨Nat.zero_le _, Nat.zero_le _⟩ (k_V (fun H locs hI => ?_))
          refine lv_goto (tgt := 43) hx hb dX1_read_34 (by decide) ?_
          refine lv_iinc (v := iI (x + 4)) (lv' := [(2, .int (iI (x + 4))), (0, .ref (gA g 3)), (1, .ref (gA g 1))]) hx hb dX1_read_43 hl (k := 0) rfl (iI_add _ _) (by decide) rfl (fun ls hl => ?_)
          refine lv_goto (tgt := 12) hx hb dX1_read_46 (by decide) ?_
          exact ih12 (x + 4) (adP N x) (j + 1) (by omega) (by (rw [h2]; simp only [rdM]; first | rw [if_pos (by rw [← h1.1, ← eN2]; assumption), h1.1] | rw [if_neg (by rw [← h1.1, ← eN2]; assumption), h1.1])) (by omega) _ _ hI ls (lv_sub hl [0, 1, 2] rfl)
  exact lp12 _ 1 (mset (mset M 3 6 0) 3 7 0) 0 (by omega) (by rfl) (Nat.lt_succ_self _) _ _ hI ls (lv_sub hl [0, 1, 2] rfl)
