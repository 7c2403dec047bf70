/-! rows of BITS.to-paste and NUMBERS.to-paste -/
theorem s_l : ∀ n, n < 32 → ((nI n &&& 31).toBitVec.smod 32).toNat = n := by decide +kernel
theorem nx_and (a b : Nat) : nI a &&& nI b = nI (a &&& b) := by
  apply Int32.toBitVec_inj.1
  show BitVec.ofNat 32 a &&& BitVec.ofNat 32 b = BitVec.ofNat 32 (a &&& b)
  apply BitVec.eq_of_getLsbD_eq
  intro i hi
  simp [hi]
theorem nx_xor (a b : Nat) : nI a ^^^ nI b = nI (a ^^^ b) := by
  apply Int32.toBitVec_inj.1
  show BitVec.ofNat 32 a ^^^ BitVec.ofNat 32 b = BitVec.ofNat 32 (a ^^^ b)
  apply BitVec.eq_of_getLsbD_eq
  intro i hi
  simp [hi]
theorem wb_tb (n : Nat) : (lN n).toBitVec = BitVec.ofNat 64 n := rfl
theorem wb_inj {a b : Int64} (h : a.toBitVec = b.toBitVec) : a = b := Int64.toBitVec_inj.mp h
theorem wb_tn {n : Nat} (h : n < 2 ^ 64) : (lN n).toBitVec.toNat = n := by rw [wb_tb, BitVec.toNat_ofNat, Nat.mod_eq_of_lt h]
theorem wb_cu : ∀ k, k < 64 → ((nI k).toInt64.toUInt64 &&& Int64.toUInt64 63) = UInt64.ofNat k := by decide +kernel
theorem wb_mod (n : Nat) : lN n = lN (n % 2 ^ 64) := wb_inj (by rw [wb_tb, wb_tb]; apply BitVec.eq_of_toNat_eq; rw [BitVec.toNat_ofNat, BitVec.toNat_ofNat, Nat.mod_mod])
theorem wb_shr {n k : Nat} (hn : n < 2 ^ 64) (hk : k < 64) : ((lN n).toUInt64 >>> ((nI k).toInt64.toUInt64 &&& Int64.toUInt64 63)).toInt64 = lN (n / 2 ^ k) := by
  rw [wb_cu k hk]
  apply wb_inj
  apply BitVec.eq_of_toNat_eq
  show ((lN n).toUInt64 >>> UInt64.ofNat k).toNat = (BitVec.ofNat 64 _).toNat
  have h1 : (UInt64.ofNat k).toNat = k := by
    show (BitVec.ofNat 64 k).toNat = k
    rw [BitVec.toNat_ofNat, Nat.mod_eq_of_lt (by omega)]
  have h2 : (lN n).toUInt64.toNat = n := wb_tn hn
  rw [UInt64.toNat_shiftRight, h1, h2, Nat.mod_eq_of_lt hk, Nat.shiftRight_eq_div_pow, BitVec.toNat_ofNat, Nat.mod_eq_of_lt (Nat.lt_of_le_of_lt (Nat.div_le_self _ _) hn)]
theorem fa_or (a b : Nat) : nI a ||| nI b = nI (a ||| b) := by
  apply Int32.toBitVec_inj.1
  show BitVec.ofNat 32 a ||| BitVec.ofNat 32 b = BitVec.ofNat 32 (a ||| b)
  apply BitVec.eq_of_getLsbD_eq
  intro i hi
  simp [hi]
/-! more numbers -/
theorem iI_pos {z : Int} (h : 0 ≤ z) : iI z = nI z.toNat := by
  rw [← iI_nI, Int.toNat_of_nonneg h]
theorem iL_T {z : Int} (h : -9223372036854775808 ≤ z ∧ z < 9223372036854775808) : (iL z).toInt = z := Int64.toInt_ofInt_of_le h.1 h.2
theorem iL_add (a b : Int) : iL a + iL b = iL (a + b) := (Int64.ofInt_add a b).symm
theorem iL_mul (a b : Int) : iL a * iL b = iL (a * b) := (Int64.ofInt_mul a b).symm
theorem iL_of (x : Int64) : iL x.toInt = x := Int64.ofInt_toInt x
theorem iL_lN (n : Nat) : iL (n : Int) = lN n := by
  apply Int64.toInt_inj.mp
  show (Int64.ofInt (n : Int)).toInt = (Int64.ofNat n).toInt
  simp
theorem iL_mod (z : Int) : iL z = lN (z % 18446744073709551616).toNat := by
  have h : 0 ≤ z % 18446744073709551616 := Int.emod_nonneg _ (by decide)
  rw [← iL_lN, Int.toNat_of_nonneg h]
  apply Int64.toInt_inj.mp
  show (Int64.ofInt z).toInt = (Int64.ofInt (z % 18446744073709551616)).toInt
  rw [Int64.toInt_ofInt, Int64.toInt_ofInt]
  show z.bmod 18446744073709551616 = (z % 18446744073709551616).bmod 18446744073709551616
  exact (Int.emod_bmod _ _).symm
theorem iI_l {z : Int} (h : -2147483648 ≤ z ∧ z < 2147483648) : (iI z).toInt64 = iL z := by
  apply Int64.toInt_inj.mp
  rw [Int32.toInt_toInt64, iI_T h, iL_T (by omega)]
theorem iL_i (z : Int) : (iL z).toInt32 = iI z := Int64.toInt32_ofInt
def xorI (a b : Int) : Int := ((a.toNat ^^^ b.toNat : Nat) : Int)
def orI (a b : Int) : Int := ((a.toNat ||| b.toNat : Nat) : Int)
def andI (a b : Int) : Int := ((a.toNat &&& b.toNat : Nat) : Int)
def shlI (a b : Int) : Int := a * 2 ^ b.toNat
def shrI (a b : Int) : Int := a / 2 ^ b.toNat
theorem iI_xor {a b : Int} (ha : 0 ≤ a ∧ 0 ≤ b) : iI a ^^^ iI b = iI (xorI a b) := by
  rw [iI_pos ha.1, iI_pos ha.2, nx_xor, xorI, iI_nI]
theorem iI_and {a b : Int} (ha : 0 ≤ a ∧ 0 ≤ b) : iI a &&& iI b = iI (andI a b) := by
  rw [iI_pos ha.1, iI_pos ha.2, nx_and, andI, iI_nI]
theorem iI_or {a b : Int} (ha : 0 ≤ a ∧ 0 ≤ b) : iI a ||| iI b = iI (orI a b) := by
  rw [iI_pos ha.1, iI_pos ha.2, fa_or, orI, iI_nI]
theorem iI_shl1 {b : Int} (h : 0 ≤ b ∧ b < 31) : iI 1 <<< (iI b &&& 31) = iI (shlI 1 b) := by
  rw [iI_pos h.1, show iI 1 = nI 1 from rfl, pk_shlN _ b.toNat (s_l _ (by omega)) ?_, shlI]
  · rw [← iI_nI]; congr 1
  · have h1 : 2 ^ b.toNat ≤ 2 ^ 30 := Nat.pow_le_pow_right (by decide) (by omega)
    omega
theorem iI_shr {a b : Int} (h : 0 ≤ a ∧ a < 2147483648) (h2 : 0 ≤ b ∧ b < 31) : iI a >>> (iI b &&& 31) = iI (shrI a b) := by
  rw [iI_pos h.1, iI_pos h2.1, pk_shrN (by omega) _ b.toNat (s_l _ (by omega)), shrI, ← iI_nI]
  congr 1
  rw [Int.natCast_ediv, Int.toNat_of_nonneg h.1]
  simp
theorem z_b (P : Prop) [Decidable P] : narrow .boolean (.int (iI (bI P))) = .int (iI (bI P)) := by
  unfold bI
  split <;> decide +kernel
section ROWS2
variable {p : Program} {l : Launch} {e : Env} {R : Room} {s : State} {m : MethodId} {args : Array Value} {below : List Frame} {meth : Method} {c : Code} {H : Heap} {locs : List Loc} {cells slots : Nat} {Q : State → Prop}
variable {cc : ByteArray} {pc : Nat} {ls : Array Slot} {rest st0 : List Value} {nL : Nat} {Ts : List Cond} {own : String} {g : GT} {M : Mem}
theorem r_nm {z : Int} (k : ∀ x : Int, x = z → W p l e R s m args below meth c H locs cells slots Q (F0 m pc ls (.int (iI x) :: rest))) : W p l e R s m args below meth c H locs cells slots Q (F0 m pc ls (.int (iI z) :: rest)) := k z rfl
theorem r_nmC {z : Nat} (k : ∀ x : Nat, x = z → W p l e R s m args below meth c H locs cells slots Q (F0 m pc ls (.ref (gA g x) :: rest))) : W p l e R s m args below meth c H locs cells slots Q (F0 m pc ls (.ref (gA g z) :: rest)) := k z rfl
theorem r_ixor (hexec : p.tables.exec = Jvm.exec) (hb : c.code = cc) {x y : Int} (h : 0 ≤ x ∧ 0 ≤ y) (hdg : decode cc pc = .ok (.ixor, 1)) (k : W p l e R s m args below meth c H locs cells slots Q (F0 m (pc + 1) ls (.int (iI (xorI x y)) :: rest))) : W p l e R s m args below meth c H locs cells slots Q (F0 m pc ls (.int (iI y) :: .int (iI x) :: rest)) := lv_ixor hexec hb hdg (by rw [iI_xor h]; exact k)
theorem r_iand (hexec : p.tables.exec = Jvm.exec) (hb : c.code = cc) {x y : Int} (h : 0 ≤ x ∧ 0 ≤ y) (hdg : decode cc pc = .ok (.iand, 1)) (k : W p l e R s m args below meth c H locs cells slots Q (F0 m (pc + 1) ls (.int (iI (andI x y)) :: rest))) : W p l e R s m args below meth c H locs cells slots Q (F0 m pc ls (.int (iI y) :: .int (iI x) :: rest)) := lv_iand hexec hb hdg (by rw [iI_and h]; exact k)
theorem r_ior (hexec : p.tables.exec = Jvm.exec) (hb : c.code = cc) {x y : Int} (h : 0 ≤ x ∧ 0 ≤ y) (hdg : decode cc pc = .ok (.ior, 1)) (k : W p l e R s m args below meth c H locs cells slots Q (F0 m (pc + 1) ls (.int (iI (orI x y)) :: rest))) : W p l e R s m args below meth c H locs cells slots Q (F0 m pc ls (.int (iI y) :: .int (iI x) :: rest)) := lv_ior hexec hb hdg (by rw [iI_or h]; exact k)
theorem r_ishl (hexec : p.tables.exec = Jvm.exec) (hb : c.code = cc) {y : Int} (h : 0 ≤ y ∧ y < 31) (hdg : decode cc pc = .ok (.ishl, 1)) (k : W p l e R s m args below meth c H locs cells slots Q (F0 m (pc + 1) ls (.int (iI (shlI 1 y)) :: rest))) : W p l e R s m args below meth c H locs cells slots Q (F0 m pc ls (.int (iI y) :: .int (iI 1) :: rest)) := lv_ishl hexec hb hdg (by rw [iI_shl1 h]; exact k)
theorem r_ishr (hexec : p.tables.exec = Jvm.exec) (hb : c.code = cc) {x y : Int} (h : (0 ≤ x ∧ x < 2147483648) ∧ (0 ≤ y ∧ y < 31)) (hdg : decode cc pc = .ok (.ishr, 1)) (k : W p l e R s m args below meth c H locs cells slots Q (F0 m (pc + 1) ls (.int (iI (shrI x y)) :: rest))) : W p l e R s m args below meth c H locs cells slots Q (F0 m pc ls (.int (iI y) :: .int (iI x) :: rest)) := lv_ishr hexec hb hdg (by rw [iI_shr h.1 h.2]; exact k)
theorem r_ladd (hexec : p.tables.exec = Jvm.exec) (hb : c.code = cc) {x y : Int} (hdg : decode cc pc = .ok (.ladd, 1)) (k : W p l e R s m args below meth c H locs cells slots Q (F0 m (pc + 1) ls (.long (iL (x + y)) :: rest))) : W p l e R s m args below meth c H locs cells slots Q (F0 m pc ls (.long (iL y) :: .long (iL x) :: rest)) := lv_ladd hexec hb hdg (by rw [iL_add]; exact k)
theorem r_lmul (hexec : p.tables.exec = Jvm.exec) (hb : c.code = cc) {x y : Int} (hdg : decode cc pc = .ok (.lmul, 1)) (k : W p l e R s m args below meth c H locs cells slots Q (F0 m (pc + 1) ls (.long (iL (x * y)) :: rest))) : W p l e R s m args below meth c H locs cells slots Q (F0 m pc ls (.long (iL y) :: .long (iL x) :: rest)) := lv_lmul hexec hb hdg (by rw [iL_mul]; exact k)
theorem r_i2l (hexec : p.tables.exec = Jvm.exec) (hb : c.code = cc) {x : Int} (h : -2147483648 ≤ x ∧ x < 2147483648) (hdg : decode cc pc = .ok (.i2l, 1)) (k : W p l e R s m args below meth c H locs cells slots Q (F0 m (pc + 1) ls (.long (iL x) :: rest))) : W p l e R s m args below meth c H locs cells slots Q (F0 m pc ls (.int (iI x) :: rest)) := lv_i2l hexec hb hdg (iI_l h) k
theorem r_l2i (hexec : p.tables.exec = Jvm.exec) (hb : c.code = cc) {x : Int} (hdg : decode cc pc = .ok (.l2i, 1)) (k : W p l e R s m args below meth c H locs cells slots Q (F0 m (pc + 1) ls (.int (iI x) :: rest))) : W p l e R s m args below meth c H locs cells slots Q (F0 m pc ls (.long (iL x) :: rest)) := lv_l2i hexec hb hdg (iL_i x) k
theorem r_lushr33 (hexec : p.tables.exec = Jvm.exec) (hb : c.code = cc) {x : Int} (hdg : decode cc pc = .ok (.lushr, 1)) (k : W p l e R s m args below meth c H locs cells slots Q (F0 m (pc + 1) ls (.long (iL (x % 18446744073709551616 / 8589934592)) :: rest))) : W p l e R s m args below meth c H locs cells slots Q (F0 m pc ls (.int (iI 33) :: .long (iL x) :: rest)) := by
  refine lv_lushr hexec hb hdg ?_ k
  rw [iL_mod, show iI 33 = nI 33 from rfl, wb_shr (by omega) (by decide), ← iL_lN]
  congr 1
  have h : 0 ≤ x % 18446744073709551616 := Int.emod_nonneg _ (by decide)
  rw [Int.natCast_ediv, Int.toNat_of_nonneg h]
  rfl
theorem r_lrem20 (hexec : p.tables.exec = Jvm.exec) (hb : c.code = cc) {x : Int} (h : 0 ≤ x ∧ x < 9223372036854775808) (hdg : decode cc pc = .ok (.lrem, 1)) (k : W p l e R s m args below meth c H locs cells slots Q (F0 m (pc + 1) ls (.long (iL (x % 20)) :: rest))) : W p l e R s m args below meth c H locs cells slots Q (F0 m pc ls (.long (iL 20) :: .long (iL x) :: rest)) := by
  refine lv_lrem hexec hb hdg (by decide +kernel) ?_
  have e1 : iL x = lN x.toNat := by rw [← iL_lN, Int.toNat_of_nonneg h.1]
  have e2 : iL x - iL x / iL 20 * iL 20 = iL (x % 20) := by
    rw [e1, show iL 20 = lN 20 from rfl, pk_lRem (by omega) (by decide) (by decide), ← iL_lN]
    congr 1
    omega
  rw [e2]
  exact k
theorem r_ldc2 (C : CallFix p m c cc nL s args Ts own) {n : Int} {v : Int64} {index : Nat} (hv : v = iL n) (hconst : Cond.constantLong own index v ∈ Ts) (hdg : decode cc pc = .ok (.ldc2_w index, 3)) (k : W p l e R s m args below meth c H locs cells slots Q (F0 m (pc + 3) ls (.long (iL n) :: rest))) : W p l e R s m args below meth c H locs cells slots Q (F0 m pc ls rest) := by
  subst hv
  exact W.ldc2 C.1 C.2.1 C.2.2.2.1 (C.2.2.2.2 _ hconst) rfl hdg k
theorem lc_lt {x y : Int} (hx : -9223372036854775808 ≤ x ∧ x < 9223372036854775808) (hy : -9223372036854775808 ≤ y ∧ y < 9223372036854775808) : (lg_cmp (iL x) (iL y) < 0) ↔ x < y := by rw [lg_cmp_lt, Int64.lt_iff_toInt_lt, iL_T hx, iL_T hy]
theorem lc_gt {x y : Int} (hx : -9223372036854775808 ≤ x ∧ x < 9223372036854775808) (hy : -9223372036854775808 ≤ y ∧ y < 9223372036854775808) : (0 < lg_cmp (iL x) (iL y)) ↔ y < x := by rw [lg_cmp_gt, Int64.lt_iff_toInt_lt, iL_T hx, iL_T hy]
theorem r_lc_lt (hexec : p.tables.exec = Jvm.exec) (hb : c.code = cc) {x y : Int} {off : Int} {tgt : Nat} (hx : -9223372036854775808 ≤ x ∧ x < 9223372036854775808) (hy : -9223372036854775808 ≤ y ∧ y < 9223372036854775808) (hdg : decode cc pc = .ok (.lcmp, 1)) (hdg2 : decode cc (pc + 1) = .ok (.ifCond .lt off, 3)) (ht : ((pc + 1 : Nat) : Int) + off = (tgt : Int)) (kt : x < y → W p l e R s m args below meth c H locs cells slots Q (F0 m tgt ls rest)) (kf : ¬ x < y → W p l e R s m args below meth c H locs cells slots Q (F0 m (pc + 1 + 3) ls rest)) : W p l e R s m args below meth c H locs cells slots Q (F0 m pc ls (.long (iL y) :: .long (iL x) :: rest)) :=
  W.lcmp hexec hb hdg (lv_if_lt hexec hb hdg2 ht (fun h => kt ((lc_lt hx hy).mp h)) (fun h => kf (fun q => h ((lc_lt hx hy).mpr q))))
theorem r_lc_gt (hexec : p.tables.exec = Jvm.exec) (hb : c.code = cc) {x y : Int} {off : Int} {tgt : Nat} (hx : -9223372036854775808 ≤ x ∧ x < 9223372036854775808) (hy : -9223372036854775808 ≤ y ∧ y < 9223372036854775808) (hdg : decode cc pc = .ok (.lcmp, 1)) (hdg2 : decode cc (pc + 1) = .ok (.ifCond .gt off, 3)) (ht : ((pc + 1 : Nat) : Int) + off = (tgt : Int)) (kt : y < x → W p l e R s m args below meth c H locs cells slots Q (F0 m tgt ls rest)) (kf : ¬ y < x → W p l e R s m args below meth c H locs cells slots Q (F0 m (pc + 1 + 3) ls rest)) : W p l e R s m args below meth c H locs cells slots Q (F0 m pc ls (.long (iL y) :: .long (iL x) :: rest)) :=
  W.lcmp hexec hb hdg (lv_if_gt hexec hb hdg2 ht (fun h => kt ((lc_gt hx hy).mp h)) (fun h => kf (fun q => h ((lc_gt hx hy).mpr q))))
theorem r_tsw (hexec : p.tables.exec = Jvm.exec) (hb : c.code = cc) {dflt lo hi : Int} {offs : Array Int} {len : Nat} {x : Int} (hx : -2147483648 ≤ x ∧ x < 2147483648) (hdg : decode cc pc = .ok (.tableswitch dflt lo hi offs, len)) (ho : (offs.size : Int) = hi - lo + 1 ∧ 0 ≤ (pc : Int) + dflt ∧ ∀ o ∈ offs.toList, 0 ≤ (pc : Int) + o)
    (kin : ∀ j : Nat, j < offs.size → x = lo + (j : Int) → W p l e R s m args below meth c H locs cells slots Q (F0 m ((pc : Int) + offs.toList.getD j 0).toNat ls rest)) (kout : (x < lo ∨ hi < x) → W p l e R s m args below meth c H locs cells slots Q (F0 m ((pc : Int) + dflt).toNat ls rest)) : W p l e R s m args below meth c H locs cells slots Q (F0 m pc ls (.int (iI x) :: rest)) := by
  obtain ⟨h1, h2, h3⟩ := ho
  have hX : (iI x).toInt = x := iI_T hx
  by_cases h : x < lo ∨ hi < x
  · exact lv_tableOut hexec hb hdg (by rw [hX]; exact h) (by omega) (kout h)
  · have hj : (x - lo).toNat < offs.size := by omega
    have hg : offs[(x - lo).toNat]? = some offs[(x - lo).toNat] := Array.getElem?_eq_getElem hj
    have hl : (offs.toList.getD (x - lo).toNat 0) = offs[(x - lo).toNat] := by simp [List.getD, hg]
    have h4 := h3 offs[(x - lo).toNat] (by simp)
    refine lv_tableIn hexec hb hdg (by rw [hX]; omega) (by rw [hX]; omega) (off := offs[(x - lo).toNat]) (tgt := ((pc : Int) + offs[(x - lo).toNat]).toNat) (by rw [hX]; exact hg) (by omega) ?_
    have := kin (x - lo).toNat hj (by omega)
    rw [hl] at this
    exact this
theorem r_gets (C : CallFix p m c cc nL s args Ts own) (hI : HI g s H locs M) (k : Nat) (hk : k < 4) {index : Nat} (hlink : Cond.fieldLink own index RX5 (stN k) "[I" ∈ Ts) (hdg : decode cc pc = .ok (.getstatic index, 3)) (kk : W p l e R s m args below meth c H locs cells slots Q (F0 m (pc + 3) ls (.ref (gT g k) :: rest))) : W p l e R s m args below meth c H locs cells slots Q (F0 m pc ls rest) :=
  va_gets (A := AA g) (ref := RX5) C.1 C.2.1 (hI.2.2.2.2.2.2 k hk).1 hI.2.2.2.1 C.2.2.2.1 (C.2.2.2.2 _ hlink) (fun x h => h) hdg kk
theorem r_tld (C : CallFix p m c cc nL s args Ts own) (hI : HI g s H locs M) (k : Nat) (hk : k < 4) {z : Int} (hz : 0 ≤ z ∧ z < 3) (hdg : decode cc pc = .ok (.iaload, 1)) (kk : W p l e R s m args below meth c H locs cells slots Q (F0 m (pc + 1) ls (.int (iI (stV k z)) :: rest))) : W p l e R s m args below meth c H locs cells slots Q (F0 m pc ls (.int (iI z) :: .ref (gT g k) :: rest)) :=
  va_ti (A := AA g) C.1 C.2.1 (hI.2.2.2.2.2.2 k hk).2 hI.2.2.2.1 (iI_in (n := 3) hz (by decide)) (v := .int (iI (stV k z))) (by rw [iI_N (by omega), Int.toNat_of_nonneg hz.1]) hdg kk
theorem r_tlen (C : CallFix p m c cc nL s args Ts own) (hI : HI g s H locs M) (k : Nat) (hk : k < 4) (hdg : decode cc pc = .ok (.arraylength, 1)) (kk : W p l e R s m args below meth c H locs cells slots Q (F0 m (pc + 1) ls (.int (iI 3) :: rest))) : W p l e R s m args below meth c H locs cells slots Q (F0 m pc ls (.ref (gT g k) :: rest)) :=
  va_tlen (A := AA g) C.1 C.2.1 (hI.2.2.2.2.2.2 k hk).2 hI.2.2.2.1 (v := iI 3) rfl hdg kk
theorem r_zst (C : CallFix p m c cc nL s args Ts own) (hI : HI g s H locs M) (i : Nat) (hi : i < 86) {n : Nat} (he : ∀ r, cel g i r = gZ g n r) {z v : Int} (hz : 0 ≤ z ∧ z < n) (hn : n < 2147483648) (hv : vp_nar .boolean (iI v) = iI v) (_hv2 : vp_nar .boolean (iI v) = iI v) (hdg : decode cc pc = .ok (.bastore, 1))
    (kk : ∀ (H : Heap) (locs : List Loc), HI g s H locs (mset M i z v) → W p l e R s m args below meth c H locs cells slots Q (F0 m (pc + 1) ls rest)) : W p l e R s m args below meth c H locs cells slots Q (F0 m pc ls (.int (iI v) :: .int (iI z) :: .ref (gA g i) :: rest)) := by
  refine va_zast (D := gD g) (cl := vwCl) (ws := big g M) (A := AA g) C.1 C.2.1 hI.1 hI.2.1 hI.2.2.1 hI.2.2.2.1 i 1 (big_at hi (he _)) rfl (iI_in hz hn) hdg (fun H1 locs1 hP hD hS => ?_)
  have e : (big g M).set i (gA g i, .inl (gC g 1, n, .inl (upd (fun k : Nat => iI (M i (k : Int))) (iI z).toNatClampNeg (vp_nar .boolean (iI v))))) = big g (mset M i z v) := by
    rw [hv, upd_rw1 (by omega)]
    exact big_set hi (he _)
  rw [e] at hP hD
  exact kk H1 locs1 ⟨hI.1, hP, hD, hS, hI.2.2.2.2⟩
theorem r_aret (C : CallFix p m c cc nL s args Ts own) {rt : FieldType} (hr : meth.sig.returnType = some rt) (hlk : meth.locks = false) (hI : HI g s H locs M) (hrt : rt = .object RX2) {post : Option Value → Mem → Prop} {a : Nat} (hp : post (some (.ref a)) M) (hdg : decode cc pc = .ok (.areturn, 1)) : W p l e R s m args below meth c H locs cells slots (MQ below (QV g post) args s cells slots (AA g)) (F0 m pc ls [.ref a]) :=
  W.aret C.1 C.2.1 hr (Or.inl ⟨_, hrt⟩) (Or.inr ⟨_, rfl⟩) (fun t ht _ => QV.of hI hp ht) hI.2.2.2.1.2.2 hdg hlk
theorem r_nret (C : CallFix p m c cc nL s args Ts own) {rt : FieldType} (hr : meth.sig.returnType = some rt) (hlk : meth.locks = false) (hI : HI g s H locs M) (hrt : rt = .object RX2) {post : Option Value → Mem → Prop} (hp : post (some .null) M) (hdg : decode cc pc = .ok (.areturn, 1)) : W p l e R s m args below meth c H locs cells slots (MQ below (QV g post) args s cells slots (AA g)) (F0 m pc ls [.null]) :=
  W.aret C.1 C.2.1 hr (Or.inl ⟨_, hrt⟩) (Or.inl rfl) (fun t ht _ => QV.of hI hp ht) hI.2.2.2.1.2.2 hdg hlk
theorem k_N {M0 : Mem} (kk : ∀ (H : Heap) (locs : List Loc), HI g s H locs M0 → W p l e R s m args below meth c H locs cells slots Q (F0 m pc ls (.null :: rest))) : ∀ (v : Option Value) (M : Mem) (H : Heap) (locs : List Loc), pN M0 v M → HI g s H locs M → W p l e R s m args below meth c H locs cells slots Q (F0 m pc ls (v.toList ++ rest)) := by
  rintro _ _ H locs ⟨rfl, rfl⟩ hI
  exact kk H locs hI
end ROWS2
