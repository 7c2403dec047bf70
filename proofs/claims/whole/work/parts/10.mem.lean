/-! THE MEMORY: every int of every cell of the class and of the reference, as a mathematical integer. Cell numbers: 0 the class's object, 1 Text, 2 its letters, 3 Desk, 4..9 its rows, 10 Sightings, 11..13 its rows, 14 Tally, 15 Acts, 16 its ring, 17 the slots, 18 the reference's object, 19..31 its rows, then from 32 on by threes: a Moment, what it keeps, who wears (32 now, 35 the trial, 38 + 3 k the ring, 80 and 83 the slots) -/
def iI (z : Int) : Int32 := Int32.ofInt z
def iL (z : Int) : Int64 := Int64.ofInt z
theorem iI_add (a b : Int) : iI a + iI b = iI (a + b) := (Int32.ofInt_add a b).symm
theorem iI_sub (a b : Int) : iI a - iI b = iI (a - b) := (Int32.ofInt_sub a b).symm
theorem iI_mul (a b : Int) : iI a * iI b = iI (a * b) := (Int32.ofInt_mul a b).symm
theorem iI_of (x : Int32) : iI x.toInt = x := Int32.ofInt_toInt x
theorem iI_T {z : Int} (h : -2147483648 ≤ z ∧ z < 2147483648) : (iI z).toInt = z := Int32.toInt_ofInt_of_le h.1 h.2
theorem iI_lt {a b : Int} (ha : -2147483648 ≤ a ∧ a < 2147483648) (hb : -2147483648 ≤ b ∧ b < 2147483648) : iI a < iI b ↔ a < b := by
  rw [Int32.lt_iff_toInt_lt, iI_T ha, iI_T hb]
theorem iI_le {a b : Int} (ha : -2147483648 ≤ a ∧ a < 2147483648) (hb : -2147483648 ≤ b ∧ b < 2147483648) : iI a ≤ iI b ↔ a ≤ b := by
  rw [Int32.le_iff_toInt_le, iI_T ha, iI_T hb]
theorem iI_eq {a b : Int} (ha : -2147483648 ≤ a ∧ a < 2147483648) (hb : -2147483648 ≤ b ∧ b < 2147483648) : iI a = iI b ↔ a = b := by
  rw [← Int32.toInt_inj, iI_T ha, iI_T hb]
theorem iI_N {z : Int} (h : -2147483648 ≤ z ∧ z < 2147483648) : (iI z).toNatClampNeg = z.toNat := Int32.toNatClampNeg_ofInt_of_le h.1 h.2
theorem iI_0 : iI 0 = 0 := rfl
theorem iI_nI (n : Nat) : iI (n : Int) = nI n := Int32.ofInt_eq_ofNat
theorem iI_in {z : Int} {n : Nat} (h : 0 ≤ z ∧ z < n) (hn : n < 2147483648) : vp_in (iI z) n := by
  rw [vp_in_iff, iI_T (by omega)]
  exact h
theorem iI_div {a b : Int} (ha : 0 ≤ a ∧ a < 2147483648) (hb : 0 < b ∧ b < 2147483648) : iI a / iI b = iI (a / b) := by
  have h1 : (iI a).toInt = a := iI_T (by omega)
  have h2 : (iI b).toInt = b := iI_T (by omega)
  have h3 : 0 ≤ a / b := Int.ediv_nonneg ha.1 (by omega)
  have h4 : a / b ≤ a := Int.ediv_le_self b ha.1
  rw [← Int32.toInt_inj, lg_idiv_nonneg (by omega) (by omega), h1, h2, iI_T (by omega)]
theorem iI_rem {a b : Int} (ha : 0 ≤ a ∧ a < 2147483648) (hb : 0 < b ∧ b < 2147483648) : iI a - iI a / iI b * iI b = iI (a % b) := by
  rw [iI_div ha hb, iI_mul, iI_sub, Int.mul_comm, ← Int.emod_def]
theorem iI_divT {a b : Int} (ha : -2147483648 ≤ a ∧ a < 2147483648) (hb : 0 < b ∧ b < 2147483648) : iI a / iI b = iI (a.tdiv b) := by
  have h1 : (iI a).toInt = a := iI_T (by omega)
  have h2 : (iI b).toInt = b := iI_T (by omega)
  rw [← Int32.toInt_inj, Int32.toInt_div_of_ne_right _ _ (by intro h; rw [← Int32.toInt_inj, h2] at h; have : ((-1 : Int32)).toInt = -1 := by decide
                                                             omega), h1, h2]
  refine (iI_T ?_).symm
  rcases Int.le_total 0 a with h | h
  · rw [Int.tdiv_eq_ediv_of_nonneg h]
    have h3 : 0 ≤ a / b := Int.ediv_nonneg h (by omega)
    have h4 : a / b ≤ a := Int.ediv_le_self b h
    omega
  · have e : a = -(-a) := by omega
    rw [e, Int.neg_tdiv, Int.tdiv_eq_ediv_of_nonneg (by omega)]
    have h3 : 0 ≤ (-a) / b := Int.ediv_nonneg (by omega) (by omega)
    have h4 : (-a) / b ≤ -a := Int.ediv_le_self b (by omega)
    omega
theorem iI_remT {a b : Int} (ha : -2147483648 ≤ a ∧ a < 2147483648) (hb : 0 < b ∧ b < 2147483648) : iI a - iI a / iI b * iI b = iI (a.tmod b) := by
  rw [iI_divT ha hb, iI_mul, iI_sub]
  congr 1
  have := Int.tmod_add_mul_tdiv a b
  rw [Int.mul_comm]
  omega
abbrev Mem : Type := Nat → Int → Int
abbrev GT : Type := va_G × (Nat → Nat) × (Nat → Nat) × (Nat → ClassId) × Nat
def gD (g : GT) : va_G := g.1
def gA (g : GT) : Nat → Nat := g.2.1
def gT (g : GT) : Nat → Nat := g.2.2.1
def gC (g : GT) : Nat → ClassId := g.2.2.2.1
def gB (g : GT) : Nat := g.2.2.2.2
def tyG (g : GT) : List (ClassId × FieldType) := [(gC g 0, .int), (gC g 1, .boolean), (gC g 2, .object RX2)]
def gI (g : GT) (n : Nat) (r : Int → Int) : va_E := .inl (gC g 0, n, .inl (fun k => iI (r (k : Int))))
def gZ (g : GT) (n : Nat) (r : Int → Int) : va_E := .inl (gC g 1, n, .inl (fun k => iI (r (k : Int))))
def gQ (g : GT) (n : Nat) (f : Nat → Option Nat) : va_E := .inl (gC g 2, n, .inr (.inr (.inr (.inr f))))
/-- what a cell holds, by its number and its row of integers -/
def cel (g : GT) (i : Nat) (r : Int → Int) : va_E := match i with
  | 0 => .inr (6, [.ref (gA g 1), .ref (gA g 3), .ref (gA g 32), .ref (gA g 35), .ref (gA g 15), .ref (gA g 10), .ref (gA g 14), .ref (gA g 17), .long (iL (r 8))])
  | 1 => .inr (5, [.ref (gA g 2), .int (iI (r 1))])
  | 2 => gI g 40 r
  | 3 => .inr (1, [.ref (gA g 4), .ref (gA g 5), .ref (gA g 6), .ref (gA g 7), .ref (gA g 8), .ref (gA g 9), .int (iI (r 6)), .int (iI (r 7))])
  | 4 => gI g 5 r
  | 5 => gI g 5 r
  | 6 => gI g 5 r
  | 7 => gI g 4 r
  | 8 => gI g 4 r
  | 9 => gI g 4 r
  | 10 => .inr (3, [.ref (gA g 11), .ref (gA g 12), .ref (gA g 13), .int (iI (r 3))])
  | 11 => gI g 4 r
  | 12 => gI g 4 r
  | 13 => gI g 4 r
  | 14 => .inr (4, [.int (iI (r 0)), .int (iI (r 1))])
  | 15 => .inr (0, [.ref (gA g 16), .int (iI (r 1)), .int (iI (r 2))])
  | 16 => gQ g 14 (fun k => some (gA g (38 + 3 * k)))
  | 17 => gQ g 2 (fun k => some (gA g (80 + 3 * k)))
  | 18 => .inr (7, [.int (iI (r 0)), .ref (gA g 19), .int (iI (r 2)), .int (iI (r 3)), .int (iI (r 4)), .int (iI (r 5)), .ref (gA g 20), .ref (gA g 21), .int (iI (r 8)), .int (iI (r 9)), .ref (gA g 22), .ref (gA g 23), .ref (gA g 24), .ref (gA g 25), .ref (gA g 26), .int (iI (r 15)), .ref (gA g 27), .ref (gA g 28), .int (iI (r 18)), .ref (gA g 29), .ref (gA g 30), .ref (gA g 31), .long (iL (r 22)), .int (iI (r 23)), .int (iI (r 24)), .int (iI (r 25)), .int (iI (r 26)), .int (iI (r 27)), .int (iI (r 28)), .int (iI (r 29)), .int (iI (r 30))])
  | 19 => gI g 40 r
  | 20 => gI g 15 r
  | 21 => gI g 12 r
  | 22 => gI g 15 r
  | 23 => gI g 12 r
  | 24 => gI g 21 r
  | 25 => gI g 21 r
  | 26 => gI g 294 r
  | 27 => gI g 42 r
  | 28 => gZ g 2 r
  | 29 => gI g 4 r
  | 30 => gI g 4 r
  | 31 => gI g 4 r
  | n + 32 => if n % 3 = 0 then .inr (2, [.ref (gA g (n + 33)), .ref (gA g (n + 34)), .int (iI (r 2)), .int (iI (r 3))]) else gI g 4 r
/-- a Moment's number -/
abbrev isMo (o : Nat) : Prop := 32 ≤ o ∧ o < 86 ∧ o % 3 = 2
theorem ceMo {g : GT} {o : Nat} (h : isMo o) (r : Int → Int) : cel g o r = .inr (2, [.ref (gA g (o + 1)), .ref (gA g (o + 2)), .int (iI (r 2)), .int (iI (r 3))]) := by
  obtain ⟨n, rfl⟩ : ∃ n, o = n + 32 := ⟨o - 32, by omega⟩
  have : n % 3 = 0 := by omega
  simp [cel, this]
theorem ceMk {g : GT} {o : Nat} (h : isMo o) (r : Int → Int) : cel g (o + 1) r = gI g 4 r := by
  obtain ⟨n, rfl⟩ : ∃ n, o = n + 32 := ⟨o - 32, by omega⟩
  have : (n + 1) % 3 = 1 := by omega
  show cel g ((n + 1) + 32) r = _
  simp [cel, this]
theorem ceMw {g : GT} {o : Nat} (h : isMo o) (r : Int → Int) : cel g (o + 2) r = gI g 4 r := by
  obtain ⟨n, rfl⟩ : ∃ n, o = n + 32 := ⟨o - 32, by omega⟩
  have : (n + 2) % 3 = 2 := by omega
  show cel g ((n + 2) + 32) r = _
  simp [cel, this]
def big (g : GT) (M : Mem) : va_W := (List.range 86).map (fun i => (gA g i, cel g i (M i)))
/-- a row with one place changed; a memory with one place changed -/
def rw1 (r : Int → Int) (k z : Int) : Int → Int := fun q => if q = k then z else r q
def mset (M : Mem) (i : Nat) (k z : Int) : Mem := fun j => if j = i then rw1 (M i) k z else M j
theorem rw1_s (r : Int → Int) (k z : Int) : rw1 r k z k = z := by simp [rw1]
theorem rw1_n (r : Int → Int) {k q : Int} (z : Int) (h : q ≠ k) : rw1 r k z q = r q := by simp [rw1, h]
theorem mset_s (M : Mem) (i : Nat) (k z : Int) : mset M i k z i = rw1 (M i) k z := by simp [mset]
theorem mset_n (M : Mem) {i j : Nat} (k z : Int) (h : j ≠ i) : mset M i k z j = M j := by simp [mset, h]
theorem big_at {g : GT} {M : Mem} {i : Nat} (hi : i < 86) {e : va_E} (he : cel g i (M i) = e) : (big g M)[i]? = some (gA g i, e) := by
  subst he
  simp [big, hi]
theorem big_set {g : GT} {M : Mem} {i : Nat} (hi : i < 86) {k z : Int} {e : va_E} (he : cel g i (rw1 (M i) k z) = e) : (big g M).set i (gA g i, e) = big g (mset M i k z) := by
  subst he
  apply List.ext_getElem?
  intro j
  by_cases h : j = i
  · subst h
    rw [List.getElem?_set_self (by simpa [big] using hi)]
    simp [big, hi, mset]
  · rw [List.getElem?_set_ne (Ne.symm h)]
    by_cases hj : j < 86
    · simp [big, hj, mset, h]
    · simp [big, hj]
/-- the cells that a method may change: all that the law made -/
def AA (g : GT) : Nat → Prop := fun q => gB g ≤ q
/-- calls between nest mates -/
def nestL : List Cond := [.methodLinkNest RX1 58 yX6_put RX6, .methodLinkNest RX1 62 yX6_at RX6, .methodLinkNest RX1 72 yX6_lastOf RX6, .methodLinkNest RX1 78 yX6_firstOf RX6, .methodLinkNest RX1 84 yX6_withBehind RX6, .methodLinkNest RX2 32 yX6_put RX6, .methodLinkNest RX2 36 yX6_copyRow RX6, .methodLinkNest RX2 40 yX6_at RX6, .methodLinkNest RX3 25 yX6_put RX6, .methodLinkNest RX3 29 yX6_at RX6, .methodLinkNest RX5 19 yX6_put RX6, .methodLinkNest RX5 31 yX6_at RX6, .methodLinkNest RX5 58 yX6_within RX6]
def NW (U : State) : Prop := ∀ w ∈ nestL, va_Nw w U
/-- the four rows of figures of Text, which nobody writes: 0 a person's least, 1 a glove's least, 2 a person's most, 3 a glove's most -/
def stV (k : Nat) (j : Int) : Int := if k = 0 then (if j = 2 then 0 else 1) else if k = 1 then (if j = 0 then 1 else 0) else if k = 2 then (if j = 2 then 9 else 7) else (if j = 2 then 7 else 3)
def stN (k : Nat) : String := if k = 0 then "PERSON_LEAST" else if k = 1 then "GLOVE_LEAST" else if k = 2 then "PERSON_MOST" else "GLOVE_MOST"
def ST (g : GT) (U : State) (H : Heap) : Prop := ∀ k, k < 4 → va_Z RX5 (stN k) "[I" (.ref (gT g k)) (AA g) U H ∧ va_T .int (gT g k) 3 (fun j => .int (iI (stV k (j : Int)))) (AA g) U H
/-- the world at a call's start -/
def HP (g : GT) (M : Mem) (U : State) : Prop := va_K (gD g) vwCl (tyG g) U ∧ va_P (gD g) vwCl (big g M) U.heap ∧ va_D (AA g) (big g M) ∧ gB g ≤ U.heap.size ∧ NW U ∧ ST g U U.heap
/-- the world in a walk -/
def HI (g : GT) (s : State) (H : Heap) (locs : List Loc) (M : Mem) : Prop := va_K (gD g) vwCl (tyG g) s ∧ va_P (gD g) vwCl (big g M) H ∧ va_D (AA g) (big g M) ∧ va_S (AA g) s.heap H locs ∧ gB g ≤ s.heap.size ∧ NW s ∧ ST g s s.heap
/-- a method's end -/
def QV (g : GT) (post : Option Value → Mem → Prop) : Array Value → State → Outcome → State → Prop := fun _ st oc t => (∃ (v : Option Value) (u : Mem), oc = .returned v ∧ post v u ∧ va_P (gD g) vwCl (big g u) t.heap) ∧ va_F (AA g) st t
/-- a contract -/
def Ctr (l : Launch) (g : GT) (y : MethodName) (ws : List Cond) (rm : Room) (as : List Value) (M : Mem) (post : Option Value → Mem → Prop) : Prop := Met l y ws rm (va_Pc as (HP g M)) (QV g post) 0 0 (AA g)
def pI (z : Int) (M : Mem) : Option Value → Mem → Prop := fun v u => v = some (.int (iI z)) ∧ u = M
def pL (z : Int) (M : Mem) : Option Value → Mem → Prop := fun v u => v = some (.long (iL z)) ∧ u = M
def pV (M : Mem) : Option Value → Mem → Prop := fun v u => v = none ∧ u = M
def pR (a : Nat) (M : Mem) : Option Value → Mem → Prop := fun v u => v = some (.ref a) ∧ u = M
def pN (M : Mem) : Option Value → Mem → Prop := fun v u => v = some .null ∧ u = M
def pE (Z : Int → Mem → Prop) : Option Value → Mem → Prop := fun v u => ∃ z : Int, v = some (.int (iI z)) ∧ Z z u
def pX (Z : Mem → Prop) : Option Value → Mem → Prop := fun v u => v = none ∧ Z u
def bI (P : Prop) [Decidable P] : Int := if P then 1 else 0
theorem bI_t {P : Prop} [Decidable P] (h : P) : bI P = 1 := by simp [bI, h]
theorem bI_f {P : Prop} [Decidable P] (h : ¬ P) : bI P = 0 := by simp [bI, h]
theorem va_D_big {A : Nat → Prop} {g : GT} {M N : Mem} (h : va_D A (big g M)) : va_D A (big g N) := by
  have key : ∀ (k : Nat) (q : Nat × va_E), (big g N)[k]? = some q → ∃ q0, (big g M)[k]? = some q0 ∧ q0.1 = q.1 := by
    intro k q hk
    by_cases hj : k < 86
    · simp [big, hj] at hk ⊢
      rw [← hk]
    · simp [big, hj] at hk
  refine ⟨fun i j x y hi hj hxy => ?_, fun k q hk => ?_⟩
  · obtain ⟨x0, h1, h2⟩ := key i x hi
    obtain ⟨y0, h3, h4⟩ := key j y hj
    exact h.1 i j x0 y0 h1 h3 (h2.trans (hxy.trans h4.symm))
  · obtain ⟨q0, h1, h2⟩ := key k q hk
    rw [← h2]
    exact h.2 k q0 h1
theorem NW.warm {s U : State} (hW : s.WarmedH U.vm) (h : NW s) : NW U := by
  intro w hw
  have h0 := h w hw
  simp only [nestL, List.mem_cons, List.not_mem_nil, or_false] at hw
  rcases hw with rfl | rfl | rfl | rfl | rfl | rfl | rfl | rfl | rfl | rfl | rfl | rfl | rfl <;> exact va_Nw.warmM hW h0
theorem NW.same {u U : State} (h : u.vm = U.vm) (hN : NW u) : NW U := by
  intro w hw
  have h0 := hN w hw
  simp only [nestL, List.mem_cons, List.not_mem_nil, or_false] at hw
  rcases hw with rfl | rfl | rfl | rfl | rfl | rfl | rfl | rfl | rfl | rfl | rfl | rfl | rfl <;> exact va_Nw.same rfl h h0
theorem ST.moved {g : GT} {u U : State} {H : Heap} (hvm : u.vm.Alike U.vm) (h : ST g u H) : ST g U H := fun k hk => ⟨va_Z.moved hvm (h k hk).1, va_T.moved hvm (h k hk).2⟩
theorem ST.kept {g : GT} {U : State} {H H1 : Heap} (h : ST g U H) (hq : ∀ a : Nat, a < H.size → ¬ AA g a → H1[a]? = H[a]?) : ST g U H1 := fun k hk => ⟨va_Z.kept (h k hk).1 hq, va_T.kept (h k hk).2 hq⟩
theorem HP.blind (as : List Value) (g : GT) (M : Mem) : FrameBlind (va_Pc as (HP g M)) := by
  intro a U f mk h
  obtain ⟨h0, hK, hP, hD, hB, hN, hS⟩ := h
  exact ⟨h0, va_K.moved (u := U) (U := U.calling f mk a) (Vm.Alike.refl U.vm) hK, hP, hD, hB, NW.same (u := U) rfl hN, ST.moved (u := U) (U := U.calling f mk a) (Vm.Alike.refl U.vm) hS⟩
theorem HI.toHP {g : GT} {s : State} {H : Heap} {locs : List Loc} {M : Mem} (h : HI g s H locs M) {U : State} (hU : U.heap = H) (hW : s.WarmedH U.vm) : HP g M U := by
  obtain ⟨hK, hP, hD, hS, hB, hN, hT⟩ := h
  refine ⟨va_K.moved hW.alike hK, by rw [hU]; exact hP, hD, by rw [hU]; exact Nat.le_trans hB hS.1, NW.warm hW hN, ?_⟩
  rw [hU]
  exact (ST.moved hW.alike hT).kept (fun a h1 h2 => hS.2.1 a h1 h2)
