section ROWS
variable {p : Program} {l : Launch} {e : Env} {R : Room} {s : State} {m : MethodId} {args : Array Value} {below : List Frame} {meth : Method} {c : Code} {H : Heap} {locs : List Loc} {cells slots : Nat} {Q : State → Prop}
variable {cc : ByteArray} {pc : Nat} {ls : Array Slot} {rest st0 : List Value} {nL : Nat} {Ts : List Cond} {own : String} {g : GT} {M : Mem}
/-! numbers -/
theorem r_iadd (hexec : p.tables.exec = Jvm.exec) (hb : c.code = cc) {x y : Int} (hdg : decode cc pc = .ok (.iadd, 1)) (k : W p l e R s m args below meth c H locs cells slots Q (F0 m (pc + 1) ls (.int (iI (x + y)) :: rest))) : W p l e R s m args below meth c H locs cells slots Q (F0 m pc ls (.int (iI y) :: .int (iI x) :: rest)) := lv_iadd hexec hb hdg (by rw [iI_add]; exact k)
theorem r_isub (hexec : p.tables.exec = Jvm.exec) (hb : c.code = cc) {x y : Int} (hdg : decode cc pc = .ok (.isub, 1)) (k : W p l e R s m args below meth c H locs cells slots Q (F0 m (pc + 1) ls (.int (iI (x - y)) :: rest))) : W p l e R s m args below meth c H locs cells slots Q (F0 m pc ls (.int (iI y) :: .int (iI x) :: rest)) := lv_isub hexec hb hdg (by rw [iI_sub]; exact k)
theorem r_imul (hexec : p.tables.exec = Jvm.exec) (hb : c.code = cc) {x y : Int} (hdg : decode cc pc = .ok (.imul, 1)) (k : W p l e R s m args below meth c H locs cells slots Q (F0 m (pc + 1) ls (.int (iI (x * y)) :: rest))) : W p l e R s m args below meth c H locs cells slots Q (F0 m pc ls (.int (iI y) :: .int (iI x) :: rest)) := lv_imul hexec hb hdg (by rw [iI_mul]; exact k)
theorem r_idiv (hexec : p.tables.exec = Jvm.exec) (hb : c.code = cc) {x y : Int} (hx : 0 ≤ x ∧ x < 2147483648) (hy : 0 < y ∧ y < 2147483648) (hdg : decode cc pc = .ok (.idiv, 1)) (k : W p l e R s m args below meth c H locs cells slots Q (F0 m (pc + 1) ls (.int (iI (x / y)) :: rest))) : W p l e R s m args below meth c H locs cells slots Q (F0 m pc ls (.int (iI y) :: .int (iI x) :: rest)) := by
  refine lv_idiv hexec hb hdg ?_ ?_
  · rw [← iI_0, iI_eq (by omega) (by omega)]; omega
  · rw [iI_div hx hy]; exact k
theorem r_irem (hexec : p.tables.exec = Jvm.exec) (hb : c.code = cc) {x y : Int} (hx : 0 ≤ x ∧ x < 2147483648) (hy : 0 < y ∧ y < 2147483648) (hdg : decode cc pc = .ok (.irem, 1)) (k : W p l e R s m args below meth c H locs cells slots Q (F0 m (pc + 1) ls (.int (iI (x % y)) :: rest))) : W p l e R s m args below meth c H locs cells slots Q (F0 m pc ls (.int (iI y) :: .int (iI x) :: rest)) := by
  refine lv_irem hexec hb hdg ?_ ?_
  · rw [← iI_0, iI_eq (by omega) (by omega)]; omega
  · rw [iI_rem hx hy]; exact k
theorem r_idivT (hexec : p.tables.exec = Jvm.exec) (hb : c.code = cc) {x y : Int} (hx : -2147483648 ≤ x ∧ x < 2147483648) (hy : 0 < y ∧ y < 2147483648) (hdg : decode cc pc = .ok (.idiv, 1)) (k : W p l e R s m args below meth c H locs cells slots Q (F0 m (pc + 1) ls (.int (iI (x.tdiv y)) :: rest))) : W p l e R s m args below meth c H locs cells slots Q (F0 m pc ls (.int (iI y) :: .int (iI x) :: rest)) := by
  refine lv_idiv hexec hb hdg ?_ ?_
  · rw [← iI_0, iI_eq (by omega) (by omega)]; omega
  · rw [iI_divT hx hy]; exact k
theorem r_iremT (hexec : p.tables.exec = Jvm.exec) (hb : c.code = cc) {x y : Int} (hx : -2147483648 ≤ x ∧ x < 2147483648) (hy : 0 < y ∧ y < 2147483648) (hdg : decode cc pc = .ok (.irem, 1)) (k : W p l e R s m args below meth c H locs cells slots Q (F0 m (pc + 1) ls (.int (iI (x.tmod y)) :: rest))) : W p l e R s m args below meth c H locs cells slots Q (F0 m pc ls (.int (iI y) :: .int (iI x) :: rest)) := by
  refine lv_irem hexec hb hdg ?_ ?_
  · rw [← iI_0, iI_eq (by omega) (by omega)]; omega
  · rw [iI_remT hx hy]; exact k
/-! branches: of two numbers, of one number and 0, of a truth value -/
theorem r_icmp_eq (hexec : p.tables.exec = Jvm.exec) (hb : c.code = cc) {x y : Int} {off : Int} {tgt : Nat} (hx : -2147483648 ≤ x ∧ x < 2147483648) (hy : -2147483648 ≤ y ∧ y < 2147483648) (hdg : decode cc pc = .ok (.if_icmp .eq off, 3)) (ht : (pc : Int) + off = (tgt : Int)) (kt : x = y → W p l e R s m args below meth c H locs cells slots Q (F0 m tgt ls rest)) (kf : ¬ x = y → W p l e R s m args below meth c H locs cells slots Q (F0 m (pc + 3) ls rest)) : W p l e R s m args below meth c H locs cells slots Q (F0 m pc ls (.int (iI y) :: .int (iI x) :: rest)) := lv_icmp_eq hexec hb hdg ht (fun h => kt ((iI_eq hx hy).mp h)) (fun h => kf (fun q => h ((iI_eq hx hy).mpr q)))
theorem r_icmp_ne (hexec : p.tables.exec = Jvm.exec) (hb : c.code = cc) {x y : Int} {off : Int} {tgt : Nat} (hx : -2147483648 ≤ x ∧ x < 2147483648) (hy : -2147483648 ≤ y ∧ y < 2147483648) (hdg : decode cc pc = .ok (.if_icmp .ne off, 3)) (ht : (pc : Int) + off = (tgt : Int)) (kt : ¬ x = y → W p l e R s m args below meth c H locs cells slots Q (F0 m tgt ls rest)) (kf : x = y → W p l e R s m args below meth c H locs cells slots Q (F0 m (pc + 3) ls rest)) : W p l e R s m args below meth c H locs cells slots Q (F0 m pc ls (.int (iI y) :: .int (iI x) :: rest)) := lv_icmp_ne hexec hb hdg ht (fun h => kt (fun q => h ((iI_eq hx hy).mpr q))) (fun h => kf ((iI_eq hx hy).mp h))
theorem r_icmp_lt (hexec : p.tables.exec = Jvm.exec) (hb : c.code = cc) {x y : Int} {off : Int} {tgt : Nat} (hx : -2147483648 ≤ x ∧ x < 2147483648) (hy : -2147483648 ≤ y ∧ y < 2147483648) (hdg : decode cc pc = .ok (.if_icmp .lt off, 3)) (ht : (pc : Int) + off = (tgt : Int)) (kt : x < y → W p l e R s m args below meth c H locs cells slots Q (F0 m tgt ls rest)) (kf : ¬ x < y → W p l e R s m args below meth c H locs cells slots Q (F0 m (pc + 3) ls rest)) : W p l e R s m args below meth c H locs cells slots Q (F0 m pc ls (.int (iI y) :: .int (iI x) :: rest)) := lv_icmp_lt hexec hb hdg ht (fun h => kt ((iI_lt hx hy).mp h)) (fun h => kf (fun q => h ((iI_lt hx hy).mpr q)))
theorem r_icmp_ge (hexec : p.tables.exec = Jvm.exec) (hb : c.code = cc) {x y : Int} {off : Int} {tgt : Nat} (hx : -2147483648 ≤ x ∧ x < 2147483648) (hy : -2147483648 ≤ y ∧ y < 2147483648) (hdg : decode cc pc = .ok (.if_icmp .ge off, 3)) (ht : (pc : Int) + off = (tgt : Int)) (kt : y ≤ x → W p l e R s m args below meth c H locs cells slots Q (F0 m tgt ls rest)) (kf : ¬ y ≤ x → W p l e R s m args below meth c H locs cells slots Q (F0 m (pc + 3) ls rest)) : W p l e R s m args below meth c H locs cells slots Q (F0 m pc ls (.int (iI y) :: .int (iI x) :: rest)) := lv_icmp_ge hexec hb hdg ht (fun h => kt ((iI_le hy hx).mp h)) (fun h => kf (fun q => h ((iI_le hy hx).mpr q)))
theorem r_icmp_gt (hexec : p.tables.exec = Jvm.exec) (hb : c.code = cc) {x y : Int} {off : Int} {tgt : Nat} (hx : -2147483648 ≤ x ∧ x < 2147483648) (hy : -2147483648 ≤ y ∧ y < 2147483648) (hdg : decode cc pc = .ok (.if_icmp .gt off, 3)) (ht : (pc : Int) + off = (tgt : Int)) (kt : y < x → W p l e R s m args below meth c H locs cells slots Q (F0 m tgt ls rest)) (kf : ¬ y < x → W p l e R s m args below meth c H locs cells slots Q (F0 m (pc + 3) ls rest)) : W p l e R s m args below meth c H locs cells slots Q (F0 m pc ls (.int (iI y) :: .int (iI x) :: rest)) := lv_icmp_gt hexec hb hdg ht (fun h => kt ((iI_lt hy hx).mp h)) (fun h => kf (fun q => h ((iI_lt hy hx).mpr q)))
theorem r_icmp_le (hexec : p.tables.exec = Jvm.exec) (hb : c.code = cc) {x y : Int} {off : Int} {tgt : Nat} (hx : -2147483648 ≤ x ∧ x < 2147483648) (hy : -2147483648 ≤ y ∧ y < 2147483648) (hdg : decode cc pc = .ok (.if_icmp .le off, 3)) (ht : (pc : Int) + off = (tgt : Int)) (kt : x ≤ y → W p l e R s m args below meth c H locs cells slots Q (F0 m tgt ls rest)) (kf : ¬ x ≤ y → W p l e R s m args below meth c H locs cells slots Q (F0 m (pc + 3) ls rest)) : W p l e R s m args below meth c H locs cells slots Q (F0 m pc ls (.int (iI y) :: .int (iI x) :: rest)) := lv_icmp_le hexec hb hdg ht (fun h => kt ((iI_le hx hy).mp h)) (fun h => kf (fun q => h ((iI_le hx hy).mpr q)))
theorem r_if_eq (hexec : p.tables.exec = Jvm.exec) (hb : c.code = cc) {x : Int} {off : Int} {tgt : Nat} (hx : -2147483648 ≤ x ∧ x < 2147483648) (hdg : decode cc pc = .ok (.ifCond .eq off, 3)) (ht : (pc : Int) + off = (tgt : Int)) (kt : x = 0 → W p l e R s m args below meth c H locs cells slots Q (F0 m tgt ls rest)) (kf : ¬ x = 0 → W p l e R s m args below meth c H locs cells slots Q (F0 m (pc + 3) ls rest)) : W p l e R s m args below meth c H locs cells slots Q (F0 m pc ls (.int (iI x) :: rest)) := lv_if_eq hexec hb hdg ht (fun h => kt ((iI_eq hx (by omega)).mp h)) (fun h => kf (fun q => h ((iI_eq hx (by omega)).mpr q)))
theorem r_if_ne (hexec : p.tables.exec = Jvm.exec) (hb : c.code = cc) {x : Int} {off : Int} {tgt : Nat} (hx : -2147483648 ≤ x ∧ x < 2147483648) (hdg : decode cc pc = .ok (.ifCond .ne off, 3)) (ht : (pc : Int) + off = (tgt : Int)) (kt : ¬ x = 0 → W p l e R s m args below meth c H locs cells slots Q (F0 m tgt ls rest)) (kf : x = 0 → W p l e R s m args below meth c H locs cells slots Q (F0 m (pc + 3) ls rest)) : W p l e R s m args below meth c H locs cells slots Q (F0 m pc ls (.int (iI x) :: rest)) := lv_if_ne hexec hb hdg ht (fun h => kt (fun q => h ((iI_eq hx (by omega)).mpr q))) (fun h => kf ((iI_eq hx (by omega)).mp h))
theorem r_if_lt (hexec : p.tables.exec = Jvm.exec) (hb : c.code = cc) {x : Int} {off : Int} {tgt : Nat} (hx : -2147483648 ≤ x ∧ x < 2147483648) (hdg : decode cc pc = .ok (.ifCond .lt off, 3)) (ht : (pc : Int) + off = (tgt : Int)) (kt : x < 0 → W p l e R s m args below meth c H locs cells slots Q (F0 m tgt ls rest)) (kf : ¬ x < 0 → W p l e R s m args below meth c H locs cells slots Q (F0 m (pc + 3) ls rest)) : W p l e R s m args below meth c H locs cells slots Q (F0 m pc ls (.int (iI x) :: rest)) := lv_if_lt hexec hb hdg ht (fun h => kt ((iI_lt hx (by omega)).mp h)) (fun h => kf (fun q => h ((iI_lt hx (by omega)).mpr q)))
theorem r_if_ge (hexec : p.tables.exec = Jvm.exec) (hb : c.code = cc) {x : Int} {off : Int} {tgt : Nat} (hx : -2147483648 ≤ x ∧ x < 2147483648) (hdg : decode cc pc = .ok (.ifCond .ge off, 3)) (ht : (pc : Int) + off = (tgt : Int)) (kt : 0 ≤ x → W p l e R s m args below meth c H locs cells slots Q (F0 m tgt ls rest)) (kf : ¬ 0 ≤ x → W p l e R s m args below meth c H locs cells slots Q (F0 m (pc + 3) ls rest)) : W p l e R s m args below meth c H locs cells slots Q (F0 m pc ls (.int (iI x) :: rest)) := lv_if_ge hexec hb hdg ht (fun h => kt ((iI_le (by omega) hx).mp h)) (fun h => kf (fun q => h ((iI_le (by omega) hx).mpr q)))
theorem r_if_gt (hexec : p.tables.exec = Jvm.exec) (hb : c.code = cc) {x : Int} {off : Int} {tgt : Nat} (hx : -2147483648 ≤ x ∧ x < 2147483648) (hdg : decode cc pc = .ok (.ifCond .gt off, 3)) (ht : (pc : Int) + off = (tgt : Int)) (kt : 0 < x → W p l e R s m args below meth c H locs cells slots Q (F0 m tgt ls rest)) (kf : ¬ 0 < x → W p l e R s m args below meth c H locs cells slots Q (F0 m (pc + 3) ls rest)) : W p l e R s m args below meth c H locs cells slots Q (F0 m pc ls (.int (iI x) :: rest)) := lv_if_gt hexec hb hdg ht (fun h => kt ((iI_lt (by omega) hx).mp h)) (fun h => kf (fun q => h ((iI_lt (by omega) hx).mpr q)))
theorem r_if_le (hexec : p.tables.exec = Jvm.exec) (hb : c.code = cc) {x : Int} {off : Int} {tgt : Nat} (hx : -2147483648 ≤ x ∧ x < 2147483648) (hdg : decode cc pc = .ok (.ifCond .le off, 3)) (ht : (pc : Int) + off = (tgt : Int)) (kt : x ≤ 0 → W p l e R s m args below meth c H locs cells slots Q (F0 m tgt ls rest)) (kf : ¬ x ≤ 0 → W p l e R s m args below meth c H locs cells slots Q (F0 m (pc + 3) ls rest)) : W p l e R s m args below meth c H locs cells slots Q (F0 m pc ls (.int (iI x) :: rest)) := lv_if_le hexec hb hdg ht (fun h => kt ((iI_le hx (by omega)).mp h)) (fun h => kf (fun q => h ((iI_le hx (by omega)).mpr q)))
theorem bI_R (P : Prop) [Decidable P] : -2147483648 ≤ bI P ∧ bI P < 2147483648 := by unfold bI; split <;> omega
theorem r_b_eq (hexec : p.tables.exec = Jvm.exec) (hb : c.code = cc) {P : Prop} [Decidable P] {off : Int} {tgt : Nat} (hdg : decode cc pc = .ok (.ifCond .eq off, 3)) (ht : (pc : Int) + off = (tgt : Int)) (kt : ¬ P → W p l e R s m args below meth c H locs cells slots Q (F0 m tgt ls rest)) (kf : P → W p l e R s m args below meth c H locs cells slots Q (F0 m (pc + 3) ls rest)) : W p l e R s m args below meth c H locs cells slots Q (F0 m pc ls (.int (iI (bI P)) :: rest)) := r_if_eq hexec hb (bI_R P) hdg ht (fun h => kt (fun q => by rw [bI_t q] at h; omega)) (fun h => kf (Decidable.byContradiction fun q => h (bI_f q)))
theorem r_b_ne (hexec : p.tables.exec = Jvm.exec) (hb : c.code = cc) {P : Prop} [Decidable P] {off : Int} {tgt : Nat} (hdg : decode cc pc = .ok (.ifCond .ne off, 3)) (ht : (pc : Int) + off = (tgt : Int)) (kt : P → W p l e R s m args below meth c H locs cells slots Q (F0 m tgt ls rest)) (kf : ¬ P → W p l e R s m args below meth c H locs cells slots Q (F0 m (pc + 3) ls rest)) : W p l e R s m args below meth c H locs cells slots Q (F0 m pc ls (.int (iI (bI P)) :: rest)) := r_if_ne hexec hb (bI_R P) hdg ht (fun h => kt (Decidable.byContradiction fun q => h (bI_f q))) (fun h => kf (fun q => by rw [bI_t q] at h; omega))
/-! cells -/
theorem r_get (C : CallFix p m c cc nL s args Ts own) (hI : HI g s H locs M) (i : Nat) (hi : i < 86) {ci : Nat} {fs : List Value} (he : cel g i (M i) = .inr (ci, fs)) {Cn : String} {T : u_T} {N index : Nat} (hc : vwCl[ci]? = some (Cn, T, N)) (hin : ∀ w ∈ u_ws Cn T N, w ∈ Ts) (k : Nat) (hk : k < N) {fn fd : String} (hlink : Cond.fieldLink own index Cn fn fd ∈ Ts) (hT : (T k).1 = Cn ∧ (T k).2.1 = fn ∧ (T k).2.2.1 = fd) {v : Value} (hv : fs[k]? = some v) (hdg : decode cc pc = .ok (.getfield index, 3))
    (kk : W p l e R s m args below meth c H locs cells slots Q (F0 m (pc + 3) ls (v :: rest))) : W p l e R s m args below meth c H locs cells slots Q (F0 m pc ls (.ref (gA g i) :: rest)) := by
  obtain ⟨h1, h2, h3⟩ := hT
  exact va_get (D := gD g) (cl := vwCl) (ws := big g M) (ref := Cn) C.1 C.2.1 C.2.2.2.2 hin C.2.2.2.1 hI.1 hI.2.1 i (big_at hi he) hc k hk (by rw [h2, h3]; exact C.2.2.2.2 _ hlink) (fun x h => by rw [h1] at h; exact h) hv hdg kk
theorem r_put (C : CallFix p m c cc nL s args Ts own) (hI : HI g s H locs M) (i : Nat) (hi : i < 86) {ci : Nat} {fs : List Value} (he : cel g i (M i) = .inr (ci, fs)) {Cn : String} {T : u_T} {N index : Nat} (hc : vwCl[ci]? = some (Cn, T, N)) (ty0 : Nat → FieldType) (hty : ∀ k, k < N → parseFieldDescriptor (T k).2.2.1 = some (ty0 k)) (hnm : ∀ a, a < N → ∀ b, b < N → a ≠ b → (T a).2.1 ≠ (T b).2.1) (hin : ∀ w ∈ u_ws Cn T N, w ∈ Ts) (k : Nat) (hk : k < N) {fn fd : String} (hlink : Cond.fieldLink own index Cn fn fd ∈ Ts) (hT : (T k).1 = Cn ∧ (T k).2.1 = fn ∧ (T k).2.2.1 = fd) (hfin : (T k).2.2.2 = false) {v : Value} {z : Int} (hnar : narrow (ty0 k) v = v) (hfit : fits (ty0 k) v = true) (hl : k < fs.length) (hs : cel g i (rw1 (M i) k z) = .inr (ci, fs.set k v)) (hdg : decode cc pc = .ok (.putfield index, 3))
    (kk : ∀ (H : Heap) (locs : List Loc), HI g s H locs (mset M i k z) → W p l e R s m args below meth c H locs cells slots Q (F0 m (pc + 3) ls rest)) : W p l e R s m args below meth c H locs cells slots Q (F0 m pc ls (v :: .ref (gA g i) :: rest)) := by
  obtain ⟨h1, h2, h3⟩ := hT
  refine va_put (D := gD g) (cl := vwCl) (ws := big g M) (A := AA g) (ref := Cn) C.1 C.2.1 C.2.2.2.2 hin ty0 hty hnm C.2.2.2.1 hI.1 hI.2.1 hI.2.2.1 hI.2.2.2.1 i (big_at hi he) hc k hk (by rw [h2, h3]; exact C.2.2.2.2 _ hlink) (fun x h => by rw [h1] at h; exact h) hfin (hty k hk) hnar hfit hl hdg (fun H1 locs1 hP hD hS => ?_)
  rw [big_set hi hs] at hP hD
  exact kk H1 locs1 ⟨hI.1, hP, hD, hS, hI.2.2.2.2⟩
theorem r_ald (C : CallFix p m c cc nL s args Ts own) (hI : HI g s H locs M) (i : Nat) (hi : i < 86) {n : Nat} (he : cel g i (M i) = gI g n (M i)) {z : Int} (hz : 0 ≤ z ∧ z < n) (hn : n < 2147483648) (hdg : decode cc pc = .ok (.iaload, 1))
    (kk : W p l e R s m args below meth c H locs cells slots Q (F0 m (pc + 1) ls (.int (iI (M i z)) :: rest))) : W p l e R s m args below meth c H locs cells slots Q (F0 m pc ls (.int (iI z) :: .ref (gA g i) :: rest)) := by
  refine va_iald (D := gD g) (cl := vwCl) (ws := big g M) C.1 C.2.1 hI.1 hI.2.1 i 0 (big_at hi he) rfl (iI_in hz hn) hdg ?_
  rw [iI_N (by omega), Int.toNat_of_nonneg hz.1]
  exact kk
theorem r_zld (C : CallFix p m c cc nL s args Ts own) (hI : HI g s H locs M) (i : Nat) (hi : i < 86) {n : Nat} (he : cel g i (M i) = gZ g n (M i)) {z : Int} (hz : 0 ≤ z ∧ z < n) (hn : n < 2147483648) (hdg : decode cc pc = .ok (.baload, 1))
    (kk : W p l e R s m args below meth c H locs cells slots Q (F0 m (pc + 1) ls (.int (iI (M i z)) :: rest))) : W p l e R s m args below meth c H locs cells slots Q (F0 m pc ls (.int (iI z) :: .ref (gA g i) :: rest)) := by
  refine va_zald (D := gD g) (cl := vwCl) (ws := big g M) C.1 C.2.1 hI.1 hI.2.1 i 1 (big_at hi he) rfl (iI_in hz hn) hdg ?_
  rw [iI_N (by omega), Int.toNat_of_nonneg hz.1]
  exact kk
theorem upd_rw1 {r : Int → Int} {z v : Int} (hz : 0 ≤ z ∧ z < 2147483648) : upd (fun k : Nat => iI (r (k : Int))) (iI z).toNatClampNeg (iI v) = fun k : Nat => iI (rw1 r z v (k : Int)) := by
  funext k
  rw [iI_N (by omega)]
  by_cases h : k = z.toNat
  · subst h
    simp [upd, rw1, Int.toNat_of_nonneg hz.1]
  · have h2 : ¬ (k : Int) = z := fun q => h (by omega)
    simp [upd, rw1, h, h2]
theorem r_ast (C : CallFix p m c cc nL s args Ts own) (hI : HI g s H locs M) (i : Nat) (hi : i < 86) {n : Nat} (he : ∀ r, cel g i r = gI g n r) {z v : Int} (hz : 0 ≤ z ∧ z < n) (hn : n < 2147483648) (hdg : decode cc pc = .ok (.iastore, 1))
    (kk : ∀ (H : Heap) (locs : List Loc), HI g s H locs (mset M i z v) → W p l e R s m args below meth c H locs cells slots Q (F0 m (pc + 1) ls rest)) : W p l e R s m args below meth c H locs cells slots Q (F0 m pc ls (.int (iI v) :: .int (iI z) :: .ref (gA g i) :: rest)) := by
  refine va_iast (D := gD g) (cl := vwCl) (ws := big g M) (A := AA g) C.1 C.2.1 hI.1 hI.2.1 hI.2.2.1 hI.2.2.2.1 i 0 (big_at hi (he _)) rfl (iI_in hz hn) hdg (fun H1 locs1 hP hD hS => ?_)
  have e : (big g M).set i (gA g i, .inl (gC g 0, n, .inl (upd (fun k : Nat => iI (M i (k : Int))) (iI z).toNatClampNeg (iI v)))) = big g (mset M i z v) := by
    rw [upd_rw1 (by omega)]
    exact big_set hi (he _)
  rw [e] at hP hD
  exact kk H1 locs1 ⟨hI.1, hP, hD, hS, hI.2.2.2.2⟩
theorem r_alen (C : CallFix p m c cc nL s args Ts own) (hI : HI g s H locs M) (i : Nat) (hi : i < 86) {n : Nat} (he : cel g i (M i) = gI g n (M i)) (hdg : decode cc pc = .ok (.arraylength, 1))
    (kk : W p l e R s m args below meth c H locs cells slots Q (F0 m (pc + 1) ls (.int (iI (n : Int)) :: rest))) : W p l e R s m args below meth c H locs cells slots Q (F0 m pc ls (.ref (gA g i) :: rest)) :=
  va_alen (D := gD g) (cl := vwCl) (ws := big g M) C.1 C.2.1 hI.1 hI.2.1 i 0 (big_at hi he) rfl (v := iI (n : Int)) (iI_nI n).symm hdg kk
theorem r_qlen (C : CallFix p m c cc nL s args Ts own) (hI : HI g s H locs M) (i : Nat) (hi : i < 86) {n : Nat} {f : Nat → Option Nat} (he : cel g i (M i) = gQ g n f) (hdg : decode cc pc = .ok (.arraylength, 1))
    (kk : W p l e R s m args below meth c H locs cells slots Q (F0 m (pc + 1) ls (.int (iI (n : Int)) :: rest))) : W p l e R s m args below meth c H locs cells slots Q (F0 m pc ls (.ref (gA g i) :: rest)) :=
  va_alen (D := gD g) (cl := vwCl) (ws := big g M) C.1 C.2.1 hI.1 hI.2.1 i 2 (big_at hi he) rfl (v := iI (n : Int)) (iI_nI n).symm hdg kk
theorem r_qld (C : CallFix p m c cc nL s args Ts own) (hI : HI g s H locs M) (i : Nat) (hi : i < 86) {n : Nat} {f : Nat → Option Nat} (he : cel g i (M i) = gQ g n f) {z : Int} (hz : 0 ≤ z ∧ z < n) (hn : n < 2147483648) {a : Nat} (hf : f z.toNat = some a) (hdg : decode cc pc = .ok (.aaload, 1))
    (kk : W p l e R s m args below meth c H locs cells slots Q (F0 m (pc + 1) ls (.ref a :: rest))) : W p l e R s m args below meth c H locs cells slots Q (F0 m pc ls (.int (iI z) :: .ref (gA g i) :: rest)) := by
  refine va_aldq (D := gD g) (cl := vwCl) (ws := big g M) C.1 C.2.1 hI.1 hI.2.1 i 2 (big_at hi he) rfl (iI_in hz hn) hdg ?_
  rw [iI_N (by omega), hf]
  exact kk
/-! the start, the ends, calls -/
theorem QV.of {post : Option Value → Mem → Prop} {v : Option Value} {as : Array Value} (hI : HI g s H locs M) (hp : post v M) {t : State} (ht : t.heap = H) : QV g post as s (.returned v) t := by
  refine ⟨⟨v, M, rfl, hp, ?_⟩, hI.2.2.2.1.F ht⟩
  rw [ht]
  exact hI.2.1
theorem r_iret (C : CallFix p m c cc nL s args Ts own) (hr : meth.sig.returnType = some .int) (hlk : meth.locks = false) (hI : HI g s H locs M) {post : Option Value → Mem → Prop} {v : Int32} (hp : post (some (.int v)) M) (hdg : decode cc pc = .ok (.ireturn, 1)) : W p l e R s m args below meth c H locs cells slots (MQ below (QV g post) args s cells slots (AA g)) (F0 m pc ls [.int v]) :=
  W.iret C.1 C.2.1 hr (fun t ht _ => QV.of hI hp ht) hI.2.2.2.1.2.2 hdg hlk
theorem r_zret (C : CallFix p m c cc nL s args Ts own) (hr : meth.sig.returnType = some .boolean) (hlk : meth.locks = false) (hI : HI g s H locs M) {post : Option Value → Mem → Prop} {v : Int32} (hn : narrow .boolean (.int v) = .int v) (hp : post (some (.int v)) M) (hdg : decode cc pc = .ok (.ireturn, 1)) : W p l e R s m args below meth c H locs cells slots (MQ below (QV g post) args s cells slots (AA g)) (F0 m pc ls [.int v]) :=
  W.zret C.1 C.2.1 hr hn (fun t ht _ => QV.of hI hp ht) hI.2.2.2.1.2.2 hdg hlk
theorem r_lret (C : CallFix p m c cc nL s args Ts own) (hr : meth.sig.returnType = some .long) (hlk : meth.locks = false) (hI : HI g s H locs M) {post : Option Value → Mem → Prop} {v : Int64} (hp : post (some (.long v)) M) (hdg : decode cc pc = .ok (.lreturn, 1)) : W p l e R s m args below meth c H locs cells slots (MQ below (QV g post) args s cells slots (AA g)) (F0 m pc ls [.long v]) :=
  W.lret C.1 C.2.1 hr (fun t ht _ => QV.of hI hp ht) hI.2.2.2.1.2.2 hdg hlk
theorem r_vret (C : CallFix p m c cc nL s args Ts own) (hr : meth.sig.returnType = none) (hlk : meth.locks = false) (hI : HI g s H locs M) {post : Option Value → Mem → Prop} (hp : post none M) (hdg : decode cc pc = .ok (.return_, 1)) : W p l e R s m args below meth c H locs cells slots (MQ below (QV g post) args s cells slots (AA g)) (F0 m pc ls []) :=
  W.vret C.1 C.2.1 hr (fun t ht _ => QV.of hI hp ht) hI.2.2.2.1.2.2 hdg hlk
theorem r_run (hI : HI g s H locs M) {post : Option Value → Mem → Prop} {a : Array Value} (hr : va_Run p l e R s m args below meth c H locs cells slots 0 0 (F0 m pc ls st0) rest (QV g post a) (AA g))
    (kk : ∀ (v : Option Value) (M : Mem) (H : Heap) (locs : List Loc), post v M → HI g s H locs M → W p l e R s m args below meth c H locs cells slots Q (F0 m (pc + 3) ls (v.toList ++ rest))) : W p l e R s m args below meth c H locs cells slots Q (F0 m pc ls st0) := by
  obtain ⟨hK, hP, hD, hS, hB, hN, hT⟩ := hI
  intro T hTh X
  obtain ⟨v, st₀, t, T', L, h0, X', hL, e1, e2, ⟨⟨v', u, hv, hp, hb⟩, hz, hk⟩, st⟩ := hr T hTh X
  cases hv
  rw [h0] at hz hk
  have hA : ∀ q, s.heap.size ≤ q → AA g q := fun q h => Nat.le_trans hB h
  obtain ⟨t2, a1, b1⟩ := kk v u T'.heap (locs ++ L) hp ⟨hK, by rw [e1]; exact hb, va_D_big hD, ⟨Nat.le_trans hS.1 (by rw [e1]; exact hz), fun q h1 h2 => by rw [e1, hk q (Nat.lt_of_lt_of_le h1 hS.1) h2]; exact hS.2.1 q h1 h2, fun q hq => by
    rcases List.mem_append.mp hq with h | h
    · exact hS.2.2 q h
    · exact hL q h⟩, hB, hN, hT⟩ T' rfl X'
  exact ⟨t2, st t2 a1, b1⟩
theorem r_recv (hI : HI g s H locs M) {i : Nat} (hi : i < 86) {ci : Nat} {fs : List Value} (he : cel g i (M i) = .inr (ci, fs)) {q : vw_C} (hc : vwCl[ci]? = some q) : ∃ cell : Cell, H[gA g i]? = some cell ∧ cell.vm.isStatics = false ∧ s.vm.findClass q.1 = some cell.cls :=
  va_recv (cl := vwCl) hI.1 hI.2.1 hc (big_at hi he)
theorem r_iv (C : CallFix p m c cc nL s args Ts own) (hI : HI g s H locs M) {y : MethodName} {bytes : ByteArray} {maxL index n i : Nat} {ret : Option FieldType} {ws : List Cond} {rm : Room} {post : Option Value → Mem → Prop} {As : List Value} {Cn : String} {T : u_T} {N : Nat} (ct : Ctr l g y ws rm (.ref (gA g i) :: As) M post) (cw : CallW R s args own Cn index y bytes maxL ret ws rm 0 0 n) (hi : i < 86) {ci : Nat} {fs : List Value} (he : cel g i (M i) = .inr (ci, fs)) (hc : vwCl[ci]? = some (Cn, T, N)) (hn : As.length = n) (hs : ls.size = nL) (hst : st0 = As.reverse ++ .ref (gA g i) :: rest) (hW : (rest.map fun v => v.category).sum ≤ 8) (hdg : decode cc pc = .ok (.invokevirtual index, 3)) (hf : cells ≤ R.cells ∧ slots ≤ R.slots)
    (kk : ∀ (v : Option Value) (M : Mem) (H : Heap) (locs : List Loc), post v M → HI g s H locs M → W p l e R s m args below meth c H locs cells slots Q (F0 m (pc + 3) ls (v.toList ++ rest))) : W p l e R s m args below meth c H locs cells slots Q (F0 m pc ls st0) :=
  r_run hI (va_runV (b := gA g i) (As := As) (rest := rest) C ct cw ⟨HP.blind _ g M, r_recv hI hi he hc, fun U hU hW => ⟨rfl, hI.toHP hU hW⟩⟩ rfl hn hs hst (lv_room hW) hdg hf) kk
theorem r_is (C : CallFix p m c cc nL s args Ts own) (hI : HI g s H locs M) {y : MethodName} {bytes : ByteArray} {maxL index n : Nat} {ret : Option FieldType} {ws : List Cond} {rm : Room} {post : Option Value → Mem → Prop} {As : List Value} (ct : Ctr l g y ws rm As M post) (cw : CallB R s args own index y bytes maxL ret ws rm 0 0 n ∧ (Cond.static y).before args s = true) (hn : As.length = n) (hs : ls.size = nL) (hst : st0 = As.reverse ++ rest) (hW : (rest.map fun v => v.category).sum ≤ 8) (hdg : decode cc pc = .ok (.invokestatic index, 3)) (hf : cells ≤ R.cells ∧ slots ≤ R.slots)
    (kk : ∀ (v : Option Value) (M : Mem) (H : Heap) (locs : List Loc), post v M → HI g s H locs M → W p l e R s m args below meth c H locs cells slots Q (F0 m (pc + 3) ls (v.toList ++ rest))) : W p l e R s m args below meth c H locs cells slots Q (F0 m pc ls st0) :=
  r_run hI (va_runS (As := As) (rest := rest) C ct cw ⟨HP.blind _ g M, fun U hU hW => ⟨rfl, hI.toHP hU hW⟩⟩ rfl hn hs hst (lv_room hW) hdg hf) kk
theorem r_isn (C : CallFix p m c cc nL s args Ts own) (hI : HI g s H locs M) {y : MethodName} {bytes : ByteArray} {maxL index n : Nat} {host : String} {ret : Option FieldType} {ws : List Cond} {rm : Room} {post : Option Value → Mem → Prop} {As : List Value} (ct : Ctr l g y ws rm As M post) (cw : va_CN R s args own index y host bytes maxL ret ws rm 0 0 n ∧ (Cond.static y).before args s = true ∧ True) (hn : As.length = n) (hs : ls.size = nL) (hst : st0 = As.reverse ++ rest) (hW : (rest.map fun v => v.category).sum ≤ 8) (hdg : decode cc pc = .ok (.invokestatic index, 3)) (hf : cells ≤ R.cells ∧ slots ≤ R.slots)
    (kk : ∀ (v : Option Value) (M : Mem) (H : Heap) (locs : List Loc), post v M → HI g s H locs M → W p l e R s m args below meth c H locs cells slots Q (F0 m (pc + 3) ls (v.toList ++ rest))) : W p l e R s m args below meth c H locs cells slots Q (F0 m pc ls st0) :=
  r_run hI (va_runSN (As := As) (rest := rest) C ct cw ⟨HP.blind _ g M, fun U hU hW => ⟨rfl, hI.toHP hU hW⟩⟩ rfl hn hs hst (lv_room hW) hdg hf) kk
theorem k_I {z : Int} {M0 : Mem} (kk : ∀ (H : Heap) (locs : List Loc), HI g s H locs M0 → W p l e R s m args below meth c H locs cells slots Q (F0 m pc ls (.int (iI z) :: rest))) : ∀ (v : Option Value) (M : Mem) (H : Heap) (locs : List Loc), pI z M0 v M → HI g s H locs M → W p l e R s m args below meth c H locs cells slots Q (F0 m pc ls (v.toList ++ rest)) := by
  rintro _ _ H locs ⟨rfl, rfl⟩ hI
  exact kk H locs hI
theorem k_V {M0 : Mem} (kk : ∀ (H : Heap) (locs : List Loc), HI g s H locs M0 → W p l e R s m args below meth c H locs cells slots Q (F0 m pc ls rest)) : ∀ (v : Option Value) (M : Mem) (H : Heap) (locs : List Loc), pV M0 v M → HI g s H locs M → W p l e R s m args below meth c H locs cells slots Q (F0 m pc ls (v.toList ++ rest)) := by
  rintro _ _ H locs ⟨rfl, rfl⟩ hI
  exact kk H locs hI
theorem k_R {a : Nat} {M0 : Mem} (kk : ∀ (H : Heap) (locs : List Loc), HI g s H locs M0 → W p l e R s m args below meth c H locs cells slots Q (F0 m pc ls (.ref a :: rest))) : ∀ (v : Option Value) (M : Mem) (H : Heap) (locs : List Loc), pR a M0 v M → HI g s H locs M → W p l e R s m args below meth c H locs cells slots Q (F0 m pc ls (v.toList ++ rest)) := by
  rintro _ _ H locs ⟨rfl, rfl⟩ hI
  exact kk H locs hI
theorem k_E {Z : Int → Mem → Prop} (kk : ∀ (z : Int) (M : Mem) (H : Heap) (locs : List Loc), Z z M → HI g s H locs M → W p l e R s m args below meth c H locs cells slots Q (F0 m pc ls (.int (iI z) :: rest))) : ∀ (v : Option Value) (M : Mem) (H : Heap) (locs : List Loc), pE Z v M → HI g s H locs M → W p l e R s m args below meth c H locs cells slots Q (F0 m pc ls (v.toList ++ rest)) := by
  rintro _ M H locs ⟨z, rfl, hz⟩ hI
  exact kk z M H locs hz hI
theorem k_X {Z : Mem → Prop} (kk : ∀ (M : Mem) (H : Heap) (locs : List Loc), Z M → HI g s H locs M → W p l e R s m args below meth c H locs cells slots Q (F0 m pc ls rest)) : ∀ (v : Option Value) (M : Mem) (H : Heap) (locs : List Loc), pX Z v M → HI g s H locs M → W p l e R s m args below meth c H locs cells slots Q (F0 m pc ls (v.toList ++ rest)) := by
  rintro _ M H locs ⟨rfl, hz⟩ hI
  exact kk M H locs hz hI
theorem k_L {z : Int} {M0 : Mem} (kk : ∀ (H : Heap) (locs : List Loc), HI g s H locs M0 → W p l e R s m args below meth c H locs cells slots Q (F0 m pc ls (.long (iL z) :: rest))) : ∀ (v : Option Value) (M : Mem) (H : Heap) (locs : List Loc), pL z M0 v M → HI g s H locs M → W p l e R s m args below meth c H locs cells slots Q (F0 m pc ls (v.toList ++ rest)) := by
  rintro _ _ H locs ⟨rfl, rfl⟩ hI
  exact kk H locs hI
end ROWS
/-- a contract, out of a walk of the method's body -/
theorem Ctr.mk {l : Launch} {g : GT} {y : MethodName} {ws ws' : List Cond} {rm : Room} {as : List Value} {M : Mem} {post : Option Value → Mem → Prop} {cc : ByteArray} {maxL : Nat} {ret : Option FieldType} {lv : List (Nat × Value)}
    (hy : plainName y.cls = true) (hw : ws = Cond.code y cc maxL ret :: ws') (hn : (lg_sl as).length ≤ maxL) (hlv : lv_args 0 as = lv)
    (body : ∀ (p : Program) (e : Env) (s : State) (m : MethodId) (below : List Frame) (meth : Method) (c : Code), CallFix p m c cc maxL s as.toArray ws y.cls → meth.sig.returnType = ret → meth.locks = false → HI g s s.heap [] M → ∀ ls : Array Slot, lv_has ls maxL lv →
      W p l e rm s m as.toArray below meth c s.heap [] 0 0 (MQ below (QV g post) as.toArray s 0 0 (AA g)) (F0 m 0 ls [])) : Ctr l g y ws rm as M post := by
  refine Met.ofW (cc := cc) (maxL := maxL) (ret := ret) hy hw ?_
  intro p e s m args below meth c s₁ B hml hv
  obtain ⟨rfl, hK, hP, hD, hB, hN, hS⟩ := hv
  have hl := lv_entry as (n := maxL) hn
  rw [lg_entry_eq]
  rw [hlv] at hl
  exact body p e s m below meth c ⟨B.exec, B.bytes, hml, findClass_of_methodNamed B.named, atoms_spec (ws := ws) B.pre⟩ B.returns B.notSynchronized ⟨hK, hP, hD, va_S.rf, hB, hN, hS⟩ _ hl
