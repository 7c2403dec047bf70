
/-! MAKING: what a constructor leaves -/
def M0 : Mem := fun c j => if c = 14 then (if j = 1 then -9 else 0) else if 32 ≤ c ∧ c % 3 = 1 then -9 else 0
abbrev CS : Type := ClassId × ClassId × ClassId
def gg (D : va_G) (f : Nat → Nat) (cs : CS) : GT := (D, f, fun _ => 0, fun k => if k = 0 then cs.1 else if k = 1 then cs.2.1 else cs.2.2, 0)
def tyC (cs : CS) : List (ClassId × FieldType) := [(cs.1, .int), (cs.2.1, .boolean), (cs.2.2, .object RX2)]
/-- the cells of these numbers -/
def wl (D : va_G) (f : Nat → Nat) (cs : CS) (is : List Nat) : va_W := is.map (fun i => (f i, cel (gg D f cs) i (M0 i)))
/-- a constructor's contract -/
def Cst (l : Launch) (D : va_G) (cs : CS) (y : MethodName) (wy : List Cond) (rm : Room) (ci : Nat) (fs : List Value) (o : Nat) (is : List Nat) (mc ms : Nat) : Prop := ∀ (h0 sz : Nat), Met l y wy rm (va_Pc [.ref h0] (fun U => U.heap.size = sz ∧ va_P D vwCl [(h0, .inr (ci, fs))] U.heap ∧ va_K D vwCl (tyC cs) U ∧ va_D (fun _ => True) [(h0, .inr (ci, fs))] ∧ va_AO RX2 U)) (va_Qv (fun _ : Nat → Nat => True) (fun f t => f o = h0 ∧ va_P D vwCl (wl D f cs is) t.heap ∧ va_D (va_A [(h0, .inr (ci, fs))] sz) (wl D f cs is)) (va_A [(h0, .inr (ci, fs))] sz)) mc ms (va_A [(h0, .inr (ci, fs))] sz)
theorem ty_int {D : va_G} {cl : List vw_C} {tys : List (ClassId × FieldType)} {s : State} {i j : Nat} {c1 c2 : ClassId} (hK : va_K D cl tys s) (h1 : tys[i]? = some (c1, .int)) (h2 : tys[j]? = some (c2, .int)) : c1 = c2 := by
  have r1 : s.vm.findClass ("[" ++ (FieldType.int).toString) = some c1 := (hK.2 i _ h1).2
  have r2 : s.vm.findClass ("[" ++ (FieldType.int).toString) = some c2 := (hK.2 j _ h2).2
  exact Option.some.inj (r1.symm.trans r2)
theorem ty_bool {D : va_G} {cl : List vw_C} {tys : List (ClassId × FieldType)} {s : State} {i j : Nat} {c1 c2 : ClassId} (hK : va_K D cl tys s) (h1 : tys[i]? = some (c1, .boolean)) (h2 : tys[j]? = some (c2, .boolean)) : c1 = c2 := by
  have r1 : s.vm.findClass ("[" ++ (FieldType.boolean).toString) = some c1 := (hK.2 i _ h1).2
  have r2 : s.vm.findClass ("[" ++ (FieldType.boolean).toString) = some c2 := (hK.2 j _ h2).2
  exact Option.some.inj (r1.symm.trans r2)
theorem ty_obj {D : va_G} {cl : List vw_C} {tys : List (ClassId × FieldType)} {s : State} {i j : Nat} {c1 c2 : ClassId} {C : String} (hK : va_K D cl tys s) (h1 : tys[i]? = some (c1, .object C)) (h2 : tys[j]? = some (c2, .object C)) : c1 = c2 := by
  obtain ⟨_, _, _, _, _, r1⟩ := (hK.2 i _ h1).2
  obtain ⟨_, _, _, _, _, r2⟩ := (hK.2 j _ h2).2
  exact Option.some.inj (r1.symm.trans r2)
theorem va_P_left {D : va_G} {cl : List vw_C} {w1 w2 : va_W} {H : Heap} (h : va_P D cl (w1 ++ w2) H) : va_P D cl w1 H := fun k q hk => h k q (by
  have hl := (List.getElem?_eq_some_iff.mp hk).1
  rw [List.getElem?_append_left hl]; exact hk)
theorem va_P_right {D : va_G} {cl : List vw_C} {w1 w2 : va_W} {H : Heap} (h : va_P D cl (w1 ++ w2) H) : va_P D cl w2 H := fun k q hk => h (w1.length + k) q (by
  rw [List.getElem?_append_right (by omega), show w1.length + k - w1.length = k by omega]; exact hk)
theorem va_D_left {A : Nat → Prop} {w1 w2 : va_W} (h : va_D A (w1 ++ w2)) : va_D A w1 := by
  have up : ∀ (i : Nat) (p : Nat × va_E), w1[i]? = some p → (w1 ++ w2)[i]? = some p := fun i p hk => by
    have hl := (List.getElem?_eq_some_iff.mp hk).1
    rw [List.getElem?_append_left hl]; exact hk
  exact ⟨fun i j p q hi hj e => h.1 i j p q (up i p hi) (up j q hj) e, fun k q hk => h.2 k q (up k q hk)⟩
theorem va_D_fst {A : Nat → Prop} {w1 w2 : va_W} (h : va_D A w1) (e : w1.map Prod.fst = w2.map Prod.fst) : va_D A w2 := by
  have dn : ∀ (i : Nat) (p : Nat × va_E), w2[i]? = some p → ∃ p0, w1[i]? = some p0 ∧ p0.1 = p.1 := fun i p hk => by
    have h1 : (w2.map Prod.fst)[i]? = some p.1 := by rw [List.getElem?_map, hk]; rfl
    rw [← e, List.getElem?_map] at h1
    cases hc : w1[i]? with
    | none => rw [hc] at h1; cases h1
    | some p0 => rw [hc] at h1; exact ⟨p0, rfl, Option.some.inj h1⟩
  refine ⟨fun i j p q hi hj e2 => ?_, fun k q hk => ?_⟩
  · obtain ⟨p0, a1, a2⟩ := dn i p hi
    obtain ⟨q0, b1, b2⟩ := dn j q hj
    exact h.1 i j p0 q0 a1 b1 (a2.trans (e2.trans b2.symm))
  · obtain ⟨q0, b1, b2⟩ := dn k q hk
    rw [← b2]; exact h.2 k q0 b1
/-- the last one comes second -/
theorem va_P_rot {D : va_G} {cl : List vw_C} {x y : Nat × va_E} {T : va_W} {H : Heap} (h : va_P D cl (x :: (T ++ [y])) H) : va_P D cl (x :: y :: T) H := by
  have hx : va_at D cl x H := h 0 x rfl
  have h1 : va_P D cl (T ++ [y]) H := fun k q hk => h (k + 1) q hk
  have hT := va_P_left h1
  have hy : va_at D cl y H := va_P_right h1 0 y rfl
  intro k q hk
  match k, hk with
  | 0, hk => cases hk; exact hx
  | 1, hk => cases hk; exact hy
  | k + 2, hk => exact hT k q hk
theorem va_D_rot {A : Nat → Prop} {x y : Nat × va_E} {T : va_W} (h : va_D A (x :: (T ++ [y]))) : va_D A (x :: y :: T) := by
  have up : ∀ (i : Nat) (p : Nat × va_E), (x :: y :: T)[i]? = some p → (x :: (T ++ [y]))[if i = 0 then 0 else if i = 1 then T.length + 1 else i - 1]? = some p := fun i p hk => by
    match i, hk with
    | 0, hk => exact hk
    | 1, hk =>
      cases hk
      show (T ++ [y])[T.length]? = some y
      rw [List.getElem?_append_right (by omega), Nat.sub_self]; rfl
    | i + 2, hk =>
      have hk : T[i]? = some p := hk
      have hl := (List.getElem?_eq_some_iff.mp hk).1
      rw [if_neg (by omega), if_neg (by omega), show i + 2 - 1 = i + 1 by omega]
      show (T ++ [y])[i]? = some p
      rw [List.getElem?_append_left hl]; exact hk
  refine ⟨fun i j p q hi hj e => ?_, fun k q hk => h.2 _ q (up k q hk)⟩
  have h9 := h.1 _ _ p q (up i p hi) (up j q hj) e
  have li : i < T.length + 2 := (List.getElem?_eq_some_iff.mp hi).1
  have lj : j < T.length + 2 := (List.getElem?_eq_some_iff.mp hj).1
  (repeat' split at h9) <;> omega
section MK
variable {p : Program} {l : Launch} {e : Env} {R : Room} {s : State} {m : MethodId} {args : Array Value} {below : List Frame} {meth : Method} {c : Code} {H : Heap} {locs : List Loc} {cells slots : Nat} {Q : State → Prop}
variable {cc : ByteArray} {pc : Nat} {ls : Array Slot} {rest : List Value} {nL : Nat} {Ts : List Cond} {own : String} {D : va_G} {cs : CS} {ws : va_W} {A : Nat → Prop} {H0 : Heap}
theorem r_newI {n : Int} {N : Nat} (S : CallFix p m c cc nL s args Ts own) (harr : Cond.arrayClass .int ∈ Ts) (hK : va_K D vwCl (tyC cs) s) (hP : va_P D vwCl ws H) (hD : va_D A ws) (hS : va_S A H0 H locs) (hA : ∀ q, H0.size ≤ q → A q) (hn : n = (N : Int)) (hN : N < 1000) (hcells : cells + 1 ≤ R.cells) (hslots : slots + N ≤ R.slots) (hdg : decode cc pc = .ok (.newarray .int, 2))
    (kk : ∀ (q : Nat) (H1 : Heap), va_P D vwCl (ws ++ [(q, .inl (cs.1, N, .inl (fun _ => iI 0)))]) H1 → va_D A (ws ++ [(q, .inl (cs.1, N, .inl (fun _ => iI 0)))]) → va_S A H0 H1 locs → W p l e R s m args below meth c H1 locs (cells + 1) (slots + N) Q (F0 m (pc + 2) ls (.ref q :: rest))) : W p l e R s m args below meth c H locs cells slots Q (F0 m pc ls (.int (iI n) :: rest)) := by
  subst hn
  refine va_newa (D := D) (cl := vwCl) (atype := .int) (ty := .int) S.1 S.2.1 (S.2.2.2.2 _ harr) rfl hK hP hD hS hA (N' := N) (a0 := (N, .inl (fun _ => iI 0))) (fun cA => rfl) ?_ ?_ ?_ hcells hslots hdg (fun q cA H1 hK2 hP2 hD2 hS2 => ?_)
  · intro h
    have h2 := (iI_lt (a := (N : Int)) (b := 0) (by omega) (by decide)).mp h
    omega
  · rw [iI_N (by omega)]; rfl
  · show N * 4 ≤ 536870912
    omega
  · have e1 : cA = cs.1 := ty_int hK2 (i := 3) (j := 0) rfl rfl
    subst e1
    exact kk q H1 hP2 hD2 hS2
theorem r_newZ {n : Int} {N : Nat} (S : CallFix p m c cc nL s args Ts own) (harr : Cond.arrayClass .boolean ∈ Ts) (hK : va_K D vwCl (tyC cs) s) (hP : va_P D vwCl ws H) (hD : va_D A ws) (hS : va_S A H0 H locs) (hA : ∀ q, H0.size ≤ q → A q) (hn : n = (N : Int)) (hN : N < 1000) (hcells : cells + 1 ≤ R.cells) (hslots : slots + N ≤ R.slots) (hdg : decode cc pc = .ok (.newarray .boolean, 2))
    (kk : ∀ (q : Nat) (H1 : Heap), va_P D vwCl (ws ++ [(q, .inl (cs.2.1, N, .inl (fun _ => iI 0)))]) H1 → va_D A (ws ++ [(q, .inl (cs.2.1, N, .inl (fun _ => iI 0)))]) → va_S A H0 H1 locs → W p l e R s m args below meth c H1 locs (cells + 1) (slots + N) Q (F0 m (pc + 2) ls (.ref q :: rest))) : W p l e R s m args below meth c H locs cells slots Q (F0 m pc ls (.int (iI n) :: rest)) := by
  subst hn
  refine va_newa (D := D) (cl := vwCl) (atype := .boolean) (ty := .boolean) S.1 S.2.1 (S.2.2.2.2 _ harr) rfl hK hP hD hS hA (N' := N) (a0 := (N, .inl (fun _ => iI 0))) (fun cA => rfl) ?_ ?_ ?_ hcells hslots hdg (fun q cA H1 hK2 hP2 hD2 hS2 => ?_)
  · intro h
    have h2 := (iI_lt (a := (N : Int)) (b := 0) (by omega) (by decide)).mp h
    omega
  · rw [iI_N (by omega)]; rfl
  · show N * 1 ≤ 536870912
    omega
  · have e1 : cA = cs.2.1 := ty_bool hK2 (i := 3) (j := 1) rfl rfl
    subst e1
    exact kk q H1 hP2 hD2 hS2
theorem r_newQ {n : Int} {N ix : Nat} (S : CallFix p m c cc nL s args Ts own) (hcl : Cond.classLink own ix RX2 ∈ Ts) (hov : va_AO RX2 s) (hK : va_K D vwCl (tyC cs) s) (hP : va_P D vwCl ws H) (hD : va_D A ws) (hS : va_S A H0 H locs) (hA : ∀ q, H0.size ≤ q → A q) (hn : n = (N : Int)) (hN : N < 1000) (hcells : cells + 1 ≤ R.cells) (hslots : slots + N ≤ R.slots) (hdg : decode cc pc = .ok (.anewarray ix, 3))
    (kk : ∀ (q : Nat) (H1 : Heap), va_P D vwCl (ws ++ [(q, .inl (cs.2.2, N, .inr (.inr (.inr (.inr (fun _ => none))))))]) H1 → va_D A (ws ++ [(q, .inl (cs.2.2, N, .inr (.inr (.inr (.inr (fun _ => none))))))]) → va_S A H0 H1 locs → W p l e R s m args below meth c H1 locs (cells + 1) (slots + N) Q (F0 m (pc + 3) ls (.ref q :: rest))) : W p l e R s m args below meth c H locs cells slots Q (F0 m pc ls (.int (iI n) :: rest)) := by
  subst hn
  refine va_newq (D := D) (cl := vwCl) S.1 S.2.1 S.2.2.2.1 (S.2.2.2.2 _ hcl) hov hK hP hD hS hA (N' := N) ?_ ?_ (by omega) hcells hslots hdg (fun q cA H1 hK2 hP2 hD2 hS2 => ?_)
  · intro h
    have h2 := (iI_lt (a := (N : Int)) (b := 0) (by omega) (by decide)).mp h
    omega
  · rw [iI_N (by omega)]; rfl
  · have e1 : cA = cs.2.2 := ty_obj hK2 (i := 3) (j := 2) rfl rfl
    subst e1
    exact kk q H1 hP2 hD2 hS2
/-- an object is made, and its constructor runs -/
theorem r_mk (S : CallFix p m c cc nL s args Ts own) (hAO : va_AO RX2 s) (hK : va_K D vwCl (tyC cs) s) (hP : va_P D vwCl ws H) (hD : va_D A ws) (hS : va_S A H0 H locs) (hA : ∀ q, H0.size ≤ q → A q) {C : String} {T : u_T} {N ci ix ix2 : Nat} {fs : List Value} (hin : ∀ w ∈ u_ws C T N, w ∈ Ts) (ty : Nat → FieldType) (hty : ∀ k, k < N → parseFieldDescriptor (T k).2.2.1 = some (ty k)) (hcl : Cond.classLink own ix C ∈ Ts) (hinst : Cond.instantiable C N ∈ Ts) (hini : Cond.initialized C ∈ Ts) (hc : vwCl[ci]? = some (C, T, N)) (hfs : ∀ j, j < N → defaultValue (ty j) = vp_V fs j)
    {y : MethodName} {bytes : ByteArray} {maxL : Nat} {wy : List Cond} {rm : Room} {o mc ms : Nat} {is : List Nat} (ct : Cst l D cs y wy rm ci fs o is mc ms) (cw : CallB R s args own ix2 y bytes maxL none wy rm mc ms 0 ∧ y.name = "<init>" ∧ (Cond.instanceMethod y).before args s = true) (hsz : ls.size = nL) (hW : (rest.map fun v => v.category).sum ≤ 6) (hd1 : decode cc pc = .ok (.new ix, 3)) (hd2 : decode cc (pc + 3) = .ok (.dup, 1)) (hd3 : decode cc (pc + 4) = .ok (.invokespecial ix2, 3)) (hcells : cells + 1 + mc ≤ R.cells) (hslots : slots + N + ms ≤ R.slots)
    (kk : ∀ (f : Nat → Nat) (H1 : Heap) (locs1 : List Loc), va_P D vwCl (ws ++ wl D f cs is) H1 → va_D A (ws ++ wl D f cs is) → va_S A H0 H1 locs1 → W p l e R s m args below meth c H1 locs1 (cells + 1 + mc) (slots + N + ms) Q (F0 m (pc + 7) ls (.ref (f o) :: rest))) : W p l e R s m args below meth c H locs cells slots Q (F0 m pc ls rest) := by
  refine va_new (D := D) (cl := vwCl) (ci := ci) (fs := fs) (C := C) (T := T) (N := N) S.1 S.2.1 S.2.2.2.2 hin ty hty S.2.2.2.1 (S.2.2.2.2 _ hcl) (S.2.2.2.2 _ hinst) (S.2.2.2.2 _ hini) hK hP hD hS hA hc hfs (by omega) (by omega) hd1 (fun q H1 hP1 hD1 hS1 => ?_)
  refine lv_dup S.1 S.2.1 hd2 rfl ?_
  have hat : (ws ++ [(q, (.inr (ci, fs) : va_E))])[ws.length]? = some (q, .inr (ci, fs)) := by
    rw [List.getElem?_append_right (Nat.le_refl _), Nat.sub_self]; rfl
  have hPc : va_P D vwCl [(q, .inr (ci, fs))] H1 := va_P_right hP1
  have hDc : va_D (fun _ => True) [(q, (.inr (ci, fs) : va_E))] := ⟨fun i j x y hi hj _ => by
    have h1 := (List.getElem?_eq_some_iff.mp hi).1
    have h2 := (List.getElem?_eq_some_iff.mp hj).1
    simp only [List.length_cons, List.length_nil] at h1 h2
    omega, fun _ _ _ => trivial⟩
  have hFc := va_free (wc := [(q, (.inr (ci, fs) : va_E))]) hD1 hS1 hA [ws.length] (by simp only [List.map_cons, List.map_nil, hat])
  refine va_callv (va_runI (As := []) (rest := .ref q :: rest) S (ct q H1.size) cw ⟨fun a U g mk q => by obtain ⟨q0, q1, qP, qK, qD, qO⟩ := q; exact ⟨q0, q1, qP, va_K.moved (u := U) (U := U.calling g mk a) (Vm.Alike.refl U.vm) qK, qD, va_AO.moved (u := U) (U := U.calling g mk a) (Vm.Alike.refl U.vm) qO⟩, fun U hU hW2 => ⟨rfl, by rw [hU], by rw [hU]; exact hPc, va_K.moved hW2.alike hK, hDc, va_AO.moved hW2.alike hAO⟩⟩ rfl rfl hsz rfl ?_ hd3 ⟨by omega, by omega⟩) hS1 (fun q _ h => hFc q h) hFc (fun f t H2 locs2 ht hvm _ hB hz1 hk1 hS2 => ?_)
  · refine lv_room ?_
    simp only [List.map_cons, List.sum_cons]
    show 1 + _ ≤ 8
    omega
  · obtain ⟨hf, hP2, hD2⟩ := hB
    rw [ht] at hP2
    have hlt : ∀ (k : Nat) (x : Nat × va_E), ws[k]? = some x → x.1 < H1.size ∧ ¬ va_A [(q, (.inr (ci, fs) : va_E))] H1.size x.1 := by
      intro k x hk
      have hl := (List.getElem?_eq_some_iff.mp hk).1
      have hk2 : (ws ++ [(q, (.inr (ci, fs) : va_E))])[k]? = some x := by rw [List.getElem?_append_left hl]; exact hk
      have hx := (hP1 k x hk2).lt
      refine ⟨hx, fun h => ?_⟩
      rcases h with ⟨k3, e3, h⟩ | h
      · have h1 := (List.getElem?_eq_some_iff.mp h).1
        simp only [List.length_cons, List.length_nil] at h1
        obtain rfl : k3 = 0 := by omega
        have h4 : (q, (.inr (ci, fs) : va_E)) = (x.1, e3) := Option.some.inj h
        have h5 := hD1.1 ws.length k (q, .inr (ci, fs)) x hat hk2 (show q = x.1 from congrArg Prod.fst h4)
        omega
      · omega
    rw [← hf]
    refine kk f H2 locs2 (va_P.app (fun k x hk => ?_) hP2) (va_D.app (va_D_left hD1) (hD2.weaken (fun _ x _ h => hFc x.1 h)) (fun i j x y hi hj hxy => ?_)) hS2
    · have h1 := hlt k x hk
      exact (va_P_left hP1 k x hk).kept (hk1 x.1 h1.1 h1.2)
    · exact (hlt i x hi).2 (by rw [hxy]; exact hD2.2 j y hj)
end MK

theorem tail_at {x y z : Nat × va_E} {T V : va_W} (h : V[0]? = some z) : (x :: y :: (T ++ V))[T.length + 2]? = some z := by
  show (T ++ V)[T.length]? = some z
  rw [List.getElem?_append_right (Nat.le_refl _), Nat.sub_self]; exact h
theorem arrV_ext {cI : ClassId} {N : Nat} {f g : Nat → Value} (h : ∀ j, j < N → f j = g j) : arrV cI N f = arrV cI N g := by
  have e : (fun j : Fin N => f j.val) = fun j : Fin N => g j.val := funext fun j => h j.val j.isLt
  unfold arrV
  rw [e]
theorem va_P_row3 {D : va_G} {cl : List vw_C} {x y : Nat × va_E} {w n : Nat} {cA : ClassId} {f f' : Nat → Int32} {H : Heap} (h : va_P D cl [x, y, (w, .inl (cA, n, .inl f))] H) (e : ∀ k, k < n → f k = f' k) : va_P D cl [x, y, (w, .inl (cA, n, .inl f'))] H := by
  intro k q hk
  match k, hk with
  | 0, hk => exact h 0 q hk
  | 1, hk => exact h 1 q hk
  | 2, hk =>
    cases hk
    have h2 : H[w]? = some (arrV cA n (fun j => .int (f j))) := h 2 _ rfl
    show H[w]? = some (arrV cA n (fun j => .int (f' j)))
    rw [h2, arrV_ext (fun j hj => by rw [e j hj])]
  | k + 3, hk => simp at hk
theorem va_P_ring {D : va_G} {cl : List vw_C} {x : Nat × va_E} {w n : Nat} {cA : ClassId} {f f' : Nat → Option Nat} {T : va_W} {H : Heap} (h : va_P D cl (x :: (w, .inl (cA, n, .inr (.inr (.inr (.inr f))))) :: T) H) (e : ∀ k, k < n → f k = f' k) : va_P D cl (x :: (w, .inl (cA, n, .inr (.inr (.inr (.inr f'))))) :: T) H := by
  intro k q hk
  match k, hk with
  | 0, hk => exact h 0 q hk
  | 1, hk =>
    cases hk
    have h2 : H[w]? = some (arrV cA n (fun j => va_rf (f j))) := h 1 _ rfl
    show H[w]? = some (arrV cA n (fun j => va_rf (f' j)))
    rw [h2, arrV_ext (fun j hj => by rw [e j hj])]
  | k + 2, hk => exact h (k + 2) q hk
theorem wl_mo {D : va_G} {f : Nat → Nat} {cs : CS} {o : Nat} (ho : isMo o) : wl D f cs [o, o + 1, o + 2] = [(f o, .inr (2, [.ref (f (o + 1)), .ref (f (o + 2)), .int (iI (M0 o 2)), .int (iI (M0 o 3))])), (f (o + 1), .inl (cs.1, 4, .inl (fun k => iI (M0 (o + 1) (k : Int))))), (f (o + 2), .inl (cs.1, 4, .inl (fun k => iI (M0 (o + 2) (k : Int)))))] := by
  show [(f o, cel (gg D f cs) o (M0 o)), (f (o + 1), cel (gg D f cs) (o + 1) (M0 (o + 1))), (f (o + 2), cel (gg D f cs) (o + 2) (M0 (o + 2)))] = _
  rw [ceMo ho, ceMk ho, ceMw ho]
  rfl
theorem wl_mo_cg {D : va_G} {f f' : Nat → Nat} {cs : CS} {o : Nat} (ho : isMo o) (h0 : f o = f' o) (h1 : f (o + 1) = f' (o + 1)) (h2 : f (o + 2) = f' (o + 2)) : wl D f cs [o, o + 1, o + 2] = wl D f' cs [o, o + 1, o + 2] := by
  rw [wl_mo ho, wl_mo ho, h0, h1, h2]
def moF (o h0 a b : Nat) : Nat → Nat := fun i => if i = o then h0 else if i = o + 1 then a else b
theorem moF_wl {D : va_G} {cs : CS} {o h0 a b : Nat} (ho : isMo o) : wl D (moF o h0 a b) cs [o, o + 1, o + 2] = [(h0, .inr (2, [.ref a, .ref b, .int (iI 0), .int (iI 0)])), (a, .inl (cs.1, 4, .inl (fun _ => iI 0))), (b, .inl (cs.1, 4, .inl (fun _ => iI (-9))))] := by
  have e0 : moF o h0 a b o = h0 := by unfold moF; rw [if_pos rfl]
  have e1 : moF o h0 a b (o + 1) = a := by unfold moF; rw [if_neg (by omega), if_pos rfl]
  have e2 : moF o h0 a b (o + 2) = b := by unfold moF; rw [if_neg (by omega), if_neg (by omega)]
  obtain ⟨o1, o2, o3⟩ := ho
  have m0 : ∀ j : Int, M0 o j = 0 := fun j => by unfold M0; rw [if_neg (by omega), if_neg (by omega)]
  have m1 : ∀ j : Int, M0 (o + 1) j = 0 := fun j => by unfold M0; rw [if_neg (by omega), if_neg (by omega)]
  have m2 : ∀ j : Int, M0 (o + 2) j = -9 := fun j => by unfold M0; rw [if_neg (by omega), if_pos (by omega)]
  rw [wl_mo ⟨o1, o2, o3⟩, e0, e1, e2, m0, m0]
  simp only [m1, m2]
/-- addresses by a list, from cell b on -/
def fL (b : Nat) (L : List Nat) : Nat → Nat := fun i => L.getD (i - b) 0
