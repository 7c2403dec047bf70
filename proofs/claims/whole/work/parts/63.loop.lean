
theorem st_ex {args : Array Value} {s : State} {A : Nat → Prop} (k : Nat) (n : String) {a0 a1 a2 : Int32} (e0 : a0 = iI (stV k 0)) (e1 : a1 = iI (stV k 1)) (e2 : a2 = iI (stV k 2)) (hl : (Cond.laysStatic RX5 n "[I").before args s = true) (hini : (Cond.initialized RX5).before args s = true) (harr : (Cond.arrayOf (.static RX5 n "[I") .int).before args s = true) (hlen : (Cond.eq (.length (.static RX5 n "[I")) (.int 3)).before args s = true)
    (h0 : (Cond.eq (.elem (.static RX5 n "[I") (.int 0)) (.int a0)).before args s = true) (h1 : (Cond.eq (.elem (.static RX5 n "[I") (.int 1)) (.int a1)).before args s = true) (h2 : (Cond.eq (.elem (.static RX5 n "[I") (.int 2)) (.int a2)).before args s = true) (hA : ∀ a : Nat, a < s.heap.size → ¬ A a) : ∃ t : Nat, va_Z RX5 n "[I" (.ref t) A s s.heap ∧ va_T .int t 3 (fun j => .int (iI (stV k (j : Int)))) A s s.heap := by
  subst e0
  subst e1
  subst e2
  obtain ⟨t, ht, hT⟩ := va_Tof (tm := .static RX5 n "[I") (ty := .int) (N := 3) (f := fun j => .int (iI (stV k (j : Int)))) (A := A) (by decide) harr (va_eqt hlen) (fun j hj => by
    rcases (show j = 0 ∨ j = 1 ∨ j = 2 by omega) with rfl | rfl | rfl
    · exact va_eqt h0
    · exact va_eqt h1
    · exact va_eqt h2) hA
  exact ⟨t, va_Zof hl hini ht hA, hT⟩
theorem cel_cg6 {D : va_G} {cs : CS} {f f' : Nat → Nat} (h : ∀ j : Nat, ¬ (18 ≤ j ∧ j < 32) → f j = f' j) : ∀ (i : Nat) (r : Int → Int), ¬ (18 ≤ i ∧ i < 32) → cel (gg D f cs) i r = cel (gg D f' cs) i r := by
  intro i r hi
  match i, hi with
  | 0, _ =>
    show (.inr (6, [.ref (f 1), .ref (f 3), .ref (f 32), .ref (f 35), .ref (f 15), .ref (f 10), .ref (f 14), .ref (f 17), .long (iL (r 8))]) : va_E) = .inr (6, [.ref (f' 1), .ref (f' 3), .ref (f' 32), .ref (f' 35), .ref (f' 15), .ref (f' 10), .ref (f' 14), .ref (f' 17), .long (iL (r 8))])
    rw [h 1 (by decide), h 3 (by decide), h 32 (by decide), h 35 (by decide), h 15 (by decide), h 10 (by decide), h 14 (by decide), h 17 (by decide)]
  | 1, _ =>
    show (.inr (5, [.ref (f 2), .int (iI (r 1))]) : va_E) = .inr (5, [.ref (f' 2), .int (iI (r 1))])
    rw [h 2 (by decide)]
  | 2, _ => rfl
  | 3, _ =>
    show (.inr (1, [.ref (f 4), .ref (f 5), .ref (f 6), .ref (f 7), .ref (f 8), .ref (f 9), .int (iI (r 6)), .int (iI (r 7))]) : va_E) = .inr (1, [.ref (f' 4), .ref (f' 5), .ref (f' 6), .ref (f' 7), .ref (f' 8), .ref (f' 9), .int (iI (r 6)), .int (iI (r 7))])
    rw [h 4 (by decide), h 5 (by decide), h 6 (by decide), h 7 (by decide), h 8 (by decide), h 9 (by decide)]
  | 4, _ => rfl
  | 5, _ => rfl
  | 6, _ => rfl
  | 7, _ => rfl
  | 8, _ => rfl
  | 9, _ => rfl
  | 10, _ =>
    show (.inr (3, [.ref (f 11), .ref (f 12), .ref (f 13), .int (iI (r 3))]) : va_E) = .inr (3, [.ref (f' 11), .ref (f' 12), .ref (f' 13), .int (iI (r 3))])
    rw [h 11 (by decide), h 12 (by decide), h 13 (by decide)]
  | 11, _ => rfl
  | 12, _ => rfl
  | 13, _ => rfl
  | 14, _ => rfl
  | 15, _ =>
    show (.inr (0, [.ref (f 16), .int (iI (r 1)), .int (iI (r 2))]) : va_E) = .inr (0, [.ref (f' 16), .int (iI (r 1)), .int (iI (r 2))])
    rw [h 16 (by decide)]
  | 16, _ =>
    have e : (fun k : Nat => some (f (38 + 3 * k))) = fun k : Nat => some (f' (38 + 3 * k)) := funext fun k => by rw [h _ (by omega)]
    show (.inl (cs.2.2, 14, .inr (.inr (.inr (.inr (fun k : Nat => some (f (38 + 3 * k))))))) : va_E) = .inl (cs.2.2, 14, .inr (.inr (.inr (.inr (fun k : Nat => some (f' (38 + 3 * k)))))))
    rw [e]
  | 17, _ =>
    have e : (fun k : Nat => some (f (80 + 3 * k))) = fun k : Nat => some (f' (80 + 3 * k)) := funext fun k => by rw [h _ (by omega)]
    show (.inl (cs.2.2, 2, .inr (.inr (.inr (.inr (fun k : Nat => some (f (80 + 3 * k))))))) : va_E) = .inl (cs.2.2, 2, .inr (.inr (.inr (.inr (fun k : Nat => some (f' (80 + 3 * k)))))))
    rw [e]
  | 18, h9 => exact absurd (by decide) h9
  | 19, h9 => exact absurd (by decide) h9
  | 20, h9 => exact absurd (by decide) h9
  | 21, h9 => exact absurd (by decide) h9
  | 22, h9 => exact absurd (by decide) h9
  | 23, h9 => exact absurd (by decide) h9
  | 24, h9 => exact absurd (by decide) h9
  | 25, h9 => exact absurd (by decide) h9
  | 26, h9 => exact absurd (by decide) h9
  | 27, h9 => exact absurd (by decide) h9
  | 28, h9 => exact absurd (by decide) h9
  | 29, h9 => exact absurd (by decide) h9
  | 30, h9 => exact absurd (by decide) h9
  | 31, h9 => exact absurd (by decide) h9
  | n + 32, _ =>
    show (if n % 3 = 0 then (.inr (2, [.ref (f (n + 33)), .ref (f (n + 34)), .int (iI (r 2)), .int (iI (r 3))]) : va_E) else .inl (cs.1, 4, .inl (fun k => iI (r (k : Int))))) = if n % 3 = 0 then .inr (2, [.ref (f' (n + 33)), .ref (f' (n + 34)), .int (iI (r 2)), .int (iI (r 3))]) else .inl (cs.1, 4, .inl (fun k => iI (r (k : Int))))
    rw [h (n + 33) (by omega), h (n + 34) (by omega)]
theorem wl_cg6 {D : va_G} {cs : CS} {f f' : Nat → Nat} (h : ∀ j : Nat, ¬ (18 ≤ j ∧ j < 32) → f j = f' j) (is : List Nat) (hi : ∀ i ∈ is, ¬ (18 ≤ i ∧ i < 32)) : wl D f cs is = wl D f' cs is := by
  unfold wl
  apply List.map_congr_left
  intro i h9
  rw [h i (hi i h9), cel_cg6 h i _ (hi i h9)]
theorem cel_gg (D : va_G) (f t : Nat → Nat) (cs : CS) (B : Nat) (i : Nat) (r : Int → Int) : cel (D, f, t, (fun k => if k = 0 then cs.1 else if k = 1 then cs.2.1 else cs.2.2), B) i r = cel (gg D f cs) i r := by
  unfold cel
  rfl
theorem wl_big {D : va_G} {f t : Nat → Nat} {cs : CS} {B : Nat} {is : List Nat} {A : Nat → Prop} {H : Heap} (hP : va_P D vwCl (wl D f cs is) H) (hD : va_D A (wl D f cs is)) (hall : ∀ i, i < 86 → i ∈ is) : va_P D vwCl (big (D, f, t, (fun k => if k = 0 then cs.1 else if k = 1 then cs.2.1 else cs.2.2), B) M0) H ∧ va_D A (big (D, f, t, (fun k => if k = 0 then cs.1 else if k = 1 then cs.2.1 else cs.2.2), B) M0) := by
  have key : ∀ (k : Nat) (q : Nat × va_E), (big (D, f, t, (fun k => if k = 0 then cs.1 else if k = 1 then cs.2.1 else cs.2.2), B) M0)[k]? = some q → q = (f k, cel (gg D f cs) k (M0 k)) ∧ ∃ j : Nat, is[j]? = some k ∧ (wl D f cs is)[j]? = some q := by
    intro k q hk
    have hl : k < 86 := by
      have := (List.getElem?_eq_some_iff.mp hk).1
      simpa [big] using this
    have e : q = (f k, cel (gg D f cs) k (M0 k)) := by
      have h2 : (big (D, f, t, (fun k => if k = 0 then cs.1 else if k = 1 then cs.2.1 else cs.2.2), B) M0)[k]? = some (f k, cel (D, f, t, (fun k => if k = 0 then cs.1 else if k = 1 then cs.2.1 else cs.2.2), B) k (M0 k)) := big_at hl rfl
      rw [hk] at h2
      rw [Option.some.inj h2, cel_gg]
    obtain ⟨j, hj⟩ := List.getElem?_of_mem (hall k hl)
    refine ⟨e, j, hj, ?_⟩
    unfold wl
    rw [List.getElem?_map, hj, e]
    rfl
  refine ⟨fun k q hk => ?_, fun i j p q hi hj e => ?_, fun k q hk => ?_⟩
  · obtain ⟨_, j, _, h2⟩ := key k q hk
    exact hP j q h2
  · obtain ⟨_, i2, a1, a2⟩ := key i p hi
    obtain ⟨_, j2, b1, b2⟩ := key j q hj
    have h9 := hD.1 i2 j2 p q a2 b2 e
    subst h9
    exact Option.some.inj (a1.symm.trans b1)
  · obtain ⟨_, j, _, h2⟩ := key k q hk
    exact hD.2 j q h2
theorem nest_in : ∀ w ∈ nestL, w ∈ lw_tbl := by decide +kernel
theorem nest_on : ∀ w ∈ nestL, w.onTables = true := by decide +kernel

set_option maxHeartbeats 8000000 in
set_option maxRecDepth 100000 in
/-- THE LAW'S LOOP -/
theorem law_loop {p : Program} {l : Launch} {e : Env} {s : State} {m : MethodId} {below : List Frame} {meth : Method} {c : Code} {g : GT} {b L : Nat} {xs : Nat → Int32} (C : CallFix p m c code 4 s #[Value.ref b] wsL_law RL) (hr : meth.sig.returnType = ret) (hlocks : meth.locks = false) (hX : va_X b L xs s s.heap) (hbl : b < s.heap.size) (hg : gB g = s.heap.size) (hL : L ≤ 3072) :
    ∀ (n : Nat) (z : Int) (M : Mem), ((L : Int) - z).toNat < n → (0 ≤ z ∧ z ≤ L) → (WF M ∧ RM M M) → ∀ (H : Heap) (locs : List Loc), HI g s H locs M → ∀ ls : Array Slot, lv_has ls 4 [(3, .int (iI z)), (2, .ref (gA g 18)), (1, .ref (gA g 0)), (0, .ref b)] → W p l e room_1 s m #[Value.ref b] below meth c H locs 86 856 (lw_Z below #[Value.ref b] s) (F0 m 18 ls []) := by
  have hx := C.1
  have hb := C.2.1
  have hts := C.2.2.2.2
  have hcs : 86 ≤ room_1.cells ∧ 856 ≤ room_1.slots := ⟨Nat.le_of_ble_eq_true rfl, Nat.le_of_ble_eq_true rfl⟩
  intro n
  induction n with
  | zero => intro z M hn; exact absurd hn (Nat.not_lt_zero _)
  | succ n ih =>
    intro z M hn hz inv H locs hI ls hl
    refine lv_iload_n hx hb dL_law_18 rfl (lv_at hl 0 rfl) ?_
    refine lv_aload_n hx hb dL_law_19 rfl (lv_at hl 3 rfl) ?_
    refine r_slen C hX hbl hg hI dL_law_20 ?_
    refine lv_bipush (v := iI 6) hx hb dL_law_21 (by decide +kernel) ?_
    refine r_isub hx hb dL_law_23 ?_
    refine r_icmp_gt hx hb (tgt := 1044) (by omega) (by omega) dL_law_24 (by decide) (fun c1 => ?_) (fun c1 => ?_)
    · refine lv_iconst (v := 1) hx hb dL_law_1044 (by decide) ?_
      refine va_forget (fun q hq => ?_) ?_
      · have h9 : gB g ≤ q.base := hI.2.2.2.1.2.2 q hq
        omega
      · refine W.widen (k := 600000) (n := 7302250) (Nat.le_of_ble_eq_true rfl) (Nat.le_of_ble_eq_true rfl) ?_
        exact lw_ret hx hb hr hlocks dL_law_1045
    · have K : ∀ (u : Mem) (H : Heap) (locs : List Loc), (WF u ∧ RM u u) → HI g s H locs u → W p l e room_1 s m #[Value.ref b] below meth c H locs 86 856 (lw_Z below #[Value.ref b] s) (F0 m 1038 ls []) := by
        intro u H locs inv hI
        refine lv_iinc (v := iI (z + 6)) (lv' := [(3, .int (iI (z + 6))), (2, .ref (gA g 18)), (1, .ref (gA g 0)), (0, .ref b)]) hx hb dL_law_1038 hl (k := 0) rfl (iI_add _ _) (by decide) rfl (fun ls hl => ?_)
        refine lv_goto (tgt := 18) hx hb dL_law_1041 (by decide) ?_
        exact ih (z + 6) u (by omega) (by omega) inv H locs hI ls hl
      refine lv_aload_n hx hb dL_law_27 rfl (lv_at hl 3 rfl) ?_
      refine lv_iload_n hx hb dL_law_28 rfl (lv_at hl 0 rfl) ?_
      refine r_sld C hX hbl hg hI (by omega) hL dL_law_29 ?_
      refine lv_bipush (v := iI 31) hx hb dL_law_30 (by decide +kernel) ?_
      refine lv_iand hx hb dL_law_32 ?_
      refine r_of ?_
      refine r_nm (fun w ew => ?_)
      have hw : -2147483648 ≤ w ∧ w < 2147483648 := by rw [ew]; exact ⟨Int32.le_toInt _, Int32.toInt_lt _⟩
      clear ew
      refine r_tsw hx hb hw dL_law_33 (by decide) (fun j hj cj => ?_) (fun cj => ?_)
      · clear cj
        match j, hj with
        | 0, _ =>
          refine W.eq (g2 := F0 m 164 ls []) rfl ?_
          exact law_write C hX hbl hg hL hcs inv ⟨hz.1, by omega⟩ hI hl K
        | 1, _ =>
          refine W.eq (g2 := F0 m 187 ls []) rfl ?_
          exact law_wipe C hX hbl hg hL hcs inv ⟨hz.1, by omega⟩ hI hl K
        | 2, _ =>
          refine W.eq (g2 := F0 m 200 ls []) rfl ?_
          exact law_fault C hX hbl hg hL hcs inv ⟨hz.1, by omega⟩ hI hl K
        | 3, _ =>
          refine W.eq (g2 := F0 m 213 ls []) rfl ?_
          exact law_desk C hX hbl hg hL hcs inv ⟨hz.1, by omega⟩ hI hl K
        | 4, _ =>
          refine W.eq (g2 := F0 m 226 ls []) rfl ?_
          exact law_about C hX hbl hg hL hcs inv ⟨hz.1, by omega⟩ hI hl K
        | 5, _ =>
          refine W.eq (g2 := F0 m 249 ls []) rfl ?_
          exact law_person C hX hbl hg hL hcs inv ⟨hz.1, by omega⟩ hI hl K
        | 6, _ =>
          refine W.eq (g2 := F0 m 282 ls []) rfl ?_
          exact law_glove C hX hbl hg hL hcs inv ⟨hz.1, by omega⟩ hI hl K
        | 7, _ =>
          refine W.eq (g2 := F0 m 315 ls []) rfl ?_
          exact law_wear C hX hbl hg hL hcs inv ⟨hz.1, by omega⟩ hI hl K
        | 8, _ =>
          refine W.eq (g2 := F0 m 348 ls []) rfl ?_
          exact law_takeOff C hX hbl hg hL hcs inv ⟨hz.1, by omega⟩ hI hl K
        | 9, _ =>
          refine W.eq (g2 := F0 m 371 ls []) rfl ?_
          exact law_wash C hX hbl hg hL hcs inv ⟨hz.1, by omega⟩ hI hl K
        | 10, _ =>
          refine W.eq (g2 := F0 m 394 ls []) rfl ?_
          exact law_day C hX hbl hg hL hcs inv ⟨hz.1, by omega⟩ hI hl K
        | 11, _ =>
          refine W.eq (g2 := F0 m 407 ls []) rfl ?_
          exact law_undo C hX hbl hg hL hcs inv ⟨hz.1, by omega⟩ hI hl K
        | 12, _ =>
          refine W.eq (g2 := F0 m 420 ls []) rfl ?_
          exact law_does C hX hbl hg hL hcs inv ⟨hz.1, by omega⟩ hI hl K
        | 13, _ =>
          refine W.eq (g2 := F0 m 463 ls []) rfl ?_
          exact law_comes C hX hbl hg hL hcs inv ⟨hz.1, by omega⟩ hI hl K
        | 14, _ =>
          refine W.eq (g2 := F0 m 506 ls []) rfl ?_
          exact law_rounds C hX hbl hg hL hcs inv ⟨hz.1, by omega⟩ hI hl K
        | 15, _ =>
          refine W.eq (g2 := F0 m 539 ls []) rfl ?_
          exact law_givesAway C hX hbl hg hL hcs inv ⟨hz.1, by omega⟩ hI hl K
        | 16, _ =>
          refine W.eq (g2 := F0 m 562 ls []) rfl ?_
          exact law_leftBy C hX hbl hg hL hcs inv ⟨hz.1, by omega⟩ hI hl K
        | 17, _ =>
          refine W.eq (g2 := F0 m 595 ls []) rfl ?_
          exact law_washes C hX hbl hg hL hcs inv ⟨hz.1, by omega⟩ hI hl K
        | 18, _ =>
          refine W.eq (g2 := F0 m 628 ls []) rfl ?_
          exact law_both C hX hbl hg hL hcs inv ⟨hz.1, by omega⟩ hI hl K
        | 19, _ =>
          refine W.eq (g2 := F0 m 661 ls []) rfl ?_
          exact law_either C hX hbl hg hL hcs inv ⟨hz.1, by omega⟩ hI hl K
        | 20, _ =>
          refine W.eq (g2 := F0 m 694 ls []) rfl ?_
          exact law_see C hX hbl hg hL hcs inv ⟨hz.1, by omega⟩ hI hl K
        | 21, _ =>
          refine W.eq (g2 := F0 m 737 ls []) rfl ?_
          exact law_unsee C hX hbl hg hL hcs inv ⟨hz.1, by omega⟩ hI hl K
        | 22, _ =>
          refine W.eq (g2 := F0 m 750 ls []) rfl ?_
          exact law_wore C hX hbl hg hL hcs inv ⟨hz.1, by omega⟩ hI hl K
        | 23, _ =>
          refine W.eq (g2 := F0 m 783 ls []) rfl ?_
          exact law_bids C hX hbl hg hL hcs inv ⟨hz.1, by omega⟩ hI hl K
        | 24, _ =>
          refine W.eq (g2 := F0 m 836 ls []) rfl ?_
          exact law_lost C hX hbl hg hL hcs inv ⟨hz.1, by omega⟩ hI hl K
        | 25, _ =>
          refine W.eq (g2 := F0 m 915 ls []) rfl ?_
          exact law_seed C hX hbl hg hL hcs inv ⟨hz.1, by omega⟩ hI hl K
        | 26, _ =>
          refine W.eq (g2 := F0 m 969 ls []) rfl ?_
          exact law_weeks C hX hbl hg hL hcs inv ⟨hz.1, by omega⟩ hI hl K
        | 27, _ =>
          refine W.eq (g2 := F0 m 992 ls []) rfl ?_
          exact law_keep C hX hbl hg hL hcs inv ⟨hz.1, by omega⟩ hI hl K
        | 28, _ =>
          refine W.eq (g2 := F0 m 1015 ls []) rfl ?_
          exact law_again C hX hbl hg hL hcs inv ⟨hz.1, by omega⟩ hI hl K
        | n + 29, h9 => exact absurd h9 (show ¬ n + 29 < 29 by omega)
      · refine W.eq (g2 := F0 m 1038 ls []) rfl ?_
        exact K M H locs inv hI
