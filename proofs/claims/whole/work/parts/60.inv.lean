
/-! WHAT HOLDS between the calls of both -/
theorem WF_eq {A u : Mem} (h : ∀ c : Nat, c ≠ 14 → (c < 18 ∨ 31 < c) → u c = A c) (wf : WF A) : WF u :=
  WF_fr wf (fun c hc => h c (by omega) (by omega)) (VM_eq (WF_now32 wf) (h _ (by decide) (by decide)) (h _ (by decide) (by decide)) (h _ (by decide) (by decide)) (h _ (by decide) (by decide)))
theorem RM_eq {A u M : Mem} (hA : ∀ c : Nat, c ≠ 14 → (c < 18 ∨ 31 < c) → u c = A c) (hG : A 3 7 ≤ 4) (r : RM A M) : RM u M := by
  obtain ⟨r1, r2, r3, r4, r5, r6, r7⟩ := r
  have h3 := hA 3 (by decide) (by decide)
  refine ⟨RT_fr r1 (hA 1 (by decide) (by decide)) (hA 2 (by decide) (by decide)) rfl rfl, RP_fr r2 (fun c h1 h2 => hA c (by omega) (by omega)) rfl rfl rfl rfl, PG_fr r3 hG h3 (hA 32 (by decide) (by decide)) (hA 33 (by decide) (by decide)) (hA 34 (by decide) (by decide)), RA_fr r4 hG h3 (hA 15 (by decide) (by decide)) (fun c h1 h2 => hA c (by omega) (by omega)) rfl rfl, RK_fr r5 hG h3 (fun c h1 h2 => hA c (by omega) (by omega)) rfl rfl, RS_fr r6 (fun c h1 h2 => hA c (by omega) (by omega)) (fun _ _ _ => rfl) rfl, ?_⟩
  rw [hA 0 (by decide) (by decide)]; exact r7
theorem RM_cls {A M u : Mem} (g : ∀ c : Nat, 18 ≤ c → c ≤ 31 → u c = M c) (r : RM A M) : RM A u := by
  unfold RM RT RP RA RK RS at r ⊢
  rw [g 18 (by decide) (by decide), g 19 (by decide) (by decide), g 20 (by decide) (by decide), g 21 (by decide) (by decide), g 24 (by decide) (by decide), g 26 (by decide) (by decide), g 27 (by decide) (by decide), g 28 (by decide) (by decide), g 29 (by decide) (by decide), g 30 (by decide) (by decide), g 31 (by decide) (by decide)]
  exact r
theorem inv_step {M1 A' u : Mem} (wfA : WF A') (hM1 : ∀ c : Nat, c ≠ 14 → M1 c = A' c) (q : QC M1 u) (r : RM A' u) : WF u ∧ RM u u := by
  have h : ∀ c : Nat, c ≠ 14 → (c < 18 ∨ 31 < c) → u c = A' c := fun c a b => (q c b).trans (hM1 c a)
  exact ⟨WF_eq h wfA, RM_eq h wfA.2.2.1.2.2 r⟩
theorem cl_Wr (M : Mem) (v : Int) : ∀ c : Nat, 18 ≤ c → c ≤ 31 → gWr M v c = M c := fun c h1 h2 => by
  unfold gWr
  split
  · rfl
  · split
    · rfl
    · rw [mset_n _ _ _ (by omega), mset_n _ _ _ (by omega)]
theorem cl_Dsk (M : Mem) : ∀ c : Nat, 18 ≤ c → c ≤ 31 → gDsk M c = M c := fun c h1 h2 => by
  unfold gDsk
  split
  · exact dsk_n (by omega) (by omega) (by omega) (by omega)
  · rfl
theorem cl_Wea (M : Mem) (x y : Int) : ∀ c : Nat, 18 ≤ c → c ≤ 31 → gWea M x y c = M c := fun c h1 h2 => by
  unfold gWea
  split
  · rfl
  · split
    · rfl
    · rw [mset_n _ _ _ (by omega)]; exact aAdd_n (by omega) (by omega)
theorem cl_Tak (M : Mem) (x : Int) : ∀ c : Nat, 18 ≤ c → c ≤ 31 → gTak M x c = M c := fun c h1 h2 => by
  unfold gTak
  split
  · rfl
  · split
    · rfl
    · rw [ldM_n (by omega) (by omega)]; exact aAdd_n (by omega) (by omega)
theorem cl_Wsh (M : Mem) (x : Int) : ∀ c : Nat, 18 ≤ c → c ≤ 31 → gWsh M x c = M c := fun c h1 h2 => by
  unfold gWsh
  split
  · rfl
  · split
    · rfl
    · rw [mset_n _ _ _ (by omega)]; exact aAdd_n (by omega) (by omega)
theorem cl_Day (M : Mem) : ∀ c : Nat, 18 ≤ c → c ≤ 31 → gDay M c = M c := fun c h1 h2 => by
  unfold gDay
  rw [mset_n _ _ _ (by omega), dyM_n _ (by omega) (by omega)]; exact aAdd_n (by omega) (by omega)
theorem cl_Und (M : Mem) : ∀ c : Nat, 18 ≤ c → c ≤ 31 → gUnd M c = M c := fun c h1 h2 => by
  unfold gUnd
  split
  · rfl
  · unfold aBack
    rw [cpM_n (by omega), mset_n _ _ _ (by omega)]
theorem cl_Uns (M : Mem) : ∀ c : Nat, 18 ≤ c → c ≤ 31 → gUns M c = M c := fun c h1 h2 => mset_n _ _ _ (by omega)
theorem cl_See (M : Mem) (x y dd : Int) : ∀ c : Nat, 18 ≤ c → c ≤ 31 → gSee M x y dd c = M c := fun c h1 h2 => by
  unfold gSee
  split
  · rfl
  · split
    · rfl
    · split
      · rfl
      · rw [mset_n _ _ _ (by omega), mset_n _ _ _ (by omega), mset_n _ _ _ (by omega), mset_n _ _ _ (by omega)]
theorem cl_Wek (M : Mem) (v : Int) : ∀ c : Nat, 18 ≤ c → c ≤ 31 → gWek M v c = M c := fun c h1 h2 => by
  unfold gWek
  split
  · rfl
  · rw [wkM_n _ (by omega) (by omega), cpM_n (by omega)]
theorem cl_Kee (M : Mem) (v : Int) : ∀ c : Nat, 18 ≤ c → c ≤ 31 → gKee M v c = M c := fun c h1 h2 => by
  unfold gKee
  split
  · rfl
  · rename_i h
    have hv := (sltO_b (v := v) (by omega)).2
    exact cpM_n (by omega)
theorem cl_Aga (M : Mem) (v : Int) : ∀ c : Nat, 18 ≤ c → c ≤ 31 → gAga M v c = M c := fun c h1 h2 => by
  unfold gAga
  split
  · rfl
  · split
    · rfl
    · rw [mset_n _ _ _ (by omega), cpM_n (by omega)]
theorem cl_Wip (M : Mem) : ∀ c : Nat, 18 ≤ c → c ≤ 31 → mset M 1 1 0 c = M c := fun c h1 h2 => mset_n _ _ _ (by omega)
theorem cl_Sed (M : Mem) (v : Int) : ∀ c : Nat, 18 ≤ c → c ≤ 31 → mset M 0 8 v c = M c := fun c h1 h2 => mset_n _ _ _ (by omega)
theorem M0_z {c : Nat} (h : c ≠ 14) (h2 : ¬ (32 ≤ c ∧ c % 3 = 1)) (j : Int) : M0 c j = 0 := by
  unfold M0
  rw [if_neg h, if_neg h2]
theorem M0_w {c : Nat} (h2 : 32 ≤ c ∧ c % 3 = 1) (j : Int) : M0 c j = -9 := by
  unfold M0
  rw [if_neg (by omega), if_pos h2]
theorem inv_0 : WF M0 ∧ RM M0 M0 := by
  have z : ∀ (c : Nat) (j : Int), c ≠ 14 → c < 32 → M0 c j = 0 := fun c j a b => M0_z a (by omega) j
  have e37 := z 3 7 (by decide) (by decide)
  have e36 := z 3 6 (by decide) (by decide)
  refine ⟨⟨?_, fun j => ?_, ?_, fun q hq => ?_, fun q hq => ?_, ⟨fun q hq => ?_, fun q r hq hr e => ?_⟩, ?_, fun k hk => ?_, ⟨Or.inl (M0_z (by decide) (by decide) _), Or.inl (M0_z (by decide) (by decide) _)⟩, ?_, fun k hk => ?_⟩, ?_⟩
  · rw [z 1 1 (by decide) (by decide)]; decide
  · rw [z 2 j (by decide) (by decide)]; decide
  · rw [e36, e37]; decide
  · rw [e36] at hq; omega
  · rw [e37] at hq; omega
  · rw [e37, M0_z (c := 32 + 1) (by decide) (by decide), M0_w (c := 32 + 2) (by decide)]
    exact ⟨by decide, Or.inl rfl, fun h => by omega⟩
  · rw [M0_w (c := 32 + 2) (by decide)]; exact Or.inl rfl
  · rw [z 15 1 (by decide) (by decide), z 15 2 (by decide) (by decide)]; decide
  · rw [z 15 2 (by decide) (by decide)] at hk; omega
  · rw [z 10 3 (by decide) (by decide)]; decide
  · rw [z 10 3 (by decide) (by decide)] at hk; omega
  · refine ⟨⟨rfl, fun j => ?_⟩, ⟨⟨rfl, rfl⟩, fun q => ?_, fun q => ?_⟩, ⟨fun q hq => ?_, ?_⟩, ⟨rfl, fun k hk => ?_⟩, fun v hv => ?_, ⟨rfl, fun k => ?_⟩, rfl⟩
    · rw [z 19 j (by decide) (by decide), z 2 j (by decide) (by decide)]
    · exact ⟨(z _ _ (by decide) (by decide)).trans (z _ _ (by decide) (by decide)).symm, (z _ _ (by decide) (by decide)).trans (z _ _ (by decide) (by decide)).symm, (z _ _ (by decide) (by decide)).trans (z _ _ (by decide) (by decide)).symm⟩
    · exact ⟨(z _ _ (by decide) (by decide)).trans (z _ _ (by decide) (by decide)).symm, (z _ _ (by decide) (by decide)).trans (z _ _ (by decide) (by decide)).symm, (z _ _ (by decide) (by decide)).trans (z _ _ (by decide) (by decide)).symm⟩
    · rw [e37] at hq; omega
    · rw [z 24 _ (by decide) (by decide), M0_z (c := 32) (by decide) (by decide)]
    · rw [z 15 2 (by decide) (by decide)] at hk; omega
    · have hs := (sltO_b hv).2
      have e : M0 (sltO v) 3 = 0 := M0_z (by omega) (by omega) _
      rw [e, z 28 v (by decide) (by decide)]
      exact ⟨rfl, fun q => absurd q (by decide)⟩
    · rw [z 29 k (by decide) (by decide), z 30 k (by decide) (by decide), z 31 k (by decide) (by decide), z 11 k (by decide) (by decide), z 12 k (by decide) (by decide), z 13 k (by decide) (by decide)]; exact ⟨rfl, rfl, rfl⟩
/-! THE LAW'S OWN ROWS -/
/-- the script's places -/
def scX (xs : Nat → Int32) (t : Int) : Int := (xs t.toNat).toInt
theorem scX_R (xs : Nat → Int32) (t : Int) : -2147483648 ≤ scX xs t ∧ scX xs t < 2147483648 := by
  have h1 := Int32.le_toInt (xs t.toNat)
  have h2 := Int32.toInt_lt (xs t.toNat)
  exact ⟨h1, h2⟩
section LROWS
variable {p : Program} {l : Launch} {e : Env} {R : Room} {s : State} {m : MethodId} {args : Array Value} {below : List Frame} {meth : Method} {c : Code} {H : Heap} {locs : List Loc} {cells slots : Nat} {Q : State → Prop}
variable {cc : ByteArray} {pc : Nat} {ls : Array Slot} {rest : List Value} {nL : Nat} {Ts : List Cond} {own : String} {g : GT} {M : Mem} {b L : Nat} {xs : Nat → Int32}
theorem r_sld (C : CallFix p m c cc nL s args Ts own) (hX : va_X b L xs s s.heap) (hbl : b < s.heap.size) (hg : gB g = s.heap.size) (hI : HI g s H locs M) {z : Int} (hz : 0 ≤ z ∧ z < L) (hL : L ≤ 3072) (hdg : decode cc pc = .ok (.iaload, 1))
    (kk : W p l e R s m args below meth c H locs cells slots Q (F0 m (pc + 1) ls (.int (iI (scX xs z)) :: rest))) : W p l e R s m args below meth c H locs cells slots Q (F0 m pc ls (.int (iI z) :: .ref b :: rest)) := by
  refine va_sld (A := AA g) C.1 C.2.1 hX hbl (fun q => absurd hbl (by have q : gB g ≤ b := q; omega)) hI.2.2.2.1 (iI_in hz (by omega)) hdg ?_
  rw [iI_N (by omega), ← iI_of (xs z.toNat)]
  exact kk
theorem r_slen (C : CallFix p m c cc nL s args Ts own) (hX : va_X b L xs s s.heap) (hbl : b < s.heap.size) (hg : gB g = s.heap.size) (hI : HI g s H locs M) (hdg : decode cc pc = .ok (.arraylength, 1))
    (kk : W p l e R s m args below meth c H locs cells slots Q (F0 m (pc + 1) ls (.int (iI (L : Int)) :: rest))) : W p l e R s m args below meth c H locs cells slots Q (F0 m pc ls (.ref b :: rest)) := by
  refine va_slen (A := AA g) C.1 C.2.1 hX hbl (fun q => absurd hbl (by have q : gB g ≤ b := q; omega)) hI.2.2.2.1 hdg ?_
  rw [iI_nI] at kk
  exact kk
theorem r_of {x : Int32} (k : W p l e R s m args below meth c H locs cells slots Q (F0 m pc ls (.int (iI x.toInt) :: rest))) : W p l e R s m args below meth c H locs cells slots Q (F0 m pc ls (.int x :: rest)) := by
  rw [iI_of] at k; exact k
theorem r_ofL {x : Int64} (k : W p l e R s m args below meth c H locs cells slots Q (F0 m pc ls (.long (iL x.toInt) :: rest))) : W p l e R s m args below meth c H locs cells slots Q (F0 m pc ls (.long x :: rest)) := by
  rw [iL_of] at k; exact k
end LROWS
