
/-! THE TEXT as the reference reads it -/
abbrev rgB (a b : Int) (r : Int → Int) (p : Int) : Prop := a ≤ r p - 48 ∧ r p - 48 ≤ b
/-- one figure is read, or not -/
def FG (a b : Int) (M : Mem) (z : Int) (u : Mem) : Prop := (∀ c : Nat, c ≠ 18 → u c = M c) ∧ (∀ q : Int, q ≠ 3 → u 18 q = M 18 q) ∧ ((z = -9 ∧ u 18 3 = M 18 3 ∧ (M 18 3 = M 18 2 ∨ ¬ rgB a b (M 19) (M 18 3))) ∨ (z = M 19 (M 18 3) - 48 ∧ u 18 3 = M 18 3 + 1 ∧ ¬ M 18 3 = M 18 2 ∧ rgB a b (M 19) (M 18 3)))
/-- i figures have been read into the cell C -/
def SG (C : Nat) (i : Int) (M N : Mem) : Prop := (∀ c : Nat, c ≠ 18 → c ≠ C → N c = M c) ∧ (∀ q : Int, q ≠ 3 → N 18 q = M 18 q) ∧ N 18 3 = M 18 3 + i
theorem SG_0 (C : Nat) (M : Mem) : SG C 0 M M := ⟨fun _ _ _ => rfl, fun _ _ => rfl, (Int.add_zero _).symm⟩
theorem SG_m {C : Nat} {i : Int} {M N : Mem} {k z : Int} (s : SG C i M N) (hC : C ≠ 18) : SG C i M (mset N C k z) := by
  obtain ⟨h1, h2, h3⟩ := s
  refine ⟨fun c a b => by rw [mset_n _ _ _ b]; exact h1 c a b, fun q a => by rw [mset_n _ _ _ (Ne.symm hC)]; exact h2 q a, by rw [mset_n _ _ _ (Ne.symm hC)]; exact h3⟩
theorem FG_s {a b z i : Int} {M N u : Mem} {C : Nat} (h : FG a b N z u) (s : SG C i M N) (hC : C ≠ 18 ∧ C ≠ 19) : (∀ c : Nat, c ≠ 18 → c ≠ C → u c = M c) ∧ (∀ q : Int, q ≠ 3 → u 18 q = M 18 q) ∧ u C = N C ∧ ((z = -9 ∧ u 18 3 = M 18 3 + i ∧ (M 18 3 + i = M 18 2 ∨ ¬ rgB a b (M 19) (M 18 3 + i))) ∨ (z = M 19 (M 18 3 + i) - 48 ∧ u 18 3 = M 18 3 + i + 1 ∧ ¬ M 18 3 + i = M 18 2 ∧ rgB a b (M 19) (M 18 3 + i))) := by
  obtain ⟨h1, h2, h3⟩ := h
  obtain ⟨s1, s2, s3⟩ := s
  rw [s3, s2 2 (by decide), s1 19 (by decide) (Ne.symm hC.2)] at h3
  exact ⟨fun c x y => (h1 c x).trans (s1 c x y), fun q x => (h2 q x).trans (s2 q x), h1 C hC.1, h3⟩
/-- three figures are read into the places of number cnt, or not -/
def RDo (l1 h1 l2 h2 l3 h3 p n cnt : Int) (r old new : Int → Int) (z p' cnt' : Int) : Prop :=
  (z = 1 ∧ p' = p + 3 ∧ p + 2 < n ∧ cnt' = cnt + 1 ∧ (rgB l1 h1 r p ∧ rgB l2 h2 r (p + 1) ∧ rgB l3 h3 r (p + 2)) ∧ (new (3 * cnt) = r p - 48 ∧ new (3 * cnt + 1) = r (p + 1) - 48 ∧ new (3 * cnt + 2) = r (p + 2) - 48) ∧ ∀ j : Int, ¬ (3 * cnt ≤ j ∧ j < 3 * cnt + 3) → new j = old j)
  ∨ (z = 0 ∧ ((p' = p ∧ (p = n ∨ ¬ rgB l1 h1 r p)) ∨ (p' = p + 1 ∧ p < n ∧ rgB l1 h1 r p ∧ (p + 1 = n ∨ ¬ rgB l2 h2 r (p + 1))) ∨ (p' = p + 2 ∧ p + 1 < n ∧ rgB l1 h1 r p ∧ rgB l2 h2 r (p + 1) ∧ (p + 2 = n ∨ ¬ rgB l3 h3 r (p + 2)))))
def RD (k8 : Int) (C : Nat) (l1 h1 l2 h2 l3 h3 : Int) (M : Mem) (z : Int) (u : Mem) : Prop := (∀ c : Nat, c ≠ 18 → c ≠ C → u c = M c) ∧ (∀ q : Int, q ≠ 3 → q ≠ k8 → u 18 q = M 18 q) ∧ RDo l1 h1 l2 h2 l3 h3 (M 18 3) (M 18 2) (M 18 k8) (M 19) (M C) (u C) z (u 18 3) (u 18 k8)
theorem RD_z {k8 l1 h1 l2 h2 l3 h3 z : Int} {C : Nat} {M u : Mem} (h : RD k8 C l1 h1 l2 h2 l3 h3 M z u) : z = 0 ∨ z = 1 := h.2.2.elim (fun q => Or.inr q.1) (fun q => Or.inl q.1)
theorem rd_ok {k8 : Int} {C : Nat} {M M1 M2 M3 : Mem} {z1 z2 z3 l1 h1 l2 h2 l3 h3 : Int} (hC : C ≠ 18) (hk : k8 ≠ 3) (a3 : ∀ c : Nat, c ≠ 18 → c ≠ C → M3 c = M c) (b1 : ∀ q : Int, q ≠ 3 → M1 18 q = M 18 q) (b2 : ∀ q : Int, q ≠ 3 → M2 18 q = M 18 q) (b3 : ∀ q : Int, q ≠ 3 → M3 18 q = M 18 q)
    (x1 : M1 C = M C) (x2 : M2 C = mset M1 C (3 * M1 18 k8 + 0) z1 C) (x3 : M3 C = mset M2 C (3 * M2 18 k8 + 1) z2 C) (p3 : M3 18 3 = M 18 3 + 2 + 1) (n3 : M 18 3 + 2 < M 18 2)
    (r1 : rgB l1 h1 (M 19) (M 18 3)) (r2 : rgB l2 h2 (M 19) (M 18 3 + 1)) (r3 : rgB l3 h3 (M 19) (M 18 3 + 2)) (v1 : z1 = M 19 (M 18 3) - 48) (v2 : z2 = M 19 (M 18 3 + 1) - 48) (v3 : z3 = M 19 (M 18 3 + 2) - 48) : RD k8 C l1 h1 l2 h2 l3 h3 M 1 (mset (mset M3 C (3 * M3 18 k8 + 2) z3) 18 k8 (M3 18 k8 + 1)) := by
  have U : ∀ j : Int, mset (mset M3 C (3 * M3 18 k8 + 2) z3) 18 k8 (M3 18 k8 + 1) C j = if j = 3 * M 18 k8 + 2 then z3 else if j = 3 * M 18 k8 + 1 then z2 else if j = 3 * M 18 k8 then z1 else M C j := by
    intro j
    rw [mset_n _ _ _ hC, mset_s, x3, mset_s, x2, mset_s, x1, b1 k8 hk, b2 k8 hk, b3 k8 hk, Int.add_zero]
    rfl
  refine ⟨fun c a b => by rw [mset_n _ _ _ a, mset_n _ _ _ b]; exact a3 c a b, fun q a b => by rw [mset_s, rw1_n _ _ b, mset_n _ _ _ (Ne.symm hC)]; exact b3 q a, Or.inl ⟨rfl, ?_, n3, ?_, ⟨r1, r2, r3⟩, ⟨?_, ?_, ?_⟩, fun j hj => ?_⟩⟩
  · rw [mset_s, rw1_n _ _ (Ne.symm hk), mset_n _ _ _ (Ne.symm hC)]; omega
  · rw [mset_s, rw1_s, b3 k8 hk]
  · rw [U, if_neg (by omega), if_neg (by omega), if_pos rfl, v1]
  · rw [U, if_neg (by omega), if_pos rfl, v2]
  · rw [U, if_pos rfl, v3]
  · rw [U, if_neg (by omega), if_neg (by omega), if_neg (by omega)]
/-- a part is read, or not -/
def RPT (M : Mem) (z : Int) (u : Mem) : Prop := (M 19 (M 18 3) = 80 ∧ M 18 8 < 5 ∧ RD 8 22 1 7 1 7 0 9 (mset M 18 3 (M 18 3 + 1)) z u) ∨ (M 19 (M 18 3) = 76 ∧ M 18 9 < 4 ∧ RD 9 23 1 3 0 3 0 7 (mset M 18 3 (M 18 3 + 1)) z u) ∨ (¬ (M 19 (M 18 3) = 80 ∧ M 18 8 < 5) ∧ ¬ (M 19 (M 18 3) = 76 ∧ M 18 9 < 4) ∧ z = 0 ∧ u = mset (mset M 18 3 (M 18 3 + 1)) 18 3 (M 18 3 + 1 - 1))
theorem RPT_z {z : Int} {M u : Mem} (h : RPT M z u) : z = 0 ∨ z = 1 := h.elim (fun q => RD_z q.2.2) (fun h => h.elim (fun q => RD_z q.2.2) (fun q => Or.inl q.2.2.1))
theorem ff_adv {r : Int → Int} : ∀ (i k : Nat) (p : Int), (∀ q : Nat, q < i → fitB r (p + (q : Int)) = true) → ffO r (i + k) p = ffO r k (p + (i : Int))
  | 0, k, p, _ => by
    rw [Nat.zero_add, show p + ((0 : Nat) : Int) = p by omega]
  | i + 1, k, p, h => by
    have h0 := h 0 (by omega)
    rw [show p + ((0 : Nat) : Int) = p by omega] at h0
    rw [show i + 1 + k = (i + k) + 1 by omega, ffO_1 h0, ff_adv i k (p + 1) (fun q hq => by
      have h9 := h (q + 1) (by omega)
      rw [show p + ((q + 1 : Nat) : Int) = p + 1 + (q : Int) by omega] at h9
      exact h9)]
    congr 1
    omega
theorem flt_at {A : Mem} {x : Int} (h0 : 0 ≤ x ∧ x ≤ A 1 1) (h : ∀ t : Int, 0 ≤ t ∧ t < x → fitB (A 2) t = true) : fltO A = ffO (A 2) (A 1 1 - x).toNat x := by
  have e := ff_adv (r := A 2) x.toNat (A 1 1 - x).toNat 0 (fun q hq => by rw [Int.zero_add]; exact h _ ⟨by omega, by omega⟩)
  unfold fltO
  rw [show (A 1 1).toNat = x.toNat + (A 1 1 - x).toNat by omega, e, Int.zero_add, Int.toNat_of_nonneg h0.1]
theorem flt_bad {A : Mem} {x : Int} (h0 : 0 ≤ x ∧ x < A 1 1) (h : ∀ t : Int, 0 ≤ t ∧ t < x → fitB (A 2) t = true) (hb : ¬ fitB (A 2) x = true) : fltO A = x := by
  rw [flt_at ⟨h0.1, by omega⟩ h, show (A 1 1 - x).toNat = ((A 1 1 - x).toNat - 1) + 1 by omega, ffO_2 hb]
theorem flt_end {A : Mem} {x : Int} (h0 : 0 ≤ x ∧ x = A 1 1) (h : ∀ t : Int, 0 ≤ t ∧ t < x → fitB (A 2) t = true) : fltO A = if 0 < x ∧ (x - 1) % 4 = 0 then -9 else x := by
  rw [flt_at ⟨h0.1, by omega⟩ h, show (A 1 1 - x).toNat = 0 by omega]
  rfl
theorem fit_P {r : Int → Int} {t i : Int} (ht : 1 ≤ t ∧ (t - 1) % 4 = 0) (h : r t = 80) (hi : 1 ≤ i ∧ i ≤ 3) : fitB r (t + i) = true ↔ rgB (stV 0 (i - 1)) (stV 2 (i - 1)) r (t + i) := by
  unfold fitB
  rw [if_neg (by omega), if_neg (by omega), show (t + i - 1) % 4 = i by omega, show t + i - i = t by omega, if_pos h, decide_eq_true_eq]
theorem fit_L {r : Int → Int} {t i : Int} (ht : 1 ≤ t ∧ (t - 1) % 4 = 0) (h : r t = 76) (hi : 1 ≤ i ∧ i ≤ 3) : fitB r (t + i) = true ↔ rgB (stV 1 (i - 1)) (stV 3 (i - 1)) r (t + i) := by
  unfold fitB
  rw [if_neg (by omega), if_neg (by omega), show (t + i - 1) % 4 = i by omega, show t + i - i = t by omega, if_neg (by omega), decide_eq_true_eq]
theorem fit_head {r : Int → Int} {j : Nat} : fitB r (1 + 4 * (j : Int)) = true ↔ (r (1 + 4 * (j : Int)) = 80 ∧ cntP r 80 j < 5) ∨ (r (1 + 4 * (j : Int)) = 76 ∧ cntP r 76 j < 4) := by
  unfold fitB
  rw [if_neg (by omega), if_pos (by omega), show ((1 + 4 * (j : Int) - 1) / 4).toNat = j by omega]
  simp
theorem cnt_le {r : Int → Int} : ∀ j : Nat, (∀ t : Int, 0 ≤ t ∧ t < 1 + 4 * (j : Int) → fitB r t = true) → cntP r 80 j ≤ 5 ∧ cntP r 76 j ≤ 4
  | 0, _ => ⟨by show (0 : Int) ≤ 5; decide, by show (0 : Int) ≤ 4; decide⟩
  | j + 1, h => by
    have ih := cnt_le j (fun t ht => h t (by omega))
    have hp := fit_part (h (1 + 4 * (j : Int)) (by omega))
    unfold cntP
    (repeat' split) <;> omega
theorem part_bad {A : Mem} {t l1 h1 l2 h2 l3 h3 cnt z p' cnt' : Int} {old new : Int → Int} (ht : 1 ≤ t ∧ (t - 1) % 4 = 0 ∧ t < A 1 1) (hf : ∀ q : Int, 0 ≤ q ∧ q < t + 1 → fitB (A 2) q = true) (f1 : fitB (A 2) (t + 1) = true ↔ rgB l1 h1 (A 2) (t + 1)) (f2 : fitB (A 2) (t + 2) = true ↔ rgB l2 h2 (A 2) (t + 2)) (f3 : fitB (A 2) (t + 3) = true ↔ rgB l3 h3 (A 2) (t + 3)) (hz : z = 0) (h : RDo l1 h1 l2 h2 l3 h3 (t + 1) (A 1 1) cnt (A 2) old new z p' cnt') : fltO A = p' := by
  have st : ∀ x : Int, t < x → x ≤ t + 3 → (∀ q : Int, 0 ≤ q ∧ q < x → fitB (A 2) q = true) → (x = A 1 1 ∨ (x < A 1 1 ∧ ¬ fitB (A 2) x = true)) → fltO A = x := by
    intro x hx1 hx2 hx3 hx4
    rcases hx4 with hx4 | hx4
    · rw [flt_end ⟨by omega, hx4⟩ hx3, if_neg (by omega)]
    · exact flt_bad ⟨by omega, hx4.1⟩ hx3 hx4.2
  have up : ∀ x : Int, (∀ q : Int, 0 ≤ q ∧ q < x → fitB (A 2) q = true) → fitB (A 2) x = true → ∀ q : Int, 0 ≤ q ∧ q < x + 1 → fitB (A 2) q = true := by
    intro x hx1 hx2 q hq
    by_cases e : q = x
    · rw [e]; exact hx2
    · exact hx1 q (by omega)
  rcases h with h | ⟨_, h | h | h⟩
  · exact absurd h.1 (by omega)
  · obtain ⟨e, h⟩ := h
    rw [e]
    exact st (t + 1) (by omega) (by omega) hf (by
      by_cases c : t + 1 = A 1 1
      · exact Or.inl c
      · exact Or.inr ⟨by omega, fun q => (h.resolve_left c) (f1.mp q)⟩)
  · obtain ⟨e, h, r1, h4⟩ := h
    rw [show t + 1 + 1 = t + 2 by omega] at h4
    rw [e, show t + 1 + 1 = t + 2 by omega]
    have u1 := up (t + 1) hf (f1.mpr r1)
    rw [show t + 1 + 1 = t + 2 by omega] at u1
    exact st (t + 2) (by omega) (by omega) u1 (by
      by_cases c : t + 2 = A 1 1
      · exact Or.inl c
      · exact Or.inr ⟨by omega, fun q => (h4.resolve_left c) (f2.mp q)⟩)
  · obtain ⟨e, h, r1, r2, h4⟩ := h
    rw [show t + 1 + 1 = t + 2 by omega] at r2
    rw [show t + 1 + 2 = t + 3 by omega] at h4
    rw [e, show t + 1 + 2 = t + 3 by omega]
    have u1 := up (t + 1) hf (f1.mpr r1)
    rw [show t + 1 + 1 = t + 2 by omega] at u1
    have u2 := up (t + 2) u1 (f2.mpr r2)
    rw [show t + 2 + 1 = t + 3 by omega] at u2
    exact st (t + 3) (by omega) (by omega) u2 (by
      by_cases c : t + 3 = A 1 1
      · exact Or.inl c
      · exact Or.inr ⟨by omega, fun q => (h4.resolve_left c) (f3.mp q)⟩)
theorem part_ok {A : Mem} {t l1 h1 l2 h2 l3 h3 cnt z p' cnt' : Int} {old new : Int → Int} (hf : ∀ q : Int, 0 ≤ q ∧ q < t + 1 → fitB (A 2) q = true) (f1 : fitB (A 2) (t + 1) = true ↔ rgB l1 h1 (A 2) (t + 1)) (f2 : fitB (A 2) (t + 2) = true ↔ rgB l2 h2 (A 2) (t + 2)) (f3 : fitB (A 2) (t + 3) = true ↔ rgB l3 h3 (A 2) (t + 3)) (hz : ¬ z = 0) (h : RDo l1 h1 l2 h2 l3 h3 (t + 1) (A 1 1) cnt (A 2) old new z p' cnt') : p' = t + 4 ∧ t + 4 ≤ A 1 1 ∧ cnt' = cnt + 1 ∧ (new (3 * cnt) = A 2 (t + 1) - 48 ∧ new (3 * cnt + 1) = A 2 (t + 2) - 48 ∧ new (3 * cnt + 2) = A 2 (t + 3) - 48) ∧ (∀ j : Int, ¬ (3 * cnt ≤ j ∧ j < 3 * cnt + 3) → new j = old j) ∧ ∀ q : Int, 0 ≤ q ∧ q < t + 4 → fitB (A 2) q = true := by
  rcases h with h | h
  · obtain ⟨_, h2, h3, h4, ⟨r1, r2, r3⟩, ⟨n1, n2, n3⟩, h6⟩ := h
    rw [show t + 1 + 1 = t + 2 by omega] at r2 n2
    rw [show t + 1 + 2 = t + 3 by omega] at r3 n3
    refine ⟨by omega, by omega, h4, ⟨n1, n2, n3⟩, h6, fun q hq => ?_⟩
    by_cases c1 : q = t + 1
    · rw [c1]; exact f1.mpr r1
    · by_cases c2 : q = t + 2
      · rw [c2]; exact f2.mpr r2
      · by_cases c3 : q = t + 3
        · rw [c3]; exact f3.mpr r3
        · exact hf q (by omega)
  · exact absurd h.1 hz
/-- j parts have been read -/
def RR (A : Mem) (j : Nat) (u : Mem) : Prop := (u 18 8 = rdM A j 3 6 ∧ u 18 9 = rdM A j 3 7) ∧ (∀ q : Int, 0 ≤ q ∧ q < rdM A j 3 6 → u 22 (3 * q) = rdM A j 4 q ∧ u 22 (3 * q + 1) = rdM A j 5 q ∧ u 22 (3 * q + 2) = rdM A j 6 q) ∧ (∀ q : Int, 0 ≤ q ∧ q < rdM A j 3 7 → u 23 (3 * q) = rdM A j 7 q ∧ u 23 (3 * q + 1) = rdM A j 8 q ∧ u 23 (3 * q + 2) = rdM A j 9 q)
theorem RR_P {A N u : Mem} {j : Nat} (R : RR A j N) (h : A 2 (1 + 4 * (j : Int)) = 80) (h0 : 0 ≤ rdM A j 3 6) (e8 : u 18 8 = N 18 8 + 1) (e9 : u 18 9 = N 18 9) (e23 : u 23 = N 23) (n : u 22 (3 * N 18 8) = A 2 (1 + 4 * (j : Int) + 1) - 48 ∧ u 22 (3 * N 18 8 + 1) = A 2 (1 + 4 * (j : Int) + 2) - 48 ∧ u 22 (3 * N 18 8 + 2) = A 2 (1 + 4 * (j : Int) + 3) - 48) (o : ∀ i : Int, ¬ (3 * N 18 8 ≤ i ∧ i < 3 * N 18 8 + 3) → u 22 i = N 22 i) : RR A (j + 1) u := by
  obtain ⟨⟨R1, R2⟩, R3, R4⟩ := R
  have e : rdM A (j + 1) = adP (rdM A j) (1 + 4 * (j : Int)) := by
    show (if A 2 (1 + 4 * (j : Int)) = 80 then _ else _) = _
    rw [if_pos h]
  have e2 := (rdM_1 A j).2
  rw [R1] at n o e8
  unfold RR
  rw [e]
  unfold adP
  rw [e2]
  refine ⟨⟨?_, ?_⟩, fun q hq => ?_, fun q hq => ?_⟩
  · rw [mset_s, rw1_s]; exact e8
  · rw [mset_s, rw1_n _ _ (by decide), mset_n _ _ _ (by decide), mset_n _ _ _ (by decide), mset_n _ _ _ (by decide)]; omega
  · rw [mset_s, rw1_s] at hq
    rw [mset_n _ _ _ (by decide), mset_n _ _ _ (by decide), mset_n _ _ _ (by decide), mset_s, mset_n _ _ _ (by decide), mset_n _ _ _ (by decide), mset_s, mset_n _ _ _ (by decide), mset_n _ _ _ (by decide), mset_s, mset_n _ _ _ (by decide), mset_n _ _ _ (by decide)]
    show _ = rw1 (rdM A j 4) (rdM A j 3 6) _ q ∧ _ = rw1 (rdM A j 5) (rdM A j 3 6) _ q ∧ _ = rw1 (rdM A j 6) (rdM A j 3 6) _ q
    by_cases c : q = rdM A j 3 6
    · rw [c, rw1_s, rw1_s, rw1_s]; exact n
    · rw [rw1_n _ _ c, rw1_n _ _ c, rw1_n _ _ c, o _ (by omega), o _ (by omega), o _ (by omega)]
      exact R3 q (by omega)
  · rw [mset_s, rw1_n _ _ (by decide), mset_n _ _ _ (by decide), mset_n _ _ _ (by decide), mset_n _ _ _ (by decide)] at hq
    rw [e23]
    exact R4 q hq
theorem RR_L {A N u : Mem} {j : Nat} (R : RR A j N) (h : ¬ A 2 (1 + 4 * (j : Int)) = 80) (h0 : 0 ≤ rdM A j 3 7) (e8 : u 18 9 = N 18 9 + 1) (e9 : u 18 8 = N 18 8) (e23 : u 22 = N 22) (n : u 23 (3 * N 18 9) = A 2 (1 + 4 * (j : Int) + 1) - 48 ∧ u 23 (3 * N 18 9 + 1) = A 2 (1 + 4 * (j : Int) + 2) - 48 ∧ u 23 (3 * N 18 9 + 2) = A 2 (1 + 4 * (j : Int) + 3) - 48) (o : ∀ i : Int, ¬ (3 * N 18 9 ≤ i ∧ i < 3 * N 18 9 + 3) → u 23 i = N 23 i) : RR A (j + 1) u := by
  obtain ⟨⟨R1, R2⟩, R3, R4⟩ := R
  have e : rdM A (j + 1) = adG (rdM A j) (1 + 4 * (j : Int)) := by
    show (if A 2 (1 + 4 * (j : Int)) = 80 then _ else _) = _
    rw [if_neg h]
  have e2 := (rdM_1 A j).2
  rw [R2] at n o e8
  unfold RR
  rw [e]
  unfold adG
  rw [e2]
  refine ⟨⟨?_, ?_⟩, fun q hq => ?_, fun q hq => ?_⟩
  · rw [mset_s, rw1_n _ _ (by decide), mset_n _ _ _ (by decide), mset_n _ _ _ (by decide), mset_n _ _ _ (by decide)]; omega
  · rw [mset_s, rw1_s]; exact e8
  · rw [mset_s, rw1_n _ _ (by decide), mset_n _ _ _ (by decide), mset_n _ _ _ (by decide), mset_n _ _ _ (by decide)] at hq
    rw [e23]
    exact R3 q hq
  · rw [mset_s, rw1_s] at hq
    rw [mset_n _ _ _ (by decide), mset_n _ _ _ (by decide), mset_n _ _ _ (by decide), mset_s, mset_n _ _ _ (by decide), mset_n _ _ _ (by decide), mset_s, mset_n _ _ _ (by decide), mset_n _ _ _ (by decide), mset_s, mset_n _ _ _ (by decide), mset_n _ _ _ (by decide)]
    show _ = rw1 (rdM A j 7) (rdM A j 3 7) _ q ∧ _ = rw1 (rdM A j 8) (rdM A j 3 7) _ q ∧ _ = rw1 (rdM A j 9) (rdM A j 3 7) _ q
    by_cases c : q = rdM A j 3 7
    · rw [c, rw1_s, rw1_s, rw1_s]; exact n
    · rw [rw1_n _ _ c, rw1_n _ _ c, rw1_n _ _ c, o _ (by omega), o _ (by omega), o _ (by omega)]
      exact R4 q (by omega)
theorem rpt_fin {A N u : Mem} {z : Int} {j : Nat} (h2 : N 18 2 = A 1 1) (h19 : N 19 = A 2) (h3 : N 18 3 = 1 + 4 * (j : Int)) (hlt : 1 + 4 * (j : Int) < A 1 1) (R : RR A j N) (F : ∀ t : Int, 0 ≤ t ∧ t < 1 + 4 * (j : Int) → fitB (A 2) t = true) (h : RPT N z u) : (∀ c : Nat, c ≠ 18 → c ≠ 22 → c ≠ 23 → u c = N c) ∧ (∀ q : Int, q ≠ 3 → q ≠ 8 → q ≠ 9 → u 18 q = N 18 q) ∧ ((z = 0 ∧ fltO A = u 18 3 ∧ 0 ≤ u 18 3) ∨ (¬ z = 0 ∧ (u 18 3 = 1 + 4 * ((j + 1 : Nat) : Int) ∧ 1 + 4 * ((j + 1 : Nat) : Int) ≤ A 1 1) ∧ RR A (j + 1) u ∧ ∀ t : Int, 0 ≤ t ∧ t < 1 + 4 * ((j + 1 : Nat) : Int) → fitB (A 2) t = true)) := by
  have hd := rdM_3 A j (fun i hi => (fit_part (F (1 + 4 * (i : Int)) (by omega))).imp And.left And.left)
  have c80 := cntP_R (A 2) 80 j
  have c76 := cntP_R (A 2) 76 j
  have e8 : N 18 8 = cntP (A 2) 80 j := R.1.1.trans hd.1
  have e9 : N 18 9 = cntP (A 2) 76 j := R.1.2.trans hd.2
  have F1 : fitB (A 2) (1 + 4 * (j : Int)) = true → ∀ q : Int, 0 ≤ q ∧ q < 1 + 4 * (j : Int) + 1 → fitB (A 2) q = true := fun hh q hq => by
    by_cases e : q = 1 + 4 * (j : Int)
    · rw [e]; exact hh
    · exact F q (by omega)
  have s1 : (1 : Int) + 4 * (j : Int) + 4 = 1 + 4 * ((j + 1 : Nat) : Int) := by omega
  unfold RPT at h
  rw [h3, h19] at h
  rcases h with ⟨g1, g2, g3, g4, g5⟩ | ⟨g1, g2, g3, g4, g5⟩ | ⟨g1, g2, g3, g4⟩
  · refine ⟨fun c a b _ => by rw [g3 c a b, mset_n _ _ _ a], fun q a b _ => by rw [g4 q a b, mset_s, rw1_n _ _ a], ?_⟩
    have k1 : mset N 18 3 (1 + 4 * (j : Int) + 1) 18 3 = 1 + 4 * (j : Int) + 1 := by rw [mset_s, rw1_s]
    have k2 : mset N 18 3 (1 + 4 * (j : Int) + 1) 18 2 = A 1 1 := by rw [mset_s, rw1_n _ _ (by decide), h2]
    have k8 : mset N 18 3 (1 + 4 * (j : Int) + 1) 18 8 = N 18 8 := by rw [mset_s, rw1_n _ _ (by decide)]
    have k19 : mset N 18 3 (1 + 4 * (j : Int) + 1) 19 = A 2 := by rw [mset_n _ _ _ (by decide), h19]
    have k22 : mset N 18 3 (1 + 4 * (j : Int) + 1) 22 = N 22 := by rw [mset_n _ _ _ (by decide)]
    rw [k1, k2, k8, k19, k22] at g5
    have ff := F1 (fit_head.mpr (Or.inl ⟨g1, by omega⟩))
    have f1 : fitB (A 2) (1 + 4 * (j : Int) + 1) = true ↔ rgB 1 7 (A 2) (1 + 4 * (j : Int) + 1) := fit_P (i := 1) ⟨by omega, by omega⟩ g1 (by decide)
    have f2 : fitB (A 2) (1 + 4 * (j : Int) + 2) = true ↔ rgB 1 7 (A 2) (1 + 4 * (j : Int) + 2) := fit_P (i := 2) ⟨by omega, by omega⟩ g1 (by decide)
    have f3 : fitB (A 2) (1 + 4 * (j : Int) + 3) = true ↔ rgB 0 9 (A 2) (1 + 4 * (j : Int) + 3) := fit_P (i := 3) ⟨by omega, by omega⟩ g1 (by decide)
    by_cases hz : z = 0
    · exact Or.inl ⟨hz, part_bad ⟨by omega, by omega, hlt⟩ ff f1 f2 f3 hz g5, by rcases g5 with h | ⟨_, h | h | h⟩ <;> omega⟩
    · obtain ⟨p1, p2, p3, p4, p5, p6⟩ := part_ok ff f1 f2 f3 hz g5
      rw [s1] at p1 p2 p6
      exact Or.inr ⟨hz, ⟨p1, p2⟩, RR_P R g1 (by omega) p3 (by rw [g4 9 (by decide) (by decide), mset_s, rw1_n _ _ (by decide)]) (by rw [g3 23 (by decide) (by decide), mset_n _ _ _ (by decide)]) p4 p5, p6⟩
  · refine ⟨fun c a _ b => by rw [g3 c a b, mset_n _ _ _ a], fun q a _ b => by rw [g4 q a b, mset_s, rw1_n _ _ a], ?_⟩
    have k1 : mset N 18 3 (1 + 4 * (j : Int) + 1) 18 3 = 1 + 4 * (j : Int) + 1 := by rw [mset_s, rw1_s]
    have k2 : mset N 18 3 (1 + 4 * (j : Int) + 1) 18 2 = A 1 1 := by rw [mset_s, rw1_n _ _ (by decide), h2]
    have k8 : mset N 18 3 (1 + 4 * (j : Int) + 1) 18 9 = N 18 9 := by rw [mset_s, rw1_n _ _ (by decide)]
    have k19 : mset N 18 3 (1 + 4 * (j : Int) + 1) 19 = A 2 := by rw [mset_n _ _ _ (by decide), h19]
    have k22 : mset N 18 3 (1 + 4 * (j : Int) + 1) 23 = N 23 := by rw [mset_n _ _ _ (by decide)]
    rw [k1, k2, k8, k19, k22] at g5
    have ff := F1 (fit_head.mpr (Or.inr ⟨g1, by omega⟩))
    have f1 : fitB (A 2) (1 + 4 * (j : Int) + 1) = true ↔ rgB 1 3 (A 2) (1 + 4 * (j : Int) + 1) := fit_L (i := 1) ⟨by omega, by omega⟩ g1 (by decide)
    have f2 : fitB (A 2) (1 + 4 * (j : Int) + 2) = true ↔ rgB 0 3 (A 2) (1 + 4 * (j : Int) + 2) := fit_L (i := 2) ⟨by omega, by omega⟩ g1 (by decide)
    have f3 : fitB (A 2) (1 + 4 * (j : Int) + 3) = true ↔ rgB 0 7 (A 2) (1 + 4 * (j : Int) + 3) := fit_L (i := 3) ⟨by omega, by omega⟩ g1 (by decide)
    by_cases hz : z = 0
    · exact Or.inl ⟨hz, part_bad ⟨by omega, by omega, hlt⟩ ff f1 f2 f3 hz g5, by rcases g5 with h | ⟨_, h | h | h⟩ <;> omega⟩
    · obtain ⟨p1, p2, p3, p4, p5, p6⟩ := part_ok ff f1 f2 f3 hz g5
      rw [s1] at p1 p2 p6
      exact Or.inr ⟨hz, ⟨p1, p2⟩, RR_L R (by omega) (by omega) p3 (by rw [g4 8 (by decide) (by decide), mset_s, rw1_n _ _ (by decide)]) (by rw [g3 22 (by decide) (by decide), mset_n _ _ _ (by decide)]) p4 p5, p6⟩
  · subst g4
    refine ⟨fun c a _ _ => by rw [mset_n _ _ _ a, mset_n _ _ _ a], fun q a _ _ => by rw [mset_s, rw1_n _ _ a, mset_s, rw1_n _ _ a], Or.inl ⟨g3, ?_⟩⟩
    rw [mset_s, rw1_s, show 1 + 4 * (j : Int) + 1 - 1 = 1 + 4 * (j : Int) by omega]
    refine ⟨?_, by omega⟩
    exact flt_bad ⟨by omega, hlt⟩ F (fun q => (fit_head.mp q).elim (fun h => g1 ⟨h.1, by omega⟩) (fun h => g2 ⟨h.1, by omega⟩))
set_option maxHeartbeats 4000000 in
set_option maxRecDepth 100000 in
theorem c_X7_figure (l : Launch) (g : GT) (M : Mem) (a : Int) (b2 : Int) (ha : 0 ≤ a ∧ a ≤ 9) (hb3 : 0 ≤ b2 ∧ b2 ≤ 9) (hp : 0 ≤ M 18 3 ∧ M 18 3 ≤ M 18 2) (hn : M 18 2 ≤ 40) (hl19 : ∀ j : Int, 0 ≤ M 19 j ∧ M 19 j ≤ 255) : Ctr l g yX7_figure wsX7_figure ({ frames := 1, cells := 0, slots := 0, locals := 25 } : Room) [.ref (gA g 18), .int (iI a), .int (iI b2)] M (pE (fun z u => FG a b2 M z u)) := by
  refine Ctr.mk (cc := cX7_figure) (maxL := 3) (ret := some .int) (lv := [(0, .ref (gA g 18)), (1, .int (iI a)), (2, .int (iI b2))]) (by decide) rfl (Nat.le_of_ble_eq_true rfl) rfl ?_
  intro p e s m below meth c C hr hlk hI ls hl
  have C : CallFix p m c cX7_figure 3 s ([.ref (gA g 18), .int (iI a), .int (iI b2)] : List Value).toArray wsX7_figure RX7 := C
  have hx := C.1
  have hb := C.2.1
  have hts := C.2.2.2.2
  have hin7 : ∀ w ∈ u_ws RX7 TX7 31, w ∈ wsX7_figure := by decide +kernel
  have hl0 := hl19 (M 18 3)
  refine lv_aload_n hx hb dX7_figure_0 rfl (lv_at hl 0 rfl) ?_
  refine r_get C hI 18 (by decide) rfl rfl hin7 3 (by decide) (fn := "place") (fd := "I") (index := 69) (by decide +kernel) ⟨rfl, rfl, rfl⟩ (v := .int (iI (M 18 3))) rfl dX7_figure_1 ?_
  refine lv_aload_n hx hb dX7_figure_4 rfl (lv_at hl 0 rfl) ?_
  refine r_get C hI 18 (by decide) rfl rfl hin7 2 (by decide) (fn := "textSize") (fd := "I") (index := 66) (by decide +kernel) ⟨rfl, rfl, rfl⟩ (v := .int (iI (M 18 2))) rfl dX7_figure_5 ?_
  refine r_icmp_eq hx hb (tgt := 34) (by omega) (by omega) dX7_figure_8 (by decide) (fun c_1 => ?_) (fun c_1 => ?_)
  · refine lv_bipush (v := iI (-9)) hx hb dX7_figure_34 (by decide +kernel) ?_
    refine r_iret C hr hlk hI ?_ dX7_figure_36
    exact ⟨_, rfl, (show (fun z u => FG a b2 M z u) (-9) M from by show FG a b2 M _ _; exact ⟨fun _ _ => rfl, fun _ _ => rfl, Or.inl ⟨rfl, rfl, by omega⟩⟩)⟩
  · refine lv_aload_n hx hb dX7_figure_11 rfl (lv_at hl 0 rfl) ?_
    refine r_get C hI 18 (by decide) rfl rfl hin7 1 (by decide) (fn := "text") (fd := "[I") (index := 7) (by decide +kernel) ⟨rfl, rfl, rfl⟩ (v := .ref (gA g 19)) rfl dX7_figure_12 ?_
    refine lv_aload_n hx hb dX7_figure_15 rfl (lv_at hl 0 rfl) ?_
    refine r_get C hI 18 (by decide) rfl rfl hin7 3 (by decide) (fn := "place") (fd := "I") (index := 69) (by decide +kernel) ⟨rfl, rfl, rfl⟩ (v := .int (iI (M 18 3))) rfl dX7_figure_16 ?_
    refine r_ald C hI 19 (by decide) rfl (by omega) (by decide) dX7_figure_19 ?_
    refine lv_bipush (v := iI 48) hx hb dX7_figure_20 (by decide +kernel) ?_
    refine r_isub hx hb dX7_figure_22 ?_
    refine r_i2l hx hb (by omega) dX7_figure_23 ?_
    refine lv_iload_n hx hb dX7_figure_24 rfl (lv_at hl 1 rfl) ?_
    refine r_i2l hx hb (by omega) dX7_figure_25 ?_
    refine lv_iload_n hx hb dX7_figure_26 rfl (lv_at hl 2 rfl) ?_
    refine r_i2l hx hb (by omega) dX7_figure_27 ?_
    refine r_is C hI (As := [.long (iL ((M 19 (M 18 3)) - 48)), .long (iL a), .long (iL b2)]) (rest := []) (c_X7_in l g M ((M 19 (M 18 3)) - 48) a b2 (by omega) (by omega) (by omega)) (va_cwS 3 hts gX7_figure_X7_in rfl rfl rfl (by decide +kernel) ⟨Nat.le_of_ble_eq_true rfl, Nat.le_of_ble_eq_true rfl⟩) rfl hl.1 rfl (Nat.le_of_ble_eq_true rfl) dX7_figure_28 ⟨Nat.zero_le _, Nat.zero_le _⟩ (k_I (fun H locs hI => ?_))
    refine r_b_ne hx hb (tgt := 37) dX7_figure_31 (by decide) (fun c_2 => ?_) (fun c_2 => ?_)
    · refine lv_aload_n hx hb dX7_figure_37 rfl (lv_at hl 0 rfl) ?_
      refine lv_dup hx hb dX7_figure_38 rfl ?_
      refine r_get C hI 18 (by decide) rfl rfl hin7 3 (by decide) (fn := "place") (fd := "I") (index := 69) (by decide +kernel) ⟨rfl, rfl, rfl⟩ (v := .int (iI (M 18 3))) rfl dX7_figure_39 ?_
      refine lv_iconst (v := iI 1) hx hb dX7_figure_42 rfl ?_
      refine r_iadd hx hb dX7_figure_43 ?_
      refine r_put C hI 18 (by decide) rfl rfl tyX7 tyX7_ok nmX7 hin7 3 (by decide) (fn := "place") (fd := "I") (index := 69) (by decide +kernel) ⟨rfl, rfl, rfl⟩ rfl (z := (M 18 3) + 1) rfl rfl (Nat.le_of_ble_eq_true rfl) rfl dX7_figure_44 (fun H locs hI => ?_)
      refine lv_aload_n hx hb dX7_figure_47 rfl (lv_at hl 0 rfl) ?_
      refine r_get C hI 18 (by decide) rfl rfl hin7 1 (by decide) (fn := "text") (fd := "[I") (index := 7) (by decide +kernel) ⟨rfl, rfl, rfl⟩ (v := .ref (gA g 19)) rfl dX7_figure_48 ?_
      refine lv_aload_n hx hb dX7_figure_51 rfl (lv_at hl 0 rfl) ?_
      refine r_get C hI 18 (by decide) rfl rfl hin7 3 (by decide) (fn := "place") (fd := "I") (index := 69) (by decide +kernel) ⟨rfl, rfl, rfl⟩ (v := .int (iI ((M 18 3) + 1))) rfl dX7_figure_52 ?_
      refine r_eqI (z2 := (M 18 3) + 1) (by first | rfl | (repeat first | rw [mset_s, rw1_s] | rw [mset_s, rw1_n _ _ (by omega)] | rw [mset_n _ _ _ (by decide)])) ?_
      refine lv_iconst (v := iI 1) hx hb dX7_figure_55 rfl ?_
      refine r_isub hx hb dX7_figure_56 ?_
      refine r_ald C hI 19 (by decide) rfl (by omega) (by decide) dX7_figure_57 ?_
      refine r_eqI (z2 := M 19 (((M 18 3) + 1) - 1)) (by first | rfl | (repeat first | rw [mset_s, rw1_s] | rw [mset_s, rw1_n _ _ (by omega)] | rw [mset_n _ _ _ (by decide)])) ?_
      refine lv_bipush (v := iI 48) hx hb dX7_figure_58 (by decide +kernel) ?_
      refine r_isub hx hb dX7_figure_60 ?_
      refine r_iret C hr hlk hI ?_ dX7_figure_61
      exact ⟨_, rfl, (show (fun z u => FG a b2 M z u) ((M 19 (((M 18 3) + 1) - 1)) - 48) (mset M 18 3 ((M 18 3) + 1)) from by show FG a b2 M _ _; rw [show M 18 3 + 1 - 1 = M 18 3 by omega]; exact ⟨fun c hc => mset_n _ _ _ hc, fun q hq => by rw [mset_s, rw1_n _ _ hq], Or.inr ⟨rfl, by rw [mset_s, rw1_s], by omega, by omega⟩⟩)⟩
    · refine lv_bipush (v := iI (-9)) hx hb dX7_figure_34 (by decide +kernel) ?_
      refine r_iret C hr hlk hI ?_ dX7_figure_36
      exact ⟨_, rfl, (show (fun z u => FG a b2 M z u) (-9) M from by show FG a b2 M _ _; exact ⟨fun _ _ => rfl, fun _ _ => rfl, Or.inl ⟨rfl, rfl, by omega⟩⟩)⟩
set_option maxHeartbeats 4000000 in
set_option maxRecDepth 100000 in
theorem c_X7_readPerson (l : Launch) (g : GT) (M : Mem) (hp : 0 ≤ M 18 3 ∧ M 18 3 ≤ M 18 2) (hn : M 18 2 ≤ 40) (hl19 : ∀ j : Int, 0 ≤ M 19 j ∧ M 19 j ≤ 255) (h8 : 0 ≤ M 18 8 ∧ M 18 8 < 5) : Ctr l g yX7_readPerson wsX7_readPerson ({ frames := 2, cells := 0, slots := 0, locals := 47 } : Room) [.ref (gA g 18)] M (pE (fun z u => RD 8 22 1 7 1 7 0 9 M z u)) := by
  refine Ctr.mk (cc := cX7_readPerson) (maxL := 3) (ret := some .boolean) (lv := [(0, .ref (gA g 18))]) (by decide) rfl (Nat.le_of_ble_eq_true rfl) rfl ?_
  intro p e s m below meth c C hr hlk hI ls hl
  have C : CallFix p m c cX7_readPerson 3 s ([.ref (gA g 18)] : List Value).toArray wsX7_readPerson RX7 := C
  have hx := C.1
  have hb := C.2.1
  have hts := C.2.2.2.2
  have hin7 : ∀ w ∈ u_ws RX7 TX7 31, w ∈ wsX7_readPerson := by decide +kernel
  refine lv_iconst (v := iI 0) hx hb dX7_readPerson_0 rfl ?_
  refine lv_istore_n (lv' := [(1, .int (iI 0)), (0, .ref (gA g 18))]) hx hb dX7_readPerson_1 rfl hl (by decide) rfl (fun ls hl => ?_)
  refine lv_iload_n hx hb dX7_readPerson_2 rfl (lv_at hl 0 rfl) ?_
  refine lv_iconst (v := iI 3) hx hb dX7_readPerson_3 rfl ?_
  refine r_icmp_ge hx hb (tgt := 58) (by decide) (by decide) dX7_readPerson_4 (by decide) (fun c => absurd c (by decide)) (fun c_1 => ?_)
  refine lv_iload_n hx hb dX7_readPerson_7 rfl (lv_at hl 0 rfl) ?_
  refine lv_iconst (v := iI 2) hx hb dX7_readPerson_8 rfl ?_
  refine r_icmp_ge hx hb (tgt := 22) (by decide) (by decide) dX7_readPerson_9 (by decide) (fun c => absurd c (by decide)) (fun c_2 => ?_)
  refine lv_aload_n hx hb dX7_readPerson_12 rfl (lv_at hl 1 rfl) ?_
  refine lv_iconst (v := iI 1) hx hb dX7_readPerson_13 rfl ?_
  refine lv_bipush (v := iI 7) hx hb dX7_readPerson_14 (by decide +kernel) ?_
  refine r_iv C hI (As := [.int (iI 1), .int (iI 7)]) (rest := []) (c_X7_figure l g M 1 7 (by omega) (by omega) (show 0 ≤ (M 18 3) ∧ (M 18 3) ≤ (M 18 2) from by omega) (show (M 18 2) ≤ 40 from by omega) (show ∀ j : Int, 0 ≤ (M 19 j) ∧ (M 19 j) ≤ 255 from by assumption)) (cwV 2 hts gX7_readPerson_X7_figure rfl rfl rfl (by decide +kernel) ⟨Nat.le_of_ble_eq_true rfl, Nat.le_of_ble_eq_true rfl⟩) (by decide) rfl rfl rfl hl.1 rfl (Nat.le_of_ble_eq_true rfl) dX7_readPerson_16 ⟨Nat.zero_le _, Nat.zero_le _⟩ (k_E (fun z_1 M_1 H locs q_1 hI => ?_))
  obtain ⟨a_1, b_1, x_1, d_1⟩ := FG_s (C := 22) (M := M) q_1 (SG_0 22 M) (by decide)
  rw [Int.add_zero] at d_1
  refine lv_goto (tgt := 29) hx hb dX7_readPerson_19 (by decide) ?_
  refine lv_istore_n (lv' := [(2, .int (iI z_1)), (1, .int (iI 0)), (0, .ref (gA g 18))]) hx hb dX7_readPerson_29 rfl hl (by decide) rfl (fun ls hl => ?_)
  refine lv_iload_n hx hb dX7_readPerson_30 rfl (lv_at hl 0 rfl) ?_
  refine lv_bipush (v := iI (-9)) hx hb dX7_readPerson_31 (by decide +kernel) ?_
  refine r_icmp_ne hx hb (tgt := 38) (by omega) (by decide) dX7_readPerson_33 (by decide) (fun c_3 => ?_) (fun c_3 => ?_)
  · obtain ⟨v_1, p_1, n_1, r_1⟩ := d_1.resolve_left (fun h => absurd h.1 (by assumption))
    clear d_1
    have sg_1 : SG 22 1 M M_1 := ⟨a_1, b_1, by omega⟩
    have w2_1 : M_1 18 2 = M 18 2 := b_1 2 (by decide)
    have w8_1 : M_1 18 8 = M 18 8 := b_1 8 (by decide)
    have hl_1 : ∀ j : Int, 0 ≤ M_1 19 j ∧ M_1 19 j ≤ 255 := by rw [a_1 19 (by decide) (by decide)]; exact hl19
    refine lv_aload_n hx hb dX7_readPerson_38 rfl (lv_at hl 2 rfl) ?_
    refine r_get C hI 18 (by decide) rfl rfl hin7 10 (by decide) (fn := "readPerson") (fd := "[I") (index := 19) (by decide +kernel) ⟨rfl, rfl, rfl⟩ (v := .ref (gA g 22)) rfl dX7_readPerson_39 ?_
    refine lv_iconst (v := iI 3) hx hb dX7_readPerson_42 rfl ?_
    refine lv_aload_n hx hb dX7_readPerson_43 rfl (lv_at hl 2 rfl) ?_
    refine r_get C hI 18 (by decide) rfl rfl hin7 8 (by decide) (fn := "readPeople") (fd := "I") (index := 76) (by decide +kernel) ⟨rfl, rfl, rfl⟩ (v := .int (iI (M_1 18 8))) rfl dX7_readPerson_44 ?_
    refine r_imul hx hb dX7_readPerson_47 ?_
    refine lv_iload_n hx hb dX7_readPerson_48 rfl (lv_at hl 1 rfl) ?_
    refine r_iadd hx hb dX7_readPerson_49 ?_
    refine lv_iload_n hx hb dX7_readPerson_50 rfl (lv_at hl 0 rfl) ?_
    refine r_ast C hI 22 (by decide) (fun _ => rfl) (by omega) (by decide) dX7_readPerson_51 (fun H locs hI => ?_)
    refine lv_iinc (v := iI (1)) (lv' := [(1, .int (iI 1)), (2, .int (iI z_1)), (0, .ref (gA g 18))]) hx hb dX7_readPerson_52 hl (k := 1) rfl (iI_add _ _) (by decide) rfl (fun ls hl => ?_)
    refine lv_goto (tgt := 2) hx hb dX7_readPerson_55 (by decide) ?_
    refine lv_iload_n hx hb dX7_readPerson_2 rfl (lv_at hl 0 rfl) ?_
    refine lv_iconst (v := iI 3) hx hb dX7_readPerson_3 rfl ?_
    refine r_icmp_ge hx hb (tgt := 58) (by decide) (by decide) dX7_readPerson_4 (by decide) (fun c => absurd c (by decide)) (fun c_4 => ?_)
    refine lv_iload_n hx hb dX7_readPerson_7 rfl (lv_at hl 0 rfl) ?_
    refine lv_iconst (v := iI 2) hx hb dX7_readPerson_8 rfl ?_
    refine r_icmp_ge hx hb (tgt := 22) (by decide) (by decide) dX7_readPerson_9 (by decide) (fun c => absurd c (by decide)) (fun c_5 => ?_)
    refine lv_aload_n hx hb dX7_readPerson_12 rfl (lv_at hl 2 rfl) ?_
    refine lv_iconst (v := iI 1) hx hb dX7_readPerson_13 rfl ?_
    refine lv_bipush (v := iI 7) hx hb dX7_readPerson_14 (by decide +kernel) ?_
    refine r_iv C hI (As := [.int (iI 1), .int (iI 7)]) (rest := []) (c_X7_figure l g (mset M_1 22 ((3 * (M_1 18 8)) + 0) z_1) 1 7 (by omega) (by omega) (show 0 ≤ (M_1 18 3) ∧ (M_1 18 3) ≤ (M_1 18 2) from by omega) (show (M_1 18 2) ≤ 40 from by omega) (show ∀ j : Int, 0 ≤ (M_1 19 j) ∧ (M_1 19 j) ≤ 255 from by assumption)) (cwV 2 hts gX7_readPerson_X7_figure rfl rfl rfl (by decide +kernel) ⟨Nat.le_of_ble_eq_true rfl, Nat.le_of_ble_eq_true rfl⟩) (by decide) rfl rfl rfl hl.1 rfl (Nat.le_of_ble_eq_true rfl) dX7_readPerson_16 ⟨Nat.zero_le _, Nat.zero_le _⟩ (k_E (fun z_2 M_2 H locs q_2 hI => ?_))
    obtain ⟨a_2, b_2, x_2, d_2⟩ := FG_s (C := 22) (M := M) q_2 ((SG_m sg_1 (by decide))) (by decide)
    refine lv_goto (tgt := 29) hx hb dX7_readPerson_19 (by decide) ?_
    refine lv_istore_n (lv' := [(2, .int (iI z_2)), (1, .int (iI 1)), (0, .ref (gA g 18))]) hx hb dX7_readPerson_29 rfl hl (by decide) rfl (fun ls hl => ?_)
    refine lv_iload_n hx hb dX7_readPerson_30 rfl (lv_at hl 0 rfl) ?_
    refine lv_bipush (v := iI (-9)) hx hb dX7_readPerson_31 (by decide +kernel) ?_
    refine r_icmp_ne hx hb (tgt := 38) (by omega) (by decide) dX7_readPerson_33 (by decide) (fun c_6 => ?_) (fun c_6 => ?_)
    · obtain ⟨v_2, p_2, n_2, r_2⟩ := d_2.resolve_left (fun h => absurd h.1 (by assumption))
      clear d_2
      have sg_2 : SG 22 2 M M_2 := ⟨a_2, b_2, by omega⟩
      have w2_2 : M_2 18 2 = M 18 2 := b_2 2 (by decide)
      have w8_2 : M_2 18 8 = M 18 8 := b_2 8 (by decide)
      have hl_2 : ∀ j : Int, 0 ≤ M_2 19 j ∧ M_2 19 j ≤ 255 := by rw [a_2 19 (by decide) (by decide)]; exact hl19
      refine lv_aload_n hx hb dX7_readPerson_38 rfl (lv_at hl 2 rfl) ?_
      refine r_get C hI 18 (by decide) rfl rfl hin7 10 (by decide) (fn := "readPerson") (fd := "[I") (index := 19) (by decide +kernel) ⟨rfl, rfl, rfl⟩ (v := .ref (gA g 22)) rfl dX7_readPerson_39 ?_
      refine lv_iconst (v := iI 3) hx hb dX7_readPerson_42 rfl ?_
      refine lv_aload_n hx hb dX7_readPerson_43 rfl (lv_at hl 2 rfl) ?_
      refine r_get C hI 18 (by decide) rfl rfl hin7 8 (by decide) (fn := "readPeople") (fd := "I") (index := 76) (by decide +kernel) ⟨rfl, rfl, rfl⟩ (v := .int (iI (M_2 18 8))) rfl dX7_readPerson_44 ?_
      refine r_imul hx hb dX7_readPerson_47 ?_
      refine lv_iload_n hx hb dX7_readPerson_48 rfl (lv_at hl 1 rfl) ?_
      refine r_iadd hx hb dX7_readPerson_49 ?_
      refine lv_iload_n hx hb dX7_readPerson_50 rfl (lv_at hl 0 rfl) ?_
      refine r_ast C hI 22 (by decide) (fun _ => rfl) (by omega) (by decide) dX7_readPerson_51 (fun H locs hI => ?_)
      refine lv_iinc (v := iI (2)) (lv' := [(1, .int (iI 2)), (2, .int (iI z_2)), (0, .ref (gA g 18))]) hx hb dX7_readPerson_52 hl (k := 1) rfl (iI_add _ _) (by decide) rfl (fun ls hl => ?_)
      refine lv_goto (tgt := 2) hx hb dX7_readPerson_55 (by decide) ?_
      refine lv_iload_n hx hb dX7_readPerson_2 rfl (lv_at hl 0 rfl) ?_
      refine lv_iconst (v := iI 3) hx hb dX7_readPerson_3 rfl ?_
      refine r_icmp_ge hx hb (tgt := 58) (by decide) (by decide) dX7_readPerson_4 (by decide) (fun c => absurd c (by decide)) (fun c_7 => ?_)
      refine lv_iload_n hx hb dX7_readPerson_7 rfl (lv_at hl 0 rfl) ?_
      refine lv_iconst (v := iI 2) hx hb dX7_readPerson_8 rfl ?_
      refine r_icmp_ge hx hb (tgt := 22) (by decide) (by decide) dX7_readPerson_9 (by decide) (fun c_8 => ?_) (fun c => absurd c (by decide))
      refine lv_aload_n hx hb dX7_readPerson_22 rfl (lv_at hl 2 rfl) ?_
      refine lv_iconst (v := iI 0) hx hb dX7_readPerson_23 rfl ?_
      refine lv_bipush (v := iI 9) hx hb dX7_readPerson_24 (by decide +kernel) ?_
      refine r_iv C hI (As := [.int (iI 0), .int (iI 9)]) (rest := []) (c_X7_figure l g (mset M_2 22 ((3 * (M_2 18 8)) + 1) z_2) 0 9 (by omega) (by omega) (show 0 ≤ (M_2 18 3) ∧ (M_2 18 3) ≤ (M_2 18 2) from by omega) (show (M_2 18 2) ≤ 40 from by omega) (show ∀ j : Int, 0 ≤ (M_2 19 j) ∧ (M_2 19 j) ≤ 255 from by assumption)) (cwV 2 hts gX7_readPerson_X7_figure rfl rfl rfl (by decide +kernel) ⟨Nat.le_of_ble_eq_true rfl, Nat.le_of_ble_eq_true rfl⟩) (by decide) rfl rfl rfl hl.1 rfl (Nat.le_of_ble_eq_true rfl) dX7_readPerson_26 ⟨Nat.zero_le _, Nat.zero_le _⟩ (k_E (fun z_3 M_3 H locs q_3 hI => ?_))
      obtain ⟨a_3, b_3, x_3, d_3⟩ := FG_s (C := 22) (M := M) q_3 ((SG_m sg_2 (by decide))) (by decide)
      refine lv_istore_n (lv' := [(2, .int (iI z_3)), (1, .int (iI 2)), (0, .ref (gA g 18))]) hx hb dX7_readPerson_29 rfl hl (by decide) rfl (fun ls hl => ?_)
      refine lv_iload_n hx hb dX7_readPerson_30 rfl (lv_at hl 0 rfl) ?_
      refine lv_bipush (v := iI (-9)) hx hb dX7_readPerson_31 (by decide +kernel) ?_
      refine r_icmp_ne hx hb (tgt := 38) (by omega) (by decide) dX7_readPerson_33 (by decide) (fun c_9 => ?_) (fun c_9 => ?_)
      · obtain ⟨v_3, p_3, n_3, r_3⟩ := d_3.resolve_left (fun h => absurd h.1 (by assumption))
        clear d_3
        have sg_3 : SG 22 3 M M_3 := ⟨a_3, b_3, by omega⟩
        have w2_3 : M_3 18 2 = M 18 2 := b_3 2 (by decide)
        have w8_3 : M_3 18 8 = M 18 8 := b_3 8 (by decide)
        have hl_3 : ∀ j : Int, 0 ≤ M_3 19 j ∧ M_3 19 j ≤ 255 := by rw [a_3 19 (by decide) (by decide)]; exact hl19
        refine lv_aload_n hx hb dX7_readPerson_38 rfl (lv_at hl 2 rfl) ?_
        refine r_get C hI 18 (by decide) rfl rfl hin7 10 (by decide) (fn := "readPerson") (fd := "[I") (index := 19) (by decide +kernel) ⟨rfl, rfl, rfl⟩ (v := .ref (gA g 22)) rfl dX7_readPerson_39 ?_
        refine lv_iconst (v := iI 3) hx hb dX7_readPerson_42 rfl ?_
        refine lv_aload_n hx hb dX7_readPerson_43 rfl (lv_at hl 2 rfl) ?_
        refine r_get C hI 18 (by decide) rfl rfl hin7 8 (by decide) (fn := "readPeople") (fd := "I") (index := 76) (by decide +kernel) ⟨rfl, rfl, rfl⟩ (v := .int (iI (M_3 18 8))) rfl dX7_readPerson_44 ?_
        refine r_imul hx hb dX7_readPerson_47 ?_
        refine lv_iload_n hx hb dX7_readPerson_48 rfl (lv_at hl 1 rfl) ?_
        refine r_iadd hx hb dX7_readPerson_49 ?_
        refine lv_iload_n hx hb dX7_readPerson_50 rfl (lv_at hl 0 rfl) ?_
        refine r_ast C hI 22 (by decide) (fun _ => rfl) (by omega) (by decide) dX7_readPerson_51 (fun H locs hI => ?_)
        refine lv_iinc (v := iI (3)) (lv' := [(1, .int (iI 3)), (2, .int (iI z_3)), (0, .ref (gA g 18))]) hx hb dX7_readPerson_52 hl (k := 1) rfl (iI_add _ _) (by decide) rfl (fun ls hl => ?_)
        refine lv_goto (tgt := 2) hx hb dX7_readPerson_55 (by decide) ?_
        refine lv_iload_n hx hb dX7_readPerson_2 rfl (lv_at hl 0 rfl) ?_
        refine lv_iconst (v := iI 3) hx hb dX7_readPerson_3 rfl ?_
        refine r_icmp_ge hx hb (tgt := 58) (by decide) (by decide) dX7_readPerson_4 (by decide) (fun c_10 => ?_) (fun c => absurd c (by decide))
        refine lv_aload_n hx hb dX7_readPerson_58 rfl (lv_at hl 2 rfl) ?_
        refine lv_dup hx hb dX7_readPerson_59 rfl ?_
        refine r_get C hI 18 (by decide) rfl rfl hin7 8 (by decide) (fn := "readPeople") (fd := "I") (index := 76) (by decide +kernel) ⟨rfl, rfl, rfl⟩ (v := .int (iI (M_3 18 8))) rfl dX7_readPerson_60 ?_
        refine r_eqI (z2 := M_3 18 8) (by first | rfl | (repeat first | rw [mset_s, rw1_s] | rw [mset_s, rw1_n _ _ (by omega)] | rw [mset_n _ _ _ (by decide)])) ?_
        refine lv_iconst (v := iI 1) hx hb dX7_readPerson_63 rfl ?_
        refine r_iadd hx hb dX7_readPerson_64 ?_
        refine r_put C hI 18 (by decide) rfl rfl tyX7 tyX7_ok nmX7 hin7 8 (by decide) (fn := "readPeople") (fd := "I") (index := 76) (by decide +kernel) ⟨rfl, rfl, rfl⟩ rfl (z := (M_3 18 8) + 1) rfl rfl (Nat.le_of_ble_eq_true rfl) rfl dX7_readPerson_65 (fun H locs hI => ?_)
        refine lv_iconst (v := iI 1) hx hb dX7_readPerson_68 rfl ?_
        refine r_zret C hr hlk hI (by decide +kernel) ?_ dX7_readPerson_69
        exact ⟨_, rfl, (show (fun z u => RD 8 22 1 7 1 7 0 9 M z u) 1 (mset (mset M_3 22 ((3 * (M_3 18 8)) + 2) z_3) 18 8 ((M_3 18 8) + 1)) from by show RD 8 22 1 7 1 7 0 9 M _ _; exact rd_ok (by decide) (by decide) a_3 b_1 b_2 b_3 x_1 x_2 x_3 (by omega) (by omega) r_1 r_2 r_3 v_1 v_2 v_3)⟩
      · refine lv_iconst (v := iI 0) hx hb dX7_readPerson_36 rfl ?_
        refine r_zret C hr hlk hI (by decide +kernel) ?_ dX7_readPerson_37
        exact ⟨_, rfl, (show (fun z u => RD 8 22 1 7 1 7 0 9 M z u) 0 M_3 from by show RD 8 22 1 7 1 7 0 9 M _ _; have h := d_3.resolve_right (fun h => by have h9 := h.2.2.2; omega); refine ⟨a_3, fun q h _ => b_3 q h, Or.inr ⟨rfl, ?_⟩⟩; exact Or.inr (Or.inr ⟨h.2.1, by omega, r_1, r_2, h.2.2⟩))⟩
    · refine lv_iconst (v := iI 0) hx hb dX7_readPerson_36 rfl ?_
      refine r_zret C hr hlk hI (by decide +kernel) ?_ dX7_readPerson_37
      exact ⟨_, rfl, (show (fun z u => RD 8 22 1 7 1 7 0 9 M z u) 0 M_2 from by show RD 8 22 1 7 1 7 0 9 M _ _; have h := d_2.resolve_right (fun h => by have h9 := h.2.2.2; omega); refine ⟨a_2, fun q h _ => b_2 q h, Or.inr ⟨rfl, ?_⟩⟩; exact Or.inr (Or.inl ⟨h.2.1, by omega, r_1, h.2.2⟩))⟩
  · refine lv_iconst (v := iI 0) hx hb dX7_readPerson_36 rfl ?_
    refine r_zret C hr hlk hI (by decide +kernel) ?_ dX7_readPerson_37
    exact ⟨_, rfl, (show (fun z u => RD 8 22 1 7 1 7 0 9 M z u) 0 M_1 from by show RD 8 22 1 7 1 7 0 9 M _ _; have h := d_1.resolve_right (fun h => by have h9 := h.2.2.2; omega); refine ⟨a_1, fun q h _ => b_1 q h, Or.inr ⟨rfl, ?_⟩⟩; exact Or.inl ⟨h.2.1, h.2.2⟩)⟩
set_option maxHeartbeats 4000000 in
set_option maxRecDepth 100000 in
theorem c_X7_readGlove (l : Launch) (g : GT) (M : Mem) (hp : 0 ≤ M 18 3 ∧ M 18 3 ≤ M 18 2) (hn : M 18 2 ≤ 40) (hl19 : ∀ j : Int, 0 ≤ M 19 j ∧ M 19 j ≤ 255) (h8 : 0 ≤ M 18 9 ∧ M 18 9 < 4) : Ctr l g yX7_readGlove wsX7_readGlove ({ frames := 2, cells := 0, slots := 0, locals := 47 } : Room) [.ref (gA g 18)] M (pE (fun z u => RD 9 23 1 3 0 3 0 7 M z u)) := by
  refine Ctr.mk (cc := cX7_readGlove) (maxL := 3) (ret := some .boolean) (lv := [(0, .ref (gA g 18))]) (by decide) rfl (Nat.le_of_ble_eq_true rfl) rfl ?_
  intro p e s m below meth c C hr hlk hI ls hl
  have C : CallFix p m c cX7_readGlove 3 s ([.ref (gA g 18)] : List Value).toArray wsX7_readGlove RX7 := C
  have hx := C.1
  have hb := C.2.1
  have hts := C.2.2.2.2
  have hin7 : ∀ w ∈ u_ws RX7 TX7 31, w ∈ wsX7_readGlove := by decide +kernel
  refine lv_iconst (v := iI 0) hx hb dX7_readGlove_0 rfl ?_
  refine lv_istore_n (lv' := [(1, .int (iI 0)), (0, .ref (gA g 18))]) hx hb dX7_readGlove_1 rfl hl (by decide) rfl (fun ls hl => ?_)
  refine lv_iload_n hx hb dX7_readGlove_2 rfl (lv_at hl 0 rfl) ?_
  refine lv_iconst (v := iI 3) hx hb dX7_readGlove_3 rfl ?_
  refine r_icmp_ge hx hb (tgt := 65) (by decide) (by decide) dX7_readGlove_4 (by decide) (fun c => absurd c (by decide)) (fun c_1 => ?_)
  refine lv_iload_n hx hb dX7_readGlove_7 rfl (lv_at hl 0 rfl) ?_
  refine r_if_ne hx hb (tgt := 20) (by decide) dX7_readGlove_8 (by decide) (fun c => absurd c (by decide)) (fun c_2 => ?_)
  refine lv_aload_n hx hb dX7_readGlove_11 rfl (lv_at hl 1 rfl) ?_
  refine lv_iconst (v := iI 1) hx hb dX7_readGlove_12 rfl ?_
  refine lv_iconst (v := iI 3) hx hb dX7_readGlove_13 rfl ?_
  refine r_iv C hI (As := [.int (iI 1), .int (iI 3)]) (rest := []) (c_X7_figure l g M 1 3 (by omega) (by omega) (show 0 ≤ (M 18 3) ∧ (M 18 3) ≤ (M 18 2) from by omega) (show (M 18 2) ≤ 40 from by omega) (show ∀ j : Int, 0 ≤ (M 19 j) ∧ (M 19 j) ≤ 255 from by assumption)) (cwV 2 hts gX7_readGlove_X7_figure rfl rfl rfl (by decide +kernel) ⟨Nat.le_of_ble_eq_true rfl, Nat.le_of_ble_eq_true rfl⟩) (by decide) rfl rfl rfl hl.1 rfl (Nat.le_of_ble_eq_true rfl) dX7_readGlove_14 ⟨Nat.zero_le _, Nat.zero_le _⟩ (k_E (fun z_1 M_1 H locs q_1 hI => ?_))
  obtain ⟨a_1, b_1, x_1, d_1⟩ := FG_s (C := 23) (M := M) q_1 (SG_0 23 M) (by decide)
  rw [Int.add_zero] at d_1
  refine lv_goto (tgt := 36) hx hb dX7_readGlove_17 (by decide) ?_
  refine lv_istore_n (lv' := [(2, .int (iI z_1)), (1, .int (iI 0)), (0, .ref (gA g 18))]) hx hb dX7_readGlove_36 rfl hl (by decide) rfl (fun ls hl => ?_)
  refine lv_iload_n hx hb dX7_readGlove_37 rfl (lv_at hl 0 rfl) ?_
  refine lv_bipush (v := iI (-9)) hx hb dX7_readGlove_38 (by decide +kernel) ?_
  refine r_icmp_ne hx hb (tgt := 45) (by omega) (by decide) dX7_readGlove_40 (by decide) (fun c_3 => ?_) (fun c_3 => ?_)
  · obtain ⟨v_1, p_1, n_1, r_1⟩ := d_1.resolve_left (fun h => absurd h.1 (by assumption))
    clear d_1
    have sg_1 : SG 23 1 M M_1 := ⟨a_1, b_1, by omega⟩
    have w2_1 : M_1 18 2 = M 18 2 := b_1 2 (by decide)
    have w8_1 : M_1 18 9 = M 18 9 := b_1 9 (by decide)
    have hl_1 : ∀ j : Int, 0 ≤ M_1 19 j ∧ M_1 19 j ≤ 255 := by rw [a_1 19 (by decide) (by decide)]; exact hl19
    refine lv_aload_n hx hb dX7_readGlove_45 rfl (lv_at hl 2 rfl) ?_
    refine r_get C hI 18 (by decide) rfl rfl hin7 11 (by decide) (fn := "readGlove") (fd := "[I") (index := 22) (by decide +kernel) ⟨rfl, rfl, rfl⟩ (v := .ref (gA g 23)) rfl dX7_readGlove_46 ?_
    refine lv_iconst (v := iI 3) hx hb dX7_readGlove_49 rfl ?_
    refine lv_aload_n hx hb dX7_readGlove_50 rfl (lv_at hl 2 rfl) ?_
    refine r_get C hI 18 (by decide) rfl rfl hin7 9 (by decide) (fn := "readGloves") (fd := "I") (index := 79) (by decide +kernel) ⟨rfl, rfl, rfl⟩ (v := .int (iI (M_1 18 9))) rfl dX7_readGlove_51 ?_
    refine r_imul hx hb dX7_readGlove_54 ?_
    refine lv_iload_n hx hb dX7_readGlove_55 rfl (lv_at hl 1 rfl) ?_
    refine r_iadd hx hb dX7_readGlove_56 ?_
    refine lv_iload_n hx hb dX7_readGlove_57 rfl (lv_at hl 0 rfl) ?_
    refine r_ast C hI 23 (by decide) (fun _ => rfl) (by omega) (by decide) dX7_readGlove_58 (fun H locs hI => ?_)
    refine lv_iinc (v := iI (1)) (lv' := [(1, .int (iI 1)), (2, .int (iI z_1)), (0, .ref (gA g 18))]) hx hb dX7_readGlove_59 hl (k := 1) rfl (iI_add _ _) (by decide) rfl (fun ls hl => ?_)
    refine lv_goto (tgt := 2) hx hb dX7_readGlove_62 (by decide) ?_
    refine lv_iload_n hx hb dX7_readGlove_2 rfl (lv_at hl 0 rfl) ?_
    refine lv_iconst (v := iI 3) hx hb dX7_readGlove_3 rfl ?_
    refine r_icmp_ge hx hb (tgt := 65) (by decide) (by decide) dX7_readGlove_4 (by decide) (fun c => absurd c (by decide)) (fun c_4 => ?_)
    refine lv_iload_n hx hb dX7_readGlove_7 rfl (lv_at hl 0 rfl) ?_
    refine r_if_ne hx hb (tgt := 20) (by decide) dX7_readGlove_8 (by decide) (fun c_5 => ?_) (fun c => absurd c (by decide))
    refine lv_aload_n hx hb dX7_readGlove_20 rfl (lv_at hl 2 rfl) ?_
    refine lv_iconst (v := iI 0) hx hb dX7_readGlove_21 rfl ?_
    refine lv_iload_n hx hb dX7_readGlove_22 rfl (lv_at hl 0 rfl) ?_
    refine lv_iconst (v := iI 1) hx hb dX7_readGlove_23 rfl ?_
    refine r_icmp_ne hx hb (tgt := 31) (by decide) (by decide) dX7_readGlove_24 (by decide) (fun c => absurd c (by decide)) (fun c_6 => ?_)
    refine lv_iconst (v := iI 3) hx hb dX7_readGlove_27 rfl ?_
    refine lv_goto (tgt := 33) hx hb dX7_readGlove_28 (by decide) ?_
    refine r_iv C hI (As := [.int (iI 0), .int (iI 3)]) (rest := []) (c_X7_figure l g (mset M_1 23 ((3 * (M_1 18 9)) + 0) z_1) 0 3 (by omega) (by omega) (show 0 ≤ (M_1 18 3) ∧ (M_1 18 3) ≤ (M_1 18 2) from by omega) (show (M_1 18 2) ≤ 40 from by omega) (show ∀ j : Int, 0 ≤ (M_1 19 j) ∧ (M_1 19 j) ≤ 255 from by assumption)) (cwV 2 hts gX7_readGlove_X7_figure rfl rfl rfl (by decide +kernel) ⟨Nat.le_of_ble_eq_true rfl, Nat.le_of_ble_eq_true rfl⟩) (by decide) rfl rfl rfl hl.1 rfl (Nat.le_of_ble_eq_true rfl) dX7_readGlove_33 ⟨Nat.zero_le _, Nat.zero_le _⟩ (k_E (fun z_2 M_2 H locs q_2 hI => ?_))
    obtain ⟨a_2, b_2, x_2, d_2⟩ := FG_s (C := 23) (M := M) q_2 ((SG_m sg_1 (by decide))) (by decide)
    refine lv_istore_n (lv' := [(2, .int (iI z_2)), (1, .int (iI 1)), (0, .ref (gA g 18))]) hx hb dX7_readGlove_36 rfl hl (by decide) rfl (fun ls hl => ?_)
    refine lv_iload_n hx hb dX7_readGlove_37 rfl (lv_at hl 0 rfl) ?_
    refine lv_bipush (v := iI (-9)) hx hb dX7_readGlove_38 (by decide +kernel) ?_
    refine r_icmp_ne hx hb (tgt := 45) (by omega) (by decide) dX7_readGlove_40 (by decide) (fun c_7 => ?_) (fun c_7 => ?_)
    · obtain ⟨v_2, p_2, n_2, r_2⟩ := d_2.resolve_left (fun h => absurd h.1 (by assumption))
      clear d_2
      have sg_2 : SG 23 2 M M_2 := ⟨a_2, b_2, by omega⟩
      have w2_2 : M_2 18 2 = M 18 2 := b_2 2 (by decide)
      have w8_2 : M_2 18 9 = M 18 9 := b_2 9 (by decide)
      have hl_2 : ∀ j : Int, 0 ≤ M_2 19 j ∧ M_2 19 j ≤ 255 := by rw [a_2 19 (by decide) (by decide)]; exact hl19
      refine lv_aload_n hx hb dX7_readGlove_45 rfl (lv_at hl 2 rfl) ?_
      refine r_get C hI 18 (by decide) rfl rfl hin7 11 (by decide) (fn := "readGlove") (fd := "[I") (index := 22) (by decide +kernel) ⟨rfl, rfl, rfl⟩ (v := .ref (gA g 23)) rfl dX7_readGlove_46 ?_
      refine lv_iconst (v := iI 3) hx hb dX7_readGlove_49 rfl ?_
      refine lv_aload_n hx hb dX7_readGlove_50 rfl (lv_at hl 2 rfl) ?_
      refine r_get C hI 18 (by decide) rfl rfl hin7 9 (by decide) (fn := "readGloves") (fd := "I") (index := 79) (by decide +kernel) ⟨rfl, rfl, rfl⟩ (v := .int (iI (M_2 18 9))) rfl dX7_readGlove_51 ?_
      refine r_imul hx hb dX7_readGlove_54 ?_
      refine lv_iload_n hx hb dX7_readGlove_55 rfl (lv_at hl 1 rfl) ?_
      refine r_iadd hx hb dX7_readGlove_56 ?_
      refine lv_iload_n hx hb dX7_readGlove_57 rfl (lv_at hl 0 rfl) ?_
      refine r_ast C hI 23 (by decide) (fun _ => rfl) (by omega) (by decide) dX7_readGlove_58 (fun H locs hI => ?_)
      refine lv_iinc (v := iI (2)) (lv' := [(1, .int (iI 2)), (2, .int (iI z_2)), (0, .ref (gA g 18))]) hx hb dX7_readGlove_59 hl (k := 1) rfl (iI_add _ _) (by decide) rfl (fun ls hl => ?_)
      refine lv_goto (tgt := 2) hx hb dX7_readGlove_62 (by decide) ?_
      refine lv_iload_n hx hb dX7_readGlove_2 rfl (lv_at hl 0 rfl) ?_
      refine lv_iconst (v := iI 3) hx hb dX7_readGlove_3 rfl ?_
      refine r_icmp_ge hx hb (tgt := 65) (by decide) (by decide) dX7_readGlove_4 (by decide) (fun c => absurd c (by decide)) (fun c_8 => ?_)
      refine lv_iload_n hx hb dX7_readGlove_7 rfl (lv_at hl 0 rfl) ?_
      refine r_if_ne hx hb (tgt := 20) (by decide) dX7_readGlove_8 (by decide) (fun c_9 => ?_) (fun c => absurd c (by decide))
      refine lv_aload_n hx hb dX7_readGlove_20 rfl (lv_at hl 2 rfl) ?_
      refine lv_iconst (v := iI 0) hx hb dX7_readGlove_21 rfl ?_
      refine lv_iload_n hx hb dX7_readGlove_22 rfl (lv_at hl 0 rfl) ?_
      refine lv_iconst (v := iI 1) hx hb dX7_readGlove_23 rfl ?_
      refine r_icmp_ne hx hb (tgt := 31) (by decide) (by decide) dX7_readGlove_24 (by decide) (fun c_10 => ?_) (fun c => absurd c (by decide))
      refine lv_bipush (v := iI 7) hx hb dX7_readGlove_31 (by decide +kernel) ?_
      refine r_iv C hI (As := [.int (iI 0), .int (iI 7)]) (rest := []) (c_X7_figure l g (mset M_2 23 ((3 * (M_2 18 9)) + 1) z_2) 0 7 (by omega) (by omega) (show 0 ≤ (M_2 18 3) ∧ (M_2 18 3) ≤ (M_2 18 2) from by omega) (show (M_2 18 2) ≤ 40 from by omega) (show ∀ j : Int, 0 ≤ (M_2 19 j) ∧ (M_2 19 j) ≤ 255 from by assumption)) (cwV 2 hts gX7_readGlove_X7_figure rfl rfl rfl (by decide +kernel) ⟨Nat.le_of_ble_eq_true rfl, Nat.le_of_ble_eq_true rfl⟩) (by decide) rfl rfl rfl hl.1 rfl (Nat.le_of_ble_eq_true rfl) dX7_readGlove_33 ⟨Nat.zero_le _, Nat.zero_le _⟩ (k_E (fun z_3 M_3 H locs q_3 hI => ?_))
      obtain ⟨a_3, b_3, x_3, d_3⟩ := FG_s (C := 23) (M := M) q_3 ((SG_m sg_2 (by decide))) (by decide)
      refine lv_istore_n (lv' := [(2, .int (iI z_3)), (1, .int (iI 2)), (0, .ref (gA g 18))]) hx hb dX7_readGlove_36 rfl hl (by decide) rfl (fun ls hl => ?_)
      refine lv_iload_n hx hb dX7_readGlove_37 rfl (lv_at hl 0 rfl) ?_
      refine lv_bipush (v := iI (-9)) hx hb dX7_readGlove_38 (by decide +kernel) ?_
      refine r_icmp_ne hx hb (tgt := 45) (by omega) (by decide) dX7_readGlove_40 (by decide) (fun c_11 => ?_) (fun c_11 => ?_)
      · obtain ⟨v_3, p_3, n_3, r_3⟩ := d_3.resolve_left (fun h => absurd h.1 (by assumption))
        clear d_3
        have sg_3 : SG 23 3 M M_3 := ⟨a_3, b_3, by omega⟩
        have w2_3 : M_3 18 2 = M 18 2 := b_3 2 (by decide)
        have w8_3 : M_3 18 9 = M 18 9 := b_3 9 (by decide)
        have hl_3 : ∀ j : Int, 0 ≤ M_3 19 j ∧ M_3 19 j ≤ 255 := by rw [a_3 19 (by decide) (by decide)]; exact hl19
        refine lv_aload_n hx hb dX7_readGlove_45 rfl (lv_at hl 2 rfl) ?_
        refine r_get C hI 18 (by decide) rfl rfl hin7 11 (by decide) (fn := "readGlove") (fd := "[I") (index := 22) (by decide +kernel) ⟨rfl, rfl, rfl⟩ (v := .ref (gA g 23)) rfl dX7_readGlove_46 ?_
        refine lv_iconst (v := iI 3) hx hb dX7_readGlove_49 rfl ?_
        refine lv_aload_n hx hb dX7_readGlove_50 rfl (lv_at hl 2 rfl) ?_
        refine r_get C hI 18 (by decide) rfl rfl hin7 9 (by decide) (fn := "readGloves") (fd := "I") (index := 79) (by decide +kernel) ⟨rfl, rfl, rfl⟩ (v := .int (iI (M_3 18 9))) rfl dX7_readGlove_51 ?_
        refine r_imul hx hb dX7_readGlove_54 ?_
        refine lv_iload_n hx hb dX7_readGlove_55 rfl (lv_at hl 1 rfl) ?_
        refine r_iadd hx hb dX7_readGlove_56 ?_
        refine lv_iload_n hx hb dX7_readGlove_57 rfl (lv_at hl 0 rfl) ?_
        refine r_ast C hI 23 (by decide) (fun _ => rfl) (by omega) (by decide) dX7_readGlove_58 (fun H locs hI => ?_)
        refine lv_iinc (v := iI (3)) (lv' := [(1, .int (iI 3)), (2, .int (iI z_3)), (0, .ref (gA g 18))]) hx hb dX7_readGlove_59 hl (k := 1) rfl (iI_add _ _) (by decide) rfl (fun ls hl => ?_)
        refine lv_goto (tgt := 2) hx hb dX7_readGlove_62 (by decide) ?_
        refine lv_iload_n hx hb dX7_readGlove_2 rfl (lv_at hl 0 rfl) ?_
        refine lv_iconst (v := iI 3) hx hb dX7_readGlove_3 rfl ?_
        refine r_icmp_ge hx hb (tgt := 65) (by decide) (by decide) dX7_readGlove_4 (by decide) (fun c_12 => ?_) (fun c => absurd c (by decide))
        refine lv_aload_n hx hb dX7_readGlove_65 rfl (lv_at hl 2 rfl) ?_
        refine lv_dup hx hb dX7_readGlove_66 rfl ?_
        refine r_get C hI 18 (by decide) rfl rfl hin7 9 (by decide) (fn := "readGloves") (fd := "I") (index := 79) (by decide +kernel) ⟨rfl, rfl, rfl⟩ (v := .int (iI (M_3 18 9))) rfl dX7_readGlove_67 ?_
        refine r_eqI (z2 := M_3 18 9) (by first | rfl | (repeat first | rw [mset_s, rw1_s] | rw [mset_s, rw1_n _ _ (by omega)] | rw [mset_n _ _ _ (by decide)])) ?_
        refine lv_iconst (v := iI 1) hx hb dX7_readGlove_70 rfl ?_
        refine r_iadd hx hb dX7_readGlove_71 ?_
        refine r_put C hI 18 (by decide) rfl rfl tyX7 tyX7_ok nmX7 hin7 9 (by decide) (fn := "readGloves") (fd := "I") (index := 79) (by decide +kernel) ⟨rfl, rfl, rfl⟩ rfl (z := (M_3 18 9) + 1) rfl rfl (Nat.le_of_ble_eq_true rfl) rfl dX7_readGlove_72 (fun H locs hI => ?_)
        refine lv_iconst (v := iI 1) hx hb dX7_readGlove_75 rfl ?_
        refine r_zret C hr hlk hI (by decide +kernel) ?_ dX7_readGlove_76
        exact ⟨_, rfl, (show (fun z u => RD 9 23 1 3 0 3 0 7 M z u) 1 (mset (mset M_3 23 ((3 * (M_3 18 9)) + 2) z_3) 18 9 ((M_3 18 9) + 1)) from by show RD 9 23 1 3 0 3 0 7 M _ _; exact rd_ok (by decide) (by decide) a_3 b_1 b_2 b_3 x_1 x_2 x_3 (by omega) (by omega) r_1 r_2 r_3 v_1 v_2 v_3)⟩
      · refine lv_iconst (v := iI 0) hx hb dX7_readGlove_43 rfl ?_
        refine r_zret C hr hlk hI (by decide +kernel) ?_ dX7_readGlove_44
        exact ⟨_, rfl, (show (fun z u => RD 9 23 1 3 0 3 0 7 M z u) 0 M_3 from by show RD 9 23 1 3 0 3 0 7 M _ _; have h := d_3.resolve_right (fun h => by have h9 := h.2.2.2; omega); refine ⟨a_3, fun q h _ => b_3 q h, Or.inr ⟨rfl, ?_⟩⟩; exact Or.inr (Or.inr ⟨h.2.1, by omega, r_1, r_2, h.2.2⟩))⟩
    · refine lv_iconst (v := iI 0) hx hb dX7_readGlove_43 rfl ?_
      refine r_zret C hr hlk hI (by decide +kernel) ?_ dX7_readGlove_44
      exact ⟨_, rfl, (show (fun z u => RD 9 23 1 3 0 3 0 7 M z u) 0 M_2 from by show RD 9 23 1 3 0 3 0 7 M _ _; have h := d_2.resolve_right (fun h => by have h9 := h.2.2.2; omega); refine ⟨a_2, fun q h _ => b_2 q h, Or.inr ⟨rfl, ?_⟩⟩; exact Or.inr (Or.inl ⟨h.2.1, by omega, r_1, h.2.2⟩))⟩
  · refine lv_iconst (v := iI 0) hx hb dX7_readGlove_43 rfl ?_
    refine r_zret C hr hlk hI (by decide +kernel) ?_ dX7_readGlove_44
    exact ⟨_, rfl, (show (fun z u => RD 9 23 1 3 0 3 0 7 M z u) 0 M_1 from by show RD 9 23 1 3 0 3 0 7 M _ _; have h := d_1.resolve_right (fun h => by have h9 := h.2.2.2; omega); refine ⟨a_1, fun q h _ => b_1 q h, Or.inr ⟨rfl, ?_⟩⟩; exact Or.inl ⟨h.2.1, h.2.2⟩)⟩
set_option maxHeartbeats 4000000 in
set_option maxRecDepth 100000 in
theorem c_X7_readPart (l : Launch) (g : GT) (M : Mem) (hp : 0 ≤ M 18 3 ∧ M 18 3 < M 18 2) (hn : M 18 2 ≤ 40) (hl19 : ∀ j : Int, 0 ≤ M 19 j ∧ M 19 j ≤ 255) (h8 : 0 ≤ M 18 8 ∧ M 18 8 ≤ 5) (h9 : 0 ≤ M 18 9 ∧ M 18 9 ≤ 4) : Ctr l g yX7_readPart wsX7_readPart ({ frames := 3, cells := 0, slots := 0, locals := 69 } : Room) [.ref (gA g 18)] M (pE (fun z u => RPT M z u)) := by
  refine Ctr.mk (cc := cX7_readPart) (maxL := 2) (ret := some .boolean) (lv := [(0, .ref (gA g 18))]) (by decide) rfl (Nat.le_of_ble_eq_true rfl) rfl ?_
  intro p e s m below meth c C hr hlk hI ls hl
  have C : CallFix p m c cX7_readPart 2 s ([.ref (gA g 18)] : List Value).toArray wsX7_readPart RX7 := C
  have hx := C.1
  have hb := C.2.1
  have hts := C.2.2.2.2
  have hin7 : ∀ w ∈ u_ws RX7 TX7 31, w ∈ wsX7_readPart := by decide +kernel
  have hl0 := hl19 (M 18 3)
  refine lv_aload_n hx hb dX7_readPart_0 rfl (lv_at hl 0 rfl) ?_
  refine r_get C hI 18 (by decide) rfl rfl hin7 1 (by decide) (fn := "text") (fd := "[I") (index := 7) (by decide +kernel) ⟨rfl, rfl, rfl⟩ (v := .ref (gA g 19)) rfl dX7_readPart_1 ?_
  refine lv_aload_n hx hb dX7_readPart_4 rfl (lv_at hl 0 rfl) ?_
  refine r_get C hI 18 (by decide) rfl rfl hin7 3 (by decide) (fn := "place") (fd := "I") (index := 69) (by decide +kernel) ⟨rfl, rfl, rfl⟩ (v := .int (iI (M 18 3))) rfl dX7_readPart_5 ?_
  refine r_ald C hI 19 (by decide) rfl (by omega) (by decide) dX7_readPart_8 ?_
  refine lv_istore_n (lv' := [(1, .int (iI (M 19 (M 18 3)))), (0, .ref (gA g 18))]) hx hb dX7_readPart_9 rfl hl (by decide) rfl (fun ls hl => ?_)
  refine lv_aload_n hx hb dX7_readPart_10 rfl (lv_at hl 1 rfl) ?_
  refine lv_dup hx hb dX7_readPart_11 rfl ?_
  refine r_get C hI 18 (by decide) rfl rfl hin7 3 (by decide) (fn := "place") (fd := "I") (index := 69) (by decide +kernel) ⟨rfl, rfl, rfl⟩ (v := .int (iI (M 18 3))) rfl dX7_readPart_12 ?_
  refine lv_iconst (v := iI 1) hx hb dX7_readPart_15 rfl ?_
  refine r_iadd hx hb dX7_readPart_16 ?_
  refine r_put C hI 18 (by decide) rfl rfl tyX7 tyX7_ok nmX7 hin7 3 (by decide) (fn := "place") (fd := "I") (index := 69) (by decide +kernel) ⟨rfl, rfl, rfl⟩ rfl (z := (M 18 3) + 1) rfl rfl (Nat.le_of_ble_eq_true rfl) rfl dX7_readPart_17 (fun H locs hI => ?_)
  refine lv_iload_n hx hb dX7_readPart_20 rfl (lv_at hl 0 rfl) ?_
  refine lv_bipush (v := iI 80) hx hb dX7_readPart_21 (by decide +kernel) ?_
  refine r_icmp_ne hx hb (tgt := 39) (by omega) (by decide) dX7_readPart_23 (by decide) (fun c_1 => ?_) (fun c_1 => ?_)
  · refine lv_iload_n hx hb dX7_readPart_39 rfl (lv_at hl 0 rfl) ?_
    refine lv_bipush (v := iI 76) hx hb dX7_readPart_40 (by decide +kernel) ?_
    refine r_icmp_ne hx hb (tgt := 58) (by omega) (by decide) dX7_readPart_42 (by decide) (fun c_2 => ?_) (fun c_2 => ?_)
    · refine lv_aload_n hx hb dX7_readPart_58 rfl (lv_at hl 1 rfl) ?_
      refine lv_dup hx hb dX7_readPart_59 rfl ?_
      refine r_get C hI 18 (by decide) rfl rfl hin7 3 (by decide) (fn := "place") (fd := "I") (index := 69) (by decide +kernel) ⟨rfl, rfl, rfl⟩ (v := .int (iI ((M 18 3) + 1))) rfl dX7_readPart_60 ?_
      refine r_eqI (z2 := (M 18 3) + 1) (by first | rfl | (repeat first | rw [mset_s, rw1_s] | rw [mset_s, rw1_n _ _ (by omega)] | rw [mset_n _ _ _ (by decide)])) ?_
      refine lv_iconst (v := iI 1) hx hb dX7_readPart_63 rfl ?_
      refine r_isub hx hb dX7_readPart_64 ?_
      refine r_put C hI 18 (by decide) rfl rfl tyX7 tyX7_ok nmX7 hin7 3 (by decide) (fn := "place") (fd := "I") (index := 69) (by decide +kernel) ⟨rfl, rfl, rfl⟩ rfl (z := ((M 18 3) + 1) - 1) rfl rfl (Nat.le_of_ble_eq_true rfl) rfl dX7_readPart_65 (fun H locs hI => ?_)
      refine lv_iconst (v := iI 0) hx hb dX7_readPart_68 rfl ?_
      refine r_zret C hr hlk hI (by first | decide +kernel | (rcases hz with q | q <;> rw [q] <;> decide +kernel)) ?_ dX7_readPart_69
      exact ⟨_, rfl, (show (fun z u => RPT M z u) 0 (mset (mset M 18 3 ((M 18 3) + 1)) 18 3 (((M 18 3) + 1) - 1)) from by show RPT M _ _; exact Or.inr (Or.inr ⟨by omega, by omega, rfl, rfl⟩))⟩
    · refine lv_aload_n hx hb dX7_readPart_45 rfl (lv_at hl 1 rfl) ?_
      refine r_get C hI 18 (by decide) rfl rfl hin7 9 (by decide) (fn := "readGloves") (fd := "I") (index := 79) (by decide +kernel) ⟨rfl, rfl, rfl⟩ (v := .int (iI (M 18 9))) rfl dX7_readPart_46 ?_
      refine r_eqI (z2 := M 18 9) (by first | rfl | (repeat first | rw [mset_s, rw1_s] | rw [mset_s, rw1_n _ _ (by omega)] | rw [mset_n _ _ _ (by decide)])) ?_
      refine lv_iconst (v := iI 4) hx hb dX7_readPart_49 rfl ?_
      refine r_icmp_ge hx hb (tgt := 58) (by omega) (by decide) dX7_readPart_50 (by decide) (fun c_3 => ?_) (fun c_3 => ?_)
      · refine lv_aload_n hx hb dX7_readPart_58 rfl (lv_at hl 1 rfl) ?_
        refine lv_dup hx hb dX7_readPart_59 rfl ?_
        refine r_get C hI 18 (by decide) rfl rfl hin7 3 (by decide) (fn := "place") (fd := "I") (index := 69) (by decide +kernel) ⟨rfl, rfl, rfl⟩ (v := .int (iI ((M 18 3) + 1))) rfl dX7_readPart_60 ?_
        refine r_eqI (z2 := (M 18 3) + 1) (by first | rfl | (repeat first | rw [mset_s, rw1_s] | rw [mset_s, rw1_n _ _ (by omega)] | rw [mset_n _ _ _ (by decide)])) ?_
        refine lv_iconst (v := iI 1) hx hb dX7_readPart_63 rfl ?_
        refine r_isub hx hb dX7_readPart_64 ?_
        refine r_put C hI 18 (by decide) rfl rfl tyX7 tyX7_ok nmX7 hin7 3 (by decide) (fn := "place") (fd := "I") (index := 69) (by decide +kernel) ⟨rfl, rfl, rfl⟩ rfl (z := ((M 18 3) + 1) - 1) rfl rfl (Nat.le_of_ble_eq_true rfl) rfl dX7_readPart_65 (fun H locs hI => ?_)
        refine lv_iconst (v := iI 0) hx hb dX7_readPart_68 rfl ?_
        refine r_zret C hr hlk hI (by first | decide +kernel | (rcases hz with q | q <;> rw [q] <;> decide +kernel)) ?_ dX7_readPart_69
        exact ⟨_, rfl, (show (fun z u => RPT M z u) 0 (mset (mset M 18 3 ((M 18 3) + 1)) 18 3 (((M 18 3) + 1) - 1)) from by show RPT M _ _; exact Or.inr (Or.inr ⟨by omega, by omega, rfl, rfl⟩))⟩
      · refine lv_aload_n hx hb dX7_readPart_53 rfl (lv_at hl 1 rfl) ?_
        refine r_iv C hI (As := []) (rest := []) (c_X7_readGlove l g (mset M 18 3 ((M 18 3) + 1)) (show 0 ≤ ((M 18 3) + 1) ∧ ((M 18 3) + 1) ≤ (M 18 2) from by omega) (show (M 18 2) ≤ 40 from by omega) (show ∀ j : Int, 0 ≤ (M 19 j) ∧ (M 19 j) ≤ 255 from by assumption) (show 0 ≤ (M 18 9) ∧ (M 18 9) < 4 from by omega)) (cwV 0 hts gX7_readPart_X7_readGlove rfl rfl rfl (by decide +kernel) ⟨Nat.le_of_ble_eq_true rfl, Nat.le_of_ble_eq_true rfl⟩) (by decide) rfl rfl rfl hl.1 rfl (Nat.le_of_ble_eq_true rfl) dX7_readPart_54 ⟨Nat.zero_le _, Nat.zero_le _⟩ (k_E (fun z_1 M_1 H locs q_1 hI => ?_))
        have hz := RD_z q_1
        refine r_zret C hr hlk hI (by first | decide +kernel | (rcases hz with q | q <;> rw [q] <;> decide +kernel)) ?_ dX7_readPart_57
        exact ⟨_, rfl, (show (fun z u => RPT M z u) z_1 M_1 from by show RPT M _ _; exact Or.inr (Or.inl ⟨by omega, by omega, q_1⟩))⟩
  · refine lv_aload_n hx hb dX7_readPart_26 rfl (lv_at hl 1 rfl) ?_
    refine r_get C hI 18 (by decide) rfl rfl hin7 8 (by decide) (fn := "readPeople") (fd := "I") (index := 76) (by decide +kernel) ⟨rfl, rfl, rfl⟩ (v := .int (iI (M 18 8))) rfl dX7_readPart_27 ?_
    refine r_eqI (z2 := M 18 8) (by first | rfl | (repeat first | rw [mset_s, rw1_s] | rw [mset_s, rw1_n _ _ (by omega)] | rw [mset_n _ _ _ (by decide)])) ?_
    refine lv_iconst (v := iI 5) hx hb dX7_readPart_30 rfl ?_
    refine r_icmp_ge hx hb (tgt := 39) (by omega) (by decide) dX7_readPart_31 (by decide) (fun c_4 => ?_) (fun c_4 => ?_)
    · refine lv_iload_n hx hb dX7_readPart_39 rfl (lv_at hl 0 rfl) ?_
      refine lv_bipush (v := iI 76) hx hb dX7_readPart_40 (by decide +kernel) ?_
      refine r_icmp_ne hx hb (tgt := 58) (by omega) (by decide) dX7_readPart_42 (by decide) (fun c_5 => ?_) (fun c_5 => ?_)
      · refine lv_aload_n hx hb dX7_readPart_58 rfl (lv_at hl 1 rfl) ?_
        refine lv_dup hx hb dX7_readPart_59 rfl ?_
        refine r_get C hI 18 (by decide) rfl rfl hin7 3 (by decide) (fn := "place") (fd := "I") (index := 69) (by decide +kernel) ⟨rfl, rfl, rfl⟩ (v := .int (iI ((M 18 3) + 1))) rfl dX7_readPart_60 ?_
        refine r_eqI (z2 := (M 18 3) + 1) (by first | rfl | (repeat first | rw [mset_s, rw1_s] | rw [mset_s, rw1_n _ _ (by omega)] | rw [mset_n _ _ _ (by decide)])) ?_
        refine lv_iconst (v := iI 1) hx hb dX7_readPart_63 rfl ?_
        refine r_isub hx hb dX7_readPart_64 ?_
        refine r_put C hI 18 (by decide) rfl rfl tyX7 tyX7_ok nmX7 hin7 3 (by decide) (fn := "place") (fd := "I") (index := 69) (by decide +kernel) ⟨rfl, rfl, rfl⟩ rfl (z := ((M 18 3) + 1) - 1) rfl rfl (Nat.le_of_ble_eq_true rfl) rfl dX7_readPart_65 (fun H locs hI => ?_)
        refine lv_iconst (v := iI 0) hx hb dX7_readPart_68 rfl ?_
        refine r_zret C hr hlk hI (by first | decide +kernel | (rcases hz with q | q <;> rw [q] <;> decide +kernel)) ?_ dX7_readPart_69
        exact ⟨_, rfl, (show (fun z u => RPT M z u) 0 (mset (mset M 18 3 ((M 18 3) + 1)) 18 3 (((M 18 3) + 1) - 1)) from by show RPT M _ _; exact Or.inr (Or.inr ⟨by omega, by omega, rfl, rfl⟩))⟩
      · refine lv_aload_n hx hb dX7_readPart_45 rfl (lv_at hl 1 rfl) ?_
        refine r_get C hI 18 (by decide) rfl rfl hin7 9 (by decide) (fn := "readGloves") (fd := "I") (index := 79) (by decide +kernel) ⟨rfl, rfl, rfl⟩ (v := .int (iI (M 18 9))) rfl dX7_readPart_46 ?_
        refine r_eqI (z2 := M 18 9) (by first | rfl | (repeat first | rw [mset_s, rw1_s] | rw [mset_s, rw1_n _ _ (by omega)] | rw [mset_n _ _ _ (by decide)])) ?_
        refine lv_iconst (v := iI 4) hx hb dX7_readPart_49 rfl ?_
        refine r_icmp_ge hx hb (tgt := 58) (by omega) (by decide) dX7_readPart_50 (by decide) (fun c_6 => ?_) (fun c_6 => ?_)
        · refine lv_aload_n hx hb dX7_readPart_58 rfl (lv_at hl 1 rfl) ?_
          refine lv_dup hx hb dX7_readPart_59 rfl ?_
          refine r_get C hI 18 (by decide) rfl rfl hin7 3 (by decide) (fn := "place") (fd := "I") (index := 69) (by decide +kernel) ⟨rfl, rfl, rfl⟩ (v := .int (iI ((M 18 3) + 1))) rfl dX7_readPart_60 ?_
          refine r_eqI (z2 := (M 18 3) + 1) (by first | rfl | (repeat first | rw [mset_s, rw1_s] | rw [mset_s, rw1_n _ _ (by omega)] | rw [mset_n _ _ _ (by decide)])) ?_
          refine lv_iconst (v := iI 1) hx hb dX7_readPart_63 rfl ?_
          refine r_isub hx hb dX7_readPart_64 ?_
          refine r_put C hI 18 (by decide) rfl rfl tyX7 tyX7_ok nmX7 hin7 3 (by decide) (fn := "place") (fd := "I") (index := 69) (by decide +kernel) ⟨rfl, rfl, rfl⟩ rfl (z := ((M 18 3) + 1) - 1) rfl rfl (Nat.le_of_ble_eq_true rfl) rfl dX7_readPart_65 (fun H locs hI => ?_)
          refine lv_iconst (v := iI 0) hx hb dX7_readPart_68 rfl ?_
          refine r_zret C hr hlk hI (by first | decide +kernel | (rcases hz with q | q <;> rw [q] <;> decide +kernel)) ?_ dX7_readPart_69
          exact ⟨_, rfl, (show (fun z u => RPT M z u) 0 (mset (mset M 18 3 ((M 18 3) + 1)) 18 3 (((M 18 3) + 1) - 1)) from by show RPT M _ _; exact Or.inr (Or.inr ⟨by omega, by omega, rfl, rfl⟩))⟩
        · refine lv_aload_n hx hb dX7_readPart_53 rfl (lv_at hl 1 rfl) ?_
          refine r_iv C hI (As := []) (rest := []) (c_X7_readGlove l g (mset M 18 3 ((M 18 3) + 1)) (show 0 ≤ ((M 18 3) + 1) ∧ ((M 18 3) + 1) ≤ (M 18 2) from by omega) (show (M 18 2) ≤ 40 from by omega) (show ∀ j : Int, 0 ≤ (M 19 j) ∧ (M 19 j) ≤ 255 from by assumption) (show 0 ≤ (M 18 9) ∧ (M 18 9) < 4 from by omega)) (cwV 0 hts gX7_readPart_X7_readGlove rfl rfl rfl (by decide +kernel) ⟨Nat.le_of_ble_eq_true rfl, Nat.le_of_ble_eq_true rfl⟩) (by decide) rfl rfl rfl hl.1 rfl (Nat.le_of_ble_eq_true rfl) dX7_readPart_54 ⟨Nat.zero_le _, Nat.zero_le _⟩ (k_E (fun z_2 M_2 H locs q_2 hI => ?_))
          have hz := RD_z q_2
          refine r_zret C hr hlk hI (by first | decide +kernel | (rcases hz with q | q <;> rw [q] <;> decide +kernel)) ?_ dX7_readPart_57
          exact ⟨_, rfl, (show (fun z u => RPT M z u) z_2 M_2 from by show RPT M _ _; exact Or.inr (Or.inl ⟨by omega, by omega, q_2⟩))⟩
    · refine lv_aload_n hx hb dX7_readPart_34 rfl (lv_at hl 1 rfl) ?_
      refine r_iv C hI (As := []) (rest := []) (c_X7_readPerson l g (mset M 18 3 ((M 18 3) + 1)) (show 0 ≤ ((M 18 3) + 1) ∧ ((M 18 3) + 1) ≤ (M 18 2) from by omega) (show (M 18 2) ≤ 40 from by omega) (show ∀ j : Int, 0 ≤ (M 19 j) ∧ (M 19 j) ≤ 255 from by assumption) (show 0 ≤ (M 18 8) ∧ (M 18 8) < 5 from by omega)) (cwV 0 hts gX7_readPart_X7_readPerson rfl rfl rfl (by decide +kernel) ⟨Nat.le_of_ble_eq_true rfl, Nat.le_of_ble_eq_true rfl⟩) (by decide) rfl rfl rfl hl.1 rfl (Nat.le_of_ble_eq_true rfl) dX7_readPart_35 ⟨Nat.zero_le _, Nat.zero_le _⟩ (k_E (fun z_3 M_3 H locs q_3 hI => ?_))
      have hz := RD_z q_3
      refine r_zret C hr hlk hI (by first | decide +kernel | (rcases hz with q | q <;> rw [q] <;> decide +kernel)) ?_ dX7_readPart_38
      exact ⟨_, rfl, (show (fun z u => RPT M z u) z_3 M_3 from by show RPT M _ _; exact Or.inl ⟨by omega, by omega, q_3⟩)⟩
set_option maxHeartbeats 4000000 in
set_option maxRecDepth 100000 in
theorem c_X7_readDesk (l : Launch) (g : GT) (M : Mem) (A : Mem) (wf : WF A) (rt : RT A M) : Ctr l g yX7_readDesk wsX7_readDesk ({ frames := 4, cells := 0, slots := 0, locals := 90 } : Room) [.ref (gA g 18)] M (pE (fun z u => z = fltO A ∧ (∀ c : Nat, c ≠ 18 → c ≠ 22 → c ≠ 23 → u c = M c) ∧ (∀ q : Int, q ≠ 3 → q ≠ 8 → q ≠ 9 → u 18 q = M 18 q) ∧ (z = -9 → RR A (nParts A) u))) := by
  refine Ctr.mk (cc := cX7_readDesk) (maxL := 1) (ret := some .int) (lv := [(0, .ref (gA g 18))]) (by decide) rfl (Nat.le_of_ble_eq_true rfl) rfl ?_
  intro p e s m below meth c C hr hlk hI ls hl
  have C : CallFix p m c cX7_readDesk 1 s ([.ref (gA g 18)] : List Value).toArray wsX7_readDesk RX7 := C
  have hx := C.1
  have hb := C.2.1
  have hts := C.2.2.2.2
  have hin7 : ∀ w ∈ u_ws RX7 TX7 31, w ∈ wsX7_readDesk := by decide +kernel
  obtain ⟨w_txt, hL, w_cnt, w_per, w_glo, w_now, w_act, w_rng, w_slo, w_see, w_sa⟩ := wf
  obtain ⟨t_n, t_l⟩ := rt
  have t_r : M 19 = A 2 := funext t_l
  have t_l0 := t_l 0
  have hL0 := hL 0
  refine lv_aload_n hx hb dX7_readDesk_0 rfl (lv_at hl 0 rfl) ?_
  refine lv_iconst (v := iI 0) hx hb dX7_readDesk_1 rfl ?_
  refine r_put C hI 18 (by decide) rfl rfl tyX7 tyX7_ok nmX7 hin7 3 (by decide) (fn := "place") (fd := "I") (index := 69) (by decide +kernel) ⟨rfl, rfl, rfl⟩ rfl (z := 0) rfl rfl (Nat.le_of_ble_eq_true rfl) rfl dX7_readDesk_2 (fun H locs hI => ?_)
  refine lv_aload_n hx hb dX7_readDesk_5 rfl (lv_at hl 0 rfl) ?_
  refine lv_iconst (v := iI 0) hx hb dX7_readDesk_6 rfl ?_
  refine r_put C hI 18 (by decide) rfl rfl tyX7 tyX7_ok nmX7 hin7 8 (by decide) (fn := "readPeople") (fd := "I") (index := 76) (by decide +kernel) ⟨rfl, rfl, rfl⟩ rfl (z := 0) rfl rfl (Nat.le_of_ble_eq_true rfl) rfl dX7_readDesk_7 (fun H locs hI => ?_)
  refine lv_aload_n hx hb dX7_readDesk_10 rfl (lv_at hl 0 rfl) ?_
  refine lv_iconst (v := iI 0) hx hb dX7_readDesk_11 rfl ?_
  refine r_put C hI 18 (by decide) rfl rfl tyX7 tyX7_ok nmX7 hin7 9 (by decide) (fn := "readGloves") (fd := "I") (index := 79) (by decide +kernel) ⟨rfl, rfl, rfl⟩ rfl (z := 0) rfl rfl (Nat.le_of_ble_eq_true rfl) rfl dX7_readDesk_12 (fun H locs hI => ?_)
  refine lv_aload_n hx hb dX7_readDesk_15 rfl (lv_at hl 0 rfl) ?_
  refine r_get C hI 18 (by decide) rfl rfl hin7 2 (by decide) (fn := "textSize") (fd := "I") (index := 66) (by decide +kernel) ⟨rfl, rfl, rfl⟩ (v := .int (iI (M 18 2))) rfl dX7_readDesk_16 ?_
  refine r_eqI (z2 := M 18 2) (by first | rfl | (repeat first | rw [mset_s, rw1_s] | rw [mset_s, rw1_n _ _ (by omega)] | rw [mset_n _ _ _ (by decide)])) ?_
  refine r_if_eq hx hb (tgt := 33) (by omega) dX7_readDesk_19 (by decide) (fun c_1 => ?_) (fun c_1 => ?_)
  · refine lv_iconst (v := iI 0) hx hb dX7_readDesk_33 rfl ?_
    refine r_iret C hr hlk hI ?_ dX7_readDesk_34
    exact ⟨_, rfl, (show (fun z u => z = fltO A ∧ (∀ c : Nat, c ≠ 18 → c ≠ 22 → c ≠ 23 → u c = M c) ∧ (∀ q : Int, q ≠ 3 → q ≠ 8 → q ≠ 9 → u 18 q = M 18 q) ∧ (z = -9 → RR A (nParts A) u)) 0 (mset (mset (mset M 18 3 0) 18 8 0) 18 9 0) from by (refine ⟨?_, fun c h1 h2 h3 => by (rw [mset_n _ _ _ h1, mset_n _ _ _ h1, mset_n _ _ _ h1]), fun q h1 h2 h3 => by (rw [mset_s, rw1_n _ _ h3, mset_s, rw1_n _ _ h2, mset_s, rw1_n _ _ h1]), fun h => absurd h (by decide)⟩); symm; first | (exact flt_bad ⟨by decide, by omega⟩ (fun t ht => absurd ht (by omega)) (by unfold fitB; rw [if_pos rfl, decide_eq_true_eq]; omega)) | (rw [flt_end (x := 0) ⟨by decide, by omega⟩ (fun t ht => absurd ht (by omega))]; rfl))⟩
  · refine lv_aload_n hx hb dX7_readDesk_22 rfl (lv_at hl 0 rfl) ?_
    refine r_get C hI 18 (by decide) rfl rfl hin7 1 (by decide) (fn := "text") (fd := "[I") (index := 7) (by decide +kernel) ⟨rfl, rfl, rfl⟩ (v := .ref (gA g 19)) rfl dX7_readDesk_23 ?_
    refine lv_iconst (v := iI 0) hx hb dX7_readDesk_26 rfl ?_
    refine r_ald C hI 19 (by decide) rfl (by omega) (by decide) dX7_readDesk_27 ?_
    refine r_eqI (z2 := M 19 0) (by first | rfl | (repeat first | rw [mset_s, rw1_s] | rw [mset_s, rw1_n _ _ (by omega)] | rw [mset_n _ _ _ (by decide)])) ?_
    refine lv_bipush (v := iI 71) hx hb dX7_readDesk_28 (by decide +kernel) ?_
    refine r_icmp_eq hx hb (tgt := 35) (by omega) (by decide) dX7_readDesk_30 (by decide) (fun c_2 => ?_) (fun c_2 => ?_)
    · refine lv_aload_n hx hb dX7_readDesk_35 rfl (lv_at hl 0 rfl) ?_
      refine lv_iconst (v := iI 1) hx hb dX7_readDesk_36 rfl ?_
      refine r_put C hI 18 (by decide) rfl rfl tyX7 tyX7_ok nmX7 hin7 3 (by decide) (fn := "place") (fd := "I") (index := 69) (by decide +kernel) ⟨rfl, rfl, rfl⟩ rfl (z := 1) rfl rfl (Nat.le_of_ble_eq_true rfl) rfl dX7_readDesk_37 (fun H locs hI => ?_)
      have lp40 : ∀ (n40 : Nat) (ND : Mem) (jj : Nat), (ND 18 3 = 1 + 4 * (jj : Int) ∧ 1 + 4 * (jj : Int) ≤ A 1 1) → (∀ c : Nat, c ≠ 18 → c ≠ 22 → c ≠ 23 → ND c = M c) → (∀ q : Int, q ≠ 3 → q ≠ 8 → q ≠ 9 → ND 18 q = M 18 q) → (RR A jj ND) → (∀ t : Int, 0 ≤ t ∧ t < 1 + 4 * (jj : Int) → fitB (A 2) t = true) → (A 1 1 - 4 * (jj : Int)).toNat < n40 → ∀ (H : Heap) (locs : List Loc), HI g s H locs ND → ∀ ls : Array Slot, lv_has ls 1 [(0, .ref (gA g 18))] → W p l e ({ frames := 4, cells := 0, slots := 0, locals := 90 } : Room) s m ([.ref (gA g 18)] : List Value).toArray below meth c H locs 0 0 (MQ below (QV g (pE (fun z u => z = fltO A ∧ (∀ c : Nat, c ≠ 18 → c ≠ 22 → c ≠ 23 → u c = M c) ∧ (∀ q : Int, q ≠ 3 → q ≠ 8 → q ≠ 9 → u 18 q = M 18 q) ∧ (z = -9 → RR A (nParts A) u)))) ([.ref (gA g 18)] : List Value).toArray s 0 0 (AA g)) (F0 m 40 ls []) := by
        intro n40
        induction n40 with
        | zero => intro ND jj i1 iC iQ iR iF hn40; exact absurd hn40 (Nat.not_lt_zero _)
        | succ n40 ih40 =>
          intro ND jj i1 iC iQ iR iF hn40 H locs hI ls hl
          have i2 : ND 18 2 = A 1 1 := (iQ 2 (by decide) (by decide) (by decide)).trans t_n
          have i19 : ND 19 = A 2 := (iC 19 (by decide) (by decide) (by decide)).trans t_r
          have ihd := rdM_3 A jj (fun i hi => (fit_part (iF (1 + 4 * (i : Int)) (by omega))).imp And.left And.left)
          have i80 := cntP_R (A 2) 80 jj
          have i76 := cntP_R (A 2) 76 jj
          have i8 : ND 18 8 = cntP (A 2) 80 jj := iR.1.1.trans ihd.1
          have i9 : ND 18 9 = cntP (A 2) 76 jj := iR.1.2.trans ihd.2
          have icb := cnt_le jj iF
          refine lv_aload_n hx hb dX7_readDesk_40 rfl (lv_at hl 0 rfl) ?_
          refine r_get C hI 18 (by decide) rfl rfl hin7 3 (by decide) (fn := "place") (fd := "I") (index := 69) (by decide +kernel) ⟨rfl, rfl, rfl⟩ (v := .int (iI (ND 18 3))) rfl dX7_readDesk_41 ?_
          refine lv_aload_n hx hb dX7_readDesk_44 rfl (lv_at hl 0 rfl) ?_
          refine r_get C hI 18 (by decide) rfl rfl hin7 2 (by decide) (fn := "textSize") (fd := "I") (index := 66) (by decide +kernel) ⟨rfl, rfl, rfl⟩ (v := .int (iI (ND 18 2))) rfl dX7_readDesk_45 ?_
          refine r_icmp_ge hx hb (tgt := 63) (by omega) (by omega) dX7_readDesk_48 (by decide) (fun c_3 => ?_) (fun c_3 => ?_)
          · refine lv_bipush (v := iI (-9)) hx hb dX7_readDesk_63 (by decide +kernel) ?_
            refine r_iret C hr hlk hI ?_ dX7_readDesk_65
            exact ⟨_, rfl, (show (fun z u => z = fltO A ∧ (∀ c : Nat, c ≠ 18 → c ≠ 22 → c ≠ 23 → u c = M c) ∧ (∀ q : Int, q ≠ 3 → q ≠ 8 → q ≠ 9 → u 18 q = M 18 q) ∧ (z = -9 → RR A (nParts A) u)) (-9) ND from by (have hj : 1 + 4 * (jj : Int) = A 1 1 := by omega); exact ⟨by rw [flt_end ⟨by omega, hj⟩ iF, if_pos (by omega)], iC, iQ, fun _ => by (rw [show nParts A = jj by unfold nParts; omega]; exact iR)⟩)⟩
          · refine lv_aload_n hx hb dX7_readDesk_51 rfl (lv_at hl 0 rfl) ?_
            refine r_iv C hI (As := []) (rest := []) (c_X7_readPart l g ND (show 0 ≤ (ND 18 3) ∧ (ND 18 3) < (ND 18 2) from by omega) (show (ND 18 2) ≤ 40 from by omega) (show ∀ j : Int, 0 ≤ (ND 19 j) ∧ (ND 19 j) ≤ 255 from by rw [i19]; exact hL) (show 0 ≤ (ND 18 8) ∧ (ND 18 8) ≤ 5 from by omega) (show 0 ≤ (ND 18 9) ∧ (ND 18 9) ≤ 4 from by omega)) (cwV 0 hts gX7_readDesk_X7_readPart rfl rfl rfl (by decide +kernel) ⟨Nat.le_of_ble_eq_true rfl, Nat.le_of_ble_eq_true rfl⟩) (by decide) rfl rfl rfl hl.1 rfl (Nat.le_of_ble_eq_true rfl) dX7_readDesk_52 ⟨Nat.zero_le _, Nat.zero_le _⟩ (k_E (fun z_1 M_1 H locs q_1 hI => ?_))
            have hzb := RPT_z q_1
            have fin := rpt_fin (A := A) (j := jj) i2 i19 i1.1 (by omega) iR iF q_1
            obtain ⟨fin1, fin2, fin3⟩ := fin
            refine r_if_ne hx hb (tgt := 40) (by omega) dX7_readDesk_55 (by decide) (fun c_4 => ?_) (fun c_4 => ?_)
            · exact ih40 M_1 (jj + 1) (by exact (fin3.resolve_left (fun h => absurd h.1 (by omega))).2.1) (by exact fun c h1 h2 h3 => (fin1 c h1 h2 h3).trans (iC c h1 h2 h3)) (by exact fun q h1 h2 h3 => (fin2 q h1 h2 h3).trans (iQ q h1 h2 h3)) (by exact (fin3.resolve_left (fun h => absurd h.1 (by omega))).2.2.1) (by exact (fin3.resolve_left (fun h => absurd h.1 (by omega))).2.2.2) (by omega) _ _ hI ls (lv_sub hl [0] rfl)
            · refine lv_aload_n hx hb dX7_readDesk_58 rfl (lv_at hl 0 rfl) ?_
              refine r_get C hI 18 (by decide) rfl rfl hin7 3 (by decide) (fn := "place") (fd := "I") (index := 69) (by decide +kernel) ⟨rfl, rfl, rfl⟩ (v := .int (iI (M_1 18 3))) rfl dX7_readDesk_59 ?_
              refine r_iret C hr hlk hI ?_ dX7_readDesk_62
              exact ⟨_, rfl, (show (fun z u => z = fltO A ∧ (∀ c : Nat, c ≠ 18 → c ≠ 22 → c ≠ 23 → u c = M c) ∧ (∀ q : Int, q ≠ 3 → q ≠ 8 → q ≠ 9 → u 18 q = M 18 q) ∧ (z = -9 → RR A (nParts A) u)) (M_1 18 3) M_1 from by exact ⟨(fin3.resolve_right (fun h => h.1 (by omega))).2.1.symm, fun c h1 h2 h3 => (fin1 c h1 h2 h3).trans (iC c h1 h2 h3), fun q h1 h2 h3 => (fin2 q h1 h2 h3).trans (iQ q h1 h2 h3), fun h => absurd (fin3.resolve_right (fun h => h.1 (by omega))).2.2 (by omega)⟩)⟩
      exact lp40 _ (mset (mset (mset (mset M 18 3 0) 18 8 0) 18 9 0) 18 3 1) 0 (by exact ⟨rfl, by omega⟩) (by exact fun c h1 h2 h3 => by rw [mset_n _ _ _ h1, mset_n _ _ _ h1, mset_n _ _ _ h1, mset_n _ _ _ h1]) (by exact fun q h1 h2 h3 => by rw [mset_s, rw1_n _ _ h1, mset_s, rw1_n _ _ h3, mset_s, rw1_n _ _ h2, mset_s, rw1_n _ _ h1]) (by exact ⟨⟨rfl, rfl⟩, fun q hq => absurd (show q < 0 from hq.2) (by omega), fun q hq => absurd (show q < 0 from hq.2) (by omega)⟩) (by exact fun t ht => by (rw [show t = 0 by omega]; unfold fitB; rw [if_pos rfl, decide_eq_true_eq]; omega)) (Nat.lt_succ_self _) _ _ hI ls (lv_sub hl [0] rfl)
    · refine lv_iconst (v := iI 0) hx hb dX7_readDesk_33 rfl ?_
      refine r_iret C hr hlk hI ?_ dX7_readDesk_34
      exact ⟨_, rfl, (show (fun z u => z = fltO A ∧ (∀ c : Nat, c ≠ 18 → c ≠ 22 → c ≠ 23 → u c = M c) ∧ (∀ q : Int, q ≠ 3 → q ≠ 8 → q ≠ 9 → u 18 q = M 18 q) ∧ (z = -9 → RR A (nParts A) u)) 0 (mset (mset (mset M 18 3 0) 18 8 0) 18 9 0) from by (refine ⟨?_, fun c h1 h2 h3 => by (rw [mset_n _ _ _ h1, mset_n _ _ _ h1, mset_n _ _ _ h1]), fun q h1 h2 h3 => by (rw [mset_s, rw1_n _ _ h3, mset_s, rw1_n _ _ h2, mset_s, rw1_n _ _ h1]), fun h => absurd h (by decide)⟩); symm; first | (exact flt_bad ⟨by decide, by omega⟩ (fun t ht => absurd ht (by omega)) (by unfold fitB; rw [if_pos rfl, decide_eq_true_eq]; omega)) | (rw [flt_end (x := 0) ⟨by decide, by omega⟩ (fun t ht => absurd ht (by omega))]; rfl))⟩
