
/-! WEEKS -/
theorem RM_wk {A A' M u : Mem} (r : RM A M) (hG : A 3 7 ≤ 4) (hA : ∀ c : Nat, c ≠ 0 → ¬ (35 ≤ c ∧ c < 38) → A' c = A c) (hu : ∀ c : Nat, c ≠ 18 → c ≠ 25 → u c = M c) (h18 : ∀ q : Int, q ≠ 0 → q ≠ 22 → u 18 q = M 18 q) (h : u 18 22 = A' 0 8) : QC M u ∧ RM A' u := by
  obtain ⟨r1, r2, r3, r4, r5, r6, r7⟩ := r
  have h3 := hA 3 (by decide) (by decide)
  refine ⟨fun c hc => hu c (by omega) (by omega), RT_fr r1 (hA 1 (by decide) (by decide)) (hA 2 (by decide) (by decide)) (hu 19 (by decide) (by decide)) (h18 2 (by decide) (by decide)), RP_fr r2 (fun c h1 h2 => hA c (by omega) (by omega)) (hu 20 (by decide) (by decide)) (hu 21 (by decide) (by decide)) (h18 4 (by decide) (by decide)) (h18 5 (by decide) (by decide)), ?_, RA_fr r4 hG h3 (hA 15 (by decide) (by decide)) (fun c _ _ => hA c (by omega) (by omega)) (hu 26 (by decide) (by decide)) (h18 15 (by decide) (by decide)), RK_fr r5 hG h3 (fun c _ _ => hA c (by omega) (by omega)) (hu 27 (by decide) (by decide)) (hu 28 (by decide) (by decide)), RS_fr r6 (fun c _ _ => hA c (by omega) (by omega)) (fun c _ _ => hu c (by omega) (by omega)) (h18 18 (by decide) (by decide)), h⟩
  rw [hu 24 (by decide) (by decide)]
  exact PG_fr r3 hG h3 (hA 32 (by decide) (by decide)) (hA 33 (by decide) (by decide)) (hA 34 (by decide) (by decide))
/-- the trial at its start -/
theorem PG_tri {A M : Mem} (h : PG A 32 (M 24) 0) (hG : A 3 7 ≤ 4) : PG (cpM A 32 35) 35 (cpA M 24 0 25 0 21 25) 0 := by
  refine PG_of h rfl hG (fun q hq => @cpM_o1 A 32 35 q hq) (@cpM_o2 A 32 35).1 (fun j hj => ?_)
  exact cpA_row hj
/-- a hand in the trial: only what the glove keeps has changed -/
theorem PG_hand {B B' : Mem} {r r' : Int → Int} {x k : Int} (h : PG B 35 r 0) (hx : 0 ≤ x ∧ x < 4) (hG : B 3 7 ≤ 4) (hB : ∀ c : Nat, c ≠ 36 → B' c = B c) (h36 : B' 36 = rw1 (B 36) x k) (hk : KG k r' (5 * x)) (hr : ∀ j : Int, ¬ (5 * x ≤ j ∧ j < 5 * x + 4) → r' j = r j) : PG B' 35 r' 0 := by
  have h3 := hB 3 (by decide)
  refine ⟨fun q hq => ?_, ?_⟩
  · rw [h3] at hq
    rw [Int.zero_add]
    obtain ⟨h1, h2⟩ := PG_0 h q hq
    show KG (B' 36 q) r' (5 * q) ∧ r' (5 * q + 4) = B' 37 q
    rw [hB 37 (by decide), h36]
    refine ⟨?_, by rw [hr _ (by omega)]; exact h2⟩
    by_cases e : q = x
    · subst e; rw [rw1_s]; exact hk
    · rw [rw1_n _ _ e]
      exact KG_of h1 (fun j hj => hr _ (by omega))
  · have := h.2
    rw [Int.zero_add] at this ⊢
    rw [hr 20 (by omega), hB 35 (by decide)]; exact this
