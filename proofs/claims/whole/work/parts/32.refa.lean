
theorem PG_fr {A A' : Mem} {o : Nat} {r : Int → Int} {b : Int} (h : PG A o r b) (hG : A 3 7 ≤ 4) (h3 : A' 3 = A 3) (h0 : A' o = A o) (h1 : A' (o + 1) = A (o + 1)) (h2 : A' (o + 2) = A (o + 2)) : PG A' o r b :=
  PG_of h (by rw [h3]) hG (fun q _ => ⟨by rw [h1], by rw [h2]⟩) (by rw [h0]) (fun _ _ => rfl)
theorem RA_fr {A A' M u : Mem} (r : RA A M) (hG : A 3 7 ≤ 4) (h3 : A' 3 = A 3) (h15 : A' 15 = A 15) (hr : ∀ c : Nat, 38 ≤ c → c < 80 → A' c = A c) (h26 : u 26 = M 26) (h18 : u 18 15 = M 18 15) : RA A' u := by
  refine ⟨by rw [h18, h15]; exact r.1, fun k hk => ?_⟩
  rw [h15] at hk
  have er : ringO A' k = ringO A k := by unfold ringO; rw [h15]
  have hb := ringO_b A k
  have h77 : ringO A k ≤ 77 := by unfold ringO; omega
  rw [er, h26]
  exact PG_fr (r.2 k hk) hG h3 (hr _ (by omega) (by omega)) (hr _ (by omega) (by omega)) (hr _ (by omega) (by omega))
theorem RK_fr {A A' M u : Mem} (r : RK A M) (hG : A 3 7 ≤ 4) (h3 : A' 3 = A 3) (hr : ∀ c : Nat, 80 ≤ c → c < 86 → A' c = A c) (h27 : u 27 = M 27) (h28 : u 28 = M 28) : RK A' u := by
  intro v hv
  have hs := (sltO_b hv).2
  have h6 := r v hv
  rw [h27, h28, hr (sltO v) (by omega) (by omega)]
  exact ⟨h6.1, fun q => PG_fr (h6.2 q) hG h3 (hr _ (by omega) (by omega)) (hr _ (by omega) (by omega)) (hr _ (by omega) (by omega))⟩
theorem RP_fr {A A' M u : Mem} (r : RP A M) (hA : ∀ c : Nat, 3 ≤ c → c < 10 → A' c = A c) (h20 : u 20 = M 20) (h21 : u 21 = M 21) (h4 : u 18 4 = M 18 4) (h5 : u 18 5 = M 18 5) : RP A' u := by
  unfold RP at r ⊢
  rw [hA 3 (by decide) (by decide), hA 4 (by decide) (by decide), hA 5 (by decide) (by decide), hA 6 (by decide) (by decide), hA 7 (by decide) (by decide), hA 8 (by decide) (by decide), hA 9 (by decide) (by decide), h20, h21, h4, h5]
  exact r
theorem RS_fr {A A' M u : Mem} (r : RS A M) (hA : ∀ c : Nat, 10 ≤ c → c < 14 → A' c = A c) (hu : ∀ c : Nat, 29 ≤ c → c < 32 → u c = M c) (h18 : u 18 18 = M 18 18) : RS A' u := by
  unfold RS at r ⊢
  rw [hA 10 (by decide) (by decide), hA 11 (by decide) (by decide), hA 12 (by decide) (by decide), hA 13 (by decide) (by decide), hu 29 (by decide) (by decide), hu 30 (by decide) (by decide), hu 31 (by decide) (by decide), h18]
  exact r
theorem RT_fr {A A' M u : Mem} (r : RT A M) (h1 : A' 1 = A 1) (h2 : A' 2 = A 2) (h19 : u 19 = M 19) (h18 : u 18 2 = M 18 2) : RT A' u := by
  unfold RT at r ⊢
  rw [h1, h2, h19, h18]
  exact r
theorem RM_txt {A A' M u : Mem} (r : RM A M) (hG : A 3 7 ≤ 4) (hA : ∀ c : Nat, c ≠ 1 → c ≠ 2 → A' c = A c) (hu : ∀ c : Nat, c ≠ 18 → c ≠ 19 → u c = M c) (h18 : ∀ q : Int, q ≠ 0 → q ≠ 2 → u 18 q = M 18 q) (h : RT A' u) : QC M u ∧ RM A' u := by
  obtain ⟨r1, r2, r3, r4, r5, r6, r7⟩ := r
  have h3 := hA 3 (by decide) (by decide)
  refine ⟨fun c hc => hu c (by omega) (by omega), h, RP_fr r2 (fun c h1 h2 => hA c (by omega) (by omega)) (hu 20 (by decide) (by decide)) (hu 21 (by decide) (by decide)) (h18 4 (by decide) (by decide)) (h18 5 (by decide) (by decide)), ?_, RA_fr r4 hG h3 (hA 15 (by decide) (by decide)) (fun c _ _ => hA c (by omega) (by omega)) (hu 26 (by decide) (by decide)) (h18 15 (by decide) (by decide)), RK_fr r5 hG h3 (fun c _ _ => hA c (by omega) (by omega)) (hu 27 (by decide) (by decide)) (hu 28 (by decide) (by decide)), RS_fr r6 (fun c _ _ => hA c (by omega) (by omega)) (fun c _ _ => hu c (by omega) (by omega)) (h18 18 (by decide) (by decide)), ?_⟩
  · rw [hu 24 (by decide) (by decide)]
    exact PG_fr r3 hG h3 (hA 32 (by decide) (by decide)) (hA 33 (by decide) (by decide)) (hA 34 (by decide) (by decide))
  · rw [hA 0 (by decide) (by decide), h18 22 (by decide) (by decide)]; exact r7
theorem RM_see {A A' M u : Mem} (r : RM A M) (hG : A 3 7 ≤ 4) (hA : ∀ c : Nat, ¬ (10 ≤ c ∧ c < 14) → A' c = A c) (hu : ∀ c : Nat, c ≠ 18 → ¬ (29 ≤ c ∧ c < 32) → u c = M c) (h18 : ∀ q : Int, q ≠ 0 → q ≠ 18 → u 18 q = M 18 q) (h : RS A' u) : QC M u ∧ RM A' u := by
  obtain ⟨r1, r2, r3, r4, r5, r6, r7⟩ := r
  have h3 := hA 3 (by decide)
  refine ⟨fun c hc => hu c (by omega) (by omega), RT_fr r1 (hA 1 (by decide)) (hA 2 (by decide)) (hu 19 (by decide) (by decide)) (h18 2 (by decide) (by decide)), RP_fr r2 (fun c h1 h2 => hA c (by omega)) (hu 20 (by decide) (by decide)) (hu 21 (by decide) (by decide)) (h18 4 (by decide) (by decide)) (h18 5 (by decide) (by decide)), ?_, RA_fr r4 hG h3 (hA 15 (by decide)) (fun c _ _ => hA c (by omega)) (hu 26 (by decide) (by decide)) (h18 15 (by decide) (by decide)), RK_fr r5 hG h3 (fun c _ _ => hA c (by omega)) (hu 27 (by decide) (by decide)) (hu 28 (by decide) (by decide)), h, ?_⟩
  · rw [hu 24 (by decide) (by decide)]
    exact PG_fr r3 hG h3 (hA 32 (by decide)) (hA 33 (by decide)) (hA 34 (by decide))
  · rw [hA 0 (by decide), h18 22 (by decide) (by decide)]; exact r7
theorem RM_sd {A A' M u : Mem} (r : RM A M) (hG : A 3 7 ≤ 4) (hA : ∀ c : Nat, c ≠ 0 → A' c = A c) (hu : ∀ c : Nat, c ≠ 18 → c ≠ 25 → u c = M c) (h18 : ∀ q : Int, q ≠ 0 → q ≠ 22 → u 18 q = M 18 q) (h : u 18 22 = A' 0 8) : QC M u ∧ RM A' u := by
  obtain ⟨r1, r2, r3, r4, r5, r6, r7⟩ := r
  have h3 := hA 3 (by decide)
  refine ⟨fun c hc => hu c (by omega) (by omega), RT_fr r1 (hA 1 (by decide)) (hA 2 (by decide)) (hu 19 (by decide) (by decide)) (h18 2 (by decide) (by decide)), RP_fr r2 (fun c h1 h2 => hA c (by omega)) (hu 20 (by decide) (by decide)) (hu 21 (by decide) (by decide)) (h18 4 (by decide) (by decide)) (h18 5 (by decide) (by decide)), ?_, RA_fr r4 hG h3 (hA 15 (by decide)) (fun c _ _ => hA c (by omega)) (hu 26 (by decide) (by decide)) (h18 15 (by decide) (by decide)), RK_fr r5 hG h3 (fun c _ _ => hA c (by omega)) (hu 27 (by decide) (by decide)) (hu 28 (by decide) (by decide)), RS_fr r6 (fun c _ _ => hA c (by omega)) (fun c _ _ => hu c (by omega) (by omega)) (h18 18 (by decide) (by decide)), h⟩
  rw [hu 24 (by decide) (by decide)]
  exact PG_fr r3 hG h3 (hA 32 (by decide)) (hA 33 (by decide)) (hA 34 (by decide))
/-- slots and acts -/
theorem RM_act {A A' M u : Mem} (r : RM A M) (hA : ∀ c : Nat, c < 14 → A' c = A c) (hu : ∀ c : Nat, c ≠ 18 → c ≠ 24 → ¬ (26 ≤ c ∧ c < 29) → u c = M c) (h18 : ∀ q : Int, q ≠ 0 → q ≠ 15 → u 18 q = M 18 q) (h : PG A' 32 (u 24) 0) (h2 : RA A' u) (h3 : RK A' u) : QC M u ∧ RM A' u := by
  obtain ⟨r1, r2, r3, r4, r5, r6, r7⟩ := r
  refine ⟨fun c hc => hu c (by omega) (by omega) (by omega), RT_fr r1 (hA 1 (by decide)) (hA 2 (by decide)) (hu 19 (by decide) (by decide) (by decide)) (h18 2 (by decide) (by decide)), RP_fr r2 (fun c h1 h2 => hA c (by omega)) (hu 20 (by decide) (by decide) (by decide)) (hu 21 (by decide) (by decide) (by decide)) (h18 4 (by decide) (by decide)) (h18 5 (by decide) (by decide)), h, h2, h3, RS_fr r6 (fun c _ _ => hA c (by omega)) (fun c _ _ => hu c (by omega) (by omega) (by omega)) (h18 18 (by decide) (by decide)), ?_⟩
  rw [hA 0 (by decide), h18 22 (by decide) (by decide)]; exact r7
theorem we_a (a0 a1 a2 a3 w : Int) (hw : 0 ≤ w) (d01 : a0 = a1 → a0 = -9) (d02 : a0 = a2 → a0 = -9) (d03 : a0 = a3 → a0 = -9) (d12 : a1 = a2 → a1 = -9) (d13 : a1 = a3 → a1 = -9) (d23 : a2 = a3 → a2 = -9) : (if a3 = w then (3 : Int) else if a2 = w then 2 else if a1 = w then 1 else if a0 = w then 0 else -9) = if a0 = w then 0 else if a1 = w then 1 else if a2 = w then 2 else if a3 = w then 3 else -9 := by
  by_cases h0 : a0 = w
  · rw [if_pos h0, if_neg (fun q => by have := d03 (h0.trans q.symm); omega), if_neg (fun q => by have := d02 (h0.trans q.symm); omega), if_neg (fun q => by have := d01 (h0.trans q.symm); omega), if_pos h0]
  · by_cases h1 : a1 = w
    · rw [if_neg (fun q => by have := d13 (h1.trans q.symm); omega), if_neg (fun q => by have := d12 (h1.trans q.symm); omega), if_pos h1, if_neg h0, if_pos h1]
    · by_cases h2 : a2 = w
      · rw [if_neg (fun q => by have := d23 (h2.trans q.symm); omega), if_pos h2, if_neg h0, if_neg h1, if_pos h2]
      · simp only [if_neg h0, if_neg h1, if_neg h2]
theorem we_eq {A : Mem} {o : Nat} {r : Int → Int} {w : Int} (h : PG A o r 0) (v : VM A o) (hG : 0 ≤ A 3 7 ∧ A 3 7 ≤ 4) (hw : 0 ≤ w) : weN r w (A 3 7).toNat = gOn (A (o + 2)) w := by
  have e : ∀ j : Nat, (j : Int) < A 3 7 → r (5 * (j : Int) + 4) = A (o + 2) (j : Int) := fun j hj => (PG_0 h (j : Int) (by omega)).2
  have n9 : ∀ q : Int, 0 ≤ q ∧ q < 4 → A (o + 2) q = -9 ∨ q < A 3 7 := fun q hq => by
    rcases (v.1 q hq).2.1 with h | h
    · exact Or.inl h
    · exact Or.inr h.2.2
  have d01 := v.2 0 1 (by decide) (by decide)
  have d02 := v.2 0 2 (by decide) (by decide)
  have d03 := v.2 0 3 (by decide) (by decide)
  have d12 := v.2 1 2 (by decide) (by decide)
  have d13 := v.2 1 3 (by decide) (by decide)
  have d23 := v.2 2 3 (by decide) (by decide)
  have n0 := n9 0 (by decide)
  have n1 := n9 1 (by decide)
  have n2 := n9 2 (by decide)
  have n3 := n9 3 (by decide)
  obtain ⟨n, hn⟩ : ∃ n : Nat, A 3 7 = n := ⟨(A 3 7).toNat, by omega⟩
  rw [show (A 3 7).toNat = n by rw [hn]; rfl]
  have e0 : 0 < A 3 7 → r (5 * ((0 : Nat) : Int) + 4) = A (o + 2) 0 := e 0
  have e1 : 1 < A 3 7 → r (5 * ((1 : Nat) : Int) + 4) = A (o + 2) 1 := e 1
  have e2 : 2 < A 3 7 → r (5 * ((2 : Nat) : Int) + 4) = A (o + 2) 2 := e 2
  have e3 : 3 < A 3 7 → r (5 * ((3 : Nat) : Int) + 4) = A (o + 2) 3 := e 3
  have m0 : A 3 7 ≤ 0 → ¬ A (o + 2) 0 = w := fun _ => by omega
  have m1 : A 3 7 ≤ 1 → ¬ A (o + 2) 1 = w := fun _ => by omega
  have m2 : A 3 7 ≤ 2 → ¬ A (o + 2) 2 = w := fun _ => by omega
  have m3 : A 3 7 ≤ 3 → ¬ A (o + 2) 3 = w := fun _ => by omega
  have w0 : weN r w 0 = -9 := rfl
  have w1 : weN r w 1 = if r (5 * ((0 : Nat) : Int) + 4) = w then 0 else weN r w 0 := rfl
  have w2 : weN r w 2 = if r (5 * ((1 : Nat) : Int) + 4) = w then 1 else weN r w 1 := rfl
  have w3 : weN r w 3 = if r (5 * ((2 : Nat) : Int) + 4) = w then 2 else weN r w 2 := rfl
  have w4 : weN r w 4 = if r (5 * ((3 : Nat) : Int) + 4) = w then 3 else weN r w 3 := rfl
  rw [w0] at w1
  rw [w1] at w2
  rw [w2] at w3
  rw [w3] at w4
  have key := we_a (A (o + 2) 0) (A (o + 2) 1) (A (o + 2) 2) (A (o + 2) 3) w hw (fun q => (d01 q).resolve_right (by decide)) (fun q => (d02 q).resolve_right (by decide)) (fun q => (d03 q).resolve_right (by decide)) (fun q => (d12 q).resolve_right (by decide)) (fun q => (d13 q).resolve_right (by decide)) (fun q => (d23 q).resolve_right (by decide))
  clear d01 d02 d03 d12 d13 d23
  unfold gOn
  rw [← key]
  have hn5 : n = 0 ∨ n = 1 ∨ n = 2 ∨ n = 3 ∨ n = 4 := by
    have h5 := hG.2
    rw [hn] at h5
    clear key w0 w1 w2 w3 w4
    omega
  rcases hn5 with rfl | rfl | rfl | rfl | rfl
  · rw [w0, if_neg (m3 (by rw [hn]; decide)), if_neg (m2 (by rw [hn]; decide)), if_neg (m1 (by rw [hn]; decide)), if_neg (m0 (by rw [hn]; decide))]
  · rw [w1, e0 (by rw [hn]; decide), if_neg (m3 (by rw [hn]; decide)), if_neg (m2 (by rw [hn]; decide)), if_neg (m1 (by rw [hn]; decide))]
  · rw [w2, e0 (by rw [hn]; decide), e1 (by rw [hn]; decide), if_neg (m3 (by rw [hn]; decide)), if_neg (m2 (by rw [hn]; decide))]
  · rw [w3, e0 (by rw [hn]; decide), e1 (by rw [hn]; decide), e2 (by rw [hn]; decide), if_neg (m3 (by rw [hn]; decide))]
  · rw [w4, e0 (by rw [hn]; decide), e1 (by rw [hn]; decide), e2 (by rw [hn]; decide), e3 (by rw [hn]; decide)]
/-- the figures of a glove, one behind the other -/
def tlN (r : Int → Int) (b : Int) : Nat → Int
  | 0 => 0
  | n + 1 => 10 * tlN r b n + r (b + ((n : Int) + 1))
theorem tl_eq {k b : Int} {r : Int → Int} (h : KG k r b) (hk : 0 ≤ k ∧ k < 1000) : tlN r b (figs k).toNat = k := by
  obtain ⟨h1, h2, h3, h4⟩ := h
  have e0 : tlN r b 0 = 0 := rfl
  have e1 : tlN r b 1 = 10 * tlN r b 0 + r (b + 1) := rfl
  have e2 : tlN r b 2 = 10 * tlN r b 1 + r (b + 2) := rfl
  have e3 : tlN r b 3 = 10 * tlN r b 2 + r (b + 3) := rfl
  unfold fstO at h2
  unfold figs
  by_cases q0 : k ≤ 0
  · rw [if_pos q0]; show (0 : Int) = k; omega
  · rw [if_neg q0]
    by_cases q1 : k < 10
    · rw [if_pos q1]; show tlN r b 1 = k; rw [e1, e0, h2 (by omega), if_neg (by omega), if_neg (by omega)]; omega
    · rw [if_neg q1]
      by_cases q2 : k < 100
      · rw [if_pos q2]; show tlN r b 2 = k; rw [e2, e1, e0, h2 (by omega), h3 (by omega), if_neg (by omega), if_pos (by omega), if_pos q2]; omega
      · rw [if_neg q2]; show tlN r b 3 = k; rw [e3, e2, e1, e0, h2 (by omega), h3 (by omega), h4 (by omega), if_pos (by omega), if_neg q2]; omega
theorem tlN_b {k b : Int} {r : Int → Int} (h : KG k r b) (hk : KOK k 3) : ∀ n : Nat, (n : Int) ≤ r b → 0 ≤ tlN r b n ∧ tlN r b n < 1000 := by
  intro n hn
  have hb := KG_b h
  obtain ⟨h1, h2, h3, h4⟩ := h
  rw [h1] at hn
  unfold KOK at hk
  unfold fstO at h2
  unfold figs at hn
  have e0 : tlN r b 0 = 0 := rfl
  have e1 : tlN r b 1 = 10 * tlN r b 0 + r (b + 1) := rfl
  have e2 : tlN r b 2 = 10 * tlN r b 1 + r (b + 2) := rfl
  have e3 : tlN r b 3 = 10 * tlN r b 2 + r (b + 3) := rfl
  have hn3 : n = 0 ∨ n = 1 ∨ n = 2 ∨ n = 3 := by (repeat' split at hn) <;> omega
  obtain rfl | rfl | rfl | rfl := hn3
  · rw [e0]; omega
  · have : 1 ≤ k := by (repeat' split at hn) <;> omega
    rw [e1, e0, h2 this]; (repeat' split) <;> omega
  · have q : 10 ≤ k := by (repeat' split at hn) <;> omega
    rw [e2, e1, e0, h2 (by omega), h3 q]; (repeat' split) <;> omega
  · have q : 100 ≤ k := by (repeat' split at hn) <;> omega
    rw [e3, e2, e1, e0, h2 (by omega), h3 (by omega), h4 q]; (repeat' split) <;> omega
theorem KOK_3 {k r : Int} (h : KOK k r) : KOK k 3 := by unfold KOK at h ⊢; omega
set_option maxHeartbeats 4000000 in
set_option maxRecDepth 100000 in
theorem c_X7_write (l : Launch) (g : GT) (M : Mem) (v : Int) (A : Mem) (wf : WF A) (rm : RM A M) (h_v : -2147483648 ≤ v ∧ v < 2147483648) : Ctr l g yX7_write wsX7_write ({ frames := 1, cells := 0, slots := 0, locals := 25 } : Room) [.ref (gA g 18), .int (iI v)] M (pE (fun z u => z = zWr A v ∧ QC M u ∧ RM (gWr A v) u)) := by
  refine Ctr.mk (cc := cX7_write) (maxL := 2) (ret := some .int) (lv := [(0, .ref (gA g 18)), (1, .int (iI v))]) (by decide) rfl (Nat.le_of_ble_eq_true rfl) rfl ?_
  intro p e s m below meth c C hr hlk hI ls hl
  have C : CallFix p m c cX7_write 2 s ([.ref (gA g 18), .int (iI v)] : List Value).toArray wsX7_write RX7 := C
  have hx := C.1
  have hb := C.2.1
  have hts := C.2.2.2.2
  have hin7 : ∀ w ∈ u_ws RX7 TX7 31, w ∈ wsX7_write := by decide +kernel
  have wf0 := wf
  obtain ⟨w_txt, hL, w_cnt, w_per, w_glo, w_now, w_act, w_rng, w_slo, w_see, w_sa⟩ := wf
  have rm0 := rm
  obtain ⟨⟨t_n, t_l⟩, ⟨⟨p_p, p_g⟩, p_r, g_r⟩, pgn, ⟨a_n, a_r⟩, k_r, ⟨s_n, s_r⟩, sd⟩ := rm
  refine lv_aload_n hx hb dX7_write_0 rfl (lv_at hl 0 rfl) ?_
  refine lv_iconst (v := iI 0) hx hb dX7_write_1 rfl ?_
  refine r_put C hI 18 (by decide) rfl rfl tyX7 tyX7_ok nmX7 hin7 0 (by decide) (fn := "thrown") (fd := "I") (index := 50) (by decide +kernel) ⟨rfl, rfl, rfl⟩ rfl (z := 0) rfl rfl (Nat.le_of_ble_eq_true rfl) rfl dX7_write_2 (fun H locs hI => ?_)
  refine lv_iload_n hx hb dX7_write_5 rfl (lv_at hl 1 rfl) ?_
  refine r_i2l hx hb (by omega) dX7_write_6 ?_
  refine lv_lconst (v := iL 0) hx hb dX7_write_7 (by decide +kernel) ?_
  refine r_ldc2 C (n := 255) (v := (255 : Int64)) (index := 64) (by decide +kernel) (by decide +kernel) dX7_write_8 ?_
  refine r_is C hI (As := [.long (iL v), .long (iL 0), .long (iL 255)]) (rest := []) (c_X7_in l g (mset M 18 0 0) v 0 255 (by omega) (by omega) (by omega)) (va_cwS 3 hts gX7_write_X7_in rfl rfl rfl (by decide +kernel) ⟨Nat.le_of_ble_eq_true rfl, Nat.le_of_ble_eq_true rfl⟩) rfl hl.1 rfl (Nat.le_of_ble_eq_true rfl) dX7_write_11 ⟨Nat.zero_le _, Nat.zero_le _⟩ (k_I (fun H locs hI => ?_))
  refine r_b_ne hx hb (tgt := 20) dX7_write_14 (by decide) (fun c_1 => ?_) (fun c_1 => ?_)
  · refine lv_aload_n hx hb dX7_write_20 rfl (lv_at hl 0 rfl) ?_
    refine r_get C hI 18 (by decide) rfl rfl hin7 2 (by decide) (fn := "textSize") (fd := "I") (index := 66) (by decide +kernel) ⟨rfl, rfl, rfl⟩ (v := .int (iI (M 18 2))) rfl dX7_write_21 ?_
    refine r_eqI (z2 := M 18 2) (by first | rfl | (repeat first | rw [mset_s, rw1_s] | rw [mset_s, rw1_n _ _ (by omega)] | rw [mset_n _ _ _ (by decide)])) ?_
    refine lv_bipush (v := iI 40) hx hb dX7_write_24 (by decide +kernel) ?_
    refine r_icmp_ne hx hb (tgt := 32) (by omega) (by decide) dX7_write_26 (by decide) (fun c_2 => ?_) (fun c_2 => ?_)
    · refine lv_aload_n hx hb dX7_write_32 rfl (lv_at hl 0 rfl) ?_
      refine r_get C hI 18 (by decide) rfl rfl hin7 1 (by decide) (fn := "text") (fd := "[I") (index := 7) (by decide +kernel) ⟨rfl, rfl, rfl⟩ (v := .ref (gA g 19)) rfl dX7_write_33 ?_
      refine lv_aload_n hx hb dX7_write_36 rfl (lv_at hl 0 rfl) ?_
      refine r_get C hI 18 (by decide) rfl rfl hin7 2 (by decide) (fn := "textSize") (fd := "I") (index := 66) (by decide +kernel) ⟨rfl, rfl, rfl⟩ (v := .int (iI (M 18 2))) rfl dX7_write_37 ?_
      refine r_eqI (z2 := M 18 2) (by first | rfl | (repeat first | rw [mset_s, rw1_s] | rw [mset_s, rw1_n _ _ (by omega)] | rw [mset_n _ _ _ (by decide)])) ?_
      refine lv_iload_n hx hb dX7_write_40 rfl (lv_at hl 1 rfl) ?_
      refine r_ast C hI 19 (by decide) (fun _ => rfl) (by omega) (by decide) dX7_write_41 (fun H locs hI => ?_)
      refine lv_aload_n hx hb dX7_write_42 rfl (lv_at hl 0 rfl) ?_
      refine lv_dup hx hb dX7_write_43 rfl ?_
      refine r_get C hI 18 (by decide) rfl rfl hin7 2 (by decide) (fn := "textSize") (fd := "I") (index := 66) (by decide +kernel) ⟨rfl, rfl, rfl⟩ (v := .int (iI (M 18 2))) rfl dX7_write_44 ?_
      refine r_eqI (z2 := M 18 2) (by first | rfl | (repeat first | rw [mset_s, rw1_s] | rw [mset_s, rw1_n _ _ (by omega)] | rw [mset_n _ _ _ (by decide)])) ?_
      refine lv_iconst (v := iI 1) hx hb dX7_write_47 rfl ?_
      refine r_iadd hx hb dX7_write_48 ?_
      refine r_put C hI 18 (by decide) rfl rfl tyX7 tyX7_ok nmX7 hin7 2 (by decide) (fn := "textSize") (fd := "I") (index := 66) (by decide +kernel) ⟨rfl, rfl, rfl⟩ rfl (z := (M 18 2) + 1) rfl rfl (Nat.le_of_ble_eq_true rfl) rfl dX7_write_49 (fun H locs hI => ?_)
      refine lv_aload_n hx hb dX7_write_52 rfl (lv_at hl 0 rfl) ?_
      refine r_get C hI 18 (by decide) rfl rfl hin7 2 (by decide) (fn := "textSize") (fd := "I") (index := 66) (by decide +kernel) ⟨rfl, rfl, rfl⟩ (v := .int (iI ((M 18 2) + 1))) rfl dX7_write_53 ?_
      refine r_eqI (z2 := (M 18 2) + 1) (by first | rfl | (repeat first | rw [mset_s, rw1_s] | rw [mset_s, rw1_n _ _ (by omega)] | rw [mset_n _ _ _ (by decide)])) ?_
      refine r_iret C hr hlk hI ?_ dX7_write_56
      exact ⟨_, rfl, (show (fun z u => z = zWr A v ∧ QC M u ∧ RM (gWr A v) u) ((M 18 2) + 1) (mset (mset (mset M 18 0 0) 19 (M 18 2) v) 18 2 ((M 18 2) + 1)) from by exact ⟨(by unfold zWr; (repeat' split) <;> first | rfl | omega | (simp_all; done) | (simp_all; omega)), (by unfold gWr; rw [if_neg (by omega), if_neg (by omega)]; refine RM_txt rm0 w_cnt.2.2 (fun c h1 h2 => by rw [mset_n _ _ _ h1, mset_n _ _ _ h2]) (fun c h1 h2 => by rw [mset_n _ _ _ h1, mset_n _ _ _ h2, mset_n _ _ _ h1]) (fun q h1 h2 => by rw [mset_s, rw1_n _ _ h2, mset_n _ _ _ (by decide), mset_s, rw1_n _ _ h1]) ⟨by (rw [mset_s, rw1_s, mset_s, rw1_s, t_n]), fun j => ?_⟩; rw [← t_n]; show rw1 (M 19) (M 18 2) v j = rw1 (A 2) (M 18 2) v j; unfold rw1; split; rfl; exact t_l j)⟩)⟩
    · refine lv_bipush (v := iI (-4)) hx hb dX7_write_29 (by decide +kernel) ?_
      refine r_iret C hr hlk hI ?_ dX7_write_31
      exact ⟨_, rfl, (show (fun z u => z = zWr A v ∧ QC M u ∧ RM (gWr A v) u) (-4) (mset M 18 0 0) from by exact ⟨(by unfold zWr; (repeat' split) <;> first | rfl | omega | (simp_all; done) | (simp_all; omega)), (by unfold gWr; first | (rw [if_pos (by omega)]; exact RO rm0) | (rw [if_neg (by omega), if_pos (by omega)]; exact RO rm0))⟩)⟩
  · refine lv_bipush (v := iI (-2)) hx hb dX7_write_17 (by decide +kernel) ?_
    refine r_iret C hr hlk hI ?_ dX7_write_19
    exact ⟨_, rfl, (show (fun z u => z = zWr A v ∧ QC M u ∧ RM (gWr A v) u) (-2) (mset M 18 0 0) from by exact ⟨(by unfold zWr; (repeat' split) <;> first | rfl | omega | (simp_all; done) | (simp_all; omega)), (by unfold gWr; first | (rw [if_pos (by omega)]; exact RO rm0) | (rw [if_neg (by omega), if_pos (by omega)]; exact RO rm0))⟩)⟩
set_option maxHeartbeats 4000000 in
set_option maxRecDepth 100000 in
theorem c_X7_wipe (l : Launch) (g : GT) (M : Mem) (A : Mem) (wf : WF A) (rm : RM A M) : Ctr l g yX7_wipe wsX7_wipe ({ frames := 0, cells := 0, slots := 0, locals := 0 } : Room) [.ref (gA g 18)] M (pE (fun z u => z = A 1 1 ∧ QC M u ∧ RM (mset A 1 1 0) u)) := by
  refine Ctr.mk (cc := cX7_wipe) (maxL := 2) (ret := some .int) (lv := [(0, .ref (gA g 18))]) (by decide) rfl (Nat.le_of_ble_eq_true rfl) rfl ?_
  intro p e s m below meth c C hr hlk hI ls hl
  have C : CallFix p m c cX7_wipe 2 s ([.ref (gA g 18)] : List Value).toArray wsX7_wipe RX7 := C
  have hx := C.1
  have hb := C.2.1
  have hts := C.2.2.2.2
  have hin7 : ∀ w ∈ u_ws RX7 TX7 31, w ∈ wsX7_wipe := by decide +kernel
  have wf0 := wf
  obtain ⟨w_txt, hL, w_cnt, w_per, w_glo, w_now, w_act, w_rng, w_slo, w_see, w_sa⟩ := wf
  have rm0 := rm
  obtain ⟨⟨t_n, t_l⟩, ⟨⟨p_p, p_g⟩, p_r, g_r⟩, pgn, ⟨a_n, a_r⟩, k_r, ⟨s_n, s_r⟩, sd⟩ := rm
  refine lv_aload_n hx hb dX7_wipe_0 rfl (lv_at hl 0 rfl) ?_
  refine lv_iconst (v := iI 0) hx hb dX7_wipe_1 rfl ?_
  refine r_put C hI 18 (by decide) rfl rfl tyX7 tyX7_ok nmX7 hin7 0 (by decide) (fn := "thrown") (fd := "I") (index := 50) (by decide +kernel) ⟨rfl, rfl, rfl⟩ rfl (z := 0) rfl rfl (Nat.le_of_ble_eq_true rfl) rfl dX7_wipe_2 (fun H locs hI => ?_)
  refine lv_aload_n hx hb dX7_wipe_5 rfl (lv_at hl 0 rfl) ?_
  refine r_get C hI 18 (by decide) rfl rfl hin7 2 (by decide) (fn := "textSize") (fd := "I") (index := 66) (by decide +kernel) ⟨rfl, rfl, rfl⟩ (v := .int (iI (M 18 2))) rfl dX7_wipe_6 ?_
  refine r_eqI (z2 := M 18 2) (by first | rfl | (repeat first | rw [mset_s, rw1_s] | rw [mset_s, rw1_n _ _ (by omega)] | rw [mset_n _ _ _ (by decide)])) ?_
  refine lv_istore_n (lv' := [(1, .int (iI (M 18 2))), (0, .ref (gA g 18))]) hx hb dX7_wipe_9 rfl hl (by decide) rfl (fun ls hl => ?_)
  refine lv_aload_n hx hb dX7_wipe_10 rfl (lv_at hl 1 rfl) ?_
  refine lv_iconst (v := iI 0) hx hb dX7_wipe_11 rfl ?_
  refine r_put C hI 18 (by decide) rfl rfl tyX7 tyX7_ok nmX7 hin7 2 (by decide) (fn := "textSize") (fd := "I") (index := 66) (by decide +kernel) ⟨rfl, rfl, rfl⟩ rfl (z := 0) rfl rfl (Nat.le_of_ble_eq_true rfl) rfl dX7_wipe_12 (fun H locs hI => ?_)
  refine lv_iload_n hx hb dX7_wipe_15 rfl (lv_at hl 0 rfl) ?_
  refine r_iret C hr hlk hI ?_ dX7_wipe_16
  exact ⟨_, rfl, (show (fun z u => z = A 1 1 ∧ QC M u ∧ RM (mset A 1 1 0) u) (M 18 2) (mset (mset M 18 0 0) 18 2 0) from by exact ⟨(by first | rfl | omega), (by refine RM_txt rm0 w_cnt.2.2 (fun c h1 h2 => by rw [mset_n _ _ _ h1]) (fun c h1 h2 => by rw [mset_n _ _ _ h1, mset_n _ _ _ h1]) (fun q h1 h2 => by rw [mset_s, rw1_n _ _ h2, mset_s, rw1_n _ _ h1]) ⟨by (rw [mset_s, rw1_s, mset_s, rw1_s]), fun j => ?_⟩; rw [mset_n _ _ _ (by decide), mset_n _ _ _ (by decide), mset_n _ _ _ (by decide)]; exact t_l j)⟩)⟩
set_option maxHeartbeats 4000000 in
set_option maxRecDepth 100000 in
theorem c_X7_person (l : Launch) (g : GT) (M : Mem) (x : Int) (v : Int) (A : Mem) (wf : WF A) (rm : RM A M) (h_x : -2147483648 ≤ x ∧ x < 2147483648) (h_v : -2147483648 ≤ v ∧ v < 2147483648) : Ctr l g yX7_person wsX7_person ({ frames := 2, cells := 0, slots := 0, locals := 46 } : Room) [.ref (gA g 18), .int (iI x), .int (iI v)] M (pE (fun z u => z = zPer A x v ∧ QC M u ∧ RM (A) u)) := by
  refine Ctr.mk (cc := cX7_person) (maxL := 3) (ret := some .int) (lv := [(0, .ref (gA g 18)), (1, .int (iI x)), (2, .int (iI v))]) (by decide) rfl (Nat.le_of_ble_eq_true rfl) rfl ?_
  intro p e s m below meth c C hr hlk hI ls hl
  have C : CallFix p m c cX7_person 3 s ([.ref (gA g 18), .int (iI x), .int (iI v)] : List Value).toArray wsX7_person RX7 := C
  have hx := C.1
  have hb := C.2.1
  have hts := C.2.2.2.2
  have hin7 : ∀ w ∈ u_ws RX7 TX7 31, w ∈ wsX7_person := by decide +kernel
  have wf0 := wf
  obtain ⟨w_txt, hL, w_cnt, w_per, w_glo, w_now, w_act, w_rng, w_slo, w_see, w_sa⟩ := wf
  have rm0 := rm
  obtain ⟨⟨t_n, t_l⟩, ⟨⟨p_p, p_g⟩, p_r, g_r⟩, pgn, ⟨a_n, a_r⟩, k_r, ⟨s_n, s_r⟩, sd⟩ := rm
  have w_px := w_per x
  have p_x := p_r x
  have r_hw : ∀ q : Int, 0 ≤ q ∧ q < M 18 5 → -2147483648 ≤ M 24 (5 * q + 4) ∧ M 24 (5 * q + 4) < 2147483648 := fun q hq => by
    have h1 : M 24 (5 * q + 4) = A 34 q := (PG_0 pgn q (by omega)).2
    have h2 := WF_hw w_now (by omega) q (by omega)
    omega
  have ew := fun q : 0 ≤ x => we_eq pgn w_now w_cnt.2 q
  have ew2 : 0 ≤ x → weN (M 24) x (A 3 7).toNat = gOn (A 34) x := ew
  have p_x2 : v = 0 ∨ v = 1 ∨ v = 2 → M 20 (3 * x + v) = (if v = 0 then A 4 x else if v = 1 then A 5 x else A 6 x) := by
    rintro (rfl | rfl | rfl)
    · rw [Int.add_zero]; exact p_x.1
    · exact p_x.2.1
    · exact p_x.2.2
  refine lv_aload_n hx hb dX7_person_0 rfl (lv_at hl 0 rfl) ?_
  refine lv_iconst (v := iI 0) hx hb dX7_person_1 rfl ?_
  refine r_put C hI 18 (by decide) rfl rfl tyX7 tyX7_ok nmX7 hin7 0 (by decide) (fn := "thrown") (fd := "I") (index := 50) (by decide +kernel) ⟨rfl, rfl, rfl⟩ rfl (z := 0) rfl rfl (Nat.le_of_ble_eq_true rfl) rfl dX7_person_2 (fun H locs hI => ?_)
  refine lv_aload_n hx hb dX7_person_5 rfl (lv_at hl 0 rfl) ?_
  refine lv_iload_n hx hb dX7_person_6 rfl (lv_at hl 1 rfl) ?_
  refine r_iv C hI (As := [.int (iI x)]) (rest := []) (c_X7_noPerson l g (mset M 18 0 0) x (by omega) (show 0 ≤ (M 18 4) ∧ (M 18 4) ≤ 5 from by omega)) (cwV 1 hts gX7_person_X7_noPerson rfl rfl rfl (by decide +kernel) ⟨Nat.le_of_ble_eq_true rfl, Nat.le_of_ble_eq_true rfl⟩) (by decide) rfl rfl rfl hl.1 rfl (Nat.le_of_ble_eq_true rfl) dX7_person_7 ⟨Nat.zero_le _, Nat.zero_le _⟩ (k_I (fun H locs hI => ?_))
  refine r_eqI (z2 := bI (¬ (0 ≤ x ∧ x ≤ (M 18 4) - 1))) rfl ?_
  refine r_b_eq hx hb (tgt := 15) dX7_person_10 (by decide) (fun c_1 => ?_) (fun c_1 => ?_)
  · refine lv_iload_n hx hb dX7_person_15 rfl (lv_at hl 2 rfl) ?_
    refine r_i2l hx hb (by omega) dX7_person_16 ?_
    refine lv_lconst (v := iL 0) hx hb dX7_person_17 (by decide +kernel) ?_
    refine r_ldc2 C (n := 2) (v := (2 : Int64)) (index := 120) (by decide +kernel) (by decide +kernel) dX7_person_18 ?_
    refine r_is C hI (As := [.long (iL v), .long (iL 0), .long (iL 2)]) (rest := []) (c_X7_in l g (mset M 18 0 0) v 0 2 (by omega) (by omega) (by omega)) (va_cwS 3 hts gX7_person_X7_in rfl rfl rfl (by decide +kernel) ⟨Nat.le_of_ble_eq_true rfl, Nat.le_of_ble_eq_true rfl⟩) rfl hl.1 rfl (Nat.le_of_ble_eq_true rfl) dX7_person_21 ⟨Nat.zero_le _, Nat.zero_le _⟩ (k_I (fun H locs hI => ?_))
    refine r_b_eq hx hb (tgt := 40) dX7_person_24 (by decide) (fun c_2 => ?_) (fun c_2 => ?_)
    · refine lv_iload_n hx hb dX7_person_40 rfl (lv_at hl 2 rfl) ?_
      refine lv_iconst (v := iI 3) hx hb dX7_person_41 rfl ?_
      refine r_icmp_ne hx hb (tgt := 57) (by omega) (by decide) dX7_person_42 (by decide) (fun c_3 => ?_) (fun c_3 => ?_)
      · refine lv_bipush (v := iI (-2)) hx hb dX7_person_57 (by decide +kernel) ?_
        refine r_iret C hr hlk hI ?_ dX7_person_59
        exact ⟨_, rfl, (show (fun z u => z = zPer A x v ∧ QC M u ∧ RM (A) u) (-2) (mset M 18 0 0) from by exact ⟨(by unfold zPer; first | (rw [if_pos (by omega)]) | (rw [if_neg (by omega), p_x2 (by omega)]; (repeat' split) <;> first | rfl | omega) | (rw [if_neg (by omega), if_neg (by omega), if_neg (by omega), if_neg (by omega), if_pos (by omega), ← ew2 (by omega), ← p_g]) | (rw [if_neg (by omega), if_neg (by omega), if_neg (by omega), if_neg (by omega), if_neg (by omega)])), (by exact RO rm0)⟩)⟩
      · refine lv_aload_n hx hb dX7_person_45 rfl (lv_at hl 0 rfl) ?_
        refine lv_aload_n hx hb dX7_person_46 rfl (lv_at hl 0 rfl) ?_
        refine r_get C hI 18 (by decide) rfl rfl hin7 12 (by decide) (fn := "page") (fd := "[I") (index := 25) (by decide +kernel) ⟨rfl, rfl, rfl⟩ (v := .ref (gA g 24)) rfl dX7_person_47 ?_
        refine lv_iload_n hx hb dX7_person_50 rfl (lv_at hl 1 rfl) ?_
        refine r_iv C hI (As := [.ref (gA g 24), .int (iI x)]) (rest := []) (c_X7_wears_24 l g (mset M 18 0 0) x (by omega) (show 0 ≤ (M 18 5) ∧ (M 18 5) ≤ 4 from by omega) (show ∀ q : Int, 0 ≤ q ∧ q < (M 18 5) → -2147483648 ≤ (M 24 (5 * q + 4)) ∧ (M 24 (5 * q + 4)) < 2147483648 from by assumption)) (cwV 2 hts gX7_person_X7_wears rfl rfl rfl (by decide +kernel) ⟨Nat.le_of_ble_eq_true rfl, Nat.le_of_ble_eq_true rfl⟩) (by decide) rfl rfl rfl hl.1 rfl (Nat.le_of_ble_eq_true rfl) dX7_person_51 ⟨Nat.zero_le _, Nat.zero_le _⟩ (k_I (fun H locs hI => ?_))
        refine r_eqI (z2 := weN (M 24) x (M 18 5).toNat) rfl ?_
        have ff_1 := weN_b (M 24) x (M 18 5).toNat
        refine lv_goto (tgt := 59) hx hb dX7_person_54 (by decide) ?_
        refine r_iret C hr hlk hI ?_ dX7_person_59
        exact ⟨_, rfl, (show (fun z u => z = zPer A x v ∧ QC M u ∧ RM (A) u) (weN (M 24) x (M 18 5).toNat) (mset M 18 0 0) from by exact ⟨(by unfold zPer; first | (rw [if_pos (by omega)]) | (rw [if_neg (by omega), p_x2 (by omega)]; (repeat' split) <;> first | rfl | omega) | (rw [if_neg (by omega), if_neg (by omega), if_neg (by omega), if_neg (by omega), if_pos (by omega), ← ew2 (by omega), ← p_g]) | (rw [if_neg (by omega), if_neg (by omega), if_neg (by omega), if_neg (by omega), if_neg (by omega)])), (by exact RO rm0)⟩)⟩
    · refine lv_aload_n hx hb dX7_person_27 rfl (lv_at hl 0 rfl) ?_
      refine r_get C hI 18 (by decide) rfl rfl hin7 6 (by decide) (fn := "person") (fd := "[I") (index := 13) (by decide +kernel) ⟨rfl, rfl, rfl⟩ (v := .ref (gA g 20)) rfl dX7_person_28 ?_
      refine lv_iconst (v := iI 3) hx hb dX7_person_31 rfl ?_
      refine lv_iload_n hx hb dX7_person_32 rfl (lv_at hl 1 rfl) ?_
      refine r_imul hx hb dX7_person_33 ?_
      refine lv_iload_n hx hb dX7_person_34 rfl (lv_at hl 2 rfl) ?_
      refine r_iadd hx hb dX7_person_35 ?_
      refine r_ald C hI 20 (by decide) rfl (by omega) (by decide) dX7_person_36 ?_
      refine r_eqI (z2 := M 20 ((3 * x) + v)) (by first | rfl | (repeat first | rw [mset_s, rw1_s] | rw [mset_s, rw1_n _ _ (by omega)] | rw [mset_n _ _ _ (by decide)])) ?_
      refine lv_goto (tgt := 59) hx hb dX7_person_37 (by decide) ?_
      refine r_iret C hr hlk hI ?_ dX7_person_59
      exact ⟨_, rfl, (show (fun z u => z = zPer A x v ∧ QC M u ∧ RM (A) u) (M 20 ((3 * x) + v)) (mset M 18 0 0) from by exact ⟨(by unfold zPer; first | (rw [if_pos (by omega)]) | (rw [if_neg (by omega), p_x2 (by omega)]; (repeat' split) <;> first | rfl | omega) | (rw [if_neg (by omega), if_neg (by omega), if_neg (by omega), if_neg (by omega), if_pos (by omega), ← ew2 (by omega), ← p_g]) | (rw [if_neg (by omega), if_neg (by omega), if_neg (by omega), if_neg (by omega), if_neg (by omega)])), (by exact RO rm0)⟩)⟩
  · refine lv_iconst (v := iI (-1)) hx hb dX7_person_13 rfl ?_
    refine r_iret C hr hlk hI ?_ dX7_person_14
    exact ⟨_, rfl, (show (fun z u => z = zPer A x v ∧ QC M u ∧ RM (A) u) (-1) (mset M 18 0 0) from by exact ⟨(by unfold zPer; first | (rw [if_pos (by omega)]) | (rw [if_neg (by omega), p_x2 (by omega)]; (repeat' split) <;> first | rfl | omega) | (rw [if_neg (by omega), if_neg (by omega), if_neg (by omega), if_neg (by omega), if_pos (by omega), ← ew2 (by omega), ← p_g]) | (rw [if_neg (by omega), if_neg (by omega), if_neg (by omega), if_neg (by omega), if_neg (by omega)])), (by exact RO rm0)⟩)⟩
set_option maxHeartbeats 4000000 in
set_option maxRecDepth 100000 in
theorem c_X7_both (l : Launch) (g : GT) (M : Mem) (x : Int) (y : Int) (A : Mem) (wf : WF A) (rm : RM A M) (h_x : -2147483648 ≤ x ∧ x < 2147483648) (h_y : -2147483648 ≤ y ∧ y < 2147483648) : Ctr l g yX7_both wsX7_both ({ frames := 2, cells := 0, slots := 0, locals := 46 } : Room) [.ref (gA g 18), .int (iI x), .int (iI y)] M (pE (fun z u => z = zBot A x y ∧ QC M u ∧ RM (A) u)) := by
  refine Ctr.mk (cc := cX7_both) (maxL := 3) (ret := some .int) (lv := [(0, .ref (gA g 18)), (1, .int (iI x)), (2, .int (iI y))]) (by decide) rfl (Nat.le_of_ble_eq_true rfl) rfl ?_
  intro p e s m below meth c C hr hlk hI ls hl
  have C : CallFix p m c cX7_both 3 s ([.ref (gA g 18), .int (iI x), .int (iI y)] : List Value).toArray wsX7_both RX7 := C
  have hx := C.1
  have hb := C.2.1
  have hts := C.2.2.2.2
  have hin7 : ∀ w ∈ u_ws RX7 TX7 31, w ∈ wsX7_both := by decide +kernel
  have wf0 := wf
  obtain ⟨w_txt, hL, w_cnt, w_per, w_glo, w_now, w_act, w_rng, w_slo, w_see, w_sa⟩ := wf
  have rm0 := rm
  obtain ⟨⟨t_n, t_l⟩, ⟨⟨p_p, p_g⟩, p_r, g_r⟩, pgn, ⟨a_n, a_r⟩, k_r, ⟨s_n, s_r⟩, sd⟩ := rm
  have w_gx := w_glo x
  have w_nx : 0 ≤ x ∧ x < 4 → (0 ≤ A 33 x ∧ A 33 x < 1000) ∧ (A 34 x = -9 ∨ (0 ≤ A 34 x ∧ A 34 x < A 3 6 ∧ x < A 3 7)) := fun q => ⟨(w_now.1 x q).1, (w_now.1 x q).2.1⟩
  have w_kx : 0 ≤ x ∧ x < A 3 7 → KOK (A 33 x) (A 7 x) := fun q => (w_now.1 x (by omega)).2.2 q.2
  have r_kx : 0 ≤ x ∧ x < A 3 7 → KG (A 33 x) (M 24) (5 * x) := fun q => (PG_0 pgn x q).1
  have r_wx : 0 ≤ x ∧ x < A 3 7 → M 24 (5 * x + 4) = A 34 x := fun q => (PG_0 pgn x q).2
  have g_x := g_r x
  have r_fx : 0 ≤ x ∧ x < A 3 7 → M 24 (5 * x) = figs (A 33 x) := fun q => (PG_0 pgn x q).1.1
  have f_x := figs_b (A 33 x)
  have w_gy := w_glo y
  have w_ny : 0 ≤ y ∧ y < 4 → (0 ≤ A 33 y ∧ A 33 y < 1000) ∧ (A 34 y = -9 ∨ (0 ≤ A 34 y ∧ A 34 y < A 3 6 ∧ y < A 3 7)) := fun q => ⟨(w_now.1 y q).1, (w_now.1 y q).2.1⟩
  have w_ky : 0 ≤ y ∧ y < A 3 7 → KOK (A 33 y) (A 7 y) := fun q => (w_now.1 y (by omega)).2.2 q.2
  have r_ky : 0 ≤ y ∧ y < A 3 7 → KG (A 33 y) (M 24) (5 * y) := fun q => (PG_0 pgn y q).1
  have r_wy : 0 ≤ y ∧ y < A 3 7 → M 24 (5 * y + 4) = A 34 y := fun q => (PG_0 pgn y q).2
  have g_y := g_r y
  have r_fy : 0 ≤ y ∧ y < A 3 7 → M 24 (5 * y) = figs (A 33 y) := fun q => (PG_0 pgn y q).1.1
  have f_y := figs_b (A 33 y)
  refine lv_aload_n hx hb dX7_both_0 rfl (lv_at hl 0 rfl) ?_
  refine lv_iconst (v := iI 0) hx hb dX7_both_1 rfl ?_
  refine r_put C hI 18 (by decide) rfl rfl tyX7 tyX7_ok nmX7 hin7 0 (by decide) (fn := "thrown") (fd := "I") (index := 50) (by decide +kernel) ⟨rfl, rfl, rfl⟩ rfl (z := 0) rfl rfl (Nat.le_of_ble_eq_true rfl) rfl dX7_both_2 (fun H locs hI => ?_)
  refine lv_aload_n hx hb dX7_both_5 rfl (lv_at hl 0 rfl) ?_
  refine lv_iload_n hx hb dX7_both_6 rfl (lv_at hl 1 rfl) ?_
  refine r_iv C hI (As := [.int (iI x)]) (rest := []) (c_X7_noGlove l g (mset M 18 0 0) x (by omega) (show 0 ≤ (M 18 5) ∧ (M 18 5) ≤ 4 from by omega)) (cwV 1 hts gX7_both_X7_noGlove rfl rfl rfl (by decide +kernel) ⟨Nat.le_of_ble_eq_true rfl, Nat.le_of_ble_eq_true rfl⟩) (by decide) rfl rfl rfl hl.1 rfl (Nat.le_of_ble_eq_true rfl) dX7_both_7 ⟨Nat.zero_le _, Nat.zero_le _⟩ (k_I (fun H locs hI => ?_))
  refine r_eqI (z2 := bI (¬ (0 ≤ x ∧ x ≤ (M 18 5) - 1))) rfl ?_
  refine r_b_ne hx hb (tgt := 21) dX7_both_10 (by decide) (fun c_1 => ?_) (fun c_1 => ?_)
  · refine lv_iconst (v := iI (-1)) hx hb dX7_both_21 rfl ?_
    refine lv_goto (tgt := 42) hx hb dX7_both_22 (by decide) ?_
    refine r_iret C hr hlk hI ?_ dX7_both_42
    exact ⟨_, rfl, (show (fun z u => z = zBot A x y ∧ QC M u ∧ RM (A) u) (-1) (mset M 18 0 0) from by exact ⟨(by unfold zBot; (repeat' split) <;> first | rfl | omega | (simp_all; done) | (simp_all; omega)), (by exact RO rm0)⟩)⟩
  · refine lv_aload_n hx hb dX7_both_13 rfl (lv_at hl 0 rfl) ?_
    refine lv_iload_n hx hb dX7_both_14 rfl (lv_at hl 2 rfl) ?_
    refine r_iv C hI (As := [.int (iI y)]) (rest := []) (c_X7_noGlove l g (mset M 18 0 0) y (by omega) (show 0 ≤ (M 18 5) ∧ (M 18 5) ≤ 4 from by omega)) (cwV 1 hts gX7_both_X7_noGlove rfl rfl rfl (by decide +kernel) ⟨Nat.le_of_ble_eq_true rfl, Nat.le_of_ble_eq_true rfl⟩) (by decide) rfl rfl rfl hl.1 rfl (Nat.le_of_ble_eq_true rfl) dX7_both_15 ⟨Nat.zero_le _, Nat.zero_le _⟩ (k_I (fun H locs hI => ?_))
    refine r_eqI (z2 := bI (¬ (0 ≤ y ∧ y ≤ (M 18 5) - 1))) rfl ?_
    refine r_b_eq hx hb (tgt := 25) dX7_both_18 (by decide) (fun c_2 => ?_) (fun c_2 => ?_)
    · refine lv_aload_n hx hb dX7_both_25 rfl (lv_at hl 0 rfl) ?_
      refine r_get C hI 18 (by decide) rfl rfl hin7 12 (by decide) (fn := "page") (fd := "[I") (index := 25) (by decide +kernel) ⟨rfl, rfl, rfl⟩ (v := .ref (gA g 24)) rfl dX7_both_26 ?_
      refine lv_iload_n hx hb dX7_both_29 rfl (lv_at hl 1 rfl) ?_
      refine r_is C hI (As := [.ref (gA g 24), .int (iI x)]) (rest := []) (c_X7_lastOf_24 l g (mset M 18 0 0) x (A 33 x) (by omega) (by omega) (r_kx (by omega))) (va_cwS 2 hts gX7_both_X7_lastOf rfl rfl rfl (by decide +kernel) ⟨Nat.le_of_ble_eq_true rfl, Nat.le_of_ble_eq_true rfl⟩) rfl hl.1 rfl (Nat.le_of_ble_eq_true rfl) dX7_both_30 ⟨Nat.zero_le _, Nat.zero_le _⟩ (k_I (fun H locs hI => ?_))
      refine lv_aload_n hx hb dX7_both_33 rfl (lv_at hl 0 rfl) ?_
      refine r_get C hI 18 (by decide) rfl rfl hin7 12 (by decide) (fn := "page") (fd := "[I") (index := 25) (by decide +kernel) ⟨rfl, rfl, rfl⟩ (v := .ref (gA g 24)) rfl dX7_both_34 ?_
      refine lv_iload_n hx hb dX7_both_37 rfl (lv_at hl 2 rfl) ?_
      refine r_is C hI (As := [.ref (gA g 24), .int (iI y)]) (rest := [.int (iI ((A 33 x) % 10))]) (c_X7_lastOf_24 l g (mset M 18 0 0) y (A 33 y) (by omega) (by omega) (r_ky (by omega))) (va_cwS 2 hts gX7_both_X7_lastOf rfl rfl rfl (by decide +kernel) ⟨Nat.le_of_ble_eq_true rfl, Nat.le_of_ble_eq_true rfl⟩) rfl hl.1 rfl (Nat.le_of_ble_eq_true rfl) dX7_both_38 ⟨Nat.zero_le _, Nat.zero_le _⟩ (k_I (fun H locs hI => ?_))
      refine r_ixor hx hb (by omega) dX7_both_41 ?_
      refine r_iret C hr hlk hI ?_ dX7_both_42
      exact ⟨_, rfl, (show (fun z u => z = zBot A x y ∧ QC M u ∧ RM (A) u) (xorI ((A 33 x) % 10) ((A 33 y) % 10)) (mset M 18 0 0) from by exact ⟨(by unfold zBot; (repeat' split) <;> first | rfl | omega | (simp_all; done) | (simp_all; omega)), (by exact RO rm0)⟩)⟩
    · refine lv_iconst (v := iI (-1)) hx hb dX7_both_21 rfl ?_
      refine lv_goto (tgt := 42) hx hb dX7_both_22 (by decide) ?_
      refine r_iret C hr hlk hI ?_ dX7_both_42
      exact ⟨_, rfl, (show (fun z u => z = zBot A x y ∧ QC M u ∧ RM (A) u) (-1) (mset M 18 0 0) from by exact ⟨(by unfold zBot; (repeat' split) <;> first | rfl | omega | (simp_all; done) | (simp_all; omega)), (by exact RO rm0)⟩)⟩
set_option maxHeartbeats 4000000 in
set_option maxRecDepth 100000 in
theorem c_X7_either (l : Launch) (g : GT) (M : Mem) (x : Int) (y : Int) (A : Mem) (wf : WF A) (rm : RM A M) (h_x : -2147483648 ≤ x ∧ x < 2147483648) (h_y : -2147483648 ≤ y ∧ y < 2147483648) : Ctr l g yX7_either wsX7_either ({ frames := 2, cells := 0, slots := 0, locals := 46 } : Room) [.ref (gA g 18), .int (iI x), .int (iI y)] M (pE (fun z u => z = zEit A x y ∧ QC M u ∧ RM (A) u)) := by
  refine Ctr.mk (cc := cX7_either) (maxL := 5) (ret := some .int) (lv := [(0, .ref (gA g 18)), (1, .int (iI x)), (2, .int (iI y))]) (by decide) rfl (Nat.le_of_ble_eq_true rfl) rfl ?_
  intro p e s m below meth c C hr hlk hI ls hl
  have C : CallFix p m c cX7_either 5 s ([.ref (gA g 18), .int (iI x), .int (iI y)] : List Value).toArray wsX7_either RX7 := C
  have hx := C.1
  have hb := C.2.1
  have hts := C.2.2.2.2
  have hin7 : ∀ w ∈ u_ws RX7 TX7 31, w ∈ wsX7_either := by decide +kernel
  have wf0 := wf
  obtain ⟨w_txt, hL, w_cnt, w_per, w_glo, w_now, w_act, w_rng, w_slo, w_see, w_sa⟩ := wf
  have rm0 := rm
  obtain ⟨⟨t_n, t_l⟩, ⟨⟨p_p, p_g⟩, p_r, g_r⟩, pgn, ⟨a_n, a_r⟩, k_r, ⟨s_n, s_r⟩, sd⟩ := rm
  have w_gx := w_glo x
  have w_nx : 0 ≤ x ∧ x < 4 → (0 ≤ A 33 x ∧ A 33 x < 1000) ∧ (A 34 x = -9 ∨ (0 ≤ A 34 x ∧ A 34 x < A 3 6 ∧ x < A 3 7)) := fun q => ⟨(w_now.1 x q).1, (w_now.1 x q).2.1⟩
  have w_kx : 0 ≤ x ∧ x < A 3 7 → KOK (A 33 x) (A 7 x) := fun q => (w_now.1 x (by omega)).2.2 q.2
  have r_kx : 0 ≤ x ∧ x < A 3 7 → KG (A 33 x) (M 24) (5 * x) := fun q => (PG_0 pgn x q).1
  have r_wx : 0 ≤ x ∧ x < A 3 7 → M 24 (5 * x + 4) = A 34 x := fun q => (PG_0 pgn x q).2
  have g_x := g_r x
  have r_fx : 0 ≤ x ∧ x < A 3 7 → M 24 (5 * x) = figs (A 33 x) := fun q => (PG_0 pgn x q).1.1
  have f_x := figs_b (A 33 x)
  have w_gy := w_glo y
  have w_ny : 0 ≤ y ∧ y < 4 → (0 ≤ A 33 y ∧ A 33 y < 1000) ∧ (A 34 y = -9 ∨ (0 ≤ A 34 y ∧ A 34 y < A 3 6 ∧ y < A 3 7)) := fun q => ⟨(w_now.1 y q).1, (w_now.1 y q).2.1⟩
  have w_ky : 0 ≤ y ∧ y < A 3 7 → KOK (A 33 y) (A 7 y) := fun q => (w_now.1 y (by omega)).2.2 q.2
  have r_ky : 0 ≤ y ∧ y < A 3 7 → KG (A 33 y) (M 24) (5 * y) := fun q => (PG_0 pgn y q).1
  have r_wy : 0 ≤ y ∧ y < A 3 7 → M 24 (5 * y + 4) = A 34 y := fun q => (PG_0 pgn y q).2
  have g_y := g_r y
  have r_fy : 0 ≤ y ∧ y < A 3 7 → M 24 (5 * y) = figs (A 33 y) := fun q => (PG_0 pgn y q).1.1
  have f_y := figs_b (A 33 y)
  have xb := fun (h : (0 ≤ x ∧ x < 4) ∧ (0 ≤ y ∧ y < 4)) => @xorI_b (A 33 x % 10) (A 33 y % 10) (by omega) (by omega)
  refine lv_aload_n hx hb dX7_either_0 rfl (lv_at hl 0 rfl) ?_
  refine lv_iconst (v := iI 0) hx hb dX7_either_1 rfl ?_
  refine r_put C hI 18 (by decide) rfl rfl tyX7 tyX7_ok nmX7 hin7 0 (by decide) (fn := "thrown") (fd := "I") (index := 50) (by decide +kernel) ⟨rfl, rfl, rfl⟩ rfl (z := 0) rfl rfl (Nat.le_of_ble_eq_true rfl) rfl dX7_either_2 (fun H locs hI => ?_)
  refine lv_aload_n hx hb dX7_either_5 rfl (lv_at hl 0 rfl) ?_
  refine lv_iload_n hx hb dX7_either_6 rfl (lv_at hl 1 rfl) ?_
  refine r_iv C hI (As := [.int (iI x)]) (rest := []) (c_X7_noGlove l g (mset M 18 0 0) x (by omega) (show 0 ≤ (M 18 5) ∧ (M 18 5) ≤ 4 from by omega)) (cwV 1 hts gX7_either_X7_noGlove rfl rfl rfl (by decide +kernel) ⟨Nat.le_of_ble_eq_true rfl, Nat.le_of_ble_eq_true rfl⟩) (by decide) rfl rfl rfl hl.1 rfl (Nat.le_of_ble_eq_true rfl) dX7_either_7 ⟨Nat.zero_le _, Nat.zero_le _⟩ (k_I (fun H locs hI => ?_))
  refine r_eqI (z2 := bI (¬ (0 ≤ x ∧ x ≤ (M 18 5) - 1))) rfl ?_
  refine r_b_ne hx hb (tgt := 21) dX7_either_10 (by decide) (fun c_1 => ?_) (fun c_1 => ?_)
  · refine lv_iconst (v := iI (-1)) hx hb dX7_either_21 rfl ?_
    refine r_iret C hr hlk hI ?_ dX7_either_22
    exact ⟨_, rfl, (show (fun z u => z = zEit A x y ∧ QC M u ∧ RM (A) u) (-1) (mset M 18 0 0) from by exact ⟨(by unfold zEit; (repeat' split) <;> first | rfl | omega | (simp_all; done) | (simp_all; omega)), (by exact RO rm0)⟩)⟩
  · refine lv_aload_n hx hb dX7_either_13 rfl (lv_at hl 0 rfl) ?_
    refine lv_iload_n hx hb dX7_either_14 rfl (lv_at hl 2 rfl) ?_
    refine r_iv C hI (As := [.int (iI y)]) (rest := []) (c_X7_noGlove l g (mset M 18 0 0) y (by omega) (show 0 ≤ (M 18 5) ∧ (M 18 5) ≤ 4 from by omega)) (cwV 1 hts gX7_either_X7_noGlove rfl rfl rfl (by decide +kernel) ⟨Nat.le_of_ble_eq_true rfl, Nat.le_of_ble_eq_true rfl⟩) (by decide) rfl rfl rfl hl.1 rfl (Nat.le_of_ble_eq_true rfl) dX7_either_15 ⟨Nat.zero_le _, Nat.zero_le _⟩ (k_I (fun H locs hI => ?_))
    refine r_eqI (z2 := bI (¬ (0 ≤ y ∧ y ≤ (M 18 5) - 1))) rfl ?_
    refine r_b_eq hx hb (tgt := 23) dX7_either_18 (by decide) (fun c_2 => ?_) (fun c_2 => ?_)
    · refine lv_aload_n hx hb dX7_either_23 rfl (lv_at hl 0 rfl) ?_
      refine r_get C hI 18 (by decide) rfl rfl hin7 12 (by decide) (fn := "page") (fd := "[I") (index := 25) (by decide +kernel) ⟨rfl, rfl, rfl⟩ (v := .ref (gA g 24)) rfl dX7_either_24 ?_
      refine lv_iload_n hx hb dX7_either_27 rfl (lv_at hl 1 rfl) ?_
      refine r_is C hI (As := [.ref (gA g 24), .int (iI x)]) (rest := []) (c_X7_lastOf_24 l g (mset M 18 0 0) x (A 33 x) (by omega) (by omega) (r_kx (by omega))) (va_cwS 2 hts gX7_either_X7_lastOf rfl rfl rfl (by decide +kernel) ⟨Nat.le_of_ble_eq_true rfl, Nat.le_of_ble_eq_true rfl⟩) rfl hl.1 rfl (Nat.le_of_ble_eq_true rfl) dX7_either_28 ⟨Nat.zero_le _, Nat.zero_le _⟩ (k_I (fun H locs hI => ?_))
      refine lv_istore_n (lv' := [(3, .int (iI ((A 33 x) % 10))), (0, .ref (gA g 18)), (1, .int (iI x)), (2, .int (iI y))]) hx hb dX7_either_31 rfl hl (by decide) rfl (fun ls hl => ?_)
      refine lv_aload_n hx hb dX7_either_32 rfl (lv_at hl 1 rfl) ?_
      refine r_get C hI 18 (by decide) rfl rfl hin7 12 (by decide) (fn := "page") (fd := "[I") (index := 25) (by decide +kernel) ⟨rfl, rfl, rfl⟩ (v := .ref (gA g 24)) rfl dX7_either_33 ?_
      refine lv_iload_n hx hb dX7_either_36 rfl (lv_at hl 3 rfl) ?_
      refine r_is C hI (As := [.ref (gA g 24), .int (iI y)]) (rest := []) (c_X7_lastOf_24 l g (mset M 18 0 0) y (A 33 y) (by omega) (by omega) (r_ky (by omega))) (va_cwS 2 hts gX7_either_X7_lastOf rfl rfl rfl (by decide +kernel) ⟨Nat.le_of_ble_eq_true rfl, Nat.le_of_ble_eq_true rfl⟩) rfl hl.1 rfl (Nat.le_of_ble_eq_true rfl) dX7_either_37 ⟨Nat.zero_le _, Nat.zero_le _⟩ (k_I (fun H locs hI => ?_))
      refine lv_istore (lv' := [(4, .int (iI ((A 33 y) % 10))), (3, .int (iI ((A 33 x) % 10))), (0, .ref (gA g 18)), (1, .int (iI x)), (2, .int (iI y))]) hx hb dX7_either_40 hl (by decide) rfl (fun ls hl => ?_)
      refine lv_iload_n hx hb dX7_either_42 rfl (lv_at hl 1 rfl) ?_
      refine lv_iload_n hx hb dX7_either_43 rfl (lv_at hl 1 rfl) ?_
      refine lv_iload hx hb dX7_either_44 (lv_at hl 0 rfl) ?_
      refine r_ixor hx hb (by omega) dX7_either_46 ?_
      refine r_icmp_eq hx hb (tgt := 59) (by omega) (by omega) dX7_either_47 (by decide) (fun c_3 => ?_) (fun c_3 => ?_)
      · refine lv_iconst (v := iI 1) hx hb dX7_either_59 rfl ?_
        refine lv_goto (tgt := 64) hx hb dX7_either_60 (by decide) ?_
        refine r_iret C hr hlk hI ?_ dX7_either_64
        exact ⟨_, rfl, (show (fun z u => z = zEit A x y ∧ QC M u ∧ RM (A) u) 1 (mset M 18 0 0) from by exact ⟨(by unfold zEit; (repeat' split) <;> first | rfl | omega | (simp_all; done) | (simp_all; omega)), (by exact RO rm0)⟩)⟩
      · refine lv_iload hx hb dX7_either_50 (lv_at hl 0 rfl) ?_
        refine lv_iload_n hx hb dX7_either_52 rfl (lv_at hl 1 rfl) ?_
        refine lv_iload hx hb dX7_either_53 (lv_at hl 0 rfl) ?_
        refine r_ixor hx hb (by omega) dX7_either_55 ?_
        refine r_icmp_ne hx hb (tgt := 63) (by omega) (by omega) dX7_either_56 (by decide) (fun c_4 => ?_) (fun c_4 => ?_)
        · refine lv_iconst (v := iI 0) hx hb dX7_either_63 rfl ?_
          refine r_iret C hr hlk hI ?_ dX7_either_64
          exact ⟨_, rfl, (show (fun z u => z = zEit A x y ∧ QC M u ∧ RM (A) u) 0 (mset M 18 0 0) from by exact ⟨(by unfold zEit; (repeat' split) <;> first | rfl | omega | (simp_all; done) | (simp_all; omega)), (by exact RO rm0)⟩)⟩
        · refine lv_iconst (v := iI 1) hx hb dX7_either_59 rfl ?_
          refine lv_goto (tgt := 64) hx hb dX7_either_60 (by decide) ?_
          refine r_iret C hr hlk hI ?_ dX7_either_64
          exact ⟨_, rfl, (show (fun z u => z = zEit A x y ∧ QC M u ∧ RM (A) u) 1 (mset M 18 0 0) from by exact ⟨(by unfold zEit; (repeat' split) <;> first | rfl | omega | (simp_all; done) | (simp_all; omega)), (by exact RO rm0)⟩)⟩
    · refine lv_iconst (v := iI (-1)) hx hb dX7_either_21 rfl ?_
      refine r_iret C hr hlk hI ?_ dX7_either_22
      exact ⟨_, rfl, (show (fun z u => z = zEit A x y ∧ QC M u ∧ RM (A) u) (-1) (mset M 18 0 0) from by exact ⟨(by unfold zEit; (repeat' split) <;> first | rfl | omega | (simp_all; done) | (simp_all; omega)), (by exact RO rm0)⟩)⟩
set_option maxHeartbeats 4000000 in
set_option maxRecDepth 100000 in
theorem c_X7_unsee (l : Launch) (g : GT) (M : Mem) (A : Mem) (wf : WF A) (rm : RM A M) : Ctr l g yX7_unsee wsX7_unsee ({ frames := 0, cells := 0, slots := 0, locals := 0 } : Room) [.ref (gA g 18)] M (pE (fun z u => z = zUns A  ∧ QC M u ∧ RM (gUns A ) u)) := by
  refine Ctr.mk (cc := cX7_unsee) (maxL := 2) (ret := some .int) (lv := [(0, .ref (gA g 18))]) (by decide) rfl (Nat.le_of_ble_eq_true rfl) rfl ?_
  intro p e s m below meth c C hr hlk hI ls hl
  have C : CallFix p m c cX7_unsee 2 s ([.ref (gA g 18)] : List Value).toArray wsX7_unsee RX7 := C
  have hx := C.1
  have hb := C.2.1
  have hts := C.2.2.2.2
  have hin7 : ∀ w ∈ u_ws RX7 TX7 31, w ∈ wsX7_unsee := by decide +kernel
  have wf0 := wf
  obtain ⟨w_txt, hL, w_cnt, w_per, w_glo, w_now, w_act, w_rng, w_slo, w_see, w_sa⟩ := wf
  have rm0 := rm
  obtain ⟨⟨t_n, t_l⟩, ⟨⟨p_p, p_g⟩, p_r, g_r⟩, pgn, ⟨a_n, a_r⟩, k_r, ⟨s_n, s_r⟩, sd⟩ := rm
  refine lv_aload_n hx hb dX7_unsee_0 rfl (lv_at hl 0 rfl) ?_
  refine lv_iconst (v := iI 0) hx hb dX7_unsee_1 rfl ?_
  refine r_put C hI 18 (by decide) rfl rfl tyX7 tyX7_ok nmX7 hin7 0 (by decide) (fn := "thrown") (fd := "I") (index := 50) (by decide +kernel) ⟨rfl, rfl, rfl⟩ rfl (z := 0) rfl rfl (Nat.le_of_ble_eq_true rfl) rfl dX7_unsee_2 (fun H locs hI => ?_)
  refine lv_aload_n hx hb dX7_unsee_5 rfl (lv_at hl 0 rfl) ?_
  refine r_get C hI 18 (by decide) rfl rfl hin7 18 (by decide) (fn := "seen") (fd := "I") (index := 113) (by decide +kernel) ⟨rfl, rfl, rfl⟩ (v := .int (iI (M 18 18))) rfl dX7_unsee_6 ?_
  refine r_eqI (z2 := M 18 18) (by first | rfl | (repeat first | rw [mset_s, rw1_s] | rw [mset_s, rw1_n _ _ (by omega)] | rw [mset_n _ _ _ (by decide)])) ?_
  refine lv_istore_n (lv' := [(1, .int (iI (M 18 18))), (0, .ref (gA g 18))]) hx hb dX7_unsee_9 rfl hl (by decide) rfl (fun ls hl => ?_)
  refine lv_aload_n hx hb dX7_unsee_10 rfl (lv_at hl 1 rfl) ?_
  refine lv_iconst (v := iI 0) hx hb dX7_unsee_11 rfl ?_
  refine r_put C hI 18 (by decide) rfl rfl tyX7 tyX7_ok nmX7 hin7 18 (by decide) (fn := "seen") (fd := "I") (index := 113) (by decide +kernel) ⟨rfl, rfl, rfl⟩ rfl (z := 0) rfl rfl (Nat.le_of_ble_eq_true rfl) rfl dX7_unsee_12 (fun H locs hI => ?_)
  refine lv_iload_n hx hb dX7_unsee_15 rfl (lv_at hl 0 rfl) ?_
  refine r_iret C hr hlk hI ?_ dX7_unsee_16
  exact ⟨_, rfl, (show (fun z u => z = zUns A  ∧ QC M u ∧ RM (gUns A ) u) (M 18 18) (mset (mset M 18 0 0) 18 18 0) from by exact ⟨(by unfold zUns; exact s_n), (by unfold gUns; refine RM_see rm0 w_cnt.2.2 (fun c h1 => by rw [mset_n _ _ _ (by omega)]) (fun c h1 h2 => by rw [mset_n _ _ _ h1, mset_n _ _ _ h1]) (fun q h1 h2 => by rw [mset_s, rw1_n _ _ h2, mset_s, rw1_n _ _ h1]) ⟨by (rw [mset_s, rw1_s, mset_s, rw1_s]), fun j => ?_⟩; exact s_r j)⟩)⟩
set_option maxHeartbeats 4000000 in
set_option maxRecDepth 100000 in
theorem c_X7_see (l : Launch) (g : GT) (M : Mem) (x : Int) (y : Int) (dd : Int) (A : Mem) (wf : WF A) (rm : RM A M) (h_x : -2147483648 ≤ x ∧ x < 2147483648) (h_y : -2147483648 ≤ y ∧ y < 2147483648) (h_dd : -2147483648 ≤ dd ∧ dd < 2147483648) : Ctr l g yX7_see wsX7_see ({ frames := 2, cells := 0, slots := 0, locals := 46 } : Room) [.ref (gA g 18), .int (iI x), .int (iI y), .int (iI dd)] M (pE (fun z u => z = zSee A x y dd ∧ QC M u ∧ RM (gSee A x y dd) u)) := by
  refine Ctr.mk (cc := cX7_see) (maxL := 4) (ret := some .int) (lv := [(0, .ref (gA g 18)), (1, .int (iI x)), (2, .int (iI y)), (3, .int (iI dd))]) (by decide) rfl (Nat.le_of_ble_eq_true rfl) rfl ?_
  intro p e s m below meth c C hr hlk hI ls hl
  have C : CallFix p m c cX7_see 4 s ([.ref (gA g 18), .int (iI x), .int (iI y), .int (iI dd)] : List Value).toArray wsX7_see RX7 := C
  have hx := C.1
  have hb := C.2.1
  have hts := C.2.2.2.2
  have hin7 : ∀ w ∈ u_ws RX7 TX7 31, w ∈ wsX7_see := by decide +kernel
  have wf0 := wf
  obtain ⟨w_txt, hL, w_cnt, w_per, w_glo, w_now, w_act, w_rng, w_slo, w_see, w_sa⟩ := wf
  have rm0 := rm
  obtain ⟨⟨t_n, t_l⟩, ⟨⟨p_p, p_g⟩, p_r, g_r⟩, pgn, ⟨a_n, a_r⟩, k_r, ⟨s_n, s_r⟩, sd⟩ := rm
  refine lv_aload_n hx hb dX7_see_0 rfl (lv_at hl 0 rfl) ?_
  refine lv_iconst (v := iI 0) hx hb dX7_see_1 rfl ?_
  refine r_put C hI 18 (by decide) rfl rfl tyX7 tyX7_ok nmX7 hin7 0 (by decide) (fn := "thrown") (fd := "I") (index := 50) (by decide +kernel) ⟨rfl, rfl, rfl⟩ rfl (z := 0) rfl rfl (Nat.le_of_ble_eq_true rfl) rfl dX7_see_2 (fun H locs hI => ?_)
  refine lv_aload_n hx hb dX7_see_5 rfl (lv_at hl 0 rfl) ?_
  refine lv_iload_n hx hb dX7_see_6 rfl (lv_at hl 1 rfl) ?_
  refine r_iv C hI (As := [.int (iI x)]) (rest := []) (c_X7_noGlove l g (mset M 18 0 0) x (by omega) (show 0 ≤ (M 18 5) ∧ (M 18 5) ≤ 4 from by omega)) (cwV 1 hts gX7_see_X7_noGlove rfl rfl rfl (by decide +kernel) ⟨Nat.le_of_ble_eq_true rfl, Nat.le_of_ble_eq_true rfl⟩) (by decide) rfl rfl rfl hl.1 rfl (Nat.le_of_ble_eq_true rfl) dX7_see_7 ⟨Nat.zero_le _, Nat.zero_le _⟩ (k_I (fun H locs hI => ?_))
  refine r_eqI (z2 := bI (¬ (0 ≤ x ∧ x ≤ (M 18 5) - 1))) rfl ?_
  refine r_b_ne hx hb (tgt := 21) dX7_see_10 (by decide) (fun c_1 => ?_) (fun c_1 => ?_)
  · refine lv_iconst (v := iI (-1)) hx hb dX7_see_21 rfl ?_
    refine r_iret C hr hlk hI ?_ dX7_see_22
    exact ⟨_, rfl, (show (fun z u => z = zSee A x y dd ∧ QC M u ∧ RM (gSee A x y dd) u) (-1) (mset M 18 0 0) from by exact ⟨(by unfold zSee; (repeat' split) <;> first | rfl | omega | (simp_all; done) | (simp_all; omega)), (by unfold gSee; first | (rw [if_pos (by omega)]; exact RO rm0) | (rw [if_neg (by omega), if_pos (by omega)]; exact RO rm0) | (rw [if_neg (by omega), if_neg (by omega), if_pos (by omega)]; exact RO rm0))⟩)⟩
  · refine lv_aload_n hx hb dX7_see_13 rfl (lv_at hl 0 rfl) ?_
    refine lv_iload_n hx hb dX7_see_14 rfl (lv_at hl 2 rfl) ?_
    refine r_iv C hI (As := [.int (iI y)]) (rest := []) (c_X7_noPerson l g (mset M 18 0 0) y (by omega) (show 0 ≤ (M 18 4) ∧ (M 18 4) ≤ 5 from by omega)) (cwV 1 hts gX7_see_X7_noPerson rfl rfl rfl (by decide +kernel) ⟨Nat.le_of_ble_eq_true rfl, Nat.le_of_ble_eq_true rfl⟩) (by decide) rfl rfl rfl hl.1 rfl (Nat.le_of_ble_eq_true rfl) dX7_see_15 ⟨Nat.zero_le _, Nat.zero_le _⟩ (k_I (fun H locs hI => ?_))
    refine r_eqI (z2 := bI (¬ (0 ≤ y ∧ y ≤ (M 18 4) - 1))) rfl ?_
    refine r_b_eq hx hb (tgt := 23) dX7_see_18 (by decide) (fun c_2 => ?_) (fun c_2 => ?_)
    · refine lv_iload_n hx hb dX7_see_23 rfl (lv_at hl 3 rfl) ?_
      refine r_i2l hx hb (by omega) dX7_see_24 ?_
      refine lv_lconst (v := iL 0) hx hb dX7_see_25 (by decide +kernel) ?_
      refine r_ldc2 C (n := 7) (v := (7 : Int64)) (index := 160) (by decide +kernel) (by decide +kernel) dX7_see_26 ?_
      refine r_is C hI (As := [.long (iL dd), .long (iL 0), .long (iL 7)]) (rest := []) (c_X7_in l g (mset M 18 0 0) dd 0 7 (by omega) (by omega) (by omega)) (va_cwS 3 hts gX7_see_X7_in rfl rfl rfl (by decide +kernel) ⟨Nat.le_of_ble_eq_true rfl, Nat.le_of_ble_eq_true rfl⟩) rfl hl.1 rfl (Nat.le_of_ble_eq_true rfl) dX7_see_29 ⟨Nat.zero_le _, Nat.zero_le _⟩ (k_I (fun H locs hI => ?_))
      refine r_b_ne hx hb (tgt := 38) dX7_see_32 (by decide) (fun c_3 => ?_) (fun c_3 => ?_)
      · refine lv_aload_n hx hb dX7_see_38 rfl (lv_at hl 0 rfl) ?_
        refine r_get C hI 18 (by decide) rfl rfl hin7 18 (by decide) (fn := "seen") (fd := "I") (index := 113) (by decide +kernel) ⟨rfl, rfl, rfl⟩ (v := .int (iI (M 18 18))) rfl dX7_see_39 ?_
        refine r_eqI (z2 := M 18 18) (by first | rfl | (repeat first | rw [mset_s, rw1_s] | rw [mset_s, rw1_n _ _ (by omega)] | rw [mset_n _ _ _ (by decide)])) ?_
        refine lv_iconst (v := iI 4) hx hb dX7_see_42 rfl ?_
        refine r_icmp_ne hx hb (tgt := 49) (by omega) (by decide) dX7_see_43 (by decide) (fun c_4 => ?_) (fun c_4 => ?_)
        · refine lv_aload_n hx hb dX7_see_49 rfl (lv_at hl 0 rfl) ?_
          refine r_get C hI 18 (by decide) rfl rfl hin7 19 (by decide) (fn := "seenGlove") (fd := "[I") (index := 41) (by decide +kernel) ⟨rfl, rfl, rfl⟩ (v := .ref (gA g 29)) rfl dX7_see_50 ?_
          refine lv_aload_n hx hb dX7_see_53 rfl (lv_at hl 0 rfl) ?_
          refine r_get C hI 18 (by decide) rfl rfl hin7 18 (by decide) (fn := "seen") (fd := "I") (index := 113) (by decide +kernel) ⟨rfl, rfl, rfl⟩ (v := .int (iI (M 18 18))) rfl dX7_see_54 ?_
          refine r_eqI (z2 := M 18 18) (by first | rfl | (repeat first | rw [mset_s, rw1_s] | rw [mset_s, rw1_n _ _ (by omega)] | rw [mset_n _ _ _ (by decide)])) ?_
          refine lv_iload_n hx hb dX7_see_57 rfl (lv_at hl 1 rfl) ?_
          refine r_ast C hI 29 (by decide) (fun _ => rfl) (by omega) (by decide) dX7_see_58 (fun H locs hI => ?_)
          refine lv_aload_n hx hb dX7_see_59 rfl (lv_at hl 0 rfl) ?_
          refine r_get C hI 18 (by decide) rfl rfl hin7 20 (by decide) (fn := "seenPerson") (fd := "[I") (index := 44) (by decide +kernel) ⟨rfl, rfl, rfl⟩ (v := .ref (gA g 30)) rfl dX7_see_60 ?_
          refine lv_aload_n hx hb dX7_see_63 rfl (lv_at hl 0 rfl) ?_
          refine r_get C hI 18 (by decide) rfl rfl hin7 18 (by decide) (fn := "seen") (fd := "I") (index := 113) (by decide +kernel) ⟨rfl, rfl, rfl⟩ (v := .int (iI (M 18 18))) rfl dX7_see_64 ?_
          refine r_eqI (z2 := M 18 18) (by first | rfl | (repeat first | rw [mset_s, rw1_s] | rw [mset_s, rw1_n _ _ (by omega)] | rw [mset_n _ _ _ (by decide)])) ?_
          refine lv_iload_n hx hb dX7_see_67 rfl (lv_at hl 2 rfl) ?_
          refine r_ast C hI 30 (by decide) (fun _ => rfl) (by omega) (by decide) dX7_see_68 (fun H locs hI => ?_)
          refine lv_aload_n hx hb dX7_see_69 rfl (lv_at hl 0 rfl) ?_
          refine r_get C hI 18 (by decide) rfl rfl hin7 21 (by decide) (fn := "seenDoing") (fd := "[I") (index := 47) (by decide +kernel) ⟨rfl, rfl, rfl⟩ (v := .ref (gA g 31)) rfl dX7_see_70 ?_
          refine lv_aload_n hx hb dX7_see_73 rfl (lv_at hl 0 rfl) ?_
          refine r_get C hI 18 (by decide) rfl rfl hin7 18 (by decide) (fn := "seen") (fd := "I") (index := 113) (by decide +kernel) ⟨rfl, rfl, rfl⟩ (v := .int (iI (M 18 18))) rfl dX7_see_74 ?_
          refine r_eqI (z2 := M 18 18) (by first | rfl | (repeat first | rw [mset_s, rw1_s] | rw [mset_s, rw1_n _ _ (by omega)] | rw [mset_n _ _ _ (by decide)])) ?_
          refine lv_iload_n hx hb dX7_see_77 rfl (lv_at hl 3 rfl) ?_
          refine r_ast C hI 31 (by decide) (fun _ => rfl) (by omega) (by decide) dX7_see_78 (fun H locs hI => ?_)
          refine lv_aload_n hx hb dX7_see_79 rfl (lv_at hl 0 rfl) ?_
          refine lv_dup hx hb dX7_see_80 rfl ?_
          refine r_get C hI 18 (by decide) rfl rfl hin7 18 (by decide) (fn := "seen") (fd := "I") (index := 113) (by decide +kernel) ⟨rfl, rfl, rfl⟩ (v := .int (iI (M 18 18))) rfl dX7_see_81 ?_
          refine r_eqI (z2 := M 18 18) (by first | rfl | (repeat first | rw [mset_s, rw1_s] | rw [mset_s, rw1_n _ _ (by omega)] | rw [mset_n _ _ _ (by decide)])) ?_
          refine lv_iconst (v := iI 1) hx hb dX7_see_84 rfl ?_
          refine r_iadd hx hb dX7_see_85 ?_
          refine r_put C hI 18 (by decide) rfl rfl tyX7 tyX7_ok nmX7 hin7 18 (by decide) (fn := "seen") (fd := "I") (index := 113) (by decide +kernel) ⟨rfl, rfl, rfl⟩ rfl (z := (M 18 18) + 1) rfl rfl (Nat.le_of_ble_eq_true rfl) rfl dX7_see_86 (fun H locs hI => ?_)
          refine lv_aload_n hx hb dX7_see_89 rfl (lv_at hl 0 rfl) ?_
          refine r_get C hI 18 (by decide) rfl rfl hin7 18 (by decide) (fn := "seen") (fd := "I") (index := 113) (by decide +kernel) ⟨rfl, rfl, rfl⟩ (v := .int (iI ((M 18 18) + 1))) rfl dX7_see_90 ?_
          refine r_eqI (z2 := (M 18 18) + 1) (by first | rfl | (repeat first | rw [mset_s, rw1_s] | rw [mset_s, rw1_n _ _ (by omega)] | rw [mset_n _ _ _ (by decide)])) ?_
          refine r_iret C hr hlk hI ?_ dX7_see_93
          exact ⟨_, rfl, (show (fun z u => z = zSee A x y dd ∧ QC M u ∧ RM (gSee A x y dd) u) ((M 18 18) + 1) (mset (mset (mset (mset (mset M 18 0 0) 29 (M 18 18) x) 30 (M 18 18) y) 31 (M 18 18) dd) 18 18 ((M 18 18) + 1)) from by exact ⟨(by unfold zSee; (repeat' split) <;> first | rfl | omega | (simp_all; done) | (simp_all; omega)), (by unfold gSee; rw [if_neg (by omega), if_neg (by omega), if_neg (by omega)]; refine RM_see rm0 w_cnt.2.2 (fun c h1 => by rw [mset_n _ _ _ (by omega), mset_n _ _ _ (by omega), mset_n _ _ _ (by omega), mset_n _ _ _ (by omega)]) (fun c h1 h2 => by rw [mset_n _ _ _ h1, mset_n _ _ _ (by omega), mset_n _ _ _ (by omega), mset_n _ _ _ (by omega), mset_n _ _ _ h1]) (fun q h1 h2 => by rw [mset_s, rw1_n _ _ h2, mset_n _ _ _ (by decide), mset_n _ _ _ (by decide), mset_n _ _ _ (by decide), mset_s, rw1_n _ _ h1]) ⟨by (rw [mset_s, rw1_s, mset_s, rw1_s, s_n]), fun j => ?_⟩; rw [← s_n]; refine ⟨?_, ?_, ?_⟩; (show rw1 (M 29) (M 18 18) x j = rw1 (A 11) (M 18 18) x j; unfold rw1; split; rfl; exact (s_r j).1); (show rw1 (M 30) (M 18 18) y j = rw1 (A 12) (M 18 18) y j; unfold rw1; split; rfl; exact (s_r j).2.1); (show rw1 (M 31) (M 18 18) dd j = rw1 (A 13) (M 18 18) dd j; unfold rw1; split; rfl; exact (s_r j).2.2))⟩)⟩
        · refine lv_bipush (v := iI (-4)) hx hb dX7_see_46 (by decide +kernel) ?_
          refine r_iret C hr hlk hI ?_ dX7_see_48
          exact ⟨_, rfl, (show (fun z u => z = zSee A x y dd ∧ QC M u ∧ RM (gSee A x y dd) u) (-4) (mset M 18 0 0) from by exact ⟨(by unfold zSee; (repeat' split) <;> first | rfl | omega | (simp_all; done) | (simp_all; omega)), (by unfold gSee; first | (rw [if_pos (by omega)]; exact RO rm0) | (rw [if_neg (by omega), if_pos (by omega)]; exact RO rm0) | (rw [if_neg (by omega), if_neg (by omega), if_pos (by omega)]; exact RO rm0))⟩)⟩
      · refine lv_bipush (v := iI (-2)) hx hb dX7_see_35 (by decide +kernel) ?_
        refine r_iret C hr hlk hI ?_ dX7_see_37
        exact ⟨_, rfl, (show (fun z u => z = zSee A x y dd ∧ QC M u ∧ RM (gSee A x y dd) u) (-2) (mset M 18 0 0) from by exact ⟨(by unfold zSee; (repeat' split) <;> first | rfl | omega | (simp_all; done) | (simp_all; omega)), (by unfold gSee; first | (rw [if_pos (by omega)]; exact RO rm0) | (rw [if_neg (by omega), if_pos (by omega)]; exact RO rm0) | (rw [if_neg (by omega), if_neg (by omega), if_pos (by omega)]; exact RO rm0))⟩)⟩
    · refine lv_iconst (v := iI (-1)) hx hb dX7_see_21 rfl ?_
      refine r_iret C hr hlk hI ?_ dX7_see_22
      exact ⟨_, rfl, (show (fun z u => z = zSee A x y dd ∧ QC M u ∧ RM (gSee A x y dd) u) (-1) (mset M 18 0 0) from by exact ⟨(by unfold zSee; (repeat' split) <;> first | rfl | omega | (simp_all; done) | (simp_all; omega)), (by unfold gSee; first | (rw [if_pos (by omega)]; exact RO rm0) | (rw [if_neg (by omega), if_pos (by omega)]; exact RO rm0) | (rw [if_neg (by omega), if_neg (by omega), if_pos (by omega)]; exact RO rm0))⟩)⟩
set_option maxHeartbeats 4000000 in
set_option maxRecDepth 100000 in
theorem c_X7_glove (l : Launch) (g : GT) (M : Mem) (x : Int) (v : Int) (A : Mem) (wf : WF A) (rm : RM A M) (h_x : -2147483648 ≤ x ∧ x < 2147483648) (h_v : -2147483648 ≤ v ∧ v < 2147483648) : Ctr l g yX7_glove wsX7_glove ({ frames := 2, cells := 0, slots := 0, locals := 46 } : Room) [.ref (gA g 18), .int (iI x), .int (iI v)] M (pE (fun z u => z = zGlo A x v ∧ QC M u ∧ RM (A) u)) := by
  refine Ctr.mk (cc := cX7_glove) (maxL := 5) (ret := some .int) (lv := [(0, .ref (gA g 18)), (1, .int (iI x)), (2, .int (iI v))]) (by decide) rfl (Nat.le_of_ble_eq_true rfl) rfl ?_
  intro p e s m below meth c C hr hlk hI ls hl
  have C : CallFix p m c cX7_glove 5 s ([.ref (gA g 18), .int (iI x), .int (iI v)] : List Value).toArray wsX7_glove RX7 := C
  have hx := C.1
  have hb := C.2.1
  have hts := C.2.2.2.2
  have hin7 : ∀ w ∈ u_ws RX7 TX7 31, w ∈ wsX7_glove := by decide +kernel
  have wf0 := wf
  obtain ⟨w_txt, hL, w_cnt, w_per, w_glo, w_now, w_act, w_rng, w_slo, w_see, w_sa⟩ := wf
  have rm0 := rm
  obtain ⟨⟨t_n, t_l⟩, ⟨⟨p_p, p_g⟩, p_r, g_r⟩, pgn, ⟨a_n, a_r⟩, k_r, ⟨s_n, s_r⟩, sd⟩ := rm
  have w_gx := w_glo x
  have w_nx : 0 ≤ x ∧ x < 4 → (0 ≤ A 33 x ∧ A 33 x < 1000) ∧ (A 34 x = -9 ∨ (0 ≤ A 34 x ∧ A 34 x < A 3 6 ∧ x < A 3 7)) := fun q => ⟨(w_now.1 x q).1, (w_now.1 x q).2.1⟩
  have w_kx : 0 ≤ x ∧ x < A 3 7 → KOK (A 33 x) (A 7 x) := fun q => (w_now.1 x (by omega)).2.2 q.2
  have r_kx : 0 ≤ x ∧ x < A 3 7 → KG (A 33 x) (M 24) (5 * x) := fun q => (PG_0 pgn x q).1
  have r_wx : 0 ≤ x ∧ x < A 3 7 → M 24 (5 * x + 4) = A 34 x := fun q => (PG_0 pgn x q).2
  have g_x := g_r x
  have r_fx : 0 ≤ x ∧ x < A 3 7 → M 24 (5 * x) = figs (A 33 x) := fun q => (PG_0 pgn x q).1.1
  have f_x := figs_b (A 33 x)
  have g_x2 : v = 0 ∨ v = 1 → M 21 (3 * x + v) = (if v = 0 then A 7 x else A 8 x) := by
    rintro (rfl | rfl)
    · rw [Int.add_zero]; exact g_x.1
    · exact g_x.2.1
  refine lv_aload_n hx hb dX7_glove_0 rfl (lv_at hl 0 rfl) ?_
  refine lv_iconst (v := iI 0) hx hb dX7_glove_1 rfl ?_
  refine r_put C hI 18 (by decide) rfl rfl tyX7 tyX7_ok nmX7 hin7 0 (by decide) (fn := "thrown") (fd := "I") (index := 50) (by decide +kernel) ⟨rfl, rfl, rfl⟩ rfl (z := 0) rfl rfl (Nat.le_of_ble_eq_true rfl) rfl dX7_glove_2 (fun H locs hI => ?_)
  refine lv_aload_n hx hb dX7_glove_5 rfl (lv_at hl 0 rfl) ?_
  refine lv_iload_n hx hb dX7_glove_6 rfl (lv_at hl 1 rfl) ?_
  refine r_iv C hI (As := [.int (iI x)]) (rest := []) (c_X7_noGlove l g (mset M 18 0 0) x (by omega) (show 0 ≤ (M 18 5) ∧ (M 18 5) ≤ 4 from by omega)) (cwV 1 hts gX7_glove_X7_noGlove rfl rfl rfl (by decide +kernel) ⟨Nat.le_of_ble_eq_true rfl, Nat.le_of_ble_eq_true rfl⟩) (by decide) rfl rfl rfl hl.1 rfl (Nat.le_of_ble_eq_true rfl) dX7_glove_7 ⟨Nat.zero_le _, Nat.zero_le _⟩ (k_I (fun H locs hI => ?_))
  refine r_eqI (z2 := bI (¬ (0 ≤ x ∧ x ≤ (M 18 5) - 1))) rfl ?_
  refine r_b_eq hx hb (tgt := 15) dX7_glove_10 (by decide) (fun c_1 => ?_) (fun c_1 => ?_)
  · refine lv_iconst (v := iI 0) hx hb dX7_glove_15 rfl ?_
    refine lv_istore_n (lv' := [(3, .int (iI 0)), (0, .ref (gA g 18)), (1, .int (iI x)), (2, .int (iI v))]) hx hb dX7_glove_16 rfl hl (by decide) rfl (fun ls hl => ?_)
    refine lv_iload_n hx hb dX7_glove_17 rfl (lv_at hl 3 rfl) ?_
    refine r_tsw hx hb (by omega) dX7_glove_18 (by decide) (fun j hj c_2 => ?_) (fun c_2 => ?_)
    · match j, hj with
      | 0, _ =>
        have c_2 : v = 0 := c_2
        refine W.eq (g2 := F0 m 52 ls []) rfl ?_
        refine lv_aload_n hx hb dX7_glove_52 rfl (lv_at hl 1 rfl) ?_
        refine r_get C hI 18 (by decide) rfl rfl hin7 7 (by decide) (fn := "glove") (fd := "[I") (index := 16) (by decide +kernel) ⟨rfl, rfl, rfl⟩ (v := .ref (gA g 21)) rfl dX7_glove_53 ?_
        refine lv_iconst (v := iI 3) hx hb dX7_glove_56 rfl ?_
        refine lv_iload_n hx hb dX7_glove_57 rfl (lv_at hl 2 rfl) ?_
        refine r_imul hx hb dX7_glove_58 ?_
        refine lv_iload_n hx hb dX7_glove_59 rfl (lv_at hl 3 rfl) ?_
        refine r_iadd hx hb dX7_glove_60 ?_
        refine r_ald C hI 21 (by decide) rfl (by omega) (by decide) dX7_glove_61 ?_
        refine r_eqI (z2 := M 21 ((3 * x) + v)) (by first | rfl | (repeat first | rw [mset_s, rw1_s] | rw [mset_s, rw1_n _ _ (by omega)] | rw [mset_n _ _ _ (by decide)])) ?_
        refine r_iret C hr hlk hI ?_ dX7_glove_62
        exact ⟨_, rfl, (show (fun z u => z = zGlo A x v ∧ QC M u ∧ RM (A) u) (M 21 ((3 * x) + v)) (mset M 18 0 0) from by exact ⟨(by unfold zGlo; first | (rw [if_pos (by omega)]) | (rw [if_neg (by omega), g_x2 (by omega)]; (repeat' split) <;> first | rfl | omega) | (rw [if_neg (by omega), if_neg (by omega), if_neg (by omega), if_pos (by omega)]; exact r_fx (by omega)) | (rw [if_neg (by omega), if_neg (by omega), if_neg (by omega), if_neg (by omega), if_neg (by omega)]; (repeat' split) <;> first | (exact r_wx (by omega)) | rfl | omega)), (by exact RO rm0)⟩)⟩
      | 1, _ =>
        have c_2 : v = 1 := c_2
        refine W.eq (g2 := F0 m 52 ls []) rfl ?_
        refine lv_aload_n hx hb dX7_glove_52 rfl (lv_at hl 1 rfl) ?_
        refine r_get C hI 18 (by decide) rfl rfl hin7 7 (by decide) (fn := "glove") (fd := "[I") (index := 16) (by decide +kernel) ⟨rfl, rfl, rfl⟩ (v := .ref (gA g 21)) rfl dX7_glove_53 ?_
        refine lv_iconst (v := iI 3) hx hb dX7_glove_56 rfl ?_
        refine lv_iload_n hx hb dX7_glove_57 rfl (lv_at hl 2 rfl) ?_
        refine r_imul hx hb dX7_glove_58 ?_
        refine lv_iload_n hx hb dX7_glove_59 rfl (lv_at hl 3 rfl) ?_
        refine r_iadd hx hb dX7_glove_60 ?_
        refine r_ald C hI 21 (by decide) rfl (by omega) (by decide) dX7_glove_61 ?_
        refine r_eqI (z2 := M 21 ((3 * x) + v)) (by first | rfl | (repeat first | rw [mset_s, rw1_s] | rw [mset_s, rw1_n _ _ (by omega)] | rw [mset_n _ _ _ (by decide)])) ?_
        refine r_iret C hr hlk hI ?_ dX7_glove_62
        exact ⟨_, rfl, (show (fun z u => z = zGlo A x v ∧ QC M u ∧ RM (A) u) (M 21 ((3 * x) + v)) (mset M 18 0 0) from by exact ⟨(by unfold zGlo; first | (rw [if_pos (by omega)]) | (rw [if_neg (by omega), g_x2 (by omega)]; (repeat' split) <;> first | rfl | omega) | (rw [if_neg (by omega), if_neg (by omega), if_neg (by omega), if_pos (by omega)]; exact r_fx (by omega)) | (rw [if_neg (by omega), if_neg (by omega), if_neg (by omega), if_neg (by omega), if_neg (by omega)]; (repeat' split) <;> first | (exact r_wx (by omega)) | rfl | omega)), (by exact RO rm0)⟩)⟩
      | 2, _ =>
        have c_2 : v = 2 := c_2
        refine W.eq (g2 := F0 m 63 ls []) rfl ?_
        refine lv_aload_n hx hb dX7_glove_63 rfl (lv_at hl 1 rfl) ?_
        refine r_get C hI 18 (by decide) rfl rfl hin7 12 (by decide) (fn := "page") (fd := "[I") (index := 25) (by decide +kernel) ⟨rfl, rfl, rfl⟩ (v := .ref (gA g 24)) rfl dX7_glove_64 ?_
        refine lv_iconst (v := iI 5) hx hb dX7_glove_67 rfl ?_
        refine lv_iload_n hx hb dX7_glove_68 rfl (lv_at hl 2 rfl) ?_
        refine r_imul hx hb dX7_glove_69 ?_
        refine r_ald C hI 24 (by decide) rfl (by omega) (by decide) dX7_glove_70 ?_
        refine r_eqI (z2 := M 24 (5 * x)) (by first | rfl | (repeat first | rw [mset_s, rw1_s] | rw [mset_s, rw1_n _ _ (by omega)] | rw [mset_n _ _ _ (by decide)])) ?_
        refine r_iret C hr hlk hI ?_ dX7_glove_71
        exact ⟨_, rfl, (show (fun z u => z = zGlo A x v ∧ QC M u ∧ RM (A) u) (M 24 (5 * x)) (mset M 18 0 0) from by exact ⟨(by unfold zGlo; first | (rw [if_pos (by omega)]) | (rw [if_neg (by omega), g_x2 (by omega)]; (repeat' split) <;> first | rfl | omega) | (rw [if_neg (by omega), if_neg (by omega), if_neg (by omega), if_pos (by omega)]; exact r_fx (by omega)) | (rw [if_neg (by omega), if_neg (by omega), if_neg (by omega), if_neg (by omega), if_neg (by omega)]; (repeat' split) <;> first | (exact r_wx (by omega)) | rfl | omega)), (by exact RO rm0)⟩)⟩
      | 3, _ =>
        have c_2 : v = 3 := c_2
        refine W.eq (g2 := F0 m 72 ls []) rfl ?_
        refine lv_iconst (v := iI 1) hx hb dX7_glove_72 rfl ?_
        refine lv_istore (lv' := [(4, .int (iI 1)), (3, .int (iI 0)), (0, .ref (gA g 18)), (1, .int (iI x)), (2, .int (iI v))]) hx hb dX7_glove_73 hl (by decide) rfl (fun ls hl => ?_)
        have lp75 : ∀ (n75 : Nat) (kk : Int) (tt : Int) (jj : Nat), (kk = (jj : Int) + 1 ∧ (jj : Int) ≤ M 24 (5 * x)) → (tt = tlN (M 24) (5 * x) jj) → (M 24 (5 * x)).toNat - jj < n75 → ∀ (H : Heap) (locs : List Loc), HI g s H locs (mset M 18 0 0) → ∀ ls : Array Slot, lv_has ls 5 [(4, .int (iI kk)), (3, .int (iI tt)), (0, .ref (gA g 18)), (1, .int (iI x)), (2, .int (iI v))] → W p l e ({ frames := 2, cells := 0, slots := 0, locals := 46 } : Room) s m ([.ref (gA g 18), .int (iI x), .int (iI v)] : List Value).toArray below meth c H locs 0 0 (MQ below (QV g (pE (fun z u => z = zGlo A x v ∧ QC M u ∧ RM (A) u))) ([.ref (gA g 18), .int (iI x), .int (iI v)] : List Value).toArray s 0 0 (AA g)) (F0 m 75 ls []) := by
          intro n75
          induction n75 with
          | zero => intro kk tt jj h1 h2 hn75; exact absurd hn75 (Nat.not_lt_zero _)
          | succ n75 ih75 =>
            intro kk tt jj h1 h2 hn75 H locs hI ls hl
            have rfx := r_fx (by omega)
            have tb := tlN_b (r_kx (by omega)) (KOK_3 (w_kx (by omega))) jj (by omega)
            refine lv_iload hx hb dX7_glove_75 (lv_at hl 0 rfl) ?_
            refine lv_aload_n hx hb dX7_glove_77 rfl (lv_at hl 2 rfl) ?_
            refine r_get C hI 18 (by decide) rfl rfl hin7 12 (by decide) (fn := "page") (fd := "[I") (index := 25) (by decide +kernel) ⟨rfl, rfl, rfl⟩ (v := .ref (gA g 24)) rfl dX7_glove_78 ?_
            refine lv_iconst (v := iI 5) hx hb dX7_glove_81 rfl ?_
            refine lv_iload_n hx hb dX7_glove_82 rfl (lv_at hl 3 rfl) ?_
            refine r_imul hx hb dX7_glove_83 ?_
            refine r_ald C hI 24 (by decide) rfl (by omega) (by decide) dX7_glove_84 ?_
            refine r_eqI (z2 := M 24 (5 * x)) (by first | rfl | (repeat first | rw [mset_s, rw1_s] | rw [mset_s, rw1_n _ _ (by omega)] | rw [mset_n _ _ _ (by decide)])) ?_
            refine r_icmp_gt hx hb (tgt := 111) (by omega) (by omega) dX7_glove_85 (by decide) (fun c_3 => ?_) (fun c_3 => ?_)
            · refine lv_iload_n hx hb dX7_glove_111 rfl (lv_at hl 1 rfl) ?_
              refine r_iret C hr hlk hI ?_ dX7_glove_112
              exact ⟨_, rfl, (show (fun z u => z = zGlo A x v ∧ QC M u ∧ RM (A) u) tt (mset M 18 0 0) from by exact ⟨(by unfold zGlo; rw [if_neg (by omega), if_neg (by omega), if_neg (by omega), if_neg (by omega), if_pos (by omega), h2, ← tl_eq (r_kx (by omega)) (w_nx (by omega)).1, show (figs (A 33 x)).toNat = jj from by omega]), (by exact RO rm0)⟩)⟩
            · refine lv_bipush (v := iI 10) hx hb dX7_glove_88 (by decide +kernel) ?_
              refine lv_iload_n hx hb dX7_glove_90 rfl (lv_at hl 1 rfl) ?_
              refine r_imul hx hb dX7_glove_91 ?_
              refine lv_aload_n hx hb dX7_glove_92 rfl (lv_at hl 2 rfl) ?_
              refine r_get C hI 18 (by decide) rfl rfl hin7 12 (by decide) (fn := "page") (fd := "[I") (index := 25) (by decide +kernel) ⟨rfl, rfl, rfl⟩ (v := .ref (gA g 24)) rfl dX7_glove_93 ?_
              refine lv_iconst (v := iI 5) hx hb dX7_glove_96 rfl ?_
              refine lv_iload_n hx hb dX7_glove_97 rfl (lv_at hl 3 rfl) ?_
              refine r_imul hx hb dX7_glove_98 ?_
              refine lv_iload hx hb dX7_glove_99 (lv_at hl 0 rfl) ?_
              refine r_iadd hx hb dX7_glove_101 ?_
              refine r_ald C hI 24 (by decide) rfl (by omega) (by decide) dX7_glove_102 ?_
              refine r_eqI (z2 := M 24 ((5 * x) + kk)) (by first | rfl | (repeat first | rw [mset_s, rw1_s] | rw [mset_s, rw1_n _ _ (by omega)] | rw [mset_n _ _ _ (by decide)])) ?_
              refine r_iadd hx hb dX7_glove_103 ?_
              refine lv_istore_n (lv' := [(3, .int (iI ((10 * tt) + (M 24 ((5 * x) + kk))))), (4, .int (iI kk)), (0, .ref (gA g 18)), (1, .int (iI x)), (2, .int (iI v))]) hx hb dX7_glove_104 rfl hl (by decide) rfl (fun ls hl => ?_)
              refine lv_iinc (v := iI (kk + 1)) (lv' := [(4, .int (iI (kk + 1))), (3, .int (iI ((10 * tt) + (M 24 ((5 * x) + kk))))), (0, .ref (gA g 18)), (1, .int (iI x)), (2, .int (iI v))]) hx hb dX7_glove_105 hl (k := 1) rfl (iI_add _ _) (by decide) rfl (fun ls hl => ?_)
              refine lv_goto (tgt := 75) hx hb dX7_glove_108 (by decide) ?_
              exact ih75 (kk + 1) ((10 * tt) + (M 24 ((5 * x) + kk))) (jj + 1) (by omega) (by (rw [h2, h1.1]; rfl)) (by omega) _ _ hI ls (lv_sub hl [0, 1, 2, 3, 4] rfl)
        exact lp75 _ 1 0 0 (by omega) (by rfl) (Nat.lt_succ_self _) _ _ hI ls (lv_sub hl [0, 1, 2, 3, 4] rfl)
      | 4, _ =>
        have c_2 : v = 4 := c_2
        refine W.eq (g2 := F0 m 113 ls []) rfl ?_
        refine lv_aload_n hx hb dX7_glove_113 rfl (lv_at hl 1 rfl) ?_
        refine r_get C hI 18 (by decide) rfl rfl hin7 12 (by decide) (fn := "page") (fd := "[I") (index := 25) (by decide +kernel) ⟨rfl, rfl, rfl⟩ (v := .ref (gA g 24)) rfl dX7_glove_114 ?_
        refine lv_iconst (v := iI 5) hx hb dX7_glove_117 rfl ?_
        refine lv_iload_n hx hb dX7_glove_118 rfl (lv_at hl 2 rfl) ?_
        refine r_imul hx hb dX7_glove_119 ?_
        refine lv_iconst (v := iI 4) hx hb dX7_glove_120 rfl ?_
        refine r_iadd hx hb dX7_glove_121 ?_
        refine r_ald C hI 24 (by decide) rfl (by omega) (by decide) dX7_glove_122 ?_
        refine r_eqI (z2 := M 24 ((5 * x) + 4)) (by first | rfl | (repeat first | rw [mset_s, rw1_s] | rw [mset_s, rw1_n _ _ (by omega)] | rw [mset_n _ _ _ (by decide)])) ?_
        refine r_iret C hr hlk hI ?_ dX7_glove_123
        exact ⟨_, rfl, (show (fun z u => z = zGlo A x v ∧ QC M u ∧ RM (A) u) (M 24 ((5 * x) + 4)) (mset M 18 0 0) from by exact ⟨(by unfold zGlo; first | (rw [if_pos (by omega)]) | (rw [if_neg (by omega), g_x2 (by omega)]; (repeat' split) <;> first | rfl | omega) | (rw [if_neg (by omega), if_neg (by omega), if_neg (by omega), if_pos (by omega)]; exact r_fx (by omega)) | (rw [if_neg (by omega), if_neg (by omega), if_neg (by omega), if_neg (by omega), if_neg (by omega)]; (repeat' split) <;> first | (exact r_wx (by omega)) | rfl | omega)), (by exact RO rm0)⟩)⟩
    · refine W.eq (g2 := F0 m 124 ls []) rfl ?_
      refine lv_bipush (v := iI (-2)) hx hb dX7_glove_124 (by decide +kernel) ?_
      refine r_iret C hr hlk hI ?_ dX7_glove_126
      exact ⟨_, rfl, (show (fun z u => z = zGlo A x v ∧ QC M u ∧ RM (A) u) (-2) (mset M 18 0 0) from by exact ⟨(by unfold zGlo; first | (rw [if_pos (by omega)]) | (rw [if_neg (by omega), g_x2 (by omega)]; (repeat' split) <;> first | rfl | omega) | (rw [if_neg (by omega), if_neg (by omega), if_neg (by omega), if_pos (by omega)]; exact r_fx (by omega)) | (rw [if_neg (by omega), if_neg (by omega), if_neg (by omega), if_neg (by omega), if_neg (by omega)]; (repeat' split) <;> first | (exact r_wx (by omega)) | rfl | omega)), (by exact RO rm0)⟩)⟩
  · refine lv_iconst (v := iI (-1)) hx hb dX7_glove_13 rfl ?_
    refine r_iret C hr hlk hI ?_ dX7_glove_14
    exact ⟨_, rfl, (show (fun z u => z = zGlo A x v ∧ QC M u ∧ RM (A) u) (-1) (mset M 18 0 0) from by exact ⟨(by unfold zGlo; first | (rw [if_pos (by omega)]) | (rw [if_neg (by omega), g_x2 (by omega)]; (repeat' split) <;> first | rfl | omega) | (rw [if_neg (by omega), if_neg (by omega), if_neg (by omega), if_pos (by omega)]; exact r_fx (by omega)) | (rw [if_neg (by omega), if_neg (by omega), if_neg (by omega), if_neg (by omega), if_neg (by omega)]; (repeat' split) <;> first | (exact r_wx (by omega)) | rfl | omega)), (by exact RO rm0)⟩)⟩
set_option maxHeartbeats 4000000 in
set_option maxRecDepth 100000 in
theorem c_X7_seed (l : Launch) (g : GT) (M : Mem) (vv : Int) (A : Mem) (wf : WF A) (rm : RM A M) : Ctr l g yX7_seed wsX7_seed ({ frames := 0, cells := 0, slots := 0, locals := 0 } : Room) [.ref (gA g 18), .long (iL vv)] M (pL (M 18 22) (mset (mset M 18 0 0) 18 22 vv)) := by
  refine Ctr.mk (cc := cX7_seed) (maxL := 5) (ret := some .long) (lv := [(0, .ref (gA g 18)), (1, .long (iL vv))]) (by decide) rfl (Nat.le_of_ble_eq_true rfl) rfl ?_
  intro p e s m below meth c C hr hlk hI ls hl
  have C : CallFix p m c cX7_seed 5 s ([.ref (gA g 18), .long (iL vv)] : List Value).toArray wsX7_seed RX7 := C
  have hx := C.1
  have hb := C.2.1
  have hts := C.2.2.2.2
  have hin7 : ∀ w ∈ u_ws RX7 TX7 31, w ∈ wsX7_seed := by decide +kernel
  refine lv_aload_n hx hb dX7_seed_0 rfl (lv_at hl 0 rfl) ?_
  refine lv_iconst (v := iI 0) hx hb dX7_seed_1 rfl ?_
  refine r_put C hI 18 (by decide) rfl rfl tyX7 tyX7_ok nmX7 hin7 0 (by decide) (fn := "thrown") (fd := "I") (index := 50) (by decide +kernel) ⟨rfl, rfl, rfl⟩ rfl (z := 0) rfl rfl (Nat.le_of_ble_eq_true rfl) rfl dX7_seed_2 (fun H locs hI => ?_)
  refine lv_aload_n hx hb dX7_seed_5 rfl (lv_at hl 0 rfl) ?_
  refine r_get C hI 18 (by decide) rfl rfl hin7 22 (by decide) (fn := "seed") (fd := "J") (index := 212) (by decide +kernel) ⟨rfl, rfl, rfl⟩ (v := .long (iL (M 18 22))) rfl dX7_seed_6 ?_
  refine lv_lstore_n (lv' := [(3, .long (iL (M 18 22))), (0, .ref (gA g 18)), (1, .long (iL vv))]) hx hb dX7_seed_9 rfl hl (by decide) rfl (fun ls hl => ?_)
  refine lv_aload_n hx hb dX7_seed_10 rfl (lv_at hl 1 rfl) ?_
  refine lv_lload_n hx hb dX7_seed_11 rfl (lv_at hl 2 rfl) ?_
  refine r_put C hI 18 (by decide) rfl rfl tyX7 tyX7_ok nmX7 hin7 22 (by decide) (fn := "seed") (fd := "J") (index := 212) (by decide +kernel) ⟨rfl, rfl, rfl⟩ rfl (z := vv) rfl rfl (Nat.le_of_ble_eq_true rfl) rfl dX7_seed_12 (fun H locs hI => ?_)
  refine lv_lload_n hx hb dX7_seed_15 rfl (lv_at hl 0 rfl) ?_
  refine r_lret C hr hlk hI ?_ dX7_seed_16
  exact ⟨congrArg (fun q => some (Value.long (iL q))) (show M 18 22 = M 18 22 from by first | rfl | omega), (show mset (mset M 18 0 0) 18 22 vv = mset (mset M 18 0 0) 18 22 vv from by rfl)⟩
