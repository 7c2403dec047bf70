
theorem PG_set {B B' : Mem} {r r' : Int → Int} {x : Int} (h : PG B 32 r 0) (h3 : B' 3 7 = B 3 7) (hd : B' 32 2 = B 32 2) (hx : 0 ≤ x ∧ x < 4) (hG : B 3 7 ≤ 4) (hr : ∀ j : Int, ¬ (5 * x ≤ j ∧ j < 5 * x + 5) → r' j = r j) (hB : ∀ q : Int, q ≠ x → B' 33 q = B 33 q ∧ B' 34 q = B 34 q) (hk : KG (B' 33 x) r' (5 * x)) (hw : r' (5 * x + 4) = B' 34 x) : PG B' 32 r' 0 := by
  refine ⟨fun q hq => ?_, ?_⟩
  · rw [h3] at hq
    rw [Int.zero_add]
    by_cases e : q = x
    · subst e; exact ⟨hk, hw⟩
    · obtain ⟨h1, h2⟩ := PG_0 h q hq
      obtain ⟨b1, b2⟩ := hB q e
      show KG (B' 33 q) r' (5 * q) ∧ r' (5 * q + 4) = B' 34 q
      rw [b1, b2]
      refine ⟨KG_of h1 (fun j hj => hr _ (by omega)), ?_⟩
      rw [hr _ (by omega)]; exact h2
  · have := h.2
    rw [Int.zero_add] at this ⊢
    rw [hr 20 (by omega), hd]; exact this
theorem KG_wash {k b : Int} {r : Int → Int} (h : KG k r b) (hk : 0 ≤ k ∧ k < 1000) (h0 : ¬ k = 0) : KG (k / 10) (rw1 r b (r b - 1)) b := by
  obtain ⟨h1, h2, h3, h4⟩ := h
  refine ⟨?_, fun q => ?_, fun q => ?_, fun q => by omega⟩
  · rw [rw1_s, h1]; unfold figs; (repeat' split) <;> omega
  · rw [rw1_n _ _ (by omega), h2 (by omega)]; unfold fstO; (repeat' split) <;> omega
  · rw [rw1_n _ _ (by omega), h3 (by omega), if_neg (by omega), if_pos (by omega)]
theorem KG_left {k b n : Int} {r : Int → Int} (h : KG k r b) (hk : 0 ≤ k ∧ k < 1000) (hn : 0 ≤ n ∧ n ≤ 3) : (r b - n ≤ 0 → lwO k n.toNat % 10 = 0) ∧ (¬ r b - n ≤ 0 → r (b + (r b - n)) = lwO k n.toNat % 10) := by
  obtain ⟨h1, h2, h3, h4⟩ := h
  rw [h1]
  have l0 : lwO k 0 = k := rfl
  have l1 : lwO k 1 = k / 10 := rfl
  have l2 : lwO k 2 = k / 10 / 10 := rfl
  have l3 : lwO k 3 = k / 10 / 10 / 10 := rfl
  unfold fstO at h2
  have hf : (k = 0 ∧ figs k = 0) ∨ ((1 ≤ k ∧ k < 10) ∧ figs k = 1) ∨ ((10 ≤ k ∧ k < 100) ∧ figs k = 2) ∨ ((100 ≤ k ∧ k < 1000) ∧ figs k = 3) := by unfold figs; (repeat' split) <;> omega
  rcases hf with ⟨e, f⟩ | ⟨e, f⟩ | ⟨e, f⟩ | ⟨e, f⟩ <;> rw [f]
  · obtain rfl | rfl | rfl | rfl : n = 0 ∨ n = 1 ∨ n = 2 ∨ n = 3 := by omega
    · exact ⟨fun _ => by rw [show (0 : Int).toNat = 0 from rfl, l0]; omega, fun q => by omega⟩
    · exact ⟨fun _ => by rw [show (1 : Int).toNat = 1 from rfl, l1]; omega, fun q => by omega⟩
    · exact ⟨fun _ => by rw [show (2 : Int).toNat = 2 from rfl, l2]; omega, fun q => by omega⟩
    · exact ⟨fun _ => by rw [show (3 : Int).toNat = 3 from rfl, l3]; omega, fun q => by omega⟩
  · have g1 := h2 e.1
    rw [if_neg (by omega), if_neg (by omega)] at g1
    obtain rfl | rfl | rfl | rfl : n = 0 ∨ n = 1 ∨ n = 2 ∨ n = 3 := by omega
    · exact ⟨fun q => by omega, fun _ => by rw [show (0 : Int).toNat = 0 from rfl, l0, show b + ((1 : Int) - 0) = b + 1 by omega, g1]; omega⟩
    · exact ⟨fun _ => by rw [show (1 : Int).toNat = 1 from rfl, l1]; omega, fun q => by omega⟩
    · exact ⟨fun _ => by rw [show (2 : Int).toNat = 2 from rfl, l2]; omega, fun q => by omega⟩
    · exact ⟨fun _ => by rw [show (3 : Int).toNat = 3 from rfl, l3]; omega, fun q => by omega⟩
  · have g1 := h2 (by omega)
    have g2 := h3 e.1
    rw [if_neg (by omega), if_pos (by omega)] at g1
    rw [if_pos e.2] at g2
    obtain rfl | rfl | rfl | rfl : n = 0 ∨ n = 1 ∨ n = 2 ∨ n = 3 := by omega
    · exact ⟨fun q => by omega, fun _ => by rw [show (0 : Int).toNat = 0 from rfl, l0, show b + ((2 : Int) - 0) = b + 2 by omega, g2]⟩
    · exact ⟨fun q => by omega, fun _ => by rw [show (1 : Int).toNat = 1 from rfl, l1, show b + ((2 : Int) - 1) = b + 1 by omega, g1]; omega⟩
    · exact ⟨fun _ => by rw [show (2 : Int).toNat = 2 from rfl, l2]; omega, fun q => by omega⟩
    · exact ⟨fun _ => by rw [show (3 : Int).toNat = 3 from rfl, l3]; omega, fun q => by omega⟩
  · have g1 := h2 (by omega)
    have g2 := h3 (by omega)
    have g3 := h4 e.1
    rw [if_pos (by omega)] at g1
    rw [if_neg (by omega)] at g2
    obtain rfl | rfl | rfl | rfl : n = 0 ∨ n = 1 ∨ n = 2 ∨ n = 3 := by omega
    · exact ⟨fun q => by omega, fun _ => by rw [show (0 : Int).toNat = 0 from rfl, l0, show b + ((3 : Int) - 0) = b + 3 by omega, g3]⟩
    · exact ⟨fun q => by omega, fun _ => by rw [show (1 : Int).toNat = 1 from rfl, l1, show b + ((3 : Int) - 1) = b + 2 by omega, g2]⟩
    · exact ⟨fun q => by omega, fun _ => by rw [show (2 : Int).toNat = 2 from rfl, l2, show b + ((3 : Int) - 2) = b + 1 by omega, g1]; omega⟩
    · exact ⟨fun _ => by rw [show (3 : Int).toNat = 3 from rfl, l3]; omega, fun q => by omega⟩
/-- what follows a taking off -/
theorem RM_off {B N u : Mem} {x : Int} (r : RM B N) (hG : 0 ≤ B 3 7 ∧ B 3 7 ≤ 4) (hx : 0 ≤ x ∧ x < B 3 7) (h : GO (5 * x) (B 33 x) (N 20 (3 * N 24 (5 * x + 4))) (N 21 (3 * x)) N u) : QC N u ∧ RM (ldM B x) u := by
  obtain ⟨h1, h2, h3, h4⟩ := h
  have hw : N 24 (5 * x + 4) = B 34 x := (PG_0 r.2.2.1 x hx).2
  have eP := r.2.1.2.1 (B 34 x)
  have eG := r.2.1.2.2 x
  rw [hw, eP.1, eG.1] at h2
  refine ⟨fun c hc => h1 c (by omega), RM_now r (fun c q1 q2 q3 => by unfold ldM; rw [mset_n _ _ _ q3, mset_n _ _ _ q2]) (fun c hc => h1 c hc) hG.2 ?_⟩
  refine PG_set (x := x) r.2.2.1 rfl rfl (by omega) hG.2 h4 (fun q hq => ⟨?_, ?_⟩) ?_ ?_
  · show rw1 (B 33) x _ q = _
    rw [rw1_n _ _ hq]
  · show rw1 (B 34) x _ q = _
    rw [rw1_n _ _ hq]
  · have e : ldM B x 33 x = behO (B 33 x) (B 4 (B 34 x)) (B 7 x) := by
      show rw1 (B 33) x _ x = _
      rw [rw1_s]
    rw [e]; exact h2
  · rw [h3]
    show -9 = rw1 (B 34) x _ x
    rw [rw1_s]

theorem cpA_row {M : Mem} {i : Nat} {si : Int} {j : Nat} {dj : Int} {x : Int} (h : 0 ≤ x ∧ x < 21) : cpA M i si j dj 21 j (dj + x) = M i (si + x) := by
  rw [cpA_at (by omega), show dj + x - dj = x by omega]
theorem aBack_n {A : Mem} {c : Nat} (h : c ≠ 15) (h2 : c < 32 ∨ 34 < c) : aBack A c = A c := by
  unfold aBack
  rw [cpM_n (by omega), mset_n _ _ _ h]
theorem RM_undo {A M u : Mem} (wf : WF A) (r : RM A M) (h0 : ¬ A 15 2 = 0) (hu : u = cpA (mset (mset M 18 0 0) 18 15 (M 18 15 - 1)) 26 (21 * (M 18 15 - 1)) 24 0 21) : QC M u ∧ RM (aBack A) u := by
  obtain ⟨w_txt, hL, w_cnt, w_per, w_glo, w_now, ⟨w_a1, w_a2⟩, w_rng, w_slo, w_see, w_sa⟩ := wf
  have hG := w_cnt.2.2
  have r4 := r.2.2.2.1
  have e15 : aBack A 15 1 = A 15 1 ∧ aBack A 15 2 = A 15 2 - 1 := by
    unfold aBack
    rw [cpM_n (by decide)]
    exact ⟨rfl, rfl⟩
  have hn : ∀ c : Nat, c ≠ 15 → (c < 32 ∨ 34 < c) → aBack A c = A c := fun c => aBack_n
  have h3 : aBack A 3 = A 3 := hn 3 (by decide) (by decide)
  have er : ∀ k : Int, ringO (aBack A) k = ringO A k := fun k => by unfold ringO; rw [e15.1]
  have hc : ∀ c : Nat, c ≠ 18 → c ≠ 24 → u c = M c := fun c h1 h2 => by rw [hu, cpA_n h2, mset_n _ _ _ h1, mset_n _ _ _ h1]
  have hq : ∀ q : Int, u 18 q = mset (mset M 18 0 0) 18 15 (M 18 15 - 1) 18 q := fun q => by rw [hu, cpA_n (by decide)]
  have hb := ringO_b A (A 15 2 - 1)
  refine RM_act r (fun c h => hn c (by omega) (by omega)) (fun c h1 h2 h3 => hc c h1 h2) (fun q h1 h2 => by rw [hq, mset_s, rw1_n _ _ h2, mset_s, rw1_n _ _ h1]) ?_ ⟨?_, fun k hk => ?_⟩ (RK_fr r.2.2.2.2.1 hG h3 (fun c h1 h2 => hn c (by omega) (by omega)) (hc 27 (by decide) (by decide)) (hc 28 (by decide) (by decide)))
  · refine PG_of (r4.2 (A 15 2 - 1) (by omega)) (by rw [h3]) hG (fun q hq => ?_) ?_ (fun j hj => ?_)
    · unfold aBack
      have e := @cpM_o1 (mset A 15 2 (A 15 2 - 1)) (ringO A (A 15 2 - 1)) 32 q hq
      rw [e.1, e.2, mset_n _ _ _ (by omega), mset_n _ _ _ (by omega)]
      exact ⟨rfl, rfl⟩
    · unfold aBack
      rw [cpM_o2.1, mset_n _ _ _ (by omega)]
    · rw [hu, cpA_row hj, mset_n _ _ _ (by decide), mset_n _ _ _ (by decide), r4.1]
  · rw [hq, mset_s, rw1_s, e15.2, r4.1]
  · rw [e15.2] at hk
    have hbk := ringO_b A k
    rw [er, hc 26 (by decide) (by decide)]
    exact PG_fr (r4.2 k (by omega)) hG h3 (hn _ (by omega) (by omega)) (hn _ (by omega) (by omega)) (hn _ (by omega) (by omega))
theorem RM_keep {A M u : Mem} {v : Int} (wf : WF A) (r : RM A M) (hv : 0 ≤ v ∧ v < 2) (hu : u = cpA (mset (mset M 18 0 0) 28 v 1) 24 0 27 (21 * v) 21) : QC M u ∧ RM (cpM A 32 (sltO v)) u := by
  obtain ⟨w_txt, hL, w_cnt, w_per, w_glo, w_now, ⟨w_a1, w_a2⟩, w_rng, w_slo, w_see, w_sa⟩ := wf
  have hG := w_cnt.2.2
  have hs := (sltO_b hv).2
  have hn : ∀ c : Nat, c < 80 → cpM A 32 (sltO v) c = A c := fun c h => cpM_n (by omega)
  have h3 := hn 3 (by decide)
  have hc : ∀ c : Nat, c ≠ 18 → c ≠ 27 → c ≠ 28 → u c = M c := fun c h1 h2 h3 => by rw [hu, cpA_n h2, mset_n _ _ _ h3, mset_n _ _ _ h1]
  have hq : ∀ q : Int, q ≠ 0 → u 18 q = M 18 q := fun q h => by rw [hu, cpA_n (by decide), mset_n _ _ _ (by decide), mset_s, rw1_n _ _ h]
  refine RM_act r (fun c h => hn c (by omega)) (fun c h1 h2 h3 => hc c h1 (by omega) (by omega)) (fun q h1 h2 => hq q h1) ?_ (RA_fr r.2.2.2.1 hG h3 (hn 15 (by decide)) (fun c h1 h2 => hn c h2) (hc 26 (by decide) (by decide) (by decide)) (hq 15 (by decide))) (fun w hw => ?_)
  · rw [hc 24 (by decide) (by decide) (by decide)]
    exact PG_fr r.2.2.1 hG h3 (hn 32 (by decide)) (hn 33 (by decide)) (hn 34 (by decide))
  · have hws := (sltO_b hw).2
    by_cases e : w = v
    · subst e
      refine ⟨?_, fun _ => ?_⟩
      · rw [hu, cpA_n (by decide), mset_s, rw1_s, cpM_o2.2]
      · refine PG_of r.2.2.1 (by rw [h3]) hG (fun q hq => cpM_o1 hq) cpM_o2.1 (fun j hj => ?_)
        rw [hu, cpA_row hj, mset_n _ _ _ (by decide), mset_n _ _ _ (by decide)]
    · have hne : sltO w + 2 < sltO v ∨ sltO v + 2 < sltO w := by unfold sltO; omega
      obtain ⟨k1, k2⟩ := r.2.2.2.2.1 w hw
      rw [cpM_n (c := sltO w) (by omega)]
      refine ⟨?_, fun q => ?_⟩
      · rw [hu, cpA_n (by decide), mset_s, rw1_n _ _ e, mset_n _ _ _ (by decide)]; exact k1
      · refine PG_of (k2 q) (by rw [h3]) hG (fun q hq => ⟨?_, ?_⟩) ?_ (fun j hj => ?_)
        · rw [cpM_n (by omega)]
        · rw [cpM_n (by omega)]
        · rw [cpM_n (by omega)]
        · rw [hu, cpA_off (by omega), mset_n _ _ _ (by decide), mset_n _ _ _ (by decide)]
theorem RM_again {A M u : Mem} {v : Int} (wf : WF A) (r : RM A M) (hv : 0 ≤ v ∧ v < 2) (h1 : A (sltO v) 3 = 1) (hu : u = mset (cpA (mset M 18 0 0) 27 (21 * v) 24 0 21) 18 15 0) : QC M u ∧ RM (mset (cpM A (sltO v) 32) 15 2 0) u := by
  obtain ⟨w_txt, hL, w_cnt, w_per, w_glo, w_now, ⟨w_a1, w_a2⟩, w_rng, w_slo, w_see, w_sa⟩ := wf
  have hG := w_cnt.2.2
  have hs := (sltO_b hv).2
  have hn : ∀ c : Nat, c ≠ 15 → (c < 32 ∨ 34 < c) → mset (cpM A (sltO v) 32) 15 2 0 c = A c := fun c h h2 => by rw [mset_n _ _ _ h, cpM_n (by omega)]
  have h3 := hn 3 (by decide) (by decide)
  have hc : ∀ c : Nat, c ≠ 18 → c ≠ 24 → u c = M c := fun c h1 h2 => by rw [hu, mset_n _ _ _ h1, cpA_n h2, mset_n _ _ _ h1]
  refine RM_act r (fun c h => hn c (by omega) (by omega)) (fun c h1 h2 h3 => hc c h1 h2) (fun q h1 h2 => by rw [hu, mset_s, rw1_n _ _ h2, cpA_n (by decide), mset_s, rw1_n _ _ h1]) ?_ ⟨?_, fun k hk => ?_⟩ (RK_fr r.2.2.2.2.1 hG h3 (fun c h1 h2 => hn c (by omega) (by omega)) (hc 27 (by decide) (by decide)) (hc 28 (by decide) (by decide)))
  · refine PG_of ((r.2.2.2.2.1 v hv).2 h1) (by rw [h3]) hG (fun q hq => ?_) ?_ (fun j hj => ?_)
    · have e := @cpM_o1 A (sltO v) 32 q hq
      rw [mset_n _ _ _ (by decide), mset_n _ _ _ (by decide)]
      exact e
    · rw [mset_n _ _ _ (by decide), cpM_o2.1]
    · rw [hu, mset_n _ _ _ (by decide), cpA_row hj, mset_n _ _ _ (by decide)]
  · rw [hu, mset_s, rw1_s, mset_s, rw1_s]
  · rw [mset_s, rw1_s] at hk; omega
set_option maxHeartbeats 4000000 in
set_option maxRecDepth 100000 in
theorem c_X7_wear (l : Launch) (g : GT) (M : Mem) (x : Int) (y : Int) (A : Mem) (wf : WF A) (rm : RM A M) (h_x : -2147483648 ≤ x ∧ x < 2147483648) (h_y : -2147483648 ≤ y ∧ y < 2147483648) : Ctr l g yX7_wear wsX7_wear ({ frames := 2, cells := 0, slots := 0, locals := 46 } : Room) [.ref (gA g 18), .int (iI x), .int (iI y)] M (pE (fun z u => z = zWea A x y ∧ QC M u ∧ RM (gWea A x y) u)) := by
  refine Ctr.mk (cc := cX7_wear) (maxL := 3) (ret := some .int) (lv := [(0, .ref (gA g 18)), (1, .int (iI x)), (2, .int (iI y))]) (by decide) rfl (Nat.le_of_ble_eq_true rfl) rfl ?_
  intro p e s m below meth c C hr hlk hI ls hl
  have C : CallFix p m c cX7_wear 3 s ([.ref (gA g 18), .int (iI x), .int (iI y)] : List Value).toArray wsX7_wear RX7 := C
  have hx := C.1
  have hb := C.2.1
  have hts := C.2.2.2.2
  have hin7 : ∀ w ∈ u_ws RX7 TX7 31, w ∈ wsX7_wear := by decide +kernel
  have wf0 := wf
  obtain ⟨w_txt, hL, w_cnt, w_per, w_glo, w_now, w_act, w_rng, w_slo, w_see, w_sa⟩ := wf
  have rm0 := rm
  obtain ⟨⟨t_n, t_l⟩, ⟨⟨p_p, p_g⟩, p_r, g_r⟩, pgn, ⟨a_n, a_r⟩, k_r, ⟨s_n, s_r⟩, sd⟩ := rm
  have w_gx := w_glo x
  have w_nx : 0 ≤ x ∧ x < 4 → (0 ≤ A 33 x ∧ A 33 x < 1000) ∧ (A 34 x = -9 ∨ (0 ≤ A 34 x ∧ A 34 x < A 3 6 ∧ x < A 3 7)) := fun q => ⟨(w_now.1 x q).1, (w_now.1 x q).2.1⟩
  have w_kx : 0 ≤ x ∧ x < A 3 7 → KOK (A 33 x) (A 7 x) := fun q => (w_now.1 x (by omega)).2.2 q.2
  have r_kx : 0 ≤ x ∧ x < A 3 7 → KG (A 33 x) (M 24) (5 * x) := fun q => (PG_0 pgn x q).1
  have r_wx : 0 ≤ x ∧ x < A 3 7 → M 24 (5 * x + 4) = A 34 x := fun q => (PG_0 pgn x q).2
  have g_x := g_r x
  have r_fx : 0 ≤ x ∧ x < A 3 7 → M 24 (5 * x) = figs (A 33 x) := fun q => (PG_0 pgn x q).1.1
  have f_x := figs_b (A 33 x)
  have w_py := w_per y
  have p_y := p_r y
  have r_hw : ∀ q : Int, 0 ≤ q ∧ q < M 18 5 → -2147483648 ≤ M 24 (5 * q + 4) ∧ M 24 (5 * q + 4) < 2147483648 := fun q hq => by
    have h1 : M 24 (5 * q + 4) = A 34 q := (PG_0 pgn q (by omega)).2
    have h2 := WF_hw w_now (by omega) q (by omega)
    omega
  have ewy : 0 ≤ y → weN (M 24) y (M 18 5).toNat = gOn (A 34) y := fun q => by rw [p_g]; exact we_eq pgn w_now w_cnt.2 q
  refine lv_aload_n hx hb dX7_wear_0 rfl (lv_at hl 0 rfl) ?_
  refine lv_iconst (v := iI 0) hx hb dX7_wear_1 rfl ?_
  refine r_put C hI 18 (by decide) rfl rfl tyX7 tyX7_ok nmX7 hin7 0 (by decide) (fn := "thrown") (fd := "I") (index := 50) (by decide +kernel) ⟨rfl, rfl, rfl⟩ rfl (z := 0) rfl rfl (Nat.le_of_ble_eq_true rfl) rfl dX7_wear_2 (fun H locs hI => ?_)
  refine lv_aload_n hx hb dX7_wear_5 rfl (lv_at hl 0 rfl) ?_
  refine lv_iload_n hx hb dX7_wear_6 rfl (lv_at hl 1 rfl) ?_
  refine r_iv C hI (As := [.int (iI x)]) (rest := []) (c_X7_noGlove l g (mset M 18 0 0) x (by omega) (show 0 ≤ (M 18 5) ∧ (M 18 5) ≤ 4 from by omega)) (cwV 1 hts gX7_wear_X7_noGlove rfl rfl rfl (by decide +kernel) ⟨Nat.le_of_ble_eq_true rfl, Nat.le_of_ble_eq_true rfl⟩) (by decide) rfl rfl rfl hl.1 rfl (Nat.le_of_ble_eq_true rfl) dX7_wear_7 ⟨Nat.zero_le _, Nat.zero_le _⟩ (k_I (fun H locs hI => ?_))
  refine r_eqI (z2 := bI (¬ (0 ≤ x ∧ x ≤ (M 18 5) - 1))) rfl ?_
  refine r_b_ne hx hb (tgt := 21) dX7_wear_10 (by decide) (fun c_1 => ?_) (fun c_1 => ?_)
  · refine lv_iconst (v := iI (-1)) hx hb dX7_wear_21 rfl ?_
    refine r_iret C hr hlk hI ?_ dX7_wear_22
    exact ⟨_, rfl, (show (fun z u => z = zWea A x y ∧ QC M u ∧ RM (gWea A x y) u) (-1) (mset M 18 0 0) from by exact ⟨(by unfold zWea; (repeat' split) <;> first | rfl | omega | (simp_all; done) | (simp_all; omega)), (by unfold gWea; first | (rw [if_pos (by omega)]; exact RO rm0) | (rw [if_neg (by omega), if_pos (by omega)]; exact RO rm0))⟩)⟩
  · refine lv_aload_n hx hb dX7_wear_13 rfl (lv_at hl 0 rfl) ?_
    refine lv_iload_n hx hb dX7_wear_14 rfl (lv_at hl 2 rfl) ?_
    refine r_iv C hI (As := [.int (iI y)]) (rest := []) (c_X7_noPerson l g (mset M 18 0 0) y (by omega) (show 0 ≤ (M 18 4) ∧ (M 18 4) ≤ 5 from by omega)) (cwV 1 hts gX7_wear_X7_noPerson rfl rfl rfl (by decide +kernel) ⟨Nat.le_of_ble_eq_true rfl, Nat.le_of_ble_eq_true rfl⟩) (by decide) rfl rfl rfl hl.1 rfl (Nat.le_of_ble_eq_true rfl) dX7_wear_15 ⟨Nat.zero_le _, Nat.zero_le _⟩ (k_I (fun H locs hI => ?_))
    refine r_eqI (z2 := bI (¬ (0 ≤ y ∧ y ≤ (M 18 4) - 1))) rfl ?_
    refine r_b_eq hx hb (tgt := 23) dX7_wear_18 (by decide) (fun c_2 => ?_) (fun c_2 => ?_)
    · refine lv_aload_n hx hb dX7_wear_23 rfl (lv_at hl 0 rfl) ?_
      refine lv_aload_n hx hb dX7_wear_24 rfl (lv_at hl 0 rfl) ?_
      refine r_get C hI 18 (by decide) rfl rfl hin7 12 (by decide) (fn := "page") (fd := "[I") (index := 25) (by decide +kernel) ⟨rfl, rfl, rfl⟩ (v := .ref (gA g 24)) rfl dX7_wear_25 ?_
      refine lv_iload_n hx hb dX7_wear_28 rfl (lv_at hl 1 rfl) ?_
      refine r_iv C hI (As := [.ref (gA g 24), .int (iI x)]) (rest := []) (c_X7_isWorn_24 l g (mset M 18 0 0) x (by omega) (show -2147483648 ≤ (M 24 (5 * x + 4)) ∧ (M 24 (5 * x + 4)) < 2147483648 from by omega)) (cwV 2 hts gX7_wear_X7_isWorn rfl rfl rfl (by decide +kernel) ⟨Nat.le_of_ble_eq_true rfl, Nat.le_of_ble_eq_true rfl⟩) (by decide) rfl rfl rfl hl.1 rfl (Nat.le_of_ble_eq_true rfl) dX7_wear_29 ⟨Nat.zero_le _, Nat.zero_le _⟩ (k_I (fun H locs hI => ?_))
      refine r_eqI (z2 := bI (¬ (M 24 (5 * x + 4)) = -9)) rfl ?_
      refine r_b_ne hx hb (tgt := 49) dX7_wear_32 (by decide) (fun c_3 => ?_) (fun c_3 => ?_)
      · refine lv_bipush (v := iI (-3)) hx hb dX7_wear_49 (by decide +kernel) ?_
        refine r_iret C hr hlk hI ?_ dX7_wear_51
        exact ⟨_, rfl, (show (fun z u => z = zWea A x y ∧ QC M u ∧ RM (gWea A x y) u) (-3) (mset M 18 0 0) from by exact ⟨(by unfold zWea; (repeat' split) <;> first | rfl | omega | (simp_all; done) | (simp_all; omega)), (by unfold gWea; first | (rw [if_pos (by omega)]; exact RO rm0) | (rw [if_neg (by omega), if_pos (by omega)]; exact RO rm0))⟩)⟩
      · refine lv_aload_n hx hb dX7_wear_35 rfl (lv_at hl 0 rfl) ?_
        refine lv_aload_n hx hb dX7_wear_36 rfl (lv_at hl 0 rfl) ?_
        refine r_get C hI 18 (by decide) rfl rfl hin7 12 (by decide) (fn := "page") (fd := "[I") (index := 25) (by decide +kernel) ⟨rfl, rfl, rfl⟩ (v := .ref (gA g 24)) rfl dX7_wear_37 ?_
        refine lv_iload_n hx hb dX7_wear_40 rfl (lv_at hl 2 rfl) ?_
        refine r_iv C hI (As := [.ref (gA g 24), .int (iI y)]) (rest := []) (c_X7_wears_24 l g (mset M 18 0 0) y (by omega) (show 0 ≤ (M 18 5) ∧ (M 18 5) ≤ 4 from by omega) r_hw) (cwV 2 hts gX7_wear_X7_wears rfl rfl rfl (by decide +kernel) ⟨Nat.le_of_ble_eq_true rfl, Nat.le_of_ble_eq_true rfl⟩) (by decide) rfl rfl rfl hl.1 rfl (Nat.le_of_ble_eq_true rfl) dX7_wear_41 ⟨Nat.zero_le _, Nat.zero_le _⟩ (k_I (fun H locs hI => ?_))
        refine r_eqI (z2 := weN (M 24) y (M 18 5).toNat) rfl ?_
        have ff_1 := weN_b (M 24) y (M 18 5).toNat
        refine lv_bipush (v := iI (-9)) hx hb dX7_wear_44 (by decide +kernel) ?_
        refine r_icmp_eq hx hb (tgt := 52) (by omega) (by decide) dX7_wear_46 (by decide) (fun c_4 => ?_) (fun c_4 => ?_)
        · refine lv_aload_n hx hb dX7_wear_52 rfl (lv_at hl 0 rfl) ?_
          refine r_iv C hI (As := []) (rest := []) (c_X7_note l g (mset M 18 0 0) (show 0 ≤ (M 18 15) ∧ (M 18 15) ≤ 14 from by omega)) (cwV 0 hts gX7_wear_X7_note rfl rfl rfl (by decide +kernel) ⟨Nat.le_of_ble_eq_true rfl, Nat.le_of_ble_eq_true rfl⟩) (by decide) rfl rfl rfl hl.1 rfl (Nat.le_of_ble_eq_true rfl) dX7_wear_53 ⟨Nat.zero_le _, Nat.zero_le _⟩ (k_X (fun M_1 H locs q_1 hI => ?_))
          have n_c : ∀ c : Nat, c ≠ 18 → c ≠ 26 → M_1 c = M c := fun c h1 h2 => by rw [q_1, noM_n h1 h2, mset_n _ _ _ h1]
          have n18 : ∀ q : Int, q ≠ 15 → q ≠ 0 → M_1 18 q = M 18 q := fun q h1 h2 => by rw [q_1, noM_18 h1, mset_s, rw1_n _ _ h2]
          have n20 : ∀ q : Int, M_1 20 (3 * q) = A 4 q := fun q => by rw [n_c 20 (by decide) (by decide)]; exact (p_r q).1
          have n21 : ∀ q : Int, M_1 21 (3 * q) = A 7 q := fun q => by rw [n_c 21 (by decide) (by decide)]; exact (g_r q).1
          have n21b : ∀ q : Int, M_1 21 (3 * q + 1) = A 8 q := fun q => by rw [n_c 21 (by decide) (by decide)]; exact (g_r q).2.1
          have n24 : M_1 24 = M 24 := n_c 24 (by decide) (by decide)
          have rn := RM_note wf0 (RO rm0).2
          rw [← q_1] at rn
          have rq := QC.trans (RO rm0).1 rn.2
          have ea : ∀ c : Nat, c ≠ 15 → c < 38 → aAdd A c = A c := fun c h1 h2 => aAdd_n h1 h2
          have ea37 : aAdd A 3 7 = A 3 7 := by rw [ea 3 (by decide) (by decide)]
          have n20x := n20 x
          have n21x := n21 x
          have n21bx := n21b x
          have n24x : M_1 24 (5 * x) = M 24 (5 * x) := by rw [n24]
          have n24w : M_1 24 (5 * x + 4) = M 24 (5 * x + 4) := by rw [n24]
          have n_kx : KG (A 33 x) (M_1 24) (5 * x) := by rw [n24]; exact r_kx (by omega)
          have n20y := n20 y
          refine lv_aload_n hx hb dX7_wear_56 rfl (lv_at hl 0 rfl) ?_
          refine r_get C hI 18 (by decide) rfl rfl hin7 12 (by decide) (fn := "page") (fd := "[I") (index := 25) (by decide +kernel) ⟨rfl, rfl, rfl⟩ (v := .ref (gA g 24)) rfl dX7_wear_57 ?_
          refine lv_iconst (v := iI 5) hx hb dX7_wear_60 rfl ?_
          refine lv_iload_n hx hb dX7_wear_61 rfl (lv_at hl 1 rfl) ?_
          refine r_imul hx hb dX7_wear_62 ?_
          refine lv_iconst (v := iI 4) hx hb dX7_wear_63 rfl ?_
          refine r_iadd hx hb dX7_wear_64 ?_
          refine lv_iload_n hx hb dX7_wear_65 rfl (lv_at hl 2 rfl) ?_
          refine r_ast C hI 24 (by decide) (fun _ => rfl) (by omega) (by decide) dX7_wear_66 (fun H locs hI => ?_)
          refine lv_aload_n hx hb dX7_wear_67 rfl (lv_at hl 0 rfl) ?_
          refine lv_aload_n hx hb dX7_wear_68 rfl (lv_at hl 0 rfl) ?_
          refine r_get C hI 18 (by decide) rfl rfl hin7 12 (by decide) (fn := "page") (fd := "[I") (index := 25) (by decide +kernel) ⟨rfl, rfl, rfl⟩ (v := .ref (gA g 24)) rfl dX7_wear_69 ?_
          refine lv_iload_n hx hb dX7_wear_72 rfl (lv_at hl 1 rfl) ?_
          refine lv_iload_n hx hb dX7_wear_73 rfl (lv_at hl 2 rfl) ?_
          refine r_iv C hI (As := [.ref (gA g 24), .int (iI x), .int (iI y)]) (rest := []) (c_X7_doesOn_24 l g (mset M_1 24 ((5 * x) + 4) y) x y (A 33 x) (by omega) (by omega) (by omega) (KG_of n_kx (fun j hj => by rw [mset_s, rw1_n _ _ (by omega)])) (show -2147483648 ≤ (M_1 21 (3 * x + 1)) ∧ (M_1 21 (3 * x + 1)) < 2147483648 from by omega) (show -2147483648 ≤ (M_1 20 (3 * y)) ∧ (M_1 20 (3 * y)) < 2147483648 from by omega)) (cwV 3 hts gX7_wear_X7_doesOn rfl rfl rfl (by decide +kernel) ⟨Nat.le_of_ble_eq_true rfl, Nat.le_of_ble_eq_true rfl⟩) (by decide) rfl rfl rfl hl.1 rfl (Nat.le_of_ble_eq_true rfl) dX7_wear_74 ⟨Nat.zero_le _, Nat.zero_le _⟩ (k_I (fun H locs hI => ?_))
          refine r_eqI (z2 := repO (M_1 21 (3 * x + 1)) (A 33 x) (M_1 20 (3 * y))) rfl ?_
          have ff_2 := repO_b (M_1 21 (3 * x + 1)) (A 33 x) (M_1 20 (3 * y))
          refine r_iret C hr hlk hI ?_ dX7_wear_77
          exact ⟨_, rfl, (show (fun z u => z = zWea A x y ∧ QC M u ∧ RM (gWea A x y) u) (repO (M_1 21 (3 * x + 1)) (A 33 x) (M_1 20 (3 * y))) (mset M_1 24 ((5 * x) + 4) y) from by exact ⟨(by unfold zWea; rw [if_neg (by omega), if_neg (by omega), n21bx, n20y]), (by unfold gWea; rw [if_neg (by omega), if_neg (by omega)]; refine ⟨QC.trans rq (QC_m (by decide)), RM_now rn.1 (fun c h1 h2 h3 => mset_n _ _ _ h3) (fun c h => mset_n _ _ _ h) (by rw [ea37]; exact w_cnt.2.2) (PG_set (x := x) rn.1.2.2.1 rfl rfl (by omega) (by rw [ea37]; exact w_cnt.2.2) (fun j hj => by rw [mset_s, rw1_n _ _ (by omega)]) (fun q hq => ⟨rfl, by rw [mset_s, rw1_n _ _ hq]⟩) ?_ (by rw [mset_s, rw1_s, mset_s, rw1_s]))⟩; rw [mset_n _ _ _ (by decide), ea 33 (by decide) (by decide)]; exact KG_of n_kx (fun j hj => by rw [mset_s, rw1_n _ _ (by omega)]))⟩)⟩
        · refine lv_bipush (v := iI (-3)) hx hb dX7_wear_49 (by decide +kernel) ?_
          refine r_iret C hr hlk hI ?_ dX7_wear_51
          exact ⟨_, rfl, (show (fun z u => z = zWea A x y ∧ QC M u ∧ RM (gWea A x y) u) (-3) (mset M 18 0 0) from by exact ⟨(by unfold zWea; (repeat' split) <;> first | rfl | omega | (simp_all; done) | (simp_all; omega)), (by unfold gWea; first | (rw [if_pos (by omega)]; exact RO rm0) | (rw [if_neg (by omega), if_pos (by omega)]; exact RO rm0))⟩)⟩
    · refine lv_iconst (v := iI (-1)) hx hb dX7_wear_21 rfl ?_
      refine r_iret C hr hlk hI ?_ dX7_wear_22
      exact ⟨_, rfl, (show (fun z u => z = zWea A x y ∧ QC M u ∧ RM (gWea A x y) u) (-1) (mset M 18 0 0) from by exact ⟨(by unfold zWea; (repeat' split) <;> first | rfl | omega | (simp_all; done) | (simp_all; omega)), (by unfold gWea; first | (rw [if_pos (by omega)]; exact RO rm0) | (rw [if_neg (by omega), if_pos (by omega)]; exact RO rm0))⟩)⟩
set_option maxHeartbeats 4000000 in
set_option maxRecDepth 100000 in
theorem c_X7_takeOff (l : Launch) (g : GT) (M : Mem) (x : Int) (A : Mem) (wf : WF A) (rm : RM A M) (h_x : -2147483648 ≤ x ∧ x < 2147483648) : Ctr l g yX7_takeOff wsX7_takeOff ({ frames := 2, cells := 0, slots := 0, locals := 46 } : Room) [.ref (gA g 18), .int (iI x)] M (pE (fun z u => z = zTak A x ∧ QC M u ∧ RM (gTak A x) u)) := by
  refine Ctr.mk (cc := cX7_takeOff) (maxL := 2) (ret := some .int) (lv := [(0, .ref (gA g 18)), (1, .int (iI x))]) (by decide) rfl (Nat.le_of_ble_eq_true rfl) rfl ?_
  intro p e s m below meth c C hr hlk hI ls hl
  have C : CallFix p m c cX7_takeOff 2 s ([.ref (gA g 18), .int (iI x)] : List Value).toArray wsX7_takeOff RX7 := C
  have hx := C.1
  have hb := C.2.1
  have hts := C.2.2.2.2
  have hin7 : ∀ w ∈ u_ws RX7 TX7 31, w ∈ wsX7_takeOff := by decide +kernel
  have wf0 := wf
  obtain ⟨w_txt, hL, w_cnt, w_per, w_glo, w_now, w_act, w_rng, w_slo, w_see, w_sa⟩ := wf
  have rm0 := rm
  obtain ⟨⟨t_n, t_l⟩, ⟨⟨p_p, p_g⟩, p_r, g_r⟩, pgn, ⟨a_n, a_r⟩, k_r, ⟨s_n, s_r⟩, sd⟩ := rm
  have w_gx := w_glo x
  have w_nx : 0 ≤ x ∧ x < 4 → (0 ≤ A 33 x ∧ A 33 x < 1000) ∧ (A 34 x = -9 ∨ (0 ≤ A 34 x ∧ A 34 x < A 3 6 ∧ x < A 3 7)) := fun q => ⟨(w_now.1 x q).1, (w_now.1 x q).2.1⟩
  have w_kx : 0 ≤ x ∧ x < A 3 7 → KOK (A 33 x) (A 7 x) := fun q => (w_now.1 x (by omega)).2.2 q.2
  have r_kx : 0 ≤ x ∧ x < A 3 7 → KG (A 33 x) (M 24) (5 * x) := fun q => (PG_0 pgn x q).1
  have r_wx : 0 ≤ x ∧ x < A 3 7 → M 24 (5 * x + 4) = A 34 x := fun q => (PG_0 pgn x q).2
  have g_x := g_r x
  have r_fx : 0 ≤ x ∧ x < A 3 7 → M 24 (5 * x) = figs (A 33 x) := fun q => (PG_0 pgn x q).1.1
  have f_x := figs_b (A 33 x)
  have w_pw := w_per (A 34 x)
  refine lv_aload_n hx hb dX7_takeOff_0 rfl (lv_at hl 0 rfl) ?_
  refine lv_iconst (v := iI 0) hx hb dX7_takeOff_1 rfl ?_
  refine r_put C hI 18 (by decide) rfl rfl tyX7 tyX7_ok nmX7 hin7 0 (by decide) (fn := "thrown") (fd := "I") (index := 50) (by decide +kernel) ⟨rfl, rfl, rfl⟩ rfl (z := 0) rfl rfl (Nat.le_of_ble_eq_true rfl) rfl dX7_takeOff_2 (fun H locs hI => ?_)
  refine lv_aload_n hx hb dX7_takeOff_5 rfl (lv_at hl 0 rfl) ?_
  refine lv_iload_n hx hb dX7_takeOff_6 rfl (lv_at hl 1 rfl) ?_
  refine r_iv C hI (As := [.int (iI x)]) (rest := []) (c_X7_noGlove l g (mset M 18 0 0) x (by omega) (show 0 ≤ (M 18 5) ∧ (M 18 5) ≤ 4 from by omega)) (cwV 1 hts gX7_takeOff_X7_noGlove rfl rfl rfl (by decide +kernel) ⟨Nat.le_of_ble_eq_true rfl, Nat.le_of_ble_eq_true rfl⟩) (by decide) rfl rfl rfl hl.1 rfl (Nat.le_of_ble_eq_true rfl) dX7_takeOff_7 ⟨Nat.zero_le _, Nat.zero_le _⟩ (k_I (fun H locs hI => ?_))
  refine r_eqI (z2 := bI (¬ (0 ≤ x ∧ x ≤ (M 18 5) - 1))) rfl ?_
  refine r_b_eq hx hb (tgt := 15) dX7_takeOff_10 (by decide) (fun c_1 => ?_) (fun c_1 => ?_)
  · refine lv_aload_n hx hb dX7_takeOff_15 rfl (lv_at hl 0 rfl) ?_
    refine lv_aload_n hx hb dX7_takeOff_16 rfl (lv_at hl 0 rfl) ?_
    refine r_get C hI 18 (by decide) rfl rfl hin7 12 (by decide) (fn := "page") (fd := "[I") (index := 25) (by decide +kernel) ⟨rfl, rfl, rfl⟩ (v := .ref (gA g 24)) rfl dX7_takeOff_17 ?_
    refine lv_iload_n hx hb dX7_takeOff_20 rfl (lv_at hl 1 rfl) ?_
    refine r_iv C hI (As := [.ref (gA g 24), .int (iI x)]) (rest := []) (c_X7_isWorn_24 l g (mset M 18 0 0) x (by omega) (show -2147483648 ≤ (M 24 (5 * x + 4)) ∧ (M 24 (5 * x + 4)) < 2147483648 from by omega)) (cwV 2 hts gX7_takeOff_X7_isWorn rfl rfl rfl (by decide +kernel) ⟨Nat.le_of_ble_eq_true rfl, Nat.le_of_ble_eq_true rfl⟩) (by decide) rfl rfl rfl hl.1 rfl (Nat.le_of_ble_eq_true rfl) dX7_takeOff_21 ⟨Nat.zero_le _, Nat.zero_le _⟩ (k_I (fun H locs hI => ?_))
    refine r_eqI (z2 := bI (¬ (M 24 (5 * x + 4)) = -9)) rfl ?_
    refine r_b_ne hx hb (tgt := 30) dX7_takeOff_24 (by decide) (fun c_2 => ?_) (fun c_2 => ?_)
    · refine lv_aload_n hx hb dX7_takeOff_30 rfl (lv_at hl 0 rfl) ?_
      refine r_iv C hI (As := []) (rest := []) (c_X7_note l g (mset M 18 0 0) (show 0 ≤ (M 18 15) ∧ (M 18 15) ≤ 14 from by omega)) (cwV 0 hts gX7_takeOff_X7_note rfl rfl rfl (by decide +kernel) ⟨Nat.le_of_ble_eq_true rfl, Nat.le_of_ble_eq_true rfl⟩) (by decide) rfl rfl rfl hl.1 rfl (Nat.le_of_ble_eq_true rfl) dX7_takeOff_31 ⟨Nat.zero_le _, Nat.zero_le _⟩ (k_X (fun M_1 H locs q_1 hI => ?_))
      have n_c : ∀ c : Nat, c ≠ 18 → c ≠ 26 → M_1 c = M c := fun c h1 h2 => by rw [q_1, noM_n h1 h2, mset_n _ _ _ h1]
      have n18 : ∀ q : Int, q ≠ 15 → q ≠ 0 → M_1 18 q = M 18 q := fun q h1 h2 => by rw [q_1, noM_18 h1, mset_s, rw1_n _ _ h2]
      have n20 : ∀ q : Int, M_1 20 (3 * q) = A 4 q := fun q => by rw [n_c 20 (by decide) (by decide)]; exact (p_r q).1
      have n21 : ∀ q : Int, M_1 21 (3 * q) = A 7 q := fun q => by rw [n_c 21 (by decide) (by decide)]; exact (g_r q).1
      have n21b : ∀ q : Int, M_1 21 (3 * q + 1) = A 8 q := fun q => by rw [n_c 21 (by decide) (by decide)]; exact (g_r q).2.1
      have n24 : M_1 24 = M 24 := n_c 24 (by decide) (by decide)
      have rn := RM_note wf0 (RO rm0).2
      rw [← q_1] at rn
      have rq := QC.trans (RO rm0).1 rn.2
      have ea : ∀ c : Nat, c ≠ 15 → c < 38 → aAdd A c = A c := fun c h1 h2 => aAdd_n h1 h2
      have ea37 : aAdd A 3 7 = A 3 7 := by rw [ea 3 (by decide) (by decide)]
      have n20x := n20 x
      have n21x := n21 x
      have n21bx := n21b x
      have n24x : M_1 24 (5 * x) = M 24 (5 * x) := by rw [n24]
      have n24w : M_1 24 (5 * x + 4) = M 24 (5 * x + 4) := by rw [n24]
      have n_kx : KG (A 33 x) (M_1 24) (5 * x) := by rw [n24]; exact r_kx (by omega)
      have n20w : M_1 20 (3 * M_1 24 (5 * x + 4)) = A 4 (A 34 x) := by rw [n24, r_wx (by omega)]; exact n20 _
      refine lv_aload_n hx hb dX7_takeOff_34 rfl (lv_at hl 0 rfl) ?_
      refine lv_aload_n hx hb dX7_takeOff_35 rfl (lv_at hl 0 rfl) ?_
      refine r_get C hI 18 (by decide) rfl rfl hin7 12 (by decide) (fn := "page") (fd := "[I") (index := 25) (by decide +kernel) ⟨rfl, rfl, rfl⟩ (v := .ref (gA g 24)) rfl dX7_takeOff_36 ?_
      refine lv_iload_n hx hb dX7_takeOff_39 rfl (lv_at hl 1 rfl) ?_
      refine r_iv C hI (As := [.ref (gA g 24), .int (iI x)]) (rest := []) (c_X7_goOff l g M_1 x (A 33 x) (by omega) (show KOK (A 33 x) (M_1 21 (3 * x)) from by rw [n21x]; exact w_kx (by omega)) (show 1 ≤ (M_1 21 (3 * x)) ∧ (M_1 21 (3 * x)) ≤ 3 from by omega) (show 0 ≤ (M_1 24 (5 * x + 4)) ∧ (M_1 24 (5 * x + 4)) < 5 from by omega) (show 1 ≤ (M_1 20 (3 * (M_1 24 (5 * x + 4)))) ∧ (M_1 20 (3 * (M_1 24 (5 * x + 4)))) ≤ 7 from by omega) n_kx) (cwV 2 hts gX7_takeOff_X7_goOff rfl rfl rfl (by decide +kernel) ⟨Nat.le_of_ble_eq_true rfl, Nat.le_of_ble_eq_true rfl⟩) (by decide) rfl rfl rfl hl.1 rfl (Nat.le_of_ble_eq_true rfl) dX7_takeOff_40 ⟨Nat.zero_le _, Nat.zero_le _⟩ (k_X (fun M_2 H locs q_2 hI => ?_))
      have n_go := @RM_off (aAdd A) M_1 M_2 x rn.1 (by rw [ea37]; exact w_cnt.2) (by rw [ea37]; omega) (by rw [ea 33 (by decide) (by decide)]; exact q_2)
      have n_f := q_2.2.1.1
      rw [n20w, n21x] at n_f
      refine lv_aload_n hx hb dX7_takeOff_43 rfl (lv_at hl 0 rfl) ?_
      refine r_get C hI 18 (by decide) rfl rfl hin7 12 (by decide) (fn := "page") (fd := "[I") (index := 25) (by decide +kernel) ⟨rfl, rfl, rfl⟩ (v := .ref (gA g 24)) rfl dX7_takeOff_44 ?_
      refine lv_iconst (v := iI 5) hx hb dX7_takeOff_47 rfl ?_
      refine lv_iload_n hx hb dX7_takeOff_48 rfl (lv_at hl 1 rfl) ?_
      refine r_imul hx hb dX7_takeOff_49 ?_
      refine r_ald C hI 24 (by decide) rfl (by omega) (by decide) dX7_takeOff_50 ?_
      refine r_iret C hr hlk hI ?_ dX7_takeOff_51
      exact ⟨_, rfl, (show (fun z u => z = zTak A x ∧ QC M u ∧ RM (gTak A x) u) (M_2 24 (5 * x)) M_2 from by exact ⟨(by unfold zTak; rw [if_neg (by omega), if_neg (by omega), n_f]), (by unfold gTak; rw [if_neg (by omega), if_neg (by omega)]; exact ⟨QC.trans rq n_go.1, n_go.2⟩)⟩)⟩
    · refine lv_bipush (v := iI (-3)) hx hb dX7_takeOff_27 (by decide +kernel) ?_
      refine r_iret C hr hlk hI ?_ dX7_takeOff_29
      exact ⟨_, rfl, (show (fun z u => z = zTak A x ∧ QC M u ∧ RM (gTak A x) u) (-3) (mset M 18 0 0) from by exact ⟨(by unfold zTak; (repeat' split) <;> first | rfl | omega | (simp_all; done) | (simp_all; omega)), (by unfold gTak; first | (rw [if_pos (by omega)]; exact RO rm0) | (rw [if_neg (by omega), if_pos (by omega)]; exact RO rm0))⟩)⟩
  · refine lv_iconst (v := iI (-1)) hx hb dX7_takeOff_13 rfl ?_
    refine r_iret C hr hlk hI ?_ dX7_takeOff_14
    exact ⟨_, rfl, (show (fun z u => z = zTak A x ∧ QC M u ∧ RM (gTak A x) u) (-1) (mset M 18 0 0) from by exact ⟨(by unfold zTak; (repeat' split) <;> first | rfl | omega | (simp_all; done) | (simp_all; omega)), (by unfold gTak; first | (rw [if_pos (by omega)]; exact RO rm0) | (rw [if_neg (by omega), if_pos (by omega)]; exact RO rm0))⟩)⟩
set_option maxHeartbeats 4000000 in
set_option maxRecDepth 100000 in
theorem c_X7_wash (l : Launch) (g : GT) (M : Mem) (x : Int) (A : Mem) (wf : WF A) (rm : RM A M) (h_x : -2147483648 ≤ x ∧ x < 2147483648) : Ctr l g yX7_wash wsX7_wash ({ frames := 2, cells := 0, slots := 0, locals := 46 } : Room) [.ref (gA g 18), .int (iI x)] M (pE (fun z u => z = zWsh A x ∧ QC M u ∧ RM (gWsh A x) u)) := by
  refine Ctr.mk (cc := cX7_wash) (maxL := 3) (ret := some .int) (lv := [(0, .ref (gA g 18)), (1, .int (iI x))]) (by decide) rfl (Nat.le_of_ble_eq_true rfl) rfl ?_
  intro p e s m below meth c C hr hlk hI ls hl
  have C : CallFix p m c cX7_wash 3 s ([.ref (gA g 18), .int (iI x)] : List Value).toArray wsX7_wash RX7 := C
  have hx := C.1
  have hb := C.2.1
  have hts := C.2.2.2.2
  have hin7 : ∀ w ∈ u_ws RX7 TX7 31, w ∈ wsX7_wash := by decide +kernel
  have wf0 := wf
  obtain ⟨w_txt, hL, w_cnt, w_per, w_glo, w_now, w_act, w_rng, w_slo, w_see, w_sa⟩ := wf
  have rm0 := rm
  obtain ⟨⟨t_n, t_l⟩, ⟨⟨p_p, p_g⟩, p_r, g_r⟩, pgn, ⟨a_n, a_r⟩, k_r, ⟨s_n, s_r⟩, sd⟩ := rm
  have w_gx := w_glo x
  have w_nx : 0 ≤ x ∧ x < 4 → (0 ≤ A 33 x ∧ A 33 x < 1000) ∧ (A 34 x = -9 ∨ (0 ≤ A 34 x ∧ A 34 x < A 3 6 ∧ x < A 3 7)) := fun q => ⟨(w_now.1 x q).1, (w_now.1 x q).2.1⟩
  have w_kx : 0 ≤ x ∧ x < A 3 7 → KOK (A 33 x) (A 7 x) := fun q => (w_now.1 x (by omega)).2.2 q.2
  have r_kx : 0 ≤ x ∧ x < A 3 7 → KG (A 33 x) (M 24) (5 * x) := fun q => (PG_0 pgn x q).1
  have r_wx : 0 ≤ x ∧ x < A 3 7 → M 24 (5 * x + 4) = A 34 x := fun q => (PG_0 pgn x q).2
  have g_x := g_r x
  have r_fx : 0 ≤ x ∧ x < A 3 7 → M 24 (5 * x) = figs (A 33 x) := fun q => (PG_0 pgn x q).1.1
  have f_x := figs_b (A 33 x)
  have k_0 := fun q : 0 ≤ x ∧ x < A 3 7 => KG_0 (r_kx q) (by omega)
  refine lv_aload_n hx hb dX7_wash_0 rfl (lv_at hl 0 rfl) ?_
  refine lv_iconst (v := iI 0) hx hb dX7_wash_1 rfl ?_
  refine r_put C hI 18 (by decide) rfl rfl tyX7 tyX7_ok nmX7 hin7 0 (by decide) (fn := "thrown") (fd := "I") (index := 50) (by decide +kernel) ⟨rfl, rfl, rfl⟩ rfl (z := 0) rfl rfl (Nat.le_of_ble_eq_true rfl) rfl dX7_wash_2 (fun H locs hI => ?_)
  refine lv_aload_n hx hb dX7_wash_5 rfl (lv_at hl 0 rfl) ?_
  refine lv_iload_n hx hb dX7_wash_6 rfl (lv_at hl 1 rfl) ?_
  refine r_iv C hI (As := [.int (iI x)]) (rest := []) (c_X7_noGlove l g (mset M 18 0 0) x (by omega) (show 0 ≤ (M 18 5) ∧ (M 18 5) ≤ 4 from by omega)) (cwV 1 hts gX7_wash_X7_noGlove rfl rfl rfl (by decide +kernel) ⟨Nat.le_of_ble_eq_true rfl, Nat.le_of_ble_eq_true rfl⟩) (by decide) rfl rfl rfl hl.1 rfl (Nat.le_of_ble_eq_true rfl) dX7_wash_7 ⟨Nat.zero_le _, Nat.zero_le _⟩ (k_I (fun H locs hI => ?_))
  refine r_eqI (z2 := bI (¬ (0 ≤ x ∧ x ≤ (M 18 5) - 1))) rfl ?_
  refine r_b_eq hx hb (tgt := 15) dX7_wash_10 (by decide) (fun c_1 => ?_) (fun c_1 => ?_)
  · refine lv_aload_n hx hb dX7_wash_15 rfl (lv_at hl 0 rfl) ?_
    refine lv_aload_n hx hb dX7_wash_16 rfl (lv_at hl 0 rfl) ?_
    refine r_get C hI 18 (by decide) rfl rfl hin7 12 (by decide) (fn := "page") (fd := "[I") (index := 25) (by decide +kernel) ⟨rfl, rfl, rfl⟩ (v := .ref (gA g 24)) rfl dX7_wash_17 ?_
    refine lv_iload_n hx hb dX7_wash_20 rfl (lv_at hl 1 rfl) ?_
    refine r_iv C hI (As := [.ref (gA g 24), .int (iI x)]) (rest := []) (c_X7_isWorn_24 l g (mset M 18 0 0) x (by omega) (show -2147483648 ≤ (M 24 (5 * x + 4)) ∧ (M 24 (5 * x + 4)) < 2147483648 from by omega)) (cwV 2 hts gX7_wash_X7_isWorn rfl rfl rfl (by decide +kernel) ⟨Nat.le_of_ble_eq_true rfl, Nat.le_of_ble_eq_true rfl⟩) (by decide) rfl rfl rfl hl.1 rfl (Nat.le_of_ble_eq_true rfl) dX7_wash_21 ⟨Nat.zero_le _, Nat.zero_le _⟩ (k_I (fun H locs hI => ?_))
    refine r_eqI (z2 := bI (¬ (M 24 (5 * x + 4)) = -9)) rfl ?_
    refine r_b_ne hx hb (tgt := 38) dX7_wash_24 (by decide) (fun c_2 => ?_) (fun c_2 => ?_)
    · refine lv_bipush (v := iI (-3)) hx hb dX7_wash_38 (by decide +kernel) ?_
      refine r_iret C hr hlk hI ?_ dX7_wash_40
      exact ⟨_, rfl, (show (fun z u => z = zWsh A x ∧ QC M u ∧ RM (gWsh A x) u) (-3) (mset M 18 0 0) from by exact ⟨(by unfold zWsh; first | (rw [if_neg (by omega), if_pos (by omega)]) | (rw [if_neg (by omega), if_pos (Or.inr ((k_0 (by omega)).1 (by omega)))])), (by unfold gWsh; first | (rw [if_neg (by omega), if_pos (by omega)]; exact RO rm0) | (rw [if_neg (by omega), if_pos (Or.inr ((k_0 (by omega)).1 (by omega)))]; exact RO rm0))⟩)⟩
    · refine lv_aload_n hx hb dX7_wash_27 rfl (lv_at hl 0 rfl) ?_
      refine r_get C hI 18 (by decide) rfl rfl hin7 12 (by decide) (fn := "page") (fd := "[I") (index := 25) (by decide +kernel) ⟨rfl, rfl, rfl⟩ (v := .ref (gA g 24)) rfl dX7_wash_28 ?_
      refine lv_iconst (v := iI 5) hx hb dX7_wash_31 rfl ?_
      refine lv_iload_n hx hb dX7_wash_32 rfl (lv_at hl 1 rfl) ?_
      refine r_imul hx hb dX7_wash_33 ?_
      refine r_ald C hI 24 (by decide) rfl (by omega) (by decide) dX7_wash_34 ?_
      refine r_eqI (z2 := M 24 (5 * x)) (by first | rfl | (repeat first | rw [mset_s, rw1_s] | rw [mset_s, rw1_n _ _ (by omega)] | rw [mset_n _ _ _ (by decide)])) ?_
      refine r_if_ne hx hb (tgt := 41) (by omega) dX7_wash_35 (by decide) (fun c_3 => ?_) (fun c_3 => ?_)
      · refine lv_aload_n hx hb dX7_wash_41 rfl (lv_at hl 0 rfl) ?_
        refine r_iv C hI (As := []) (rest := []) (c_X7_note l g (mset M 18 0 0) (show 0 ≤ (M 18 15) ∧ (M 18 15) ≤ 14 from by omega)) (cwV 0 hts gX7_wash_X7_note rfl rfl rfl (by decide +kernel) ⟨Nat.le_of_ble_eq_true rfl, Nat.le_of_ble_eq_true rfl⟩) (by decide) rfl rfl rfl hl.1 rfl (Nat.le_of_ble_eq_true rfl) dX7_wash_42 ⟨Nat.zero_le _, Nat.zero_le _⟩ (k_X (fun M_1 H locs q_1 hI => ?_))
        have n_c : ∀ c : Nat, c ≠ 18 → c ≠ 26 → M_1 c = M c := fun c h1 h2 => by rw [q_1, noM_n h1 h2, mset_n _ _ _ h1]
        have n18 : ∀ q : Int, q ≠ 15 → q ≠ 0 → M_1 18 q = M 18 q := fun q h1 h2 => by rw [q_1, noM_18 h1, mset_s, rw1_n _ _ h2]
        have n20 : ∀ q : Int, M_1 20 (3 * q) = A 4 q := fun q => by rw [n_c 20 (by decide) (by decide)]; exact (p_r q).1
        have n21 : ∀ q : Int, M_1 21 (3 * q) = A 7 q := fun q => by rw [n_c 21 (by decide) (by decide)]; exact (g_r q).1
        have n21b : ∀ q : Int, M_1 21 (3 * q + 1) = A 8 q := fun q => by rw [n_c 21 (by decide) (by decide)]; exact (g_r q).2.1
        have n24 : M_1 24 = M 24 := n_c 24 (by decide) (by decide)
        have rn := RM_note wf0 (RO rm0).2
        rw [← q_1] at rn
        have rq := QC.trans (RO rm0).1 rn.2
        have ea : ∀ c : Nat, c ≠ 15 → c < 38 → aAdd A c = A c := fun c h1 h2 => aAdd_n h1 h2
        have ea37 : aAdd A 3 7 = A 3 7 := by rw [ea 3 (by decide) (by decide)]
        have n20x := n20 x
        have n21x := n21 x
        have n21bx := n21b x
        have n24x : M_1 24 (5 * x) = M 24 (5 * x) := by rw [n24]
        have n24w : M_1 24 (5 * x + 4) = M 24 (5 * x + 4) := by rw [n24]
        have n_kx : KG (A 33 x) (M_1 24) (5 * x) := by rw [n24]; exact r_kx (by omega)
        refine lv_aload_n hx hb dX7_wash_45 rfl (lv_at hl 0 rfl) ?_
        refine r_get C hI 18 (by decide) rfl rfl hin7 12 (by decide) (fn := "page") (fd := "[I") (index := 25) (by decide +kernel) ⟨rfl, rfl, rfl⟩ (v := .ref (gA g 24)) rfl dX7_wash_46 ?_
        refine lv_iload_n hx hb dX7_wash_49 rfl (lv_at hl 1 rfl) ?_
        refine r_is C hI (As := [.ref (gA g 24), .int (iI x)]) (rest := []) (c_X7_lastOf_24 l g M_1 x (A 33 x) (by omega) (by omega) n_kx) (va_cwS 2 hts gX7_wash_X7_lastOf rfl rfl rfl (by decide +kernel) ⟨Nat.le_of_ble_eq_true rfl, Nat.le_of_ble_eq_true rfl⟩) rfl hl.1 rfl (Nat.le_of_ble_eq_true rfl) dX7_wash_50 ⟨Nat.zero_le _, Nat.zero_le _⟩ (k_I (fun H locs hI => ?_))
        refine lv_istore_n (lv' := [(2, .int (iI ((A 33 x) % 10))), (0, .ref (gA g 18)), (1, .int (iI x))]) hx hb dX7_wash_53 rfl hl (by decide) rfl (fun ls hl => ?_)
        refine lv_aload_n hx hb dX7_wash_54 rfl (lv_at hl 1 rfl) ?_
        refine r_get C hI 18 (by decide) rfl rfl hin7 12 (by decide) (fn := "page") (fd := "[I") (index := 25) (by decide +kernel) ⟨rfl, rfl, rfl⟩ (v := .ref (gA g 24)) rfl dX7_wash_55 ?_
        refine lv_iconst (v := iI 5) hx hb dX7_wash_58 rfl ?_
        refine lv_iload_n hx hb dX7_wash_59 rfl (lv_at hl 2 rfl) ?_
        refine r_imul hx hb dX7_wash_60 ?_
        refine lv_dup2_11 hx hb dX7_wash_61 rfl rfl ?_
        refine r_ald C hI 24 (by decide) rfl (by omega) (by decide) dX7_wash_62 ?_
        refine lv_iconst (v := iI 1) hx hb dX7_wash_63 rfl ?_
        refine r_isub hx hb dX7_wash_64 ?_
        refine r_ast C hI 24 (by decide) (fun _ => rfl) (by omega) (by decide) dX7_wash_65 (fun H locs hI => ?_)
        refine lv_iload_n hx hb dX7_wash_66 rfl (lv_at hl 0 rfl) ?_
        refine r_iret C hr hlk hI ?_ dX7_wash_67
        exact ⟨_, rfl, (show (fun z u => z = zWsh A x ∧ QC M u ∧ RM (gWsh A x) u) ((A 33 x) % 10) (mset M_1 24 (5 * x) ((M_1 24 (5 * x)) - 1)) from by exact ⟨(by unfold zWsh; rw [if_neg (by omega), if_neg (by have := (k_0 (by omega)).2 (by omega); omega)]), (by (have k1 := (k_0 (by omega)).2 (by omega)); unfold gWsh; rw [if_neg (by omega), if_neg (by omega)]; refine ⟨QC.trans rq (QC_m (by decide)), RM_now rn.1 (fun c h1 h2 h3 => mset_n _ _ _ h2) (fun c h => mset_n _ _ _ h) (by rw [ea37]; exact w_cnt.2.2) (PG_set (x := x) rn.1.2.2.1 rfl rfl (by omega) (by rw [ea37]; exact w_cnt.2.2) (fun j hj => by rw [mset_s, rw1_n _ _ (by omega)]) (fun q hq => ⟨by rw [mset_s, rw1_n _ _ hq], rfl⟩) ?_ ?_)⟩; (rw [mset_s, rw1_s, mset_s]; exact KG_wash n_kx (by omega) (by omega)); (rw [mset_s, rw1_n _ _ (by omega), n24w, mset_n _ _ _ (by decide), ea 34 (by decide) (by decide)]; exact r_wx (by omega)))⟩)⟩
      · refine lv_bipush (v := iI (-3)) hx hb dX7_wash_38 (by decide +kernel) ?_
        refine r_iret C hr hlk hI ?_ dX7_wash_40
        exact ⟨_, rfl, (show (fun z u => z = zWsh A x ∧ QC M u ∧ RM (gWsh A x) u) (-3) (mset M 18 0 0) from by exact ⟨(by unfold zWsh; first | (rw [if_neg (by omega), if_pos (by omega)]) | (rw [if_neg (by omega), if_pos (Or.inr ((k_0 (by omega)).1 (by omega)))])), (by unfold gWsh; first | (rw [if_neg (by omega), if_pos (by omega)]; exact RO rm0) | (rw [if_neg (by omega), if_pos (Or.inr ((k_0 (by omega)).1 (by omega)))]; exact RO rm0))⟩)⟩
  · refine lv_iconst (v := iI (-1)) hx hb dX7_wash_13 rfl ?_
    refine r_iret C hr hlk hI ?_ dX7_wash_14
    exact ⟨_, rfl, (show (fun z u => z = zWsh A x ∧ QC M u ∧ RM (gWsh A x) u) (-1) (mset M 18 0 0) from by exact ⟨(by (have k0 := k_0); unfold zWsh; (repeat' split) <;> first | rfl | omega | (simp_all; done) | (simp_all; omega)), (by unfold gWsh; first | (rw [if_pos (by omega)]; exact RO rm0) | (rw [if_neg (by omega), if_pos (by omega)]; exact RO rm0))⟩)⟩
set_option maxHeartbeats 4000000 in
set_option maxRecDepth 100000 in
theorem c_X7_leftOf (l : Launch) (g : GT) (M : Mem) (x : Int) (n : Int) (k : Int) (hx : 0 ≤ x ∧ x < 4) (hk : 0 ≤ k ∧ k < 1000) (hn : 0 ≤ n ∧ n ≤ 3) (hg : KG k (M 24) (5 * x)) : Ctr l g yX7_leftOf wsX7_leftOf ({ frames := 0, cells := 0, slots := 0, locals := 0 } : Room) [.ref (gA g 18), .int (iI x), .int (iI n)] M (pI (lwO k (Int.toNat n) % 10) M) := by
  refine Ctr.mk (cc := cX7_leftOf) (maxL := 4) (ret := some .int) (lv := [(0, .ref (gA g 18)), (1, .int (iI x)), (2, .int (iI n))]) (by decide) rfl (Nat.le_of_ble_eq_true rfl) rfl ?_
  intro p e s m below meth c C hr hlk hI ls hl
  have C : CallFix p m c cX7_leftOf 4 s ([.ref (gA g 18), .int (iI x), .int (iI n)] : List Value).toArray wsX7_leftOf RX7 := C
  have hx := C.1
  have hb := C.2.1
  have hts := C.2.2.2.2
  have hin7 : ∀ w ∈ u_ws RX7 TX7 31, w ∈ wsX7_leftOf := by decide +kernel
  have gb := KG_b hg
  have gl := KG_left hg hk hn
  refine lv_aload_n hx hb dX7_leftOf_0 rfl (lv_at hl 0 rfl) ?_
  refine r_get C hI 18 (by decide) rfl rfl hin7 12 (by decide) (fn := "page") (fd := "[I") (index := 25) (by decide +kernel) ⟨rfl, rfl, rfl⟩ (v := .ref (gA g 24)) rfl dX7_leftOf_1 ?_
  refine lv_iconst (v := iI 5) hx hb dX7_leftOf_4 rfl ?_
  refine lv_iload_n hx hb dX7_leftOf_5 rfl (lv_at hl 1 rfl) ?_
  refine r_imul hx hb dX7_leftOf_6 ?_
  refine r_ald C hI 24 (by decide) rfl (by omega) (by decide) dX7_leftOf_7 ?_
  refine lv_iload_n hx hb dX7_leftOf_8 rfl (lv_at hl 2 rfl) ?_
  refine r_isub hx hb dX7_leftOf_9 ?_
  refine lv_istore_n (lv' := [(3, .int (iI ((M 24 (5 * x)) - n))), (0, .ref (gA g 18)), (1, .int (iI x)), (2, .int (iI n))]) hx hb dX7_leftOf_10 rfl hl (by decide) rfl (fun ls hl => ?_)
  refine lv_iload_n hx hb dX7_leftOf_11 rfl (lv_at hl 0 rfl) ?_
  refine r_if_gt hx hb (tgt := 19) (by omega) dX7_leftOf_12 (by decide) (fun c_1 => ?_) (fun c_1 => ?_)
  · refine lv_aload_n hx hb dX7_leftOf_19 rfl (lv_at hl 1 rfl) ?_
    refine r_get C hI 18 (by decide) rfl rfl hin7 12 (by decide) (fn := "page") (fd := "[I") (index := 25) (by decide +kernel) ⟨rfl, rfl, rfl⟩ (v := .ref (gA g 24)) rfl dX7_leftOf_20 ?_
    refine lv_iconst (v := iI 5) hx hb dX7_leftOf_23 rfl ?_
    refine lv_iload_n hx hb dX7_leftOf_24 rfl (lv_at hl 2 rfl) ?_
    refine r_imul hx hb dX7_leftOf_25 ?_
    refine lv_iload_n hx hb dX7_leftOf_26 rfl (lv_at hl 0 rfl) ?_
    refine r_iadd hx hb dX7_leftOf_27 ?_
    refine r_ald C hI 24 (by decide) rfl (by omega) (by decide) dX7_leftOf_28 ?_
    refine r_iret C hr hlk hI ?_ dX7_leftOf_29
    exact ⟨congrArg (fun q => some (Value.int (iI q))) (show M 24 ((5 * x) + ((M 24 (5 * x)) - n)) = lwO k (Int.toNat n) % 10 from by first | exact gl.2 (by omega) | exact (gl.1 (by omega)).symm), rfl⟩
  · refine lv_iconst (v := iI 0) hx hb dX7_leftOf_15 rfl ?_
    refine lv_goto (tgt := 29) hx hb dX7_leftOf_16 (by decide) ?_
    refine r_iret C hr hlk hI ?_ dX7_leftOf_29
    exact ⟨congrArg (fun q => some (Value.int (iI q))) (show 0 = lwO k (Int.toNat n) % 10 from by first | exact gl.2 (by omega) | exact (gl.1 (by omega)).symm), rfl⟩
set_option maxHeartbeats 4000000 in
set_option maxRecDepth 100000 in
theorem c_X7_leftBy (l : Launch) (g : GT) (M : Mem) (x : Int) (n : Int) (A : Mem) (wf : WF A) (rm : RM A M) (h_x : -2147483648 ≤ x ∧ x < 2147483648) (h_n : -2147483648 ≤ n ∧ n < 2147483648) : Ctr l g yX7_leftBy wsX7_leftBy ({ frames := 2, cells := 0, slots := 0, locals := 46 } : Room) [.ref (gA g 18), .int (iI x), .int (iI n)] M (pE (fun z u => z = zLef A x n ∧ QC M u ∧ RM (A) u)) := by
  refine Ctr.mk (cc := cX7_leftBy) (maxL := 3) (ret := some .int) (lv := [(0, .ref (gA g 18)), (1, .int (iI x)), (2, .int (iI n))]) (by decide) rfl (Nat.le_of_ble_eq_true rfl) rfl ?_
  intro p e s m below meth c C hr hlk hI ls hl
  have C : CallFix p m c cX7_leftBy 3 s ([.ref (gA g 18), .int (iI x), .int (iI n)] : List Value).toArray wsX7_leftBy RX7 := C
  have hx := C.1
  have hb := C.2.1
  have hts := C.2.2.2.2
  have hin7 : ∀ w ∈ u_ws RX7 TX7 31, w ∈ wsX7_leftBy := by decide +kernel
  have wf0 := wf
  obtain ⟨w_txt, hL, w_cnt, w_per, w_glo, w_now, w_act, w_rng, w_slo, w_see, w_sa⟩ := wf
  have rm0 := rm
  obtain ⟨⟨t_n, t_l⟩, ⟨⟨p_p, p_g⟩, p_r, g_r⟩, pgn, ⟨a_n, a_r⟩, k_r, ⟨s_n, s_r⟩, sd⟩ := rm
  have w_gx := w_glo x
  have w_nx : 0 ≤ x ∧ x < 4 → (0 ≤ A 33 x ∧ A 33 x < 1000) ∧ (A 34 x = -9 ∨ (0 ≤ A 34 x ∧ A 34 x < A 3 6 ∧ x < A 3 7)) := fun q => ⟨(w_now.1 x q).1, (w_now.1 x q).2.1⟩
  have w_kx : 0 ≤ x ∧ x < A 3 7 → KOK (A 33 x) (A 7 x) := fun q => (w_now.1 x (by omega)).2.2 q.2
  have r_kx : 0 ≤ x ∧ x < A 3 7 → KG (A 33 x) (M 24) (5 * x) := fun q => (PG_0 pgn x q).1
  have r_wx : 0 ≤ x ∧ x < A 3 7 → M 24 (5 * x + 4) = A 34 x := fun q => (PG_0 pgn x q).2
  have g_x := g_r x
  have r_fx : 0 ≤ x ∧ x < A 3 7 → M 24 (5 * x) = figs (A 33 x) := fun q => (PG_0 pgn x q).1.1
  have f_x := figs_b (A 33 x)
  refine lv_aload_n hx hb dX7_leftBy_0 rfl (lv_at hl 0 rfl) ?_
  refine lv_iconst (v := iI 0) hx hb dX7_leftBy_1 rfl ?_
  refine r_put C hI 18 (by decide) rfl rfl tyX7 tyX7_ok nmX7 hin7 0 (by decide) (fn := "thrown") (fd := "I") (index := 50) (by decide +kernel) ⟨rfl, rfl, rfl⟩ rfl (z := 0) rfl rfl (Nat.le_of_ble_eq_true rfl) rfl dX7_leftBy_2 (fun H locs hI => ?_)
  refine lv_aload_n hx hb dX7_leftBy_5 rfl (lv_at hl 0 rfl) ?_
  refine lv_iload_n hx hb dX7_leftBy_6 rfl (lv_at hl 1 rfl) ?_
  refine r_iv C hI (As := [.int (iI x)]) (rest := []) (c_X7_noGlove l g (mset M 18 0 0) x (by omega) (show 0 ≤ (M 18 5) ∧ (M 18 5) ≤ 4 from by omega)) (cwV 1 hts gX7_leftBy_X7_noGlove rfl rfl rfl (by decide +kernel) ⟨Nat.le_of_ble_eq_true rfl, Nat.le_of_ble_eq_true rfl⟩) (by decide) rfl rfl rfl hl.1 rfl (Nat.le_of_ble_eq_true rfl) dX7_leftBy_7 ⟨Nat.zero_le _, Nat.zero_le _⟩ (k_I (fun H locs hI => ?_))
  refine r_eqI (z2 := bI (¬ (0 ≤ x ∧ x ≤ (M 18 5) - 1))) rfl ?_
  refine r_b_eq hx hb (tgt := 15) dX7_leftBy_10 (by decide) (fun c_1 => ?_) (fun c_1 => ?_)
  · refine lv_iload_n hx hb dX7_leftBy_15 rfl (lv_at hl 2 rfl) ?_
    refine r_i2l hx hb (by omega) dX7_leftBy_16 ?_
    refine lv_lconst (v := iL 0) hx hb dX7_leftBy_17 (by decide +kernel) ?_
    refine r_ldc2 C (n := 3) (v := (3 : Int64)) (index := 179) (by decide +kernel) (by decide +kernel) dX7_leftBy_18 ?_
    refine r_is C hI (As := [.long (iL n), .long (iL 0), .long (iL 3)]) (rest := []) (c_X7_in l g (mset M 18 0 0) n 0 3 (by omega) (by omega) (by omega)) (va_cwS 3 hts gX7_leftBy_X7_in rfl rfl rfl (by decide +kernel) ⟨Nat.le_of_ble_eq_true rfl, Nat.le_of_ble_eq_true rfl⟩) rfl hl.1 rfl (Nat.le_of_ble_eq_true rfl) dX7_leftBy_21 ⟨Nat.zero_le _, Nat.zero_le _⟩ (k_I (fun H locs hI => ?_))
    refine r_b_eq hx hb (tgt := 36) dX7_leftBy_24 (by decide) (fun c_2 => ?_) (fun c_2 => ?_)
    · refine lv_bipush (v := iI (-2)) hx hb dX7_leftBy_36 (by decide +kernel) ?_
      refine r_iret C hr hlk hI ?_ dX7_leftBy_38
      exact ⟨_, rfl, (show (fun z u => z = zLef A x n ∧ QC M u ∧ RM (A) u) (-2) (mset M 18 0 0) from by exact ⟨(by unfold zLef; (repeat' split) <;> first | rfl | omega | (simp_all; done) | (simp_all; omega)), (by exact RO rm0)⟩)⟩
    · refine lv_aload_n hx hb dX7_leftBy_27 rfl (lv_at hl 0 rfl) ?_
      refine lv_iload_n hx hb dX7_leftBy_28 rfl (lv_at hl 1 rfl) ?_
      refine lv_iload_n hx hb dX7_leftBy_29 rfl (lv_at hl 2 rfl) ?_
      refine r_iv C hI (As := [.int (iI x), .int (iI n)]) (rest := []) (c_X7_leftOf l g (mset M 18 0 0) x n (A 33 x) (by omega) (by omega) (by omega) (r_kx (by omega))) (cwV 2 hts gX7_leftBy_X7_leftOf rfl rfl rfl (by decide +kernel) ⟨Nat.le_of_ble_eq_true rfl, Nat.le_of_ble_eq_true rfl⟩) (by decide) rfl rfl rfl hl.1 rfl (Nat.le_of_ble_eq_true rfl) dX7_leftBy_30 ⟨Nat.zero_le _, Nat.zero_le _⟩ (k_I (fun H locs hI => ?_))
      have ff_1 : 0 ≤ lwO (A 33 x) (Int.toNat n) % 10 ∧ lwO (A 33 x) (Int.toNat n) % 10 < 10 := by omega
      refine lv_goto (tgt := 38) hx hb dX7_leftBy_33 (by decide) ?_
      refine r_iret C hr hlk hI ?_ dX7_leftBy_38
      exact ⟨_, rfl, (show (fun z u => z = zLef A x n ∧ QC M u ∧ RM (A) u) (lwO (A 33 x) (Int.toNat n) % 10) (mset M 18 0 0) from by exact ⟨(by unfold zLef; (repeat' split) <;> first | rfl | omega | (simp_all; done) | (simp_all; omega)), (by exact RO rm0)⟩)⟩
  · refine lv_iconst (v := iI (-1)) hx hb dX7_leftBy_13 rfl ?_
    refine r_iret C hr hlk hI ?_ dX7_leftBy_14
    exact ⟨_, rfl, (show (fun z u => z = zLef A x n ∧ QC M u ∧ RM (A) u) (-1) (mset M 18 0 0) from by exact ⟨(by unfold zLef; (repeat' split) <;> first | rfl | omega | (simp_all; done) | (simp_all; omega)), (by exact RO rm0)⟩)⟩
set_option maxHeartbeats 4000000 in
set_option maxRecDepth 100000 in
theorem c_X7_washes (l : Launch) (g : GT) (M : Mem) (x : Int) (dd : Int) (A : Mem) (wf : WF A) (rm : RM A M) (h_x : -2147483648 ≤ x ∧ x < 2147483648) (h_dd : -2147483648 ≤ dd ∧ dd < 2147483648) : Ctr l g yX7_washes wsX7_washes ({ frames := 2, cells := 0, slots := 0, locals := 46 } : Room) [.ref (gA g 18), .int (iI x), .int (iI dd)] M (pE (fun z u => z = zWas A x dd ∧ QC M u ∧ RM (A) u)) := by
  refine Ctr.mk (cc := cX7_washes) (maxL := 4) (ret := some .int) (lv := [(0, .ref (gA g 18)), (1, .int (iI x)), (2, .int (iI dd))]) (by decide) rfl (Nat.le_of_ble_eq_true rfl) rfl ?_
  intro p e s m below meth c C hr hlk hI ls hl
  have C : CallFix p m c cX7_washes 4 s ([.ref (gA g 18), .int (iI x), .int (iI dd)] : List Value).toArray wsX7_washes RX7 := C
  have hx := C.1
  have hb := C.2.1
  have hts := C.2.2.2.2
  have hin7 : ∀ w ∈ u_ws RX7 TX7 31, w ∈ wsX7_washes := by decide +kernel
  have wf0 := wf
  obtain ⟨w_txt, hL, w_cnt, w_per, w_glo, w_now, w_act, w_rng, w_slo, w_see, w_sa⟩ := wf
  have rm0 := rm
  obtain ⟨⟨t_n, t_l⟩, ⟨⟨p_p, p_g⟩, p_r, g_r⟩, pgn, ⟨a_n, a_r⟩, k_r, ⟨s_n, s_r⟩, sd⟩ := rm
  have w_gx := w_glo x
  have w_nx : 0 ≤ x ∧ x < 4 → (0 ≤ A 33 x ∧ A 33 x < 1000) ∧ (A 34 x = -9 ∨ (0 ≤ A 34 x ∧ A 34 x < A 3 6 ∧ x < A 3 7)) := fun q => ⟨(w_now.1 x q).1, (w_now.1 x q).2.1⟩
  have w_kx : 0 ≤ x ∧ x < A 3 7 → KOK (A 33 x) (A 7 x) := fun q => (w_now.1 x (by omega)).2.2 q.2
  have r_kx : 0 ≤ x ∧ x < A 3 7 → KG (A 33 x) (M 24) (5 * x) := fun q => (PG_0 pgn x q).1
  have r_wx : 0 ≤ x ∧ x < A 3 7 → M 24 (5 * x + 4) = A 34 x := fun q => (PG_0 pgn x q).2
  have g_x := g_r x
  have r_fx : 0 ≤ x ∧ x < A 3 7 → M 24 (5 * x) = figs (A 33 x) := fun q => (PG_0 pgn x q).1.1
  have f_x := figs_b (A 33 x)
  refine lv_aload_n hx hb dX7_washes_0 rfl (lv_at hl 0 rfl) ?_
  refine lv_iconst (v := iI 0) hx hb dX7_washes_1 rfl ?_
  refine r_put C hI 18 (by decide) rfl rfl tyX7 tyX7_ok nmX7 hin7 0 (by decide) (fn := "thrown") (fd := "I") (index := 50) (by decide +kernel) ⟨rfl, rfl, rfl⟩ rfl (z := 0) rfl rfl (Nat.le_of_ble_eq_true rfl) rfl dX7_washes_2 (fun H locs hI => ?_)
  refine lv_aload_n hx hb dX7_washes_5 rfl (lv_at hl 0 rfl) ?_
  refine lv_iload_n hx hb dX7_washes_6 rfl (lv_at hl 1 rfl) ?_
  refine r_iv C hI (As := [.int (iI x)]) (rest := []) (c_X7_noGlove l g (mset M 18 0 0) x (by omega) (show 0 ≤ (M 18 5) ∧ (M 18 5) ≤ 4 from by omega)) (cwV 1 hts gX7_washes_X7_noGlove rfl rfl rfl (by decide +kernel) ⟨Nat.le_of_ble_eq_true rfl, Nat.le_of_ble_eq_true rfl⟩) (by decide) rfl rfl rfl hl.1 rfl (Nat.le_of_ble_eq_true rfl) dX7_washes_7 ⟨Nat.zero_le _, Nat.zero_le _⟩ (k_I (fun H locs hI => ?_))
  refine r_eqI (z2 := bI (¬ (0 ≤ x ∧ x ≤ (M 18 5) - 1))) rfl ?_
  refine r_b_eq hx hb (tgt := 15) dX7_washes_10 (by decide) (fun c_1 => ?_) (fun c_1 => ?_)
  · refine lv_iload_n hx hb dX7_washes_15 rfl (lv_at hl 2 rfl) ?_
    refine r_i2l hx hb (by omega) dX7_washes_16 ?_
    refine lv_lconst (v := iL 0) hx hb dX7_washes_17 (by decide +kernel) ?_
    refine r_ldc2 C (n := 7) (v := (7 : Int64)) (index := 160) (by decide +kernel) (by decide +kernel) dX7_washes_18 ?_
    refine r_is C hI (As := [.long (iL dd), .long (iL 0), .long (iL 7)]) (rest := []) (c_X7_in l g (mset M 18 0 0) dd 0 7 (by omega) (by omega) (by omega)) (va_cwS 3 hts gX7_washes_X7_in rfl rfl rfl (by decide +kernel) ⟨Nat.le_of_ble_eq_true rfl, Nat.le_of_ble_eq_true rfl⟩) rfl hl.1 rfl (Nat.le_of_ble_eq_true rfl) dX7_washes_21 ⟨Nat.zero_le _, Nat.zero_le _⟩ (k_I (fun H locs hI => ?_))
    refine r_b_ne hx hb (tgt := 30) dX7_washes_24 (by decide) (fun c_2 => ?_) (fun c_2 => ?_)
    · refine lv_iconst (v := iI 0) hx hb dX7_washes_30 rfl ?_
      refine lv_istore_n (lv' := [(3, .int (iI 0)), (0, .ref (gA g 18)), (1, .int (iI x)), (2, .int (iI dd))]) hx hb dX7_washes_31 rfl hl (by decide) rfl (fun ls hl => ?_)
      refine lv_iload_n hx hb dX7_washes_32 rfl (lv_at hl 0 rfl) ?_
      refine lv_iconst (v := iI 3) hx hb dX7_washes_33 rfl ?_
      refine r_icmp_gt hx hb (tgt := 55) (by decide) (by decide) dX7_washes_34 (by decide) (fun c => absurd c (by decide)) (fun c_3 => ?_)
      refine lv_aload_n hx hb dX7_washes_37 rfl (lv_at hl 1 rfl) ?_
      refine lv_iload_n hx hb dX7_washes_38 rfl (lv_at hl 2 rfl) ?_
      refine lv_iload_n hx hb dX7_washes_39 rfl (lv_at hl 0 rfl) ?_
      refine r_iv C hI (As := [.int (iI x), .int (iI 0)]) (rest := []) (c_X7_leftOf l g (mset M 18 0 0) x 0 (A 33 x) (by omega) (by omega) (by omega) (r_kx (by omega))) (cwV 2 hts gX7_washes_X7_leftOf rfl rfl rfl (by decide +kernel) ⟨Nat.le_of_ble_eq_true rfl, Nat.le_of_ble_eq_true rfl⟩) (by decide) rfl rfl rfl hl.1 rfl (Nat.le_of_ble_eq_true rfl) dX7_washes_40 ⟨Nat.zero_le _, Nat.zero_le _⟩ (k_I (fun H locs hI => ?_))
      have ff_1 : 0 ≤ lwO (A 33 x) (Int.toNat 0) % 10 ∧ lwO (A 33 x) (Int.toNat 0) % 10 < 10 := by omega
      refine lv_iload_n hx hb dX7_washes_43 rfl (lv_at hl 3 rfl) ?_
      refine r_icmp_ne hx hb (tgt := 49) (by omega) (by omega) dX7_washes_44 (by decide) (fun c_4 => ?_) (fun c_4 => ?_)
      · refine lv_iinc (v := iI (1)) (lv' := [(3, .int (iI 1)), (0, .ref (gA g 18)), (1, .int (iI x)), (2, .int (iI dd))]) hx hb dX7_washes_49 hl (k := 0) rfl (iI_add _ _) (by decide) rfl (fun ls hl => ?_)
        refine lv_goto (tgt := 32) hx hb dX7_washes_52 (by decide) ?_
        refine lv_iload_n hx hb dX7_washes_32 rfl (lv_at hl 0 rfl) ?_
        refine lv_iconst (v := iI 3) hx hb dX7_washes_33 rfl ?_
        refine r_icmp_gt hx hb (tgt := 55) (by decide) (by decide) dX7_washes_34 (by decide) (fun c => absurd c (by decide)) (fun c_5 => ?_)
        refine lv_aload_n hx hb dX7_washes_37 rfl (lv_at hl 1 rfl) ?_
        refine lv_iload_n hx hb dX7_washes_38 rfl (lv_at hl 2 rfl) ?_
        refine lv_iload_n hx hb dX7_washes_39 rfl (lv_at hl 0 rfl) ?_
        refine r_iv C hI (As := [.int (iI x), .int (iI 1)]) (rest := []) (c_X7_leftOf l g (mset M 18 0 0) x 1 (A 33 x) (by omega) (by omega) (by omega) (r_kx (by omega))) (cwV 2 hts gX7_washes_X7_leftOf rfl rfl rfl (by decide +kernel) ⟨Nat.le_of_ble_eq_true rfl, Nat.le_of_ble_eq_true rfl⟩) (by decide) rfl rfl rfl hl.1 rfl (Nat.le_of_ble_eq_true rfl) dX7_washes_40 ⟨Nat.zero_le _, Nat.zero_le _⟩ (k_I (fun H locs hI => ?_))
        have ff_2 : 0 ≤ lwO (A 33 x) (Int.toNat 1) % 10 ∧ lwO (A 33 x) (Int.toNat 1) % 10 < 10 := by omega
        refine lv_iload_n hx hb dX7_washes_43 rfl (lv_at hl 3 rfl) ?_
        refine r_icmp_ne hx hb (tgt := 49) (by omega) (by omega) dX7_washes_44 (by decide) (fun c_6 => ?_) (fun c_6 => ?_)
        · refine lv_iinc (v := iI (2)) (lv' := [(3, .int (iI 2)), (0, .ref (gA g 18)), (1, .int (iI x)), (2, .int (iI dd))]) hx hb dX7_washes_49 hl (k := 0) rfl (iI_add _ _) (by decide) rfl (fun ls hl => ?_)
          refine lv_goto (tgt := 32) hx hb dX7_washes_52 (by decide) ?_
          refine lv_iload_n hx hb dX7_washes_32 rfl (lv_at hl 0 rfl) ?_
          refine lv_iconst (v := iI 3) hx hb dX7_washes_33 rfl ?_
          refine r_icmp_gt hx hb (tgt := 55) (by decide) (by decide) dX7_washes_34 (by decide) (fun c => absurd c (by decide)) (fun c_7 => ?_)
          refine lv_aload_n hx hb dX7_washes_37 rfl (lv_at hl 1 rfl) ?_
          refine lv_iload_n hx hb dX7_washes_38 rfl (lv_at hl 2 rfl) ?_
          refine lv_iload_n hx hb dX7_washes_39 rfl (lv_at hl 0 rfl) ?_
          refine r_iv C hI (As := [.int (iI x), .int (iI 2)]) (rest := []) (c_X7_leftOf l g (mset M 18 0 0) x 2 (A 33 x) (by omega) (by omega) (by omega) (r_kx (by omega))) (cwV 2 hts gX7_washes_X7_leftOf rfl rfl rfl (by decide +kernel) ⟨Nat.le_of_ble_eq_true rfl, Nat.le_of_ble_eq_true rfl⟩) (by decide) rfl rfl rfl hl.1 rfl (Nat.le_of_ble_eq_true rfl) dX7_washes_40 ⟨Nat.zero_le _, Nat.zero_le _⟩ (k_I (fun H locs hI => ?_))
          have ff_3 : 0 ≤ lwO (A 33 x) (Int.toNat 2) % 10 ∧ lwO (A 33 x) (Int.toNat 2) % 10 < 10 := by omega
          refine lv_iload_n hx hb dX7_washes_43 rfl (lv_at hl 3 rfl) ?_
          refine r_icmp_ne hx hb (tgt := 49) (by omega) (by omega) dX7_washes_44 (by decide) (fun c_8 => ?_) (fun c_8 => ?_)
          · refine lv_iinc (v := iI (3)) (lv' := [(3, .int (iI 3)), (0, .ref (gA g 18)), (1, .int (iI x)), (2, .int (iI dd))]) hx hb dX7_washes_49 hl (k := 0) rfl (iI_add _ _) (by decide) rfl (fun ls hl => ?_)
            refine lv_goto (tgt := 32) hx hb dX7_washes_52 (by decide) ?_
            refine lv_iload_n hx hb dX7_washes_32 rfl (lv_at hl 0 rfl) ?_
            refine lv_iconst (v := iI 3) hx hb dX7_washes_33 rfl ?_
            refine r_icmp_gt hx hb (tgt := 55) (by decide) (by decide) dX7_washes_34 (by decide) (fun c => absurd c (by decide)) (fun c_9 => ?_)
            refine lv_aload_n hx hb dX7_washes_37 rfl (lv_at hl 1 rfl) ?_
            refine lv_iload_n hx hb dX7_washes_38 rfl (lv_at hl 2 rfl) ?_
            refine lv_iload_n hx hb dX7_washes_39 rfl (lv_at hl 0 rfl) ?_
            refine r_iv C hI (As := [.int (iI x), .int (iI 3)]) (rest := []) (c_X7_leftOf l g (mset M 18 0 0) x 3 (A 33 x) (by omega) (by omega) (by omega) (r_kx (by omega))) (cwV 2 hts gX7_washes_X7_leftOf rfl rfl rfl (by decide +kernel) ⟨Nat.le_of_ble_eq_true rfl, Nat.le_of_ble_eq_true rfl⟩) (by decide) rfl rfl rfl hl.1 rfl (Nat.le_of_ble_eq_true rfl) dX7_washes_40 ⟨Nat.zero_le _, Nat.zero_le _⟩ (k_I (fun H locs hI => ?_))
            have ff_4 : 0 ≤ lwO (A 33 x) (Int.toNat 3) % 10 ∧ lwO (A 33 x) (Int.toNat 3) % 10 < 10 := by omega
            refine lv_iload_n hx hb dX7_washes_43 rfl (lv_at hl 3 rfl) ?_
            refine r_icmp_ne hx hb (tgt := 49) (by omega) (by omega) dX7_washes_44 (by decide) (fun c_10 => ?_) (fun c_10 => ?_)
            · refine lv_iinc (v := iI (4)) (lv' := [(3, .int (iI 4)), (0, .ref (gA g 18)), (1, .int (iI x)), (2, .int (iI dd))]) hx hb dX7_washes_49 hl (k := 0) rfl (iI_add _ _) (by decide) rfl (fun ls hl => ?_)
              refine lv_goto (tgt := 32) hx hb dX7_washes_52 (by decide) ?_
              refine lv_iload_n hx hb dX7_washes_32 rfl (lv_at hl 0 rfl) ?_
              refine lv_iconst (v := iI 3) hx hb dX7_washes_33 rfl ?_
              refine r_icmp_gt hx hb (tgt := 55) (by decide) (by decide) dX7_washes_34 (by decide) (fun c_11 => ?_) (fun c => absurd c (by decide))
              refine lv_bipush (v := iI (-9)) hx hb dX7_washes_55 (by decide +kernel) ?_
              refine r_iret C hr hlk hI ?_ dX7_washes_57
              exact ⟨_, rfl, (show (fun z u => z = zWas A x dd ∧ QC M u ∧ RM (A) u) (-9) (mset M 18 0 0) from by exact ⟨(by unfold zWas; (try simp only [show ((0 : Int).toNat) = 0 from rfl, show ((1 : Int).toNat) = 1 from rfl, show ((2 : Int).toNat) = 2 from rfl, show ((3 : Int).toNat) = 3 from rfl, lwO] at *); (repeat' split) <;> first | rfl | omega), (by exact RO rm0)⟩)⟩
            · refine lv_iload_n hx hb dX7_washes_47 rfl (lv_at hl 0 rfl) ?_
              refine r_iret C hr hlk hI ?_ dX7_washes_48
              exact ⟨_, rfl, (show (fun z u => z = zWas A x dd ∧ QC M u ∧ RM (A) u) 3 (mset M 18 0 0) from by exact ⟨(by unfold zWas; (try simp only [show ((0 : Int).toNat) = 0 from rfl, show ((1 : Int).toNat) = 1 from rfl, show ((2 : Int).toNat) = 2 from rfl, show ((3 : Int).toNat) = 3 from rfl, lwO] at *); (repeat' split) <;> first | rfl | omega), (by exact RO rm0)⟩)⟩
          · refine lv_iload_n hx hb dX7_washes_47 rfl (lv_at hl 0 rfl) ?_
            refine r_iret C hr hlk hI ?_ dX7_washes_48
            exact ⟨_, rfl, (show (fun z u => z = zWas A x dd ∧ QC M u ∧ RM (A) u) 2 (mset M 18 0 0) from by exact ⟨(by unfold zWas; (try simp only [show ((0 : Int).toNat) = 0 from rfl, show ((1 : Int).toNat) = 1 from rfl, show ((2 : Int).toNat) = 2 from rfl, show ((3 : Int).toNat) = 3 from rfl, lwO] at *); (repeat' split) <;> first | rfl | omega), (by exact RO rm0)⟩)⟩
        · refine lv_iload_n hx hb dX7_washes_47 rfl (lv_at hl 0 rfl) ?_
          refine r_iret C hr hlk hI ?_ dX7_washes_48
          exact ⟨_, rfl, (show (fun z u => z = zWas A x dd ∧ QC M u ∧ RM (A) u) 1 (mset M 18 0 0) from by exact ⟨(by unfold zWas; (try simp only [show ((0 : Int).toNat) = 0 from rfl, show ((1 : Int).toNat) = 1 from rfl, show ((2 : Int).toNat) = 2 from rfl, show ((3 : Int).toNat) = 3 from rfl, lwO] at *); (repeat' split) <;> first | rfl | omega), (by exact RO rm0)⟩)⟩
      · refine lv_iload_n hx hb dX7_washes_47 rfl (lv_at hl 0 rfl) ?_
        refine r_iret C hr hlk hI ?_ dX7_washes_48
        exact ⟨_, rfl, (show (fun z u => z = zWas A x dd ∧ QC M u ∧ RM (A) u) 0 (mset M 18 0 0) from by exact ⟨(by unfold zWas; (try simp only [show ((0 : Int).toNat) = 0 from rfl, show ((1 : Int).toNat) = 1 from rfl, show ((2 : Int).toNat) = 2 from rfl, show ((3 : Int).toNat) = 3 from rfl, lwO] at *); (repeat' split) <;> first | rfl | omega), (by exact RO rm0)⟩)⟩
    · refine lv_bipush (v := iI (-2)) hx hb dX7_washes_27 (by decide +kernel) ?_
      refine r_iret C hr hlk hI ?_ dX7_washes_29
      exact ⟨_, rfl, (show (fun z u => z = zWas A x dd ∧ QC M u ∧ RM (A) u) (-2) (mset M 18 0 0) from by exact ⟨(by unfold zWas; (try simp only [show ((0 : Int).toNat) = 0 from rfl, show ((1 : Int).toNat) = 1 from rfl, show ((2 : Int).toNat) = 2 from rfl, show ((3 : Int).toNat) = 3 from rfl, lwO] at *); (repeat' split) <;> first | rfl | omega), (by exact RO rm0)⟩)⟩
  · refine lv_iconst (v := iI (-1)) hx hb dX7_washes_13 rfl ?_
    refine r_iret C hr hlk hI ?_ dX7_washes_14
    exact ⟨_, rfl, (show (fun z u => z = zWas A x dd ∧ QC M u ∧ RM (A) u) (-1) (mset M 18 0 0) from by exact ⟨(by unfold zWas; (try simp only [show ((0 : Int).toNat) = 0 from rfl, show ((1 : Int).toNat) = 1 from rfl, show ((2 : Int).toNat) = 2 from rfl, show ((3 : Int).toNat) = 3 from rfl, lwO] at *); (repeat' split) <;> first | rfl | omega), (by exact RO rm0)⟩)⟩
set_option maxHeartbeats 4000000 in
set_option maxRecDepth 100000 in
theorem c_X7_undo (l : Launch) (g : GT) (M : Mem) (A : Mem) (wf : WF A) (rm : RM A M) : Ctr l g yX7_undo wsX7_undo ({ frames := 0, cells := 0, slots := 0, locals := 0 } : Room) [.ref (gA g 18)] M (pE (fun z u => z = zUnd A  ∧ QC M u ∧ RM (gUnd A ) u)) := by
  refine Ctr.mk (cc := cX7_undo) (maxL := 2) (ret := some .int) (lv := [(0, .ref (gA g 18))]) (by decide) rfl (Nat.le_of_ble_eq_true rfl) rfl ?_
  intro p e s m below meth c C hr hlk hI ls hl
  have C : CallFix p m c cX7_undo 2 s ([.ref (gA g 18)] : List Value).toArray wsX7_undo RX7 := C
  have hx := C.1
  have hb := C.2.1
  have hts := C.2.2.2.2
  have hin7 : ∀ w ∈ u_ws RX7 TX7 31, w ∈ wsX7_undo := by decide +kernel
  have wf0 := wf
  obtain ⟨w_txt, hL, w_cnt, w_per, w_glo, w_now, w_act, w_rng, w_slo, w_see, w_sa⟩ := wf
  have rm0 := rm
  obtain ⟨⟨t_n, t_l⟩, ⟨⟨p_p, p_g⟩, p_r, g_r⟩, pgn, ⟨a_n, a_r⟩, k_r, ⟨s_n, s_r⟩, sd⟩ := rm
  refine lv_aload_n hx hb dX7_undo_0 rfl (lv_at hl 0 rfl) ?_
  refine lv_iconst (v := iI 0) hx hb dX7_undo_1 rfl ?_
  refine r_put C hI 18 (by decide) rfl rfl tyX7 tyX7_ok nmX7 hin7 0 (by decide) (fn := "thrown") (fd := "I") (index := 50) (by decide +kernel) ⟨rfl, rfl, rfl⟩ rfl (z := 0) rfl rfl (Nat.le_of_ble_eq_true rfl) rfl dX7_undo_2 (fun H locs hI => ?_)
  refine lv_aload_n hx hb dX7_undo_5 rfl (lv_at hl 0 rfl) ?_
  refine r_get C hI 18 (by decide) rfl rfl hin7 15 (by decide) (fn := "acts") (fd := "I") (index := 94) (by decide +kernel) ⟨rfl, rfl, rfl⟩ (v := .int (iI (M 18 15))) rfl dX7_undo_6 ?_
  refine r_eqI (z2 := M 18 15) (by first | rfl | (repeat first | rw [mset_s, rw1_s] | rw [mset_s, rw1_n _ _ (by omega)] | rw [mset_n _ _ _ (by decide)])) ?_
  refine r_if_ne hx hb (tgt := 15) (by omega) dX7_undo_9 (by decide) (fun c_1 => ?_) (fun c_1 => ?_)
  · refine lv_aload_n hx hb dX7_undo_15 rfl (lv_at hl 0 rfl) ?_
    refine lv_dup hx hb dX7_undo_16 rfl ?_
    refine r_get C hI 18 (by decide) rfl rfl hin7 15 (by decide) (fn := "acts") (fd := "I") (index := 94) (by decide +kernel) ⟨rfl, rfl, rfl⟩ (v := .int (iI (M 18 15))) rfl dX7_undo_17 ?_
    refine r_eqI (z2 := M 18 15) (by first | rfl | (repeat first | rw [mset_s, rw1_s] | rw [mset_s, rw1_n _ _ (by omega)] | rw [mset_n _ _ _ (by decide)])) ?_
    refine lv_iconst (v := iI 1) hx hb dX7_undo_20 rfl ?_
    refine r_isub hx hb dX7_undo_21 ?_
    refine r_put C hI 18 (by decide) rfl rfl tyX7 tyX7_ok nmX7 hin7 15 (by decide) (fn := "acts") (fd := "I") (index := 94) (by decide +kernel) ⟨rfl, rfl, rfl⟩ rfl (z := (M 18 15) - 1) rfl rfl (Nat.le_of_ble_eq_true rfl) rfl dX7_undo_22 (fun H locs hI => ?_)
    refine lv_iconst (v := iI 0) hx hb dX7_undo_25 rfl ?_
    refine lv_istore_n (lv' := [(1, .int (iI 0)), (0, .ref (gA g 18))]) hx hb dX7_undo_26 rfl hl (by decide) rfl (fun ls hl => ?_)
    have lp27 : ∀ (n27 : Nat) (kk : Int) (N : Mem) (M2 : Mem), (0 ≤ kk ∧ kk ≤ 21) → (M2 = mset (mset M 18 0 0) 18 15 (M 18 15 - 1)) → (N = cpA M2 26 (21 * M2 18 15) 24 0 kk) → (0 ≤ M2 18 15 ∧ M2 18 15 < 14) → (21 - kk).toNat < n27 → ∀ (H : Heap) (locs : List Loc), HI g s H locs N → ∀ ls : Array Slot, lv_has ls 2 [(1, .int (iI kk)), (0, .ref (gA g 18))] → W p l e ({ frames := 0, cells := 0, slots := 0, locals := 0 } : Room) s m ([.ref (gA g 18)] : List Value).toArray below meth c H locs 0 0 (MQ below (QV g (pE (fun z u => z = zUnd A  ∧ QC M u ∧ RM (gUnd A ) u))) ([.ref (gA g 18)] : List Value).toArray s 0 0 (AA g)) (F0 m 27 ls []) := by
      intro n27
      induction n27 with
      | zero => intro kk N M2 h1 h3 h2 h5 hn27; exact absurd hn27 (Nat.not_lt_zero _)
      | succ n27 ih27 =>
        intro kk N M2 h1 h3 h2 h5 hn27 H locs hI ls hl
        have eN2 : N 18 15 = M2 18 15 := by rw [h2]; rfl
        have eM2 : M2 18 15 = M 18 15 - 1 := by rw [h3]; rfl
        refine lv_iload_n hx hb dX7_undo_27 rfl (lv_at hl 0 rfl) ?_
        refine lv_bipush (v := iI 21) hx hb dX7_undo_28 (by decide +kernel) ?_
        refine r_icmp_ge hx hb (tgt := 59) (by omega) (by decide) dX7_undo_30 (by decide) (fun c_2 => ?_) (fun c_2 => ?_)
        · refine lv_aload_n hx hb dX7_undo_59 rfl (lv_at hl 1 rfl) ?_
          refine r_get C hI 18 (by decide) rfl rfl hin7 15 (by decide) (fn := "acts") (fd := "I") (index := 94) (by decide +kernel) ⟨rfl, rfl, rfl⟩ (v := .int (iI (N 18 15))) rfl dX7_undo_60 ?_
          refine r_iret C hr hlk hI ?_ dX7_undo_63
          exact ⟨_, rfl, (show (fun z u => z = zUnd A  ∧ QC M u ∧ RM (gUnd A ) u) (N 18 15) N from by exact ⟨(by unfold zUnd; rw [if_neg (by omega)]; omega), (by unfold gUnd; rw [if_neg (by omega)]; refine RM_undo wf0 rm0 (by omega) ?_; rw [h2, show kk = 21 from by omega, eM2, h3])⟩)⟩
        · refine lv_aload_n hx hb dX7_undo_33 rfl (lv_at hl 1 rfl) ?_
          refine r_get C hI 18 (by decide) rfl rfl hin7 12 (by decide) (fn := "page") (fd := "[I") (index := 25) (by decide +kernel) ⟨rfl, rfl, rfl⟩ (v := .ref (gA g 24)) rfl dX7_undo_34 ?_
          refine lv_iload_n hx hb dX7_undo_37 rfl (lv_at hl 0 rfl) ?_
          refine lv_aload_n hx hb dX7_undo_38 rfl (lv_at hl 1 rfl) ?_
          refine r_get C hI 18 (by decide) rfl rfl hin7 14 (by decide) (fn := "book") (fd := "[I") (index := 31) (by decide +kernel) ⟨rfl, rfl, rfl⟩ (v := .ref (gA g 26)) rfl dX7_undo_39 ?_
          refine lv_bipush (v := iI 21) hx hb dX7_undo_42 (by decide +kernel) ?_
          refine lv_aload_n hx hb dX7_undo_44 rfl (lv_at hl 1 rfl) ?_
          refine r_get C hI 18 (by decide) rfl rfl hin7 15 (by decide) (fn := "acts") (fd := "I") (index := 94) (by decide +kernel) ⟨rfl, rfl, rfl⟩ (v := .int (iI (N 18 15))) rfl dX7_undo_45 ?_
          refine r_imul hx hb dX7_undo_48 ?_
          refine lv_iload_n hx hb dX7_undo_49 rfl (lv_at hl 0 rfl) ?_
          refine r_iadd hx hb dX7_undo_50 ?_
          refine r_ald C hI 26 (by decide) rfl (by omega) (by decide) dX7_undo_51 ?_
          refine r_ast C hI 24 (by decide) (fun _ => rfl) (by omega) (by decide) dX7_undo_52 (fun H locs hI => ?_)
          refine lv_iinc (v := iI (kk + 1)) (lv' := [(1, .int (iI (kk + 1))), (0, .ref (gA g 18))]) hx hb dX7_undo_53 hl (k := 0) rfl (iI_add _ _) (by decide) rfl (fun ls hl => ?_)
          refine lv_goto (tgt := 27) hx hb dX7_undo_56 (by decide) ?_
          exact ih27 (kk + 1) (mset N 24 kk (N 26 ((21 * (N 18 15)) + kk))) M2 (by omega) (by exact h3) (by (have h4 := @cpA_s M2 26 (21 * M2 18 15) 24 0 kk h1.1 (Or.inl (by decide))); rw [Int.zero_add, ← h2] at h4; rw [eN2]; exact h4) (by exact h5) (by omega) _ _ hI ls (lv_sub hl [0, 1] rfl)
    exact lp27 _ 0 (mset (mset M 18 0 0) 18 15 ((M 18 15) - 1)) (mset (mset M 18 0 0) 18 15 ((M 18 15) - 1)) (by omega) (by rfl) (by exact cpA_0 _ _ _ _ _) (by (show 0 ≤ M 18 15 - 1 ∧ M 18 15 - 1 < 14); omega) (Nat.lt_succ_self _) _ _ hI ls (lv_sub hl [0, 1] rfl)
  · refine lv_bipush (v := iI (-3)) hx hb dX7_undo_12 (by decide +kernel) ?_
    refine r_iret C hr hlk hI ?_ dX7_undo_14
    exact ⟨_, rfl, (show (fun z u => z = zUnd A  ∧ QC M u ∧ RM (gUnd A ) u) (-3) (mset M 18 0 0) from by exact ⟨(by unfold zUnd; (repeat' split) <;> first | rfl | omega | (simp_all; done) | (simp_all; omega)), (by unfold gUnd; rw [if_pos (by omega)]; exact RO rm0)⟩)⟩
set_option maxHeartbeats 4000000 in
set_option maxRecDepth 100000 in
theorem c_X7_keep (l : Launch) (g : GT) (M : Mem) (v : Int) (A : Mem) (wf : WF A) (rm : RM A M) (h_v : -2147483648 ≤ v ∧ v < 2147483648) : Ctr l g yX7_keep wsX7_keep ({ frames := 1, cells := 0, slots := 0, locals := 25 } : Room) [.ref (gA g 18), .int (iI v)] M (pE (fun z u => z = zKee A v ∧ QC M u ∧ RM (gKee A v) u)) := by
  refine Ctr.mk (cc := cX7_keep) (maxL := 3) (ret := some .int) (lv := [(0, .ref (gA g 18)), (1, .int (iI v))]) (by decide) rfl (Nat.le_of_ble_eq_true rfl) rfl ?_
  intro p e s m below meth c C hr hlk hI ls hl
  have C : CallFix p m c cX7_keep 3 s ([.ref (gA g 18), .int (iI v)] : List Value).toArray wsX7_keep RX7 := C
  have hx := C.1
  have hb := C.2.1
  have hts := C.2.2.2.2
  have hin7 : ∀ w ∈ u_ws RX7 TX7 31, w ∈ wsX7_keep := by decide +kernel
  have wf0 := wf
  obtain ⟨w_txt, hL, w_cnt, w_per, w_glo, w_now, w_act, w_rng, w_slo, w_see, w_sa⟩ := wf
  have rm0 := rm
  obtain ⟨⟨t_n, t_l⟩, ⟨⟨p_p, p_g⟩, p_r, g_r⟩, pgn, ⟨a_n, a_r⟩, k_r, ⟨s_n, s_r⟩, sd⟩ := rm
  have pg2 : M 24 20 = A 32 2 := by have := pgn.2; rw [Int.zero_add] at this; exact this
  refine lv_aload_n hx hb dX7_keep_0 rfl (lv_at hl 0 rfl) ?_
  refine lv_iconst (v := iI 0) hx hb dX7_keep_1 rfl ?_
  refine r_put C hI 18 (by decide) rfl rfl tyX7 tyX7_ok nmX7 hin7 0 (by decide) (fn := "thrown") (fd := "I") (index := 50) (by decide +kernel) ⟨rfl, rfl, rfl⟩ rfl (z := 0) rfl rfl (Nat.le_of_ble_eq_true rfl) rfl dX7_keep_2 (fun H locs hI => ?_)
  refine lv_iload_n hx hb dX7_keep_5 rfl (lv_at hl 1 rfl) ?_
  refine r_i2l hx hb (by omega) dX7_keep_6 ?_
  refine lv_lconst (v := iL 0) hx hb dX7_keep_7 (by decide +kernel) ?_
  refine lv_lconst (v := iL 1) hx hb dX7_keep_8 (by decide +kernel) ?_
  refine r_is C hI (As := [.long (iL v), .long (iL 0), .long (iL 1)]) (rest := []) (c_X7_in l g (mset M 18 0 0) v 0 1 (by omega) (by omega) (by omega)) (va_cwS 3 hts gX7_keep_X7_in rfl rfl rfl (by decide +kernel) ⟨Nat.le_of_ble_eq_true rfl, Nat.le_of_ble_eq_true rfl⟩) rfl hl.1 rfl (Nat.le_of_ble_eq_true rfl) dX7_keep_9 ⟨Nat.zero_le _, Nat.zero_le _⟩ (k_I (fun H locs hI => ?_))
  refine r_b_ne hx hb (tgt := 17) dX7_keep_12 (by decide) (fun c_1 => ?_) (fun c_1 => ?_)
  · refine lv_aload_n hx hb dX7_keep_17 rfl (lv_at hl 0 rfl) ?_
    refine r_get C hI 18 (by decide) rfl rfl hin7 17 (by decide) (fn := "isKept") (fd := "[Z") (index := 37) (by decide +kernel) ⟨rfl, rfl, rfl⟩ (v := .ref (gA g 28)) rfl dX7_keep_18 ?_
    refine lv_iload_n hx hb dX7_keep_21 rfl (lv_at hl 1 rfl) ?_
    refine lv_iconst (v := iI 1) hx hb dX7_keep_22 rfl ?_
    refine r_zst C hI 28 (by decide) (fun _ => rfl) (by omega) (by decide) (by decide +kernel) (by decide +kernel) dX7_keep_23 (fun H locs hI => ?_)
    refine lv_iconst (v := iI 0) hx hb dX7_keep_24 rfl ?_
    refine lv_istore_n (lv' := [(2, .int (iI 0)), (0, .ref (gA g 18)), (1, .int (iI v))]) hx hb dX7_keep_25 rfl hl (by decide) rfl (fun ls hl => ?_)
    have lp26 : ∀ (n26 : Nat) (kk : Int) (N : Mem) (M2 : Mem), (0 ≤ kk ∧ kk ≤ 21) → (M2 = mset (mset M 18 0 0) 28 v 1) → (N = cpA M2 24 0 27 (21 * v) kk) → (21 - kk).toNat < n26 → ∀ (H : Heap) (locs : List Loc), HI g s H locs N → ∀ ls : Array Slot, lv_has ls 3 [(2, .int (iI kk)), (0, .ref (gA g 18)), (1, .int (iI v))] → W p l e ({ frames := 1, cells := 0, slots := 0, locals := 25 } : Room) s m ([.ref (gA g 18), .int (iI v)] : List Value).toArray below meth c H locs 0 0 (MQ below (QV g (pE (fun z u => z = zKee A v ∧ QC M u ∧ RM (gKee A v) u))) ([.ref (gA g 18), .int (iI v)] : List Value).toArray s 0 0 (AA g)) (F0 m 26 ls []) := by
      intro n26
      induction n26 with
      | zero => intro kk N M2 h1 h3 h2 hn26; exact absurd hn26 (Nat.not_lt_zero _)
      | succ n26 ih26 =>
        intro kk N M2 h1 h3 h2 hn26 H locs hI ls hl
        refine lv_iload_n hx hb dX7_keep_26 rfl (lv_at hl 0 rfl) ?_
        refine lv_bipush (v := iI 21) hx hb dX7_keep_27 (by decide +kernel) ?_
        refine r_icmp_ge hx hb (tgt := 55) (by omega) (by decide) dX7_keep_29 (by decide) (fun c_2 => ?_) (fun c_2 => ?_)
        · refine lv_aload_n hx hb dX7_keep_55 rfl (lv_at hl 1 rfl) ?_
          refine r_get C hI 18 (by decide) rfl rfl hin7 12 (by decide) (fn := "page") (fd := "[I") (index := 25) (by decide +kernel) ⟨rfl, rfl, rfl⟩ (v := .ref (gA g 24)) rfl dX7_keep_56 ?_
          refine lv_bipush (v := iI 20) hx hb dX7_keep_59 (by decide +kernel) ?_
          refine r_ald C hI 24 (by decide) rfl (by omega) (by decide) dX7_keep_61 ?_
          refine r_iret C hr hlk hI ?_ dX7_keep_62
          exact ⟨_, rfl, (show (fun z u => z = zKee A v ∧ QC M u ∧ RM (gKee A v) u) (N 24 20) N from by exact ⟨(by unfold zKee; rw [if_neg (by omega), h2, cpA_n (by decide), h3]; exact pg2), (by unfold gKee; rw [if_neg (by omega)]; refine RM_keep wf0 rm0 (by omega) ?_; rw [h2, show kk = 21 from by omega, h3])⟩)⟩
        · refine lv_aload_n hx hb dX7_keep_32 rfl (lv_at hl 1 rfl) ?_
          refine r_get C hI 18 (by decide) rfl rfl hin7 16 (by decide) (fn := "kept") (fd := "[I") (index := 34) (by decide +kernel) ⟨rfl, rfl, rfl⟩ (v := .ref (gA g 27)) rfl dX7_keep_33 ?_
          refine lv_bipush (v := iI 21) hx hb dX7_keep_36 (by decide +kernel) ?_
          refine lv_iload_n hx hb dX7_keep_38 rfl (lv_at hl 2 rfl) ?_
          refine r_imul hx hb dX7_keep_39 ?_
          refine lv_iload_n hx hb dX7_keep_40 rfl (lv_at hl 0 rfl) ?_
          refine r_iadd hx hb dX7_keep_41 ?_
          refine lv_aload_n hx hb dX7_keep_42 rfl (lv_at hl 1 rfl) ?_
          refine r_get C hI 18 (by decide) rfl rfl hin7 12 (by decide) (fn := "page") (fd := "[I") (index := 25) (by decide +kernel) ⟨rfl, rfl, rfl⟩ (v := .ref (gA g 24)) rfl dX7_keep_43 ?_
          refine lv_iload_n hx hb dX7_keep_46 rfl (lv_at hl 0 rfl) ?_
          refine r_ald C hI 24 (by decide) rfl (by omega) (by decide) dX7_keep_47 ?_
          refine r_ast C hI 27 (by decide) (fun _ => rfl) (by omega) (by decide) dX7_keep_48 (fun H locs hI => ?_)
          refine lv_iinc (v := iI (kk + 1)) (lv' := [(2, .int (iI (kk + 1))), (0, .ref (gA g 18)), (1, .int (iI v))]) hx hb dX7_keep_49 hl (k := 0) rfl (iI_add _ _) (by decide) rfl (fun ls hl => ?_)
          refine lv_goto (tgt := 26) hx hb dX7_keep_52 (by decide) ?_
          exact ih26 (kk + 1) (mset N 27 ((21 * v) + kk) (N 24 kk)) M2 (by omega) (by exact h3) (by (have h4 := @cpA_s M2 24 0 27 (21 * v) kk h1.1 (Or.inl (by decide))); rw [Int.zero_add, ← h2] at h4; exact h4) (by omega) _ _ hI ls (lv_sub hl [0, 1, 2] rfl)
    exact lp26 _ 0 (mset (mset M 18 0 0) 28 v 1) (mset (mset M 18 0 0) 28 v 1) (by omega) (by rfl) (by exact cpA_0 _ _ _ _ _) (Nat.lt_succ_self _) _ _ hI ls (lv_sub hl [0, 1, 2] rfl)
  · refine lv_iconst (v := iI (-1)) hx hb dX7_keep_15 rfl ?_
    refine r_iret C hr hlk hI ?_ dX7_keep_16
    exact ⟨_, rfl, (show (fun z u => z = zKee A v ∧ QC M u ∧ RM (gKee A v) u) (-1) (mset M 18 0 0) from by exact ⟨(by unfold zKee; rw [if_pos (by omega)]), (by unfold gKee; rw [if_pos (by omega)]; exact RO rm0)⟩)⟩
set_option maxHeartbeats 4000000 in
set_option maxRecDepth 100000 in
theorem c_X7_again (l : Launch) (g : GT) (M : Mem) (v : Int) (A : Mem) (wf : WF A) (rm : RM A M) (h_v : -2147483648 ≤ v ∧ v < 2147483648) : Ctr l g yX7_again wsX7_again ({ frames := 1, cells := 0, slots := 0, locals := 25 } : Room) [.ref (gA g 18), .int (iI v)] M (pE (fun z u => z = zAga A v ∧ QC M u ∧ RM (gAga A v) u)) := by
  refine Ctr.mk (cc := cX7_again) (maxL := 3) (ret := some .int) (lv := [(0, .ref (gA g 18)), (1, .int (iI v))]) (by decide) rfl (Nat.le_of_ble_eq_true rfl) rfl ?_
  intro p e s m below meth c C hr hlk hI ls hl
  have C : CallFix p m c cX7_again 3 s ([.ref (gA g 18), .int (iI v)] : List Value).toArray wsX7_again RX7 := C
  have hx := C.1
  have hb := C.2.1
  have hts := C.2.2.2.2
  have hin7 : ∀ w ∈ u_ws RX7 TX7 31, w ∈ wsX7_again := by decide +kernel
  have wf0 := wf
  obtain ⟨w_txt, hL, w_cnt, w_per, w_glo, w_now, w_act, w_rng, w_slo, w_see, w_sa⟩ := wf
  have rm0 := rm
  obtain ⟨⟨t_n, t_l⟩, ⟨⟨p_p, p_g⟩, p_r, g_r⟩, pgn, ⟨a_n, a_r⟩, k_r, ⟨s_n, s_r⟩, sd⟩ := rm
  have kv := k_r v
  have ks : 0 ≤ v ∧ v < 2 → A (sltO v) 3 = 0 ∨ A (sltO v) 3 = 1 := fun q => by
    rcases (sltO_b q).2 with e | e
    · rw [e]; exact w_slo.1.imp id And.left
    · rw [e]; exact w_slo.2.imp id And.left
  have kv1 : 0 ≤ v ∧ v < 2 → M 28 v = A (sltO v) 3 := fun q => (kv q).1
  refine lv_aload_n hx hb dX7_again_0 rfl (lv_at hl 0 rfl) ?_
  refine lv_iconst (v := iI 0) hx hb dX7_again_1 rfl ?_
  refine r_put C hI 18 (by decide) rfl rfl tyX7 tyX7_ok nmX7 hin7 0 (by decide) (fn := "thrown") (fd := "I") (index := 50) (by decide +kernel) ⟨rfl, rfl, rfl⟩ rfl (z := 0) rfl rfl (Nat.le_of_ble_eq_true rfl) rfl dX7_again_2 (fun H locs hI => ?_)
  refine lv_iload_n hx hb dX7_again_5 rfl (lv_at hl 1 rfl) ?_
  refine r_i2l hx hb (by omega) dX7_again_6 ?_
  refine lv_lconst (v := iL 0) hx hb dX7_again_7 (by decide +kernel) ?_
  refine lv_lconst (v := iL 1) hx hb dX7_again_8 (by decide +kernel) ?_
  refine r_is C hI (As := [.long (iL v), .long (iL 0), .long (iL 1)]) (rest := []) (c_X7_in l g (mset M 18 0 0) v 0 1 (by omega) (by omega) (by omega)) (va_cwS 3 hts gX7_again_X7_in rfl rfl rfl (by decide +kernel) ⟨Nat.le_of_ble_eq_true rfl, Nat.le_of_ble_eq_true rfl⟩) rfl hl.1 rfl (Nat.le_of_ble_eq_true rfl) dX7_again_9 ⟨Nat.zero_le _, Nat.zero_le _⟩ (k_I (fun H locs hI => ?_))
  refine r_b_ne hx hb (tgt := 17) dX7_again_12 (by decide) (fun c_1 => ?_) (fun c_1 => ?_)
  · refine lv_aload_n hx hb dX7_again_17 rfl (lv_at hl 0 rfl) ?_
    refine r_get C hI 18 (by decide) rfl rfl hin7 17 (by decide) (fn := "isKept") (fd := "[Z") (index := 37) (by decide +kernel) ⟨rfl, rfl, rfl⟩ (v := .ref (gA g 28)) rfl dX7_again_18 ?_
    refine lv_iload_n hx hb dX7_again_21 rfl (lv_at hl 1 rfl) ?_
    refine r_zld C hI 28 (by decide) rfl (by omega) (by decide) dX7_again_22 ?_
    refine r_eqI (z2 := M 28 v) (by first | rfl | (repeat first | rw [mset_s, rw1_s] | rw [mset_s, rw1_n _ _ (by omega)] | rw [mset_n _ _ _ (by decide)])) ?_
    refine r_if_ne hx hb (tgt := 29) (by omega) dX7_again_23 (by decide) (fun c_2 => ?_) (fun c_2 => ?_)
    · refine lv_iconst (v := iI 0) hx hb dX7_again_29 rfl ?_
      refine lv_istore_n (lv' := [(2, .int (iI 0)), (0, .ref (gA g 18)), (1, .int (iI v))]) hx hb dX7_again_30 rfl hl (by decide) rfl (fun ls hl => ?_)
      have lp31 : ∀ (n31 : Nat) (kk : Int) (N : Mem), (0 ≤ kk ∧ kk ≤ 21) → (N = cpA (mset M 18 0 0) 27 (21 * v) 24 0 kk) → (21 - kk).toNat < n31 → ∀ (H : Heap) (locs : List Loc), HI g s H locs N → ∀ ls : Array Slot, lv_has ls 3 [(2, .int (iI kk)), (0, .ref (gA g 18)), (1, .int (iI v))] → W p l e ({ frames := 1, cells := 0, slots := 0, locals := 25 } : Room) s m ([.ref (gA g 18), .int (iI v)] : List Value).toArray below meth c H locs 0 0 (MQ below (QV g (pE (fun z u => z = zAga A v ∧ QC M u ∧ RM (gAga A v) u))) ([.ref (gA g 18), .int (iI v)] : List Value).toArray s 0 0 (AA g)) (F0 m 31 ls []) := by
        intro n31
        induction n31 with
        | zero => intro kk N h1 h2 hn31; exact absurd hn31 (Nat.not_lt_zero _)
        | succ n31 ih31 =>
          intro kk N h1 h2 hn31 H locs hI ls hl
          refine lv_iload_n hx hb dX7_again_31 rfl (lv_at hl 0 rfl) ?_
          refine lv_bipush (v := iI 21) hx hb dX7_again_32 (by decide +kernel) ?_
          refine r_icmp_ge hx hb (tgt := 60) (by omega) (by decide) dX7_again_34 (by decide) (fun c_3 => ?_) (fun c_3 => ?_)
          · refine lv_aload_n hx hb dX7_again_60 rfl (lv_at hl 1 rfl) ?_
            refine lv_iconst (v := iI 0) hx hb dX7_again_61 rfl ?_
            refine r_put C hI 18 (by decide) rfl rfl tyX7 tyX7_ok nmX7 hin7 15 (by decide) (fn := "acts") (fd := "I") (index := 94) (by decide +kernel) ⟨rfl, rfl, rfl⟩ rfl (z := 0) rfl rfl (Nat.le_of_ble_eq_true rfl) rfl dX7_again_62 (fun H locs hI => ?_)
            refine lv_aload_n hx hb dX7_again_65 rfl (lv_at hl 1 rfl) ?_
            refine r_get C hI 18 (by decide) rfl rfl hin7 12 (by decide) (fn := "page") (fd := "[I") (index := 25) (by decide +kernel) ⟨rfl, rfl, rfl⟩ (v := .ref (gA g 24)) rfl dX7_again_66 ?_
            refine lv_bipush (v := iI 20) hx hb dX7_again_69 (by decide +kernel) ?_
            refine r_ald C hI 24 (by decide) rfl (by omega) (by decide) dX7_again_71 ?_
            refine r_eqI (z2 := N 24 20) (by first | rfl | (repeat first | rw [mset_s, rw1_s] | rw [mset_s, rw1_n _ _ (by omega)] | rw [mset_n _ _ _ (by decide)])) ?_
            refine r_iret C hr hlk hI ?_ dX7_again_72
            exact ⟨_, rfl, (show (fun z u => z = zAga A v ∧ QC M u ∧ RM (gAga A v) u) (N 24 20) (mset N 18 15 0) from by exact ⟨(by unfold zAga; rw [if_neg (by omega), if_neg (by omega), h2, show kk = 21 from by omega]; (have e := @cpA_row (mset M 18 0 0) 27 (21 * v) 24 0 20 (by decide)); rw [Int.zero_add] at e; rw [e, mset_n _ _ _ (by decide)]; exact ((kv (by omega)).2 (by omega)).2), (by unfold gAga; rw [if_neg (by omega), if_neg (by omega)]; refine RM_again wf0 rm0 (by omega) (by omega) ?_; rw [h2, show kk = 21 from by omega])⟩)⟩
          · refine lv_aload_n hx hb dX7_again_37 rfl (lv_at hl 1 rfl) ?_
            refine r_get C hI 18 (by decide) rfl rfl hin7 12 (by decide) (fn := "page") (fd := "[I") (index := 25) (by decide +kernel) ⟨rfl, rfl, rfl⟩ (v := .ref (gA g 24)) rfl dX7_again_38 ?_
            refine lv_iload_n hx hb dX7_again_41 rfl (lv_at hl 0 rfl) ?_
            refine lv_aload_n hx hb dX7_again_42 rfl (lv_at hl 1 rfl) ?_
            refine r_get C hI 18 (by decide) rfl rfl hin7 16 (by decide) (fn := "kept") (fd := "[I") (index := 34) (by decide +kernel) ⟨rfl, rfl, rfl⟩ (v := .ref (gA g 27)) rfl dX7_again_43 ?_
            refine lv_bipush (v := iI 21) hx hb dX7_again_46 (by decide +kernel) ?_
            refine lv_iload_n hx hb dX7_again_48 rfl (lv_at hl 2 rfl) ?_
            refine r_imul hx hb dX7_again_49 ?_
            refine lv_iload_n hx hb dX7_again_50 rfl (lv_at hl 0 rfl) ?_
            refine r_iadd hx hb dX7_again_51 ?_
            refine r_ald C hI 27 (by decide) rfl (by omega) (by decide) dX7_again_52 ?_
            refine r_ast C hI 24 (by decide) (fun _ => rfl) (by omega) (by decide) dX7_again_53 (fun H locs hI => ?_)
            refine lv_iinc (v := iI (kk + 1)) (lv' := [(2, .int (iI (kk + 1))), (0, .ref (gA g 18)), (1, .int (iI v))]) hx hb dX7_again_54 hl (k := 0) rfl (iI_add _ _) (by decide) rfl (fun ls hl => ?_)
            refine lv_goto (tgt := 31) hx hb dX7_again_57 (by decide) ?_
            exact ih31 (kk + 1) (mset N 24 kk (N 27 ((21 * v) + kk))) (by omega) (by (have h4 := @cpA_s (mset M 18 0 0) 27 (21 * v) 24 0 kk h1.1 (Or.inl (by decide))); rw [Int.zero_add, ← h2] at h4; exact h4) (by omega) _ _ hI ls (lv_sub hl [0, 1, 2] rfl)
      exact lp31 _ 0 (mset M 18 0 0) (by omega) (by exact cpA_0 _ _ _ _ _) (Nat.lt_succ_self _) _ _ hI ls (lv_sub hl [0, 1, 2] rfl)
    · refine lv_bipush (v := iI (-3)) hx hb dX7_again_26 (by decide +kernel) ?_
      refine r_iret C hr hlk hI ?_ dX7_again_28
      exact ⟨_, rfl, (show (fun z u => z = zAga A v ∧ QC M u ∧ RM (gAga A v) u) (-3) (mset M 18 0 0) from by exact ⟨(by unfold zAga; first | (rw [if_pos (by omega)]; done) | (rw [if_neg (by omega), if_pos (by omega)])), (by unfold gAga; first | (rw [if_pos (by omega)]; exact RO rm0) | (rw [if_neg (by omega), if_pos (by omega)]; exact RO rm0))⟩)⟩
  · refine lv_iconst (v := iI (-1)) hx hb dX7_again_15 rfl ?_
    refine r_iret C hr hlk hI ?_ dX7_again_16
    exact ⟨_, rfl, (show (fun z u => z = zAga A v ∧ QC M u ∧ RM (gAga A v) u) (-1) (mset M 18 0 0) from by exact ⟨(by unfold zAga; first | (rw [if_pos (by omega)]; done) | (rw [if_neg (by omega), if_pos (by omega)])), (by unfold gAga; first | (rw [if_pos (by omega)]; exact RO rm0) | (rw [if_neg (by omega), if_pos (by omega)]; exact RO rm0))⟩)⟩
