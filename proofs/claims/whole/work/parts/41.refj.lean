
/-! WEEKS -/
theorem RM_wk {A A' M u : Mem} (r : RM A M) (hG : A 3 7 ≤ 4) (hA : ∀ c : Nat, c ≠ 0 → ¬ (35 ≤ c ∧ c < 38) → A' c = A c) (hu : ∀ c : Nat, c ≠ 18 → c ≠ 25 → u c = M c) (h18 : ∀ q : Int, q ≠ 0 → q ≠ 22 → u 18 q = M 18 q) (h : u 18 22 = A' 0 8) : QC M u ∧ RM A' u := by
  obtain ⟨r1, r2, r3, r4, r5, r6, r7⟩ := r
  have h3 := hA 3 (by decide) (by decide)
  refine ⟨fun c hc => hu c (by omega) (by omega), RT_fr r1 (hA 1 (by decide) (by decide)) (hA 2 (by decide) (by decide)) (hu 19 (by decide) (by decide)) (h18 2 (by decide) (by decide)), RP_fr r2 (fun c h1 h2 => hA c (by omega) (by omega)) (hu 20 (by decide) (by decide)) (hu 21 (by decide) (by decide)) (h18 4 (by decide) (by decide)) (h18 5 (by decide) (by decide)), ?_, RA_fr r4 hG h3 (hA 15 (by decide) (by decide)) (fun c _ _ => hA c (by omega) (by omega)) (hu 26 (by decide) (by decide)) (h18 15 (by decide) (by decide)), RK_fr r5 hG h3 (fun c _ _ => hA c (by omega) (by omega)) (hu 27 (by decide) (by decide)) (hu 28 (by decide) (by decide)), RS_fr r6 (fun c _ _ => hA c (by omega) (by omega)) (fun c _ _ => hu c (by omega) (by omega)) (h18 18 (by decide) (by decide)), h⟩
  rw [hu 24 (by decide) (by decide)]
  exact PG_fr r3 hG h3 (hA 32 (by decide) (by decide)) (hA 33 (by decide) (by decide)) (hA 34 (by decide) (by decide))
/-- the trial at its start -/
theorem PG_tri {A M : Mem} (h : PG A 32 (M 24) 0) (hG : A 3 7 ≤ 4) : PG (cpM A 32 35) 35 (cpA M 24 0 25 0 21 25) 0 := by
  refine PG_of h rfl hG (fun q hq => @cpM_o1 A 32 35 q hq) (@cpM_o2 A 32 35).1 (fun j hj => ?_)
  exact cpA_row hj
/-- a hand in the trial: only what the glove keeps has changed -/
theorem PG_hand {B B' : Mem} {r r' : Int → Int} {x k : Int} (h : PG B 35 r 0) (hx : 0 ≤ x ∧ x < 4) (hG : B 3 7 ≤ 4) (hB : ∀ c : Nat, c ≠ 36 → B' c = B c) (h36 : B' 36 = rw1 (B 36) x k) (hk : KG k r' (5 * x)) (hr : ∀ j : Int, ¬ (5 * x ≤ j ∧ j < 5 * x + 4) → r' j = r j) : PG B' 35 r' 0 := by
  have h3 := hB 3 (by decide)
  refine ⟨fun q hq => ?_, ?_⟩
  · rw [h3] at hq
    rw [Int.zero_add]
    obtain ⟨h1, h2⟩ := PG_0 h q hq
    show KG (B' 36 q) r' (5 * q) ∧ r' (5 * q + 4) = B' 37 q
    rw [hB 37 (by decide), h36]
    refine ⟨?_, by rw [hr _ (by omega)]; exact h2⟩
    by_cases e : q = x
    · subst e; rw [rw1_s]; exact hk
    · rw [rw1_n _ _ e]
      exact KG_of h1 (fun j hj => hr _ (by omega))
  · have := h.2
    rw [Int.zero_add] at this ⊢
    rw [hr 20 (by omega), hB 35 (by decide)]; exact this

theorem VM_of {A B : Mem} {o o' : Nat} (h : VM A o) (h3 : B 3 = A 3) (h7 : B 7 = A 7) (hk : ∀ q : Int, 0 ≤ q ∧ q < 4 → B (o' + 1) q = A (o + 1) q ∧ B (o' + 2) q = A (o + 2) q) : VM B o' := by
  obtain ⟨h1, h2⟩ := h
  refine ⟨fun q hq => ?_, fun q r hq hr e => ?_⟩
  · rw [h3, h7, (hk q hq).1, (hk q hq).2]; exact h1 q hq
  · rw [(hk q hq).2, (hk r hr).2] at e
    rw [(hk q hq).2]; exact h2 q r hq hr e
theorem VM_k {A B : Mem} {o : Nat} {x k : Int} (h : VM A o) (hx : 0 ≤ x ∧ x < 4) (h3 : B 3 = A 3) (h7 : B 7 = A 7) (h1 : B (o + 1) = rw1 (A (o + 1)) x k) (h2 : B (o + 2) = A (o + 2)) (hk : KOK k (A 7 x)) : VM B o := by
  obtain ⟨v1, v2⟩ := h
  refine ⟨fun q hq => ?_, fun q r hq hr e => ?_⟩
  · rw [h3, h7, h1, h2]
    by_cases e : q = x
    · subst e
      rw [rw1_s]
      exact ⟨KOK_b hk, (v1 q hq).2.1, fun _ => hk⟩
    · rw [rw1_n _ _ e]; exact v1 q hq
  · rw [h2] at e ⊢
    exact v2 q r hq hr e
theorem plM_no {M : Mem} {x y : Int} (h : ¬ okP M x y) : plM M x y = M := by unfold plM; rw [if_neg h]
theorem plM_ok {M : Mem} {x y : Int} (h : okP M x y) : plM M x y = mset M 36 x (behO (M 36 x) (M 4 y) (M 7 x)) := by unfold plM; rw [if_pos h]
theorem PG_sd {B : Mem} {r : Int → Int} (h : PG B 35 r 0) : PG (sdM B) 35 r 0 := ⟨fun q hq => h.1 q hq, h.2⟩
theorem VM_sd {B : Mem} (h : VM B 35) : VM (sdM B) 35 := ⟨fun q hq => h.1 q hq, fun q r hq hr e => h.2 q r hq hr e⟩
theorem VM_tri {A : Mem} (h : VM A 32) : VM (cpM A 32 35) 35 := VM_of h (cpM_n (by decide)) (cpM_n (by decide)) (fun q hq => @cpM_o1 A 32 35 q hq)
set_option maxHeartbeats 4000000 in
set_option maxRecDepth 100000 in
theorem c_X7_weeks (l : Launch) (g : GT) (M : Mem) (v : Int) (A : Mem) (wf : WF A) (rm : RM A M) (h_v : -2147483648 ≤ v ∧ v < 2147483648) : Ctr l g yX7_weeks wsX7_weeks ({ frames := 3, cells := 0, slots := 0, locals := 70 } : Room) [.ref (gA g 18), .int (iI v)] M (pE (fun z u => z = zWek A v ∧ QC M u ∧ RM (gWek A v) u)) := by
  refine Ctr.mk (cc := cX7_weeks) (maxL := 7) (ret := some .int) (lv := [(0, .ref (gA g 18)), (1, .int (iI v))]) (by decide) rfl (Nat.le_of_ble_eq_true rfl) rfl ?_
  intro p e s m below meth c C hr hlk hI ls hl
  have C : CallFix p m c cX7_weeks 7 s ([.ref (gA g 18), .int (iI v)] : List Value).toArray wsX7_weeks RX7 := C
  have hx := C.1
  have hb := C.2.1
  have hts := C.2.2.2.2
  have hin7 : ∀ w ∈ u_ws RX7 TX7 31, w ∈ wsX7_weeks := by decide +kernel
  have wf0 := wf
  obtain ⟨w_txt, hL, w_cnt, w_per, w_glo, w_now, w_act, w_rng, w_slo, w_see, w_sa⟩ := wf
  have rm0 := rm
  obtain ⟨⟨t_n, t_l⟩, ⟨⟨p_p, p_g⟩, p_r, g_r⟩, pgn, ⟨a_n, a_r⟩, k_r, ⟨s_n, s_r⟩, sd⟩ := rm
  refine lv_aload_n hx hb dX7_weeks_0 rfl (lv_at hl 0 rfl) ?_
  refine lv_iconst (v := iI 0) hx hb dX7_weeks_1 rfl ?_
  refine r_put C hI 18 (by decide) rfl rfl tyX7 tyX7_ok nmX7 hin7 0 (by decide) (fn := "thrown") (fd := "I") (index := 50) (by decide +kernel) ⟨rfl, rfl, rfl⟩ rfl (z := 0) rfl rfl (Nat.le_of_ble_eq_true rfl) rfl dX7_weeks_2 (fun H locs hI => ?_)
  refine lv_iload_n hx hb dX7_weeks_5 rfl (lv_at hl 1 rfl) ?_
  refine r_i2l hx hb (by omega) dX7_weeks_6 ?_
  refine lv_lconst (v := iL 1) hx hb dX7_weeks_7 (by decide +kernel) ?_
  refine r_ldc2 C (n := 30) (v := (30 : Int64)) (index := 216) (by decide +kernel) (by decide +kernel) dX7_weeks_8 ?_
  refine r_is C hI (As := [.long (iL v), .long (iL 1), .long (iL 30)]) (rest := []) (c_X7_in l g (mset M 18 0 0) v 1 30 (by omega) (by omega) (by omega)) (va_cwS 3 hts gX7_weeks_X7_in rfl rfl rfl (by decide +kernel) ⟨Nat.le_of_ble_eq_true rfl, Nat.le_of_ble_eq_true rfl⟩) rfl hl.1 rfl (Nat.le_of_ble_eq_true rfl) dX7_weeks_11 ⟨Nat.zero_le _, Nat.zero_le _⟩ (k_I (fun H locs hI => ?_))
  refine r_b_ne hx hb (tgt := 20) dX7_weeks_14 (by decide) (fun c_1 => ?_) (fun c_1 => ?_)
  · refine lv_aload_n hx hb dX7_weeks_20 rfl (lv_at hl 0 rfl) ?_
    refine r_iv C hI (As := []) (rest := []) (c_X7_begin l g (mset M 18 0 0)) (cwV 0 hts gX7_weeks_X7_begin rfl rfl rfl (by decide +kernel) ⟨Nat.le_of_ble_eq_true rfl, Nat.le_of_ble_eq_true rfl⟩) (by decide) rfl rfl rfl hl.1 rfl (Nat.le_of_ble_eq_true rfl) dX7_weeks_21 ⟨Nat.zero_le _, Nat.zero_le _⟩ (k_X (fun M_1 H locs q_1 hI => ?_))
    refine lv_iconst (v := iI 0) hx hb dX7_weeks_24 rfl ?_
    refine lv_istore_n (lv' := [(2, .int (iI 0)), (0, .ref (gA g 18)), (1, .int (iI v))]) hx hb dX7_weeks_25 rfl hl (by decide) rfl (fun ls hl => ?_)
    refine lv_iconst (v := iI 0) hx hb dX7_weeks_26 rfl ?_
    refine lv_istore_n (lv' := [(3, .int (iI 0)), (2, .int (iI 0)), (0, .ref (gA g 18)), (1, .int (iI v))]) hx hb dX7_weeks_27 rfl hl (by decide) rfl (fun ls hl => ?_)
    have lp28 : ∀ (n28 : Nat) (tt : Int) (cc : Int) (N : Mem) (jj : Nat), (tt = (jj : Int) ∧ (jj : Int) ≤ v) → (∀ c : Nat, c ≠ 18 → c ≠ 25 → N c = M c) → (∀ q : Int, q ≠ 0 → q ≠ 22 → N 18 q = M 18 q) → (N 18 22 = wkM (cpM A 32 35) jj 0 8) → (PG (wkM (cpM A 32 35) jj) 35 (N 25) 0) → (cc = wkC (cpM A 32 35) jj) → (VM (wkM (cpM A 32 35) jj) 35) → (v - tt).toNat < n28 → ∀ (H : Heap) (locs : List Loc), HI g s H locs N → ∀ ls : Array Slot, lv_has ls 7 [(3, .int (iI tt)), (2, .int (iI cc)), (0, .ref (gA g 18)), (1, .int (iI v))] → W p l e ({ frames := 3, cells := 0, slots := 0, locals := 70 } : Room) s m ([.ref (gA g 18), .int (iI v)] : List Value).toArray below meth c H locs 0 0 (MQ below (QV g (pE (fun z u => z = zWek A v ∧ QC M u ∧ RM (gWek A v) u))) ([.ref (gA g 18), .int (iI v)] : List Value).toArray s 0 0 (AA g)) (F0 m 28 ls []) := by
      intro n28
      induction n28 with
      | zero => intro tt cc N jj k1 k2 k3 k4 k5 k6 k7 hn28; exact absurd hn28 (Nat.not_lt_zero _)
      | succ n28 ih28 =>
        intro tt cc N jj k1 k2 k3 k4 k5 k6 k7 hn28 H locs hI ls hl
        obtain ⟨B, hB⟩ : ∃ B, B = wkM (cpM A 32 35) jj := ⟨_, rfl⟩
        rw [← hB] at k4 k5 k7
        have eB : ∀ c : Nat, c ≠ 0 → ¬ (35 ≤ c ∧ c < 38) → B c = A c := fun c h1 h2 => by rw [hB, wkM_n _ (by omega) h1, cpM_n (by omega)]
        have eB3 := eB 3 (by decide) (by decide)
        have g18 : N 18 4 = A 3 6 ∧ N 18 5 = A 3 7 := ⟨by rw [k3 4 (by decide) (by decide)]; exact p_p, by rw [k3 5 (by decide) (by decide)]; exact p_g⟩
        have e20 : ∀ q : Int, N 20 (3 * q) = A 4 q := fun q => by rw [k2 20 (by decide) (by decide)]; exact (p_r q).1
        have e21x : ∀ q : Int, N 21 (3 * q) = A 7 q := fun q => by rw [k2 21 (by decide) (by decide)]; exact (g_r q).1
        have e21b : ∀ q : Int, N 21 (3 * q + 1) = A 8 q := fun q => by rw [k2 21 (by decide) (by decide)]; exact (g_r q).2.1
        refine lv_iload_n hx hb dX7_weeks_28 rfl (lv_at hl 0 rfl) ?_
        refine lv_iload_n hx hb dX7_weeks_29 rfl (lv_at hl 3 rfl) ?_
        refine r_icmp_ge hx hb (tgt := 161) (by omega) (by omega) dX7_weeks_30 (by decide) (fun c_2 => ?_) (fun c_2 => ?_)
        · refine lv_iload_n hx hb dX7_weeks_161 rfl (lv_at hl 1 rfl) ?_
          refine r_iret C hr hlk hI ?_ dX7_weeks_162
          exact ⟨_, rfl, (show (fun z u => z = zWek A v ∧ QC M u ∧ RM (gWek A v) u) cc N from by exact ⟨(by unfold zWek; rw [if_neg (by omega), show v.toNat = jj from by omega]; exact k6), (by unfold gWek; rw [if_neg (by omega), show v.toNat = jj from by omega, ← hB]; exact RM_wk rm0 w_cnt.2.2 eB k2 k3 k4)⟩)⟩
        · refine lv_aload_n hx hb dX7_weeks_33 rfl (lv_at hl 2 rfl) ?_
          refine lv_aload_n hx hb dX7_weeks_34 rfl (lv_at hl 2 rfl) ?_
          refine r_get C hI 18 (by decide) rfl rfl hin7 22 (by decide) (fn := "seed") (fd := "J") (index := 212) (by decide +kernel) ⟨rfl, rfl, rfl⟩ (v := .long (iL (N 18 22))) rfl dX7_weeks_35 ?_
          refine r_ldc2 C (n := 6364136223846793005) (v := (6364136223846793005 : Int64)) (index := 218) (by decide +kernel) (by decide +kernel) dX7_weeks_38 ?_
          refine r_lmul hx hb dX7_weeks_41 ?_
          refine r_ldc2 C (n := 1442695040888963407) (v := (1442695040888963407 : Int64)) (index := 220) (by decide +kernel) (by decide +kernel) dX7_weeks_42 ?_
          refine r_ladd hx hb dX7_weeks_45 ?_
          refine r_put C hI 18 (by decide) rfl rfl tyX7 tyX7_ok nmX7 hin7 22 (by decide) (fn := "seed") (fd := "J") (index := 212) (by decide +kernel) ⟨rfl, rfl, rfl⟩ rfl (z := ((N 18 22) * 6364136223846793005) + 1442695040888963407) rfl rfl (Nat.le_of_ble_eq_true rfl) rfl dX7_weeks_46 (fun H locs hI => ?_)
          refine lv_aload_n hx hb dX7_weeks_49 rfl (lv_at hl 2 rfl) ?_
          refine r_get C hI 18 (by decide) rfl rfl hin7 22 (by decide) (fn := "seed") (fd := "J") (index := 212) (by decide +kernel) ⟨rfl, rfl, rfl⟩ (v := .long (iL (((N 18 22) * 6364136223846793005) + 1442695040888963407))) rfl dX7_weeks_50 ?_
          refine lv_bipush (v := iI 33) hx hb dX7_weeks_53 (by decide +kernel) ?_
          refine r_lushr33 hx hb dX7_weeks_55 ?_
          refine r_ldc2 C (n := 20) (v := (20 : Int64)) (index := 222) (by decide +kernel) (by decide +kernel) dX7_weeks_56 ?_
          refine r_lrem20 hx hb (by omega) dX7_weeks_59 ?_
          refine r_l2i hx hb dX7_weeks_60 ?_
          refine r_nm (fun dr edr => ?_)
          refine lv_istore (lv' := [(4, .int (iI dr)), (3, .int (iI tt)), (2, .int (iI cc)), (0, .ref (gA g 18)), (1, .int (iI v))]) hx hb dX7_weeks_61 hl (by decide) rfl (fun ls hl => ?_)
          have bdr : 0 ≤ dr ∧ dr < 20 := by omega
          have hdr : dr = drM B := by rw [edr, k4]; unfold drM sdM; rw [mset_s, rw1_s]
          clear edr
          have eW : wkM (cpM A 32 35) (jj + 1) = plM (sdM B) (dr / 5) (dr % 5) := by rw [hdr, hB]; rfl
          have eC : ∀ _ : Unit, wkC (cpM A 32 35) (jj + 1) = if plP (sdM B) (dr / 5) (dr % 5) then wkC (cpM A 32 35) jj + 1 else wkC (cpM A 32 35) jj := fun _ => by rw [hdr, hB]; rfl
          have eS : wkM (cpM A 32 35) (jj + 1) 0 8 = N 18 22 * 6364136223846793005 + 1442695040888963407 := by rw [eW, plM_n (by decide), k4]; unfold sdM; rw [mset_s, rw1_s]
          have oB : ∀ _ : Unit, okP (sdM B) (dr / 5) (dr % 5) ↔ (dr / 5 < A 3 7 ∧ dr % 5 < A 3 6) ∧ B 37 (dr / 5) = -9 ∧ gOn (B 37) (dr % 5) = -9 := fun _ => by
            show ((0 ≤ dr / 5 ∧ dr / 5 < B 3 7) ∧ (0 ≤ dr % 5 ∧ dr % 5 < B 3 6)) ∧ B 37 (dr / 5) = -9 ∧ gOn (B 37) (dr % 5) = -9 ↔ _
            rw [eB3]
            exact ⟨fun q => ⟨⟨q.1.1.2, q.1.2.2⟩, q.2⟩, fun q => ⟨⟨⟨by omega, q.1.1⟩, by omega, q.1.2⟩, q.2⟩⟩
          have v_x : (0 ≤ B 36 (dr / 5) ∧ B 36 (dr / 5) < 1000) ∧ (B 37 (dr / 5) = -9 ∨ (0 ≤ B 37 (dr / 5) ∧ B 37 (dr / 5) < B 3 6 ∧ dr / 5 < B 3 7)) ∧ (dr / 5 < B 3 7 → KOK (B 36 (dr / 5)) (B 7 (dr / 5))) := k7.1 (dr / 5) (by omega)
          rw [eB3, eB 7 (by decide) (by decide)] at v_x
          obtain ⟨v_k, v_w, v_o⟩ := v_x
          have r_x : dr / 5 < A 3 7 → KG (B 36 (dr / 5)) (N 25) (5 * (dr / 5)) := fun q => (PG_0 k5 (dr / 5) ⟨by omega, by rw [eB3]; exact q⟩).1
          have r_w : dr / 5 < A 3 7 → N 25 (5 * (dr / 5) + 4) = B 37 (dr / 5) := fun q => (PG_0 k5 (dr / 5) ⟨by omega, by rw [eB3]; exact q⟩).2
          have r_y : weN (N 25) (dr % 5) (N 18 5).toNat = gOn (B 37) (dr % 5) := by
            have h9 := we_eq k5 k7 (by rw [eB3]; exact w_cnt.2) (show 0 ≤ dr % 5 by omega)
            rw [eB3] at h9
            rw [g18.2]; exact h9
          have hW1 : ∀ q : Int, 0 ≤ q ∧ q < N 18 5 → -2147483648 ≤ N 25 (5 * q + 4) ∧ N 25 (5 * q + 4) < 2147483648 := fun q hq => by
            have h1 : N 25 (5 * q + 4) = B 37 q := (PG_0 k5 q ⟨hq.1, by rw [eB3]; omega⟩).2
            have h2 : B 37 q = -9 ∨ (0 ≤ B 37 q ∧ B 37 q < B 3 6 ∧ q < B 3 7) := (k7.1 q (by omega)).2.1
            rw [eB3] at h2
            omega
          have w_pd := w_per (dr % 5)
          have w_gd := w_glo (dr / 5)
          have e20d := e20 (dr % 5)
          have e21d := e21x (dr / 5)
          have e21e := e21b (dr / 5)
          refine lv_iload hx hb dX7_weeks_63 (lv_at hl 0 rfl) ?_
          refine lv_iconst (v := iI 5) hx hb dX7_weeks_65 rfl ?_
          refine r_idiv hx hb (by omega) (by decide) dX7_weeks_66 ?_
          refine lv_istore (lv' := [(5, .int (iI (dr / 5))), (4, .int (iI dr)), (3, .int (iI tt)), (2, .int (iI cc)), (0, .ref (gA g 18)), (1, .int (iI v))]) hx hb dX7_weeks_67 hl (by decide) rfl (fun ls hl => ?_)
          refine lv_iload hx hb dX7_weeks_69 (lv_at hl 1 rfl) ?_
          refine lv_iconst (v := iI 5) hx hb dX7_weeks_71 rfl ?_
          refine r_irem hx hb (by omega) (by decide) dX7_weeks_72 ?_
          refine lv_istore (lv' := [(6, .int (iI (dr % 5))), (5, .int (iI (dr / 5))), (4, .int (iI dr)), (3, .int (iI tt)), (2, .int (iI cc)), (0, .ref (gA g 18)), (1, .int (iI v))]) hx hb dX7_weeks_73 hl (by decide) rfl (fun ls hl => ?_)
          refine lv_iload hx hb dX7_weeks_75 (lv_at hl 1 rfl) ?_
          refine lv_aload_n hx hb dX7_weeks_77 rfl (lv_at hl 5 rfl) ?_
          refine r_get C hI 18 (by decide) rfl rfl hin7 5 (by decide) (fn := "gloves") (fd := "I") (index := 61) (by decide +kernel) ⟨rfl, rfl, rfl⟩ (v := .int (iI (N 18 5))) rfl dX7_weeks_78 ?_
          refine r_eqI (z2 := N 18 5) (by first | rfl | (repeat first | rw [mset_s, rw1_s] | rw [mset_s, rw1_n _ _ (by omega)] | rw [mset_n _ _ _ (by decide)])) ?_
          refine r_icmp_ge hx hb (tgt := 155) (by omega) (by omega) dX7_weeks_81 (by decide) (fun c_3 => ?_) (fun c_3 => ?_)
          · refine lv_iinc (v := iI (tt + 1)) (lv' := [(3, .int (iI (tt + 1))), (6, .int (iI (dr % 5))), (5, .int (iI (dr / 5))), (4, .int (iI dr)), (2, .int (iI cc)), (0, .ref (gA g 18)), (1, .int (iI v))]) hx hb dX7_weeks_155 hl (k := 3) rfl (iI_add _ _) (by decide) rfl (fun ls hl => ?_)
            refine lv_goto (tgt := 28) hx hb dX7_weeks_158 (by decide) ?_
            exact ih28 (tt + 1) cc (mset N 18 22 (((N 18 22) * 6364136223846793005) + 1442695040888963407)) (jj + 1) (by omega) (by first | exact fun c h1 h2 => by (rw [mset_n _ _ _ h1]; exact k2 c h1 h2) | exact fun c h1 h2 => by (rw [q_2.2.1 c h2, mset_n _ _ _ h1]; exact k2 c h1 h2)) (by first | exact fun q h1 h2 => by (rw [mset_s, rw1_n _ _ h2]; exact k3 q h1 h2) | exact fun q h1 h2 => by (rw [q_2.2.1 18 (by decide), mset_s, rw1_n _ _ h2]; exact k3 q h1 h2)) (by first | (rw [eS, mset_s, rw1_s]; done) | (rw [eS, q_2.2.1 18 (by decide), mset_s, rw1_s])) (by first | (rw [eW, plM_no (by rw [oB ()]; omega)]; exact PG_sd k5) | (rw [eW]; exact PG_hand (PG_sd k5) (by omega) (by show B 3 7 ≤ 4; rw [eB3]; omega) (fun c hc => plM_n hc) (by rw [plM_ok hok, mset_s] <;> try rfl) (by rw [← eB 4 (by decide) (by decide), ← eB 7 (by decide) (by decide)] at v4; exact v4) (fun j hj => (q_2.2.2.2 j hj).trans rfl))) (by first | (rw [eC (), if_neg (fun q => (show ¬ okP (sdM B) (dr / 5) (dr % 5) by rw [oB ()]; omega) q.1)]; exact k6) | (rw [eC (), if_pos ⟨hok, (show repO (B 8 (dr / 5)) (B 36 (dr / 5)) (B 4 (dr % 5)) = B 5 (dr % 5) by rw [eB 8 (by decide) (by decide), eB 4 (by decide) (by decide), eB 5 (by decide) (by decide)]; omega)⟩, k6]) | (rw [eC (), if_neg (fun q => (show ¬ repO (B 8 (dr / 5)) (B 36 (dr / 5)) (B 4 (dr % 5)) = B 5 (dr % 5) by rw [eB 8 (by decide) (by decide), eB 4 (by decide) (by decide), eB 5 (by decide) (by decide)]; omega) q.2), k6]; omega)) (by first | (rw [eW, plM_no (by rw [oB ()]; omega)]; exact VM_sd k7) | (rw [eW]; exact VM_k (VM_sd k7) (by omega) (plM_n (by decide)) (plM_n (by decide)) (by rw [plM_ok hok, mset_s] <;> try rfl) (plM_n (by decide)) (show KOK (behO (B 36 (dr / 5)) (B 4 (dr % 5)) (B 7 (dr / 5))) (B 7 (dr / 5)) by rw [eB 4 (by decide) (by decide), eB 7 (by decide) (by decide)]; exact KOK_beh (v_o (by omega)) (w_gd (by omega)).1 (w_pd (by omega)).1))) (by omega) _ _ hI ls (lv_sub hl [0, 4, 5, 6] rfl)
          · refine lv_iload hx hb dX7_weeks_84 (lv_at hl 0 rfl) ?_
            refine lv_aload_n hx hb dX7_weeks_86 rfl (lv_at hl 5 rfl) ?_
            refine r_get C hI 18 (by decide) rfl rfl hin7 4 (by decide) (fn := "people") (fd := "I") (index := 54) (by decide +kernel) ⟨rfl, rfl, rfl⟩ (v := .int (iI (N 18 4))) rfl dX7_weeks_87 ?_
            refine r_eqI (z2 := N 18 4) (by first | rfl | (repeat first | rw [mset_s, rw1_s] | rw [mset_s, rw1_n _ _ (by omega)] | rw [mset_n _ _ _ (by decide)])) ?_
            refine r_icmp_ge hx hb (tgt := 155) (by omega) (by omega) dX7_weeks_90 (by decide) (fun c_4 => ?_) (fun c_4 => ?_)
            · refine lv_iinc (v := iI (tt + 1)) (lv' := [(3, .int (iI (tt + 1))), (6, .int (iI (dr % 5))), (5, .int (iI (dr / 5))), (4, .int (iI dr)), (2, .int (iI cc)), (0, .ref (gA g 18)), (1, .int (iI v))]) hx hb dX7_weeks_155 hl (k := 3) rfl (iI_add _ _) (by decide) rfl (fun ls hl => ?_)
              refine lv_goto (tgt := 28) hx hb dX7_weeks_158 (by decide) ?_
              exact ih28 (tt + 1) cc (mset N 18 22 (((N 18 22) * 6364136223846793005) + 1442695040888963407)) (jj + 1) (by omega) (by first | exact fun c h1 h2 => by (rw [mset_n _ _ _ h1]; exact k2 c h1 h2) | exact fun c h1 h2 => by (rw [q_2.2.1 c h2, mset_n _ _ _ h1]; exact k2 c h1 h2)) (by first | exact fun q h1 h2 => by (rw [mset_s, rw1_n _ _ h2]; exact k3 q h1 h2) | exact fun q h1 h2 => by (rw [q_2.2.1 18 (by decide), mset_s, rw1_n _ _ h2]; exact k3 q h1 h2)) (by first | (rw [eS, mset_s, rw1_s]; done) | (rw [eS, q_2.2.1 18 (by decide), mset_s, rw1_s])) (by first | (rw [eW, plM_no (by rw [oB ()]; omega)]; exact PG_sd k5) | (rw [eW]; exact PG_hand (PG_sd k5) (by omega) (by show B 3 7 ≤ 4; rw [eB3]; omega) (fun c hc => plM_n hc) (by rw [plM_ok hok, mset_s] <;> try rfl) (by rw [← eB 4 (by decide) (by decide), ← eB 7 (by decide) (by decide)] at v4; exact v4) (fun j hj => (q_2.2.2.2 j hj).trans rfl))) (by first | (rw [eC (), if_neg (fun q => (show ¬ okP (sdM B) (dr / 5) (dr % 5) by rw [oB ()]; omega) q.1)]; exact k6) | (rw [eC (), if_pos ⟨hok, (show repO (B 8 (dr / 5)) (B 36 (dr / 5)) (B 4 (dr % 5)) = B 5 (dr % 5) by rw [eB 8 (by decide) (by decide), eB 4 (by decide) (by decide), eB 5 (by decide) (by decide)]; omega)⟩, k6]) | (rw [eC (), if_neg (fun q => (show ¬ repO (B 8 (dr / 5)) (B 36 (dr / 5)) (B 4 (dr % 5)) = B 5 (dr % 5) by rw [eB 8 (by decide) (by decide), eB 4 (by decide) (by decide), eB 5 (by decide) (by decide)]; omega) q.2), k6]; omega)) (by first | (rw [eW, plM_no (by rw [oB ()]; omega)]; exact VM_sd k7) | (rw [eW]; exact VM_k (VM_sd k7) (by omega) (plM_n (by decide)) (plM_n (by decide)) (by rw [plM_ok hok, mset_s] <;> try rfl) (plM_n (by decide)) (show KOK (behO (B 36 (dr / 5)) (B 4 (dr % 5)) (B 7 (dr / 5))) (B 7 (dr / 5)) by rw [eB 4 (by decide) (by decide), eB 7 (by decide) (by decide)]; exact KOK_beh (v_o (by omega)) (w_gd (by omega)).1 (w_pd (by omega)).1))) (by omega) _ _ hI ls (lv_sub hl [0, 4, 5, 6] rfl)
            · refine lv_aload_n hx hb dX7_weeks_93 rfl (lv_at hl 5 rfl) ?_
              refine lv_aload_n hx hb dX7_weeks_94 rfl (lv_at hl 5 rfl) ?_
              refine r_get C hI 18 (by decide) rfl rfl hin7 13 (by decide) (fn := "trial") (fd := "[I") (index := 28) (by decide +kernel) ⟨rfl, rfl, rfl⟩ (v := .ref (gA g 25)) rfl dX7_weeks_95 ?_
              refine lv_iload hx hb dX7_weeks_98 (lv_at hl 1 rfl) ?_
              refine r_iv C hI (As := [.ref (gA g 25), .int (iI (dr / 5))]) (rest := []) (c_X7_isWorn_25 l g (mset N 18 22 (((N 18 22) * 6364136223846793005) + 1442695040888963407)) (dr / 5) (by omega) (show -2147483648 ≤ (N 25 (5 * (dr / 5) + 4)) ∧ (N 25 (5 * (dr / 5) + 4)) < 2147483648 from by omega)) (cwV 2 hts gX7_weeks_X7_isWorn rfl rfl rfl (by decide +kernel) ⟨Nat.le_of_ble_eq_true rfl, Nat.le_of_ble_eq_true rfl⟩) (by decide) rfl rfl rfl hl.1 rfl (Nat.le_of_ble_eq_true rfl) dX7_weeks_100 ⟨Nat.zero_le _, Nat.zero_le _⟩ (k_I (fun H locs hI => ?_))
              refine r_eqI (z2 := bI (¬ (N 25 (5 * (dr / 5) + 4)) = -9)) rfl ?_
              refine r_b_ne hx hb (tgt := 155) dX7_weeks_103 (by decide) (fun c_5 => ?_) (fun c_5 => ?_)
              · refine lv_iinc (v := iI (tt + 1)) (lv' := [(3, .int (iI (tt + 1))), (6, .int (iI (dr % 5))), (5, .int (iI (dr / 5))), (4, .int (iI dr)), (2, .int (iI cc)), (0, .ref (gA g 18)), (1, .int (iI v))]) hx hb dX7_weeks_155 hl (k := 3) rfl (iI_add _ _) (by decide) rfl (fun ls hl => ?_)
                refine lv_goto (tgt := 28) hx hb dX7_weeks_158 (by decide) ?_
                exact ih28 (tt + 1) cc (mset N 18 22 (((N 18 22) * 6364136223846793005) + 1442695040888963407)) (jj + 1) (by omega) (by first | exact fun c h1 h2 => by (rw [mset_n _ _ _ h1]; exact k2 c h1 h2) | exact fun c h1 h2 => by (rw [q_2.2.1 c h2, mset_n _ _ _ h1]; exact k2 c h1 h2)) (by first | exact fun q h1 h2 => by (rw [mset_s, rw1_n _ _ h2]; exact k3 q h1 h2) | exact fun q h1 h2 => by (rw [q_2.2.1 18 (by decide), mset_s, rw1_n _ _ h2]; exact k3 q h1 h2)) (by first | (rw [eS, mset_s, rw1_s]; done) | (rw [eS, q_2.2.1 18 (by decide), mset_s, rw1_s])) (by first | (rw [eW, plM_no (by rw [oB ()]; omega)]; exact PG_sd k5) | (rw [eW]; exact PG_hand (PG_sd k5) (by omega) (by show B 3 7 ≤ 4; rw [eB3]; omega) (fun c hc => plM_n hc) (by rw [plM_ok hok, mset_s] <;> try rfl) (by rw [← eB 4 (by decide) (by decide), ← eB 7 (by decide) (by decide)] at v4; exact v4) (fun j hj => (q_2.2.2.2 j hj).trans rfl))) (by first | (rw [eC (), if_neg (fun q => (show ¬ okP (sdM B) (dr / 5) (dr % 5) by rw [oB ()]; omega) q.1)]; exact k6) | (rw [eC (), if_pos ⟨hok, (show repO (B 8 (dr / 5)) (B 36 (dr / 5)) (B 4 (dr % 5)) = B 5 (dr % 5) by rw [eB 8 (by decide) (by decide), eB 4 (by decide) (by decide), eB 5 (by decide) (by decide)]; omega)⟩, k6]) | (rw [eC (), if_neg (fun q => (show ¬ repO (B 8 (dr / 5)) (B 36 (dr / 5)) (B 4 (dr % 5)) = B 5 (dr % 5) by rw [eB 8 (by decide) (by decide), eB 4 (by decide) (by decide), eB 5 (by decide) (by decide)]; omega) q.2), k6]; omega)) (by first | (rw [eW, plM_no (by rw [oB ()]; omega)]; exact VM_sd k7) | (rw [eW]; exact VM_k (VM_sd k7) (by omega) (plM_n (by decide)) (plM_n (by decide)) (by rw [plM_ok hok, mset_s] <;> try rfl) (plM_n (by decide)) (show KOK (behO (B 36 (dr / 5)) (B 4 (dr % 5)) (B 7 (dr / 5))) (B 7 (dr / 5)) by rw [eB 4 (by decide) (by decide), eB 7 (by decide) (by decide)]; exact KOK_beh (v_o (by omega)) (w_gd (by omega)).1 (w_pd (by omega)).1))) (by omega) _ _ hI ls (lv_sub hl [0, 4, 5, 6] rfl)
              · refine lv_aload_n hx hb dX7_weeks_106 rfl (lv_at hl 5 rfl) ?_
                refine lv_aload_n hx hb dX7_weeks_107 rfl (lv_at hl 5 rfl) ?_
                refine r_get C hI 18 (by decide) rfl rfl hin7 13 (by decide) (fn := "trial") (fd := "[I") (index := 28) (by decide +kernel) ⟨rfl, rfl, rfl⟩ (v := .ref (gA g 25)) rfl dX7_weeks_108 ?_
                refine lv_iload hx hb dX7_weeks_111 (lv_at hl 0 rfl) ?_
                refine r_iv C hI (As := [.ref (gA g 25), .int (iI (dr % 5))]) (rest := []) (c_X7_wears_25 l g (mset N 18 22 (((N 18 22) * 6364136223846793005) + 1442695040888963407)) (dr % 5) (by omega) (show 0 ≤ (N 18 5) ∧ (N 18 5) ≤ 4 from by omega) hW1) (cwV 2 hts gX7_weeks_X7_wears rfl rfl rfl (by decide +kernel) ⟨Nat.le_of_ble_eq_true rfl, Nat.le_of_ble_eq_true rfl⟩) (by decide) rfl rfl rfl hl.1 rfl (Nat.le_of_ble_eq_true rfl) dX7_weeks_113 ⟨Nat.zero_le _, Nat.zero_le _⟩ (k_I (fun H locs hI => ?_))
                refine r_eqI (z2 := weN (N 25) (dr % 5) (N 18 5).toNat) rfl ?_
                have ff_1 := weN_b (N 25) (dr % 5) (N 18 5).toNat
                refine lv_bipush (v := iI (-9)) hx hb dX7_weeks_116 (by decide +kernel) ?_
                refine r_icmp_ne hx hb (tgt := 155) (by omega) (by decide) dX7_weeks_118 (by decide) (fun c_6 => ?_) (fun c_6 => ?_)
                · refine lv_iinc (v := iI (tt + 1)) (lv' := [(3, .int (iI (tt + 1))), (6, .int (iI (dr % 5))), (5, .int (iI (dr / 5))), (4, .int (iI dr)), (2, .int (iI cc)), (0, .ref (gA g 18)), (1, .int (iI v))]) hx hb dX7_weeks_155 hl (k := 3) rfl (iI_add _ _) (by decide) rfl (fun ls hl => ?_)
                  refine lv_goto (tgt := 28) hx hb dX7_weeks_158 (by decide) ?_
                  exact ih28 (tt + 1) cc (mset N 18 22 (((N 18 22) * 6364136223846793005) + 1442695040888963407)) (jj + 1) (by omega) (by first | exact fun c h1 h2 => by (rw [mset_n _ _ _ h1]; exact k2 c h1 h2) | exact fun c h1 h2 => by (rw [q_2.2.1 c h2, mset_n _ _ _ h1]; exact k2 c h1 h2)) (by first | exact fun q h1 h2 => by (rw [mset_s, rw1_n _ _ h2]; exact k3 q h1 h2) | exact fun q h1 h2 => by (rw [q_2.2.1 18 (by decide), mset_s, rw1_n _ _ h2]; exact k3 q h1 h2)) (by first | (rw [eS, mset_s, rw1_s]; done) | (rw [eS, q_2.2.1 18 (by decide), mset_s, rw1_s])) (by first | (rw [eW, plM_no (by rw [oB ()]; omega)]; exact PG_sd k5) | (rw [eW]; exact PG_hand (PG_sd k5) (by omega) (by show B 3 7 ≤ 4; rw [eB3]; omega) (fun c hc => plM_n hc) (by rw [plM_ok hok, mset_s] <;> try rfl) (by rw [← eB 4 (by decide) (by decide), ← eB 7 (by decide) (by decide)] at v4; exact v4) (fun j hj => (q_2.2.2.2 j hj).trans rfl))) (by first | (rw [eC (), if_neg (fun q => (show ¬ okP (sdM B) (dr / 5) (dr % 5) by rw [oB ()]; omega) q.1)]; exact k6) | (rw [eC (), if_pos ⟨hok, (show repO (B 8 (dr / 5)) (B 36 (dr / 5)) (B 4 (dr % 5)) = B 5 (dr % 5) by rw [eB 8 (by decide) (by decide), eB 4 (by decide) (by decide), eB 5 (by decide) (by decide)]; omega)⟩, k6]) | (rw [eC (), if_neg (fun q => (show ¬ repO (B 8 (dr / 5)) (B 36 (dr / 5)) (B 4 (dr % 5)) = B 5 (dr % 5) by rw [eB 8 (by decide) (by decide), eB 4 (by decide) (by decide), eB 5 (by decide) (by decide)]; omega) q.2), k6]; omega)) (by first | (rw [eW, plM_no (by rw [oB ()]; omega)]; exact VM_sd k7) | (rw [eW]; exact VM_k (VM_sd k7) (by omega) (plM_n (by decide)) (plM_n (by decide)) (by rw [plM_ok hok, mset_s] <;> try rfl) (plM_n (by decide)) (show KOK (behO (B 36 (dr / 5)) (B 4 (dr % 5)) (B 7 (dr / 5))) (B 7 (dr / 5)) by rw [eB 4 (by decide) (by decide), eB 7 (by decide) (by decide)]; exact KOK_beh (v_o (by omega)) (w_gd (by omega)).1 (w_pd (by omega)).1))) (by omega) _ _ hI ls (lv_sub hl [0, 4, 5, 6] rfl)
                · refine lv_iload_n hx hb dX7_weeks_121 rfl (lv_at hl 4 rfl) ?_
                  refine lv_aload_n hx hb dX7_weeks_122 rfl (lv_at hl 5 rfl) ?_
                  refine lv_aload_n hx hb dX7_weeks_123 rfl (lv_at hl 5 rfl) ?_
                  refine r_get C hI 18 (by decide) rfl rfl hin7 13 (by decide) (fn := "trial") (fd := "[I") (index := 28) (by decide +kernel) ⟨rfl, rfl, rfl⟩ (v := .ref (gA g 25)) rfl dX7_weeks_124 ?_
                  refine lv_iload hx hb dX7_weeks_127 (lv_at hl 1 rfl) ?_
                  refine lv_iload hx hb dX7_weeks_129 (lv_at hl 0 rfl) ?_
                  refine r_iv C hI (As := [.ref (gA g 25), .int (iI (dr / 5)), .int (iI (dr % 5))]) (rest := [.int (iI cc)]) (c_X7_goHand l g (mset N 18 22 (((N 18 22) * 6364136223846793005) + 1442695040888963407)) (dr / 5) (dr % 5) (B 36 (dr / 5)) (by omega) (by omega) (show KOK (B 36 (dr / 5)) (N 21 (3 * (dr / 5))) from by rw [e21x]; exact v_o (by omega)) v_k (show 1 ≤ (N 21 (3 * (dr / 5))) ∧ (N 21 (3 * (dr / 5))) ≤ 3 from by omega) (show -2147483648 ≤ (N 21 (3 * (dr / 5) + 1)) ∧ (N 21 (3 * (dr / 5) + 1)) < 2147483648 from by omega) (show 1 ≤ (N 20 (3 * (dr % 5))) ∧ (N 20 (3 * (dr % 5))) ≤ 7 from by omega) (r_x (by omega))) (cwV 3 hts gX7_weeks_X7_goHand rfl rfl rfl (by decide +kernel) ⟨Nat.le_of_ble_eq_true rfl, Nat.le_of_ble_eq_true rfl⟩) (by decide) rfl rfl rfl hl.1 rfl (Nat.le_of_ble_eq_true rfl) dX7_weeks_131 ⟨Nat.zero_le _, Nat.zero_le _⟩ (k_E (fun z_2 M_2 H locs q_2 hI => ?_))
                  have hok : okP (sdM B) (dr / 5) (dr % 5) := (oB ()).mpr ⟨⟨by omega, by omega⟩, by omega, by omega⟩
                  have v2 : z_2 = repO (A 8 (dr / 5)) (B 36 (dr / 5)) (A 4 (dr % 5)) := by
                    have h9 := q_2.1
                    rw [mset_n _ _ _ (by decide), mset_n _ _ _ (by decide), e21b, e20] at h9
                    exact h9
                  have v3 := repO_b (A 8 (dr / 5)) (B 36 (dr / 5)) (A 4 (dr % 5)) v_k
                  have v4 := q_2.2.2.1
                  rw [mset_n _ _ _ (by decide), mset_n _ _ _ (by decide), e21x, e20] at v4
                  have m20 : M_2 20 (3 * (dr % 5) + 1) = A 5 (dr % 5) := by rw [q_2.2.1 20 (by decide), mset_n _ _ _ (by decide), k2 20 (by decide) (by decide)]; exact (p_r _).2.1
                  refine lv_aload_n hx hb dX7_weeks_134 rfl (lv_at hl 5 rfl) ?_
                  refine r_get C hI 18 (by decide) rfl rfl hin7 6 (by decide) (fn := "person") (fd := "[I") (index := 13) (by decide +kernel) ⟨rfl, rfl, rfl⟩ (v := .ref (gA g 20)) rfl dX7_weeks_135 ?_
                  refine lv_iconst (v := iI 3) hx hb dX7_weeks_138 rfl ?_
                  refine lv_iload hx hb dX7_weeks_139 (lv_at hl 0 rfl) ?_
                  refine r_imul hx hb dX7_weeks_141 ?_
                  refine lv_iconst (v := iI 1) hx hb dX7_weeks_142 rfl ?_
                  refine r_iadd hx hb dX7_weeks_143 ?_
                  refine r_ald C hI 20 (by decide) rfl (by omega) (by decide) dX7_weeks_144 ?_
                  refine r_icmp_ne hx hb (tgt := 152) (by omega) (by omega) dX7_weeks_145 (by decide) (fun c_7 => ?_) (fun c_7 => ?_)
                  · refine lv_iconst (v := iI 0) hx hb dX7_weeks_152 rfl ?_
                    refine r_iadd hx hb dX7_weeks_153 ?_
                    refine lv_istore_n (lv' := [(2, .int (iI (cc + 0))), (6, .int (iI (dr % 5))), (5, .int (iI (dr / 5))), (4, .int (iI dr)), (3, .int (iI tt)), (0, .ref (gA g 18)), (1, .int (iI v))]) hx hb dX7_weeks_154 rfl hl (by decide) rfl (fun ls hl => ?_)
                    refine lv_iinc (v := iI (tt + 1)) (lv' := [(3, .int (iI (tt + 1))), (2, .int (iI (cc + 0))), (6, .int (iI (dr % 5))), (5, .int (iI (dr / 5))), (4, .int (iI dr)), (0, .ref (gA g 18)), (1, .int (iI v))]) hx hb dX7_weeks_155 hl (k := 4) rfl (iI_add _ _) (by decide) rfl (fun ls hl => ?_)
                    refine lv_goto (tgt := 28) hx hb dX7_weeks_158 (by decide) ?_
                    exact ih28 (tt + 1) (cc + 0) M_2 (jj + 1) (by omega) (by first | exact fun c h1 h2 => by (rw [mset_n _ _ _ h1]; exact k2 c h1 h2) | exact fun c h1 h2 => by (rw [q_2.2.1 c h2, mset_n _ _ _ h1]; exact k2 c h1 h2)) (by first | exact fun q h1 h2 => by (rw [mset_s, rw1_n _ _ h2]; exact k3 q h1 h2) | exact fun q h1 h2 => by (rw [q_2.2.1 18 (by decide), mset_s, rw1_n _ _ h2]; exact k3 q h1 h2)) (by first | (rw [eS, mset_s, rw1_s]; done) | (rw [eS, q_2.2.1 18 (by decide), mset_s, rw1_s])) (by first | (rw [eW, plM_no (by rw [oB ()]; omega)]; exact PG_sd k5) | (rw [eW]; exact PG_hand (PG_sd k5) (by omega) (by show B 3 7 ≤ 4; rw [eB3]; omega) (fun c hc => plM_n hc) (by rw [plM_ok hok, mset_s] <;> try rfl) (by rw [← eB 4 (by decide) (by decide), ← eB 7 (by decide) (by decide)] at v4; exact v4) (fun j hj => (q_2.2.2.2 j hj).trans rfl))) (by first | (rw [eC (), if_neg (fun q => (show ¬ okP (sdM B) (dr / 5) (dr % 5) by rw [oB ()]; omega) q.1)]; exact k6) | (rw [eC (), if_pos ⟨hok, (show repO (B 8 (dr / 5)) (B 36 (dr / 5)) (B 4 (dr % 5)) = B 5 (dr % 5) by rw [eB 8 (by decide) (by decide), eB 4 (by decide) (by decide), eB 5 (by decide) (by decide)]; omega)⟩, k6]) | (rw [eC (), if_neg (fun q => (show ¬ repO (B 8 (dr / 5)) (B 36 (dr / 5)) (B 4 (dr % 5)) = B 5 (dr % 5) by rw [eB 8 (by decide) (by decide), eB 4 (by decide) (by decide), eB 5 (by decide) (by decide)]; omega) q.2), k6]; omega)) (by first | (rw [eW, plM_no (by rw [oB ()]; omega)]; exact VM_sd k7) | (rw [eW]; exact VM_k (VM_sd k7) (by omega) (plM_n (by decide)) (plM_n (by decide)) (by rw [plM_ok hok, mset_s] <;> try rfl) (plM_n (by decide)) (show KOK (behO (B 36 (dr / 5)) (B 4 (dr % 5)) (B 7 (dr / 5))) (B 7 (dr / 5)) by rw [eB 4 (by decide) (by decide), eB 7 (by decide) (by decide)]; exact KOK_beh (v_o (by omega)) (w_gd (by omega)).1 (w_pd (by omega)).1))) (by omega) _ _ hI ls (lv_sub hl [0, 1, 5, 6] rfl)
                  · refine lv_iconst (v := iI 1) hx hb dX7_weeks_148 rfl ?_
                    refine lv_goto (tgt := 153) hx hb dX7_weeks_149 (by decide) ?_
                    refine r_iadd hx hb dX7_weeks_153 ?_
                    refine lv_istore_n (lv' := [(2, .int (iI (cc + 1))), (6, .int (iI (dr % 5))), (5, .int (iI (dr / 5))), (4, .int (iI dr)), (3, .int (iI tt)), (0, .ref (gA g 18)), (1, .int (iI v))]) hx hb dX7_weeks_154 rfl hl (by decide) rfl (fun ls hl => ?_)
                    refine lv_iinc (v := iI (tt + 1)) (lv' := [(3, .int (iI (tt + 1))), (2, .int (iI (cc + 1))), (6, .int (iI (dr % 5))), (5, .int (iI (dr / 5))), (4, .int (iI dr)), (0, .ref (gA g 18)), (1, .int (iI v))]) hx hb dX7_weeks_155 hl (k := 4) rfl (iI_add _ _) (by decide) rfl (fun ls hl => ?_)
                    refine lv_goto (tgt := 28) hx hb dX7_weeks_158 (by decide) ?_
                    exact ih28 (tt + 1) (cc + 1) M_2 (jj + 1) (by omega) (by first | exact fun c h1 h2 => by (rw [mset_n _ _ _ h1]; exact k2 c h1 h2) | exact fun c h1 h2 => by (rw [q_2.2.1 c h2, mset_n _ _ _ h1]; exact k2 c h1 h2)) (by first | exact fun q h1 h2 => by (rw [mset_s, rw1_n _ _ h2]; exact k3 q h1 h2) | exact fun q h1 h2 => by (rw [q_2.2.1 18 (by decide), mset_s, rw1_n _ _ h2]; exact k3 q h1 h2)) (by first | (rw [eS, mset_s, rw1_s]; done) | (rw [eS, q_2.2.1 18 (by decide), mset_s, rw1_s])) (by first | (rw [eW, plM_no (by rw [oB ()]; omega)]; exact PG_sd k5) | (rw [eW]; exact PG_hand (PG_sd k5) (by omega) (by show B 3 7 ≤ 4; rw [eB3]; omega) (fun c hc => plM_n hc) (by rw [plM_ok hok, mset_s] <;> try rfl) (by rw [← eB 4 (by decide) (by decide), ← eB 7 (by decide) (by decide)] at v4; exact v4) (fun j hj => (q_2.2.2.2 j hj).trans rfl))) (by first | (rw [eC (), if_neg (fun q => (show ¬ okP (sdM B) (dr / 5) (dr % 5) by rw [oB ()]; omega) q.1)]; exact k6) | (rw [eC (), if_pos ⟨hok, (show repO (B 8 (dr / 5)) (B 36 (dr / 5)) (B 4 (dr % 5)) = B 5 (dr % 5) by rw [eB 8 (by decide) (by decide), eB 4 (by decide) (by decide), eB 5 (by decide) (by decide)]; omega)⟩, k6]) | (rw [eC (), if_neg (fun q => (show ¬ repO (B 8 (dr / 5)) (B 36 (dr / 5)) (B 4 (dr % 5)) = B 5 (dr % 5) by rw [eB 8 (by decide) (by decide), eB 4 (by decide) (by decide), eB 5 (by decide) (by decide)]; omega) q.2), k6]; omega)) (by first | (rw [eW, plM_no (by rw [oB ()]; omega)]; exact VM_sd k7) | (rw [eW]; exact VM_k (VM_sd k7) (by omega) (plM_n (by decide)) (plM_n (by decide)) (by rw [plM_ok hok, mset_s] <;> try rfl) (plM_n (by decide)) (show KOK (behO (B 36 (dr / 5)) (B 4 (dr % 5)) (B 7 (dr / 5))) (B 7 (dr / 5)) by rw [eB 4 (by decide) (by decide), eB 7 (by decide) (by decide)]; exact KOK_beh (v_o (by omega)) (w_gd (by omega)).1 (w_pd (by omega)).1))) (by omega) _ _ hI ls (lv_sub hl [0, 1, 5, 6] rfl)
    exact lp28 _ 0 0 M_1 0 (by omega) (by exact fun c h1 h2 => by rw [q_1, cpA_n h2, mset_n _ _ _ h1]) (by exact fun q h1 h2 => by rw [q_1, cpA_n (by decide), mset_s, rw1_n _ _ h1]) (by (rw [q_1, cpA_n (by decide), mset_s, rw1_n _ _ (by decide), sd]; show A 0 8 = cpM A 32 35 0 8; rw [cpM_n (by decide)])) (by (rw [q_1]; exact PG_tri (M := mset M 18 0 0) pgn w_cnt.2.2)) (by rfl) (by exact VM_tri w_now) (Nat.lt_succ_self _) _ _ hI ls (lv_sub hl [0, 1, 2, 3] rfl)
  · refine lv_bipush (v := iI (-2)) hx hb dX7_weeks_17 (by decide +kernel) ?_
    refine r_iret C hr hlk hI ?_ dX7_weeks_19
    exact ⟨_, rfl, (show (fun z u => z = zWek A v ∧ QC M u ∧ RM (gWek A v) u) (-2) (mset M 18 0 0) from by exact ⟨(by unfold zWek; (repeat' split) <;> first | rfl | omega | (simp_all; done) | (simp_all; omega)), (by unfold gWek; rw [if_pos (by omega)]; exact RO rm0)⟩)⟩
