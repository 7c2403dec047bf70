
/-! ROWS in the order of their numbers -/
theorem pwN_nat (b : Nat) : ∀ n : Nat, pwN (b : Int) n = ((b ^ n : Nat) : Int)
  | 0 => rfl
  | n + 1 => by rw [Nat.pow_succ, Int.natCast_mul, ← pwN_nat b n]; rfl
theorem pwN_add (b : Int) (m : Nat) : ∀ n : Nat, pwN b (m + n) = pwN b m * pwN b n
  | 0 => by show pwN b m = pwN b m * 1; rw [Int.mul_one]
  | n + 1 => by
    show pwN b (m + n) * b = pwN b m * (pwN b n * b)
    rw [pwN_add b m n, Int.mul_assoc]
theorem flN_add (f : Int → List Int) (m : Nat) : ∀ n : Nat, flN f (m + n) = flN f m ++ flN (fun j => f ((m : Int) + j)) n
  | 0 => by simp [flN]
  | n + 1 => by
    show flN f (m + n) ++ f ((m + n : Nat) : Int) = flN f m ++ (flN (fun j => f ((m : Int) + j)) n ++ f ((m : Int) + (n : Int)))
    rw [flN_add f m n, List.append_assoc, Int.natCast_add]
theorem flN_mul (f : Int → List Int) (b : Nat) : ∀ a : Nat, flN f (a * b) = flN (fun i => flN (fun j => f (i * (b : Int) + j)) b) a
  | 0 => by rw [Nat.zero_mul]; rfl
  | a + 1 => by
    rw [Nat.succ_mul, flN_add, flN_mul f b a]
    show _ = flN (fun i => flN (fun j => f (i * (b : Int) + j)) b) a ++ flN (fun j => f ((a : Int) * (b : Int) + j)) b
    rw [Int.natCast_mul]
theorem flN_ext {f g : Int → List Int} : ∀ n : Nat, (∀ j : Nat, j < n → f (j : Int) = g (j : Int)) → flN f n = flN g n
  | 0, _ => rfl
  | n + 1, h => by
    unfold flN
    rw [flN_ext n (fun j hj => h j (by omega)), h n (by omega)]
theorem flN_nil {f : Int → List Int} : ∀ n : Nat, (∀ j : Nat, j < n → f (j : Int) = []) → flN f n = []
  | 0, _ => rfl
  | n + 1, h => by
    unfold flN
    rw [flN_nil n (fun j hj => h j (by omega)), h n (by omega)]; rfl
theorem flN_mid {f : Int → List Int} {P : Nat} (hP : P ≤ 9) (h0 : f 0 = []) (h1 : ∀ j : Nat, P < j → j < 10 → f (j : Int) = []) : flN f 10 = flN (fun p => f (p + 1)) P := by
  have e : (10 : Nat) = (1 + P) + (9 - P) := by omega
  rw [e, flN_add, flN_add]
  have e1 : flN f 1 = [] := by
    show [] ++ f ((0 : Nat) : Int) = []
    rw [List.nil_append]; exact h0
  have e2 : flN (fun j => f (((1 : Nat) : Int) + j)) P = flN (fun p => f (p + 1)) P := flN_ext P (fun j _ => by rw [Int.add_comm]; rfl)
  have e3 : flN (fun j => f (((1 + P : Nat) : Int) + j)) (9 - P) = [] := flN_nil _ (fun j hj => by
    have := h1 (1 + P + j) (by omega) (by omega)
    rw [Int.natCast_add] at this
    exact this)
  rw [e1, e2, e3, List.nil_append, List.append_nil]
theorem dig_low {B : Int} (hB : 1 ≤ B) (i j : Int) {t h : Nat} (ht : t < h) : (i * pwN B h + j) / pwN B t % B = j / pwN B t % B := by
  have hp := pwN_p hB t
  obtain ⟨d, rfl⟩ : ∃ d, h = t + (d + 1) := ⟨h - t - 1, by omega⟩
  have e : i * pwN B (t + (d + 1)) + j = j + (i * pwN B d * B) * pwN B t := by
    rw [pwN_add]
    show i * (pwN B t * (pwN B d * B)) + j = _
    rw [Int.mul_comm (pwN B t), ← Int.mul_assoc, ← Int.mul_assoc, Int.add_comm]
  rw [e, Int.add_mul_ediv_right _ _ (by omega), Int.add_mul_emod_self_right]
theorem dig_top {B : Int} {i j : Int} {h : Nat} (hi : 0 ≤ i ∧ i < B) (hj : 0 ≤ j ∧ j < pwN B h) : (i * pwN B h + j) / pwN B h % B = i := by
  rw [Int.add_comm, Int.add_mul_ediv_right _ _ (by omega), Int.ediv_eq_zero_of_lt hj.1 hj.2, Int.zero_add, Int.emod_eq_of_lt hi.1 hi.2]
/-- a round, of h more hands, by the row's figures -/
def rdB (own : Int → Int) (P kd rm : Int) : Nat → Int → Int → Int → Int → Bool
  | 0, _, _, _, _ => true
  | h + 1, k, b, pre, row => decide ((1 ≤ row / pwN 10 h % 10 ∧ row / pwN 10 h % 10 ≤ P) ∧ ¬ hfO pre.toNat pre (row / pwN 10 h % 10) = true ∧ ¬ repO kd k (own (row / pwN 10 h % 10 - 1)) = b) && rdB own P kd rm h (behO k (own (row / pwN 10 h % 10 - 1)) rm) (repO kd k (own (row / pwN 10 h % 10 - 1))) (pre * 10 + row / pwN 10 h % 10) row
theorem rdB_ext {own : Int → Int} {P kd rm : Int} : ∀ (h : Nat) (k b pre r r' : Int), (∀ t : Nat, t < h → r / pwN 10 t % 10 = r' / pwN 10 t % 10) → rdB own P kd rm h k b pre r = rdB own P kd rm h k b pre r'
  | 0, _, _, _, _, _, _ => rfl
  | h + 1, k, b, pre, r, r', e => by
    unfold rdB
    rw [e h (by omega), rdB_ext h _ _ _ r r' (fun t ht => e t (by omega))]
theorem rl_eq {own : Int → Int} {P : Nat} {kd rm : Int} (hP : P ≤ 9) : ∀ (h : Nat) (k b pre : Int), flN (fun s => if rdB own P kd rm h k b pre s = true then [pre * pwN 10 h + s] else []) (10 ^ h) = rlO own P kd rm h k b pre
  | 0, k, b, pre => by
    show [] ++ (if true = true then [pre * 1 + ((0 : Nat) : Int)] else []) = [pre]
    rw [if_pos rfl, List.nil_append, Int.mul_one]
    show [pre + 0] = [pre]
    rw [Int.add_zero]
  | h + 1, k, b, pre => by
    have e10 : (10 ^ (h + 1) : Nat) = 10 * 10 ^ h := by rw [Nat.pow_succ, Nat.mul_comm]
    have en : ((10 ^ h : Nat) : Int) = pwN 10 h := (pwN_nat 10 h).symm
    rw [e10, flN_mul]
    have inner : ∀ i : Nat, i < 10 → flN (fun j => if rdB own P kd rm (h + 1) k b pre ((i : Int) * ((10 ^ h : Nat) : Int) + j) = true then [pre * pwN 10 (h + 1) + ((i : Int) * ((10 ^ h : Nat) : Int) + j)] else []) (10 ^ h) = if (1 ≤ (i : Int) ∧ (i : Int) ≤ P) ∧ ¬ hfO pre.toNat pre (i : Int) = true ∧ ¬ repO kd k (own ((i : Int) - 1)) = b then rlO own P kd rm h (behO k (own ((i : Int) - 1)) rm) (repO kd k (own ((i : Int) - 1))) (pre * 10 + (i : Int)) else [] := by
      intro i hi
      have key : ∀ j : Nat, j < 10 ^ h → rdB own P kd rm (h + 1) k b pre ((i : Int) * ((10 ^ h : Nat) : Int) + (j : Int)) = (decide ((1 ≤ (i : Int) ∧ (i : Int) ≤ P) ∧ ¬ hfO pre.toNat pre (i : Int) = true ∧ ¬ repO kd k (own ((i : Int) - 1)) = b) && rdB own P kd rm h (behO k (own ((i : Int) - 1)) rm) (repO kd k (own ((i : Int) - 1))) (pre * 10 + (i : Int)) (j : Int)) := by
        intro j hj
        have hj2 : (j : Int) < pwN 10 h := by rw [← en]; exact Int.ofNat_lt.mpr hj
        rw [en]
        have et := dig_top (B := 10) (i := (i : Int)) (j := (j : Int)) (h := h) (by omega) ⟨by omega, hj2⟩
        show (decide _ && rdB own P kd rm h _ _ _ _) = _
        rw [et, rdB_ext h _ _ _ _ (j : Int) (fun t ht => dig_low (by decide) _ _ ht)]
      by_cases hc : (1 ≤ (i : Int) ∧ (i : Int) ≤ P) ∧ ¬ hfO pre.toNat pre (i : Int) = true ∧ ¬ repO kd k (own ((i : Int) - 1)) = b
      · rw [if_pos hc, ← rl_eq hP h]
        refine flN_ext _ (fun j hj => ?_)
        rw [key j hj, decide_eq_true hc, Bool.true_and]
        have e2 : pre * pwN 10 (h + 1) + ((i : Int) * ((10 ^ h : Nat) : Int) + (j : Int)) = (pre * 10 + (i : Int)) * pwN 10 h + (j : Int) := by
          rw [en]
          show pre * (pwN 10 h * 10) + _ = _
          rw [Int.mul_comm (pwN 10 h), ← Int.mul_assoc, Int.add_mul, Int.add_assoc]
        rw [e2]
      · rw [if_neg hc]
        refine flN_nil _ (fun j hj => ?_)
        rw [key j hj, decide_eq_false hc, Bool.false_and]
        rfl
    rw [flN_ext (g := fun i => if (1 ≤ i ∧ i ≤ P) ∧ ¬ hfO pre.toNat pre i = true ∧ ¬ repO kd k (own (i - 1)) = b then rlO own P kd rm h (behO k (own (i - 1)) rm) (repO kd k (own (i - 1))) (pre * 10 + i) else []) 10 inner, flN_mid hP]
    · have er : rlO own P kd rm (h + 1) k b pre = flN (rlS own kd rm (rlO own P kd rm h) k b pre) (P : Int).toNat := rfl
      rw [er, Int.toNat_natCast]
      refine flN_ext _ (fun j hj => ?_)
      show _ = rlS own kd rm (rlO own P kd rm h) k b pre (j : Int)
      unfold rlS
      have e1 : (j : Int) + 1 - 1 = (j : Int) := by omega
      rw [e1, Int.add_assoc]
      by_cases hc : ¬ repO kd k (own (j : Int)) = b ∧ ¬ hfO pre.toNat pre ((j : Int) + 1) = true
      · rw [if_pos hc, if_pos ⟨by omega, hc.2, hc.1⟩]
      · rw [if_neg hc, if_neg (fun q => hc ⟨q.2.2, q.2.1⟩)]
    · rw [if_neg (by omega)]
    · intro j h1 h2
      rw [if_neg (by omega)]
theorem hfO_fuel {f : Int} : ∀ (n m : Nat) (r : Int), r.toNat ≤ n → r.toNat ≤ m → hfO n r f = hfO m r f
  | 0, m, r, h1, h2 => by rw [hfO_0 (by omega), hfO_0 (by omega)]
  | n + 1, 0, r, h1, h2 => by rw [hfO_0 (by omega), hfO_0 (by omega)]
  | n + 1, m + 1, r, h1, h2 => by
    by_cases h : r ≤ 0
    · rw [hfO_0 h, hfO_0 h]
    · by_cases e : r % 10 = f
      · rw [hfO_1 (by omega) e, hfO_1 (by omega) e]
      · rw [hfO_2 (by omega) e, hfO_2 (by omega) e]
        exact hfO_fuel n m (r / 10) (by omega) (by omega)
/-- one more figure behind a row -/
theorem hfO_more {pre d f : Int} (h : 0 ≤ pre) (hd : 1 ≤ d ∧ d ≤ 9) : (hfO (pre * 10 + d).toNat (pre * 10 + d) f = true) ↔ (d = f ∨ hfO pre.toNat pre f = true) := by
  obtain ⟨n, hn⟩ : ∃ n, (pre * 10 + d).toNat = n + 1 := ⟨(pre * 10 + d).toNat - 1, by omega⟩
  rw [hn]
  by_cases e : (pre * 10 + d) % 10 = f
  · rw [hfO_1 (by omega) e]
    exact ⟨fun _ => Or.inl (by omega), fun _ => rfl⟩
  · rw [hfO_2 (by omega) e, show (pre * 10 + d) / 10 = pre by omega, hfO_fuel n pre.toNat pre (by omega) (Nat.le_refl _)]
    exact ⟨Or.inr, fun q => q.resolve_left (by omega)⟩
theorem bt_or : ∀ s : Fin 32, ∀ v w : Fin 5, andI (shrI (orI ((s : Nat) : Int) (shlI 1 ((v : Nat) : Int))) ((w : Nat) : Int)) 1 = (if w = v then 1 else andI (shrI ((s : Nat) : Int) ((w : Nat) : Int)) 1) ∧ 0 ≤ orI ((s : Nat) : Int) (shlI 1 ((v : Nat) : Int)) ∧ orI ((s : Nat) : Int) (shlI 1 ((v : Nat) : Int)) < 32 := by decide +kernel
theorem bt_or2 {s v w : Int} (hs : 0 ≤ s ∧ s < 32) (hv : 0 ≤ v ∧ v < 5) (hw : 0 ≤ w ∧ w < 5) : andI (shrI (orI s (shlI 1 v)) w) 1 = (if w = v then 1 else andI (shrI s w) 1) ∧ 0 ≤ orI s (shlI 1 v) ∧ orI s (shlI 1 v) < 32 := by
  obtain ⟨a, rfl⟩ : ∃ a : Nat, s = a := ⟨s.toNat, by omega⟩
  obtain ⟨b, rfl⟩ : ∃ b : Nat, v = b := ⟨v.toNat, by omega⟩
  obtain ⟨c, rfl⟩ : ∃ c : Nat, w = c := ⟨w.toNat, by omega⟩
  have h := bt_or ⟨a, by omega⟩ ⟨b, by omega⟩ ⟨c, by omega⟩
  refine ⟨?_, h.2⟩
  by_cases e : c = b
  · subst e; rw [if_pos rfl]; have h1 := h.1; rw [if_pos rfl] at h1; exact h1
  · rw [if_neg (by omega)]; have h1 := h.1; rw [if_neg (by intro q; exact e (Fin.mk.inj q))] at h1; exact h1

theorem rdB_f {own : Int → Int} {P kd rm k b pre row : Int} {h : Nat} (c : ¬ ((1 ≤ row / pwN 10 h % 10 ∧ row / pwN 10 h % 10 ≤ P) ∧ ¬ hfO pre.toNat pre (row / pwN 10 h % 10) = true ∧ ¬ repO kd k (own (row / pwN 10 h % 10 - 1)) = b)) : rdB own P kd rm (h + 1) k b pre row = false := by
  unfold rdB; rw [decide_eq_false c]; rfl
theorem rdB_t {own : Int → Int} {P kd rm k b pre row : Int} {h : Nat} (c : (1 ≤ row / pwN 10 h % 10 ∧ row / pwN 10 h % 10 ≤ P) ∧ ¬ hfO pre.toNat pre (row / pwN 10 h % 10) = true ∧ ¬ repO kd k (own (row / pwN 10 h % 10 - 1)) = b) : rdB own P kd rm (h + 1) k b pre row = rdB own P kd rm h (behO k (own (row / pwN 10 h % 10 - 1)) rm) (repO kd k (own (row / pwN 10 h % 10 - 1))) (pre * 10 + row / pwN 10 h % 10) row := by
  show (decide _ && rdB own P kd rm h _ _ _ _) = _
  rw [decide_eq_true c, Bool.true_and]
theorem shrI_n {a b : Int} (h : 0 ≤ a) : 0 ≤ shrI a b := Int.ediv_nonneg h (Int.pow_nonneg (by decide))
theorem bt_new {s pre d : Int} (hs : 0 ≤ s ∧ s < 32) (hp : 0 ≤ pre) (hd : 1 ≤ d ∧ d ≤ 5) (hB : ∀ w : Int, 0 ≤ w ∧ w < 5 → andI (shrI s w) 1 = if hfO pre.toNat pre (w + 1) = true then 1 else 0) : ∀ w : Int, 0 ≤ w ∧ w < 5 → andI (shrI (orI s (shlI 1 (d - 1))) w) 1 = if hfO (pre * 10 + d).toNat (pre * 10 + d) (w + 1) = true then 1 else 0 := by
  intro w hw
  rw [(bt_or2 hs (v := d - 1) (by omega) hw).1, hB w hw]
  have hm := @hfO_more pre d (w + 1) hp (by omega)
  by_cases e : w = d - 1
  · rw [if_pos e, if_pos (hm.mpr (Or.inl (by omega)))]
  · rw [if_neg e]
    by_cases e2 : hfO pre.toNat pre (w + 1) = true
    · rw [if_pos e2, if_pos (hm.mpr (Or.inr e2))]
    · rw [if_neg e2, if_neg (fun q => (hm.mp q).elim (fun q => e (by omega)) e2)]
/-- the list of rounds, as the reference counts them -/
theorem rd_first {own : Int → Int} {P kd rm k pre row : Int} (hk : 0 ≤ k ∧ k < 1000) : ∀ h : Nat, rdB own P kd rm h k (-9) pre row = rdB own P kd rm h k (-1) pre row
  | 0 => rfl
  | h + 1 => by
    have hb := repO_b kd k (own (row / pwN 10 h % 10 - 1)) hk
    by_cases c : (1 ≤ row / pwN 10 h % 10 ∧ row / pwN 10 h % 10 ≤ P) ∧ ¬ hfO pre.toNat pre (row / pwN 10 h % 10) = true
    · rw [rdB_t ⟨c.1, c.2, by omega⟩, rdB_t ⟨c.1, c.2, by omega⟩]
    · rw [rdB_f (fun q => c ⟨q.1, q.2.1⟩), rdB_f (fun q => c ⟨q.1, q.2.1⟩)]
def rdL (own : Int → Int) (P kd rm k : Int) : Int → List Int := fun row => if rdB own P kd rm P.toNat k (-9) 0 row = true then [row] else []
theorem rdL_eq {own : Int → Int} {P kd rm k : Int} (hP : 0 ≤ P ∧ P ≤ 9) (hk : 0 ≤ k ∧ k < 1000) : flN (rdL own P kd rm k) (10 ^ P.toNat) = rlO own P kd rm P.toNat k (-1) 0 := by
  obtain ⟨n, rfl⟩ : ∃ n : Nat, P = n := ⟨P.toNat, by omega⟩
  rw [← rl_eq (by omega)]
  refine flN_ext _ (fun j _ => ?_)
  unfold rdL
  rw [rd_first hk, Int.zero_mul, Int.zero_add]
theorem hd_app (L : List Int) (x d : Int) : (L ++ [x]).headD d = if L.length = 0 then x else L.headD d := by
  cases L <;> simp
/-- only scratch places change -/
def FR (M u : Mem) : Prop := (∀ c : Nat, c ≠ 25 → c ≠ 18 → u c = M c) ∧ ∀ q : Int, q < 23 → u 18 q = M 18 q
theorem FR.trans {M N u : Mem} (h : FR M N) (h2 : FR N u) : FR M u := ⟨fun c a b => (h2.1 c a b).trans (h.1 c a b), fun q a => (h2.2 q a).trans (h.2 q a)⟩
theorem FR_25 {M u : Mem} (h : ∀ c : Nat, c ≠ 25 → u c = M c) : FR M u := ⟨fun c a _ => h c a, fun q _ => by rw [h 18 (by decide)]⟩
theorem FR_m {M : Mem} {k z : Int} (h : 23 ≤ k) : FR M (mset M 18 k z) := ⟨fun c _ b => mset_n _ _ _ b, fun q a => by rw [mset_s, rw1_n _ _ (by omega)]⟩
theorem FR_RP {A M u : Mem} (h : FR M u) (r : RP A M) : RP A u := RP_fr r (fun _ _ _ => rfl) (h.1 20 (by decide) (by decide)) (h.1 21 (by decide) (by decide)) (h.2 4 (by decide)) (h.2 5 (by decide))
theorem RM_FR {A M u : Mem} (r : RM A M) (h : FR (mset M 18 0 0) u) : QC M u ∧ RM A u := by
  have s : SM M u := by
    have s0 := SM_0 M
    refine ⟨fun c h1 h2 => (h.1 c h2 h1).trans (s0.1 c h1 h2), ?_, ?_, ?_, ?_, ?_, ?_⟩
    · exact (h.2 2 (by decide)).trans s0.2.1
    · exact (h.2 4 (by decide)).trans s0.2.2.1
    · exact (h.2 5 (by decide)).trans s0.2.2.2.1
    · exact (h.2 15 (by decide)).trans s0.2.2.2.2.1
    · exact (h.2 18 (by decide)).trans s0.2.2.2.2.2.1
    · exact (h.2 22 (by decide)).trans s0.2.2.2.2.2.2
  exact ⟨SM_QC s, SM_RM s r⟩
set_option maxHeartbeats 4000000 in
set_option maxRecDepth 100000 in
theorem c_X7_isRound (l : Launch) (g : GT) (M : Mem) (x : Int) (row : Int) (A : Mem) (wf : WF A) (rp : RP A M) (hxg : 0 ≤ x ∧ x < A 3 7) (hg : KG (A 33 x) (M 24) (5 * x)) (h0 : 0 ≤ row ∧ row < 100000) : Ctr l g yX7_isRound wsX7_isRound ({ frames := 3, cells := 0, slots := 0, locals := 70 } : Room) [.ref (gA g 18), .int (iI x), .int (iI row)] M (pE (fun z u => z = bI (rdB (A 4) (A 3 6) (A 8 x) (A 7 x) (A 3 6).toNat (A 33 x) (-9) 0 row = true) ∧ ∀ c : Nat, c ≠ 25 → u c = M c)) := by
  refine Ctr.mk (cc := cX7_isRound) (maxL := 9) (ret := some .boolean) (lv := [(0, .ref (gA g 18)), (1, .int (iI x)), (2, .int (iI row))]) (by decide) rfl (Nat.le_of_ble_eq_true rfl) rfl ?_
  intro p e s m below meth c C hr hlk hI ls hl
  have C : CallFix p m c cX7_isRound 9 s ([.ref (gA g 18), .int (iI x), .int (iI row)] : List Value).toArray wsX7_isRound RX7 := C
  have hx := C.1
  have hb := C.2.1
  have hts := C.2.2.2.2
  have hin7 : ∀ w ∈ u_ws RX7 TX7 31, w ∈ wsX7_isRound := by decide +kernel
  have wf0 := wf
  have rp0 := rp
  obtain ⟨w_txt, hL, w_cnt, w_per, w_glo, w_now, w_act, w_rng, w_slo, w_see, w_sa⟩ := wf
  obtain ⟨⟨p_p, p_g⟩, p_r, g_r⟩ := rp
  have w_gx := w_glo x hxg
  have w_k : KOK (A 33 x) (A 7 x) := (w_now.1 x (by omega)).2.2 hxg.2
  have w_own : ∀ q : Int, 0 ≤ q ∧ q < A 3 6 → 1 ≤ A 4 q ∧ A 4 q ≤ 7 := fun q hq => (w_per q hq).1
  refine lv_aload_n hx hb dX7_isRound_0 rfl (lv_at hl 0 rfl) ?_
  refine r_iv C hI (As := []) (rest := []) (c_X7_begin l g M) (cwV 0 hts gX7_isRound_X7_begin rfl rfl rfl (by decide +kernel) ⟨Nat.le_of_ble_eq_true rfl, Nat.le_of_ble_eq_true rfl⟩) (by decide) rfl rfl rfl hl.1 rfl (Nat.le_of_ble_eq_true rfl) dX7_isRound_1 ⟨Nat.zero_le _, Nat.zero_le _⟩ (k_X (fun M_1 H locs q_1 hI => ?_))
  refine lv_iconst (v := iI 0) hx hb dX7_isRound_4 rfl ?_
  refine lv_istore_n (lv' := [(3, .int (iI 0)), (0, .ref (gA g 18)), (1, .int (iI x)), (2, .int (iI row))]) hx hb dX7_isRound_5 rfl hl (by decide) rfl (fun ls hl => ?_)
  refine lv_bipush (v := iI (-9)) hx hb dX7_isRound_6 (by decide +kernel) ?_
  refine lv_istore (lv' := [(4, .int (iI (-9))), (3, .int (iI 0)), (0, .ref (gA g 18)), (1, .int (iI x)), (2, .int (iI row))]) hx hb dX7_isRound_8 hl (by decide) rfl (fun ls hl => ?_)
  refine lv_iconst (v := iI 1) hx hb dX7_isRound_10 rfl ?_
  refine lv_istore (lv' := [(5, .int (iI 1)), (4, .int (iI (-9))), (3, .int (iI 0)), (0, .ref (gA g 18)), (1, .int (iI x)), (2, .int (iI row))]) hx hb dX7_isRound_11 hl (by decide) rfl (fun ls hl => ?_)
  have e18a : M_1 18 4 = A 3 6 := by rw [q_1, cpA_n (by decide)]; exact p_p
  refine lv_aload_n hx hb dX7_isRound_13 rfl (lv_at hl 3 rfl) ?_
  refine r_get C hI 18 (by decide) rfl rfl hin7 4 (by decide) (fn := "people") (fd := "I") (index := 54) (by decide +kernel) ⟨rfl, rfl, rfl⟩ (v := .int (iI (M_1 18 4))) rfl dX7_isRound_14 ?_
  refine lv_iconst (v := iI 1) hx hb dX7_isRound_17 rfl ?_
  refine r_isub hx hb dX7_isRound_18 ?_
  refine lv_istore (lv' := [(6, .int (iI ((M_1 18 4) - 1))), (5, .int (iI 1)), (4, .int (iI (-9))), (3, .int (iI 0)), (0, .ref (gA g 18)), (1, .int (iI x)), (2, .int (iI row))]) hx hb dX7_isRound_19 hl (by decide) rfl (fun ls hl => ?_)
  have lp21 : ∀ (n21 : Nat) (kk : Int) (ii : Int) (bb : Int) (ss : Int) (ND : Mem) (jj : Nat) (kc : Int) (pre : Int), ((kk = A 3 6 - 1 - (jj : Int) ∧ (jj : Int) ≤ A 3 6) ∧ (-9 ≤ bb ∧ bb ≤ 9)) → (ii = 0 ∨ ii = 1) → (∀ c : Nat, c ≠ 25 → ND c = M c) → ((ii = 1 ∧ (0 ≤ ss ∧ ss < 32) ∧ 0 ≤ pre ∧ KOK kc (A 7 x) ∧ KG kc (ND 25) (5 * x) ∧ (∀ w : Int, 0 ≤ w ∧ w < 5 → andI (shrI ss w) 1 = if hfO pre.toNat pre (w + 1) = true then 1 else 0) ∧ rdB (A 4) (A 3 6) (A 8 x) (A 7 x) ((A 3 6).toNat - jj) kc bb pre row = rdB (A 4) (A 3 6) (A 8 x) (A 7 x) (A 3 6).toNat (A 33 x) (-9) 0 row) ∨ (ii = 0 ∧ rdB (A 4) (A 3 6) (A 8 x) (A 7 x) (A 3 6).toNat (A 33 x) (-9) 0 row = false)) → (A 3 6).toNat - jj < n21 → ∀ (H : Heap) (locs : List Loc), HI g s H locs ND → ∀ ls : Array Slot, lv_has ls 9 [(6, .int (iI kk)), (5, .int (iI ii)), (4, .int (iI bb)), (3, .int (iI ss)), (0, .ref (gA g 18)), (1, .int (iI x)), (2, .int (iI row))] → W p l e ({ frames := 3, cells := 0, slots := 0, locals := 70 } : Room) s m ([.ref (gA g 18), .int (iI x), .int (iI row)] : List Value).toArray below meth c H locs 0 0 (MQ below (QV g (pE (fun z u => z = bI (rdB (A 4) (A 3 6) (A 8 x) (A 7 x) (A 3 6).toNat (A 33 x) (-9) 0 row = true) ∧ ∀ c : Nat, c ≠ 25 → u c = M c))) ([.ref (gA g 18), .int (iI x), .int (iI row)] : List Value).toArray s 0 0 (AA g)) (F0 m 21 ls []) := by
    intro n21
    induction n21 with
    | zero => intro kk ii bb ss ND jj kc pre h1 h3 hN h2 hn21; exact absurd hn21 (Nat.not_lt_zero _)
    | succ n21 ih21 =>
      intro kk ii bb ss ND jj kc pre h1 h3 hN h2 hn21 H locs hI ls hl
      have e20 : ∀ q : Int, ND 20 (3 * q) = A 4 q := fun q => by rw [hN 20 (by decide)]; exact (p_r q).1
      have e21x : ND 21 (3 * x) = A 7 x := by rw [hN 21 (by decide)]; exact (g_r x).1
      have e21b : ND 21 (3 * x + 1) = A 8 x := by rw [hN 21 (by decide)]; exact (g_r x).2.1
      have e18 : ND 18 4 = A 3 6 := by rw [hN 18 (by decide)]; exact p_p
      have t8 := pw10_b (n := kk.toNat) (by omega)
      have t7 : 0 ≤ row / pwN 10 kk.toNat ∧ row / pwN 10 kk.toNat ≤ row := ⟨Int.ediv_nonneg h0.1 (by omega), Int.ediv_le_self _ h0.1⟩
      have t9 := w_per (row / pwN 10 kk.toNat % 10 - 1)
      refine lv_iload hx hb dX7_isRound_21 (lv_at hl 0 rfl) ?_
      refine r_if_lt hx hb (tgt := 129) (by omega) dX7_isRound_23 (by decide) (fun c_1 => ?_) (fun c_1 => ?_)
      · refine lv_iload hx hb dX7_isRound_129 (lv_at hl 1 rfl) ?_
        refine r_zret C hr hlk hI (by rcases h3 with q | q <;> rw [q] <;> decide +kernel) ?_ dX7_isRound_131
        exact ⟨_, rfl, (show (fun z u => z = bI (rdB (A 4) (A 3 6) (A 8 x) (A 7 x) (A 3 6).toNat (A 33 x) (-9) 0 row = true) ∧ ∀ c : Nat, c ≠ 25 → u c = M c) ii ND from by exact ⟨h2.elim (fun h2 => by (obtain ⟨e1, _, _, _, _, _, hE⟩ := h2); (have hj : (A 3 6).toNat - jj = 0 := by omega); rw [hj] at hE; rw [bI_t (show _ = true from hE.symm)]; exact e1) (fun h2 => by rw [bI_f (by rw [h2.2]; decide)]; exact h2.1), hN⟩)⟩
      · refine lv_iload hx hb dX7_isRound_26 (lv_at hl 1 rfl) ?_
        refine r_if_eq hx hb (tgt := 129) (by omega) dX7_isRound_28 (by decide) (fun c_2 => ?_) (fun c_2 => ?_)
        · refine lv_iload hx hb dX7_isRound_129 (lv_at hl 1 rfl) ?_
          refine r_zret C hr hlk hI (by rcases h3 with q | q <;> rw [q] <;> decide +kernel) ?_ dX7_isRound_131
          exact ⟨_, rfl, (show (fun z u => z = bI (rdB (A 4) (A 3 6) (A 8 x) (A 7 x) (A 3 6).toNat (A 33 x) (-9) 0 row = true) ∧ ∀ c : Nat, c ≠ 25 → u c = M c) ii ND from by exact ⟨h2.elim (fun h2 => by (obtain ⟨e1, _, _, _, _, _, hE⟩ := h2); (have hj : (A 3 6).toNat - jj = 0 := by omega); rw [hj] at hE; rw [bI_t (show _ = true from hE.symm)]; exact e1) (fun h2 => by rw [bI_f (by rw [h2.2]; decide)]; exact h2.1), hN⟩)⟩
        · obtain ⟨_, hss, hpre, hkc, hgc, hB, hE⟩ := h2.elim id (fun q => absurd q.1 (by omega))
          have hS : rdB (A 4) (A 3 6) (A 8 x) (A 7 x) (kk.toNat + 1) kc bb pre row = rdB (A 4) (A 3 6) (A 8 x) (A 7 x) (A 3 6).toNat (A 33 x) (-9) 0 row := by rw [← hE, show kk.toNat + 1 = (A 3 6).toNat - jj by omega]
          have kcb := KOK_b hkc
          refine lv_iload_n hx hb dX7_isRound_31 rfl (lv_at hl 6 rfl) ?_
          refine lv_bipush (v := iI 10) hx hb dX7_isRound_32 (by decide +kernel) ?_
          refine lv_iload hx hb dX7_isRound_34 (lv_at hl 0 rfl) ?_
          refine r_is C hI (As := [.int (iI 10), .int (iI kk)]) (rest := [.int (iI row)]) (c_X7_power l g ND 10 kk (by omega)) (va_cwS 2 hts gX7_isRound_X7_power rfl rfl rfl (by decide +kernel) ⟨Nat.le_of_ble_eq_true rfl, Nat.le_of_ble_eq_true rfl⟩) rfl hl.1 rfl (Nat.le_of_ble_eq_true rfl) dX7_isRound_36 ⟨Nat.zero_le _, Nat.zero_le _⟩ (k_I (fun H locs hI => ?_))
          refine r_idiv hx hb (by omega) (by omega) dX7_isRound_39 ?_
          refine lv_bipush (v := iI 10) hx hb dX7_isRound_40 (by decide +kernel) ?_
          refine r_irem hx hb (by omega) (by decide) dX7_isRound_42 ?_
          refine lv_iconst (v := iI 1) hx hb dX7_isRound_43 rfl ?_
          refine r_isub hx hb dX7_isRound_44 ?_
          refine lv_istore (lv' := [(7, .int (iI (((row / (pwN 10 (Int.toNat kk))) % 10) - 1))), (6, .int (iI kk)), (5, .int (iI ii)), (4, .int (iI bb)), (3, .int (iI ss)), (0, .ref (gA g 18)), (1, .int (iI x)), (2, .int (iI row))]) hx hb dX7_isRound_45 hl (by decide) rfl (fun ls hl => ?_)
          refine lv_iload hx hb dX7_isRound_47 (lv_at hl 0 rfl) ?_
          refine r_i2l hx hb (by omega) dX7_isRound_49 ?_
          refine lv_lconst (v := iL 0) hx hb dX7_isRound_50 (by decide +kernel) ?_
          refine lv_aload_n hx hb dX7_isRound_51 rfl (lv_at hl 5 rfl) ?_
          refine r_get C hI 18 (by decide) rfl rfl hin7 4 (by decide) (fn := "people") (fd := "I") (index := 54) (by decide +kernel) ⟨rfl, rfl, rfl⟩ (v := .int (iI (ND 18 4))) rfl dX7_isRound_52 ?_
          refine lv_iconst (v := iI 1) hx hb dX7_isRound_55 rfl ?_
          refine r_isub hx hb dX7_isRound_56 ?_
          refine r_i2l hx hb (by omega) dX7_isRound_57 ?_
          refine r_is C hI (As := [.long (iL (((row / (pwN 10 (Int.toNat kk))) % 10) - 1)), .long (iL 0), .long (iL ((ND 18 4) - 1))]) (rest := []) (c_X7_in l g ND (((row / (pwN 10 (Int.toNat kk))) % 10) - 1) 0 ((ND 18 4) - 1) (by omega) (by omega) (by omega)) (va_cwS 3 hts gX7_isRound_X7_in rfl rfl rfl (by decide +kernel) ⟨Nat.le_of_ble_eq_true rfl, Nat.le_of_ble_eq_true rfl⟩) rfl hl.1 rfl (Nat.le_of_ble_eq_true rfl) dX7_isRound_58 ⟨Nat.zero_le _, Nat.zero_le _⟩ (k_I (fun H locs hI => ?_))
          refine r_b_eq hx hb (tgt := 77) dX7_isRound_61 (by decide) (fun c_3 => ?_) (fun c_3 => ?_)
          · refine lv_iconst (v := iI 0) hx hb dX7_isRound_77 rfl ?_
            refine lv_istore (lv' := [(5, .int (iI 0)), (7, .int (iI (((row / (pwN 10 (Int.toNat kk))) % 10) - 1))), (6, .int (iI kk)), (4, .int (iI bb)), (3, .int (iI ss)), (0, .ref (gA g 18)), (1, .int (iI x)), (2, .int (iI row))]) hx hb dX7_isRound_78 hl (by decide) rfl (fun ls hl => ?_)
            refine lv_iload hx hb dX7_isRound_80 (lv_at hl 0 rfl) ?_
            refine r_if_eq hx hb (tgt := 123) (by decide) dX7_isRound_82 (by decide) (fun c_4 => ?_) (fun c => absurd c (by decide))
            refine lv_iinc (v := iI (kk + (-1))) (lv' := [(6, .int (iI (kk + (-1)))), (5, .int (iI 0)), (7, .int (iI (((row / (pwN 10 (Int.toNat kk))) % 10) - 1))), (4, .int (iI bb)), (3, .int (iI ss)), (0, .ref (gA g 18)), (1, .int (iI x)), (2, .int (iI row))]) hx hb dX7_isRound_123 hl (k := 2) rfl (iI_add _ _) (by decide) rfl (fun ls hl => ?_)
            refine lv_goto (tgt := 21) hx hb dX7_isRound_126 (by decide) ?_
            exact ih21 (kk + (-1)) 0 bb ss ND (jj + 1) (behO kc (A 4 (row / pwN 10 kk.toNat % 10 - 1)) (A 7 x)) (pre * 10 + row / pwN 10 kk.toNat % 10) (by omega) (by omega) (by first | exact hN | exact fun c hc => (q_2.2.1 c hc).trans (hN c hc)) (by first | exact Or.inr ⟨rfl, by rw [← hS]; exact rdB_f (fun q => absurd q.1 (by omega))⟩ | exact Or.inr ⟨rfl, by rw [← hS]; exact rdB_f (fun q => q.2.1 (hBy (by assumption)))⟩ | exact Or.inr ⟨rfl, by rw [← hS]; exact rdB_f (fun q => q.2.2 (by rw [← v2]; omega))⟩ | exact Or.inl ⟨rfl, (bt_or2 hss (v := row / pwN 10 kk.toNat % 10 - 1) (w := 0) (by omega) (by decide)).2, by omega, KOK_beh hkc w_gx.1 (w_own _ (by omega)), v4, bt_new hss hpre (by omega) hB, by rw [← hS, rdB_t ⟨by omega, hBn (by assumption), by rw [← v2]; assumption⟩, v2, show (A 3 6).toNat - (jj + 1) = kk.toNat from by omega]⟩) (by omega) _ _ hI ls (lv_sub hl [0, 1, 3, 4, 5, 6, 7] rfl)
          · have hBw : andI (shrI ss (row / pwN 10 kk.toNat % 10 - 1)) 1 = if hfO pre.toNat pre (row / pwN 10 kk.toNat % 10) = true then 1 else 0 := by
              have h9 := hB (row / pwN 10 kk.toNat % 10 - 1) (by omega)
              rw [show row / pwN 10 kk.toNat % 10 - 1 + 1 = row / pwN 10 kk.toNat % 10 by omega] at h9
              exact h9
            have hB0 : andI (shrI ss (row / pwN 10 kk.toNat % 10 - 1)) 1 = 0 ∨ andI (shrI ss (row / pwN 10 kk.toNat % 10 - 1)) 1 = 1 := by rw [hBw]; split <;> simp
            have hBy : ¬ andI (shrI ss (row / pwN 10 kk.toNat % 10 - 1)) 1 = 0 → hfO pre.toNat pre (row / pwN 10 kk.toNat % 10) = true := fun q => by
              rw [hBw] at q
              by_cases e : hfO pre.toNat pre (row / pwN 10 kk.toNat % 10) = true
              · exact e
              · rw [if_neg e] at q; exact absurd rfl q
            have hBn : andI (shrI ss (row / pwN 10 kk.toNat % 10 - 1)) 1 = 0 → ¬ hfO pre.toNat pre (row / pwN 10 kk.toNat % 10) = true := fun q e => by rw [hBw, if_pos e] at q; exact absurd q (by decide)
            refine lv_iload_n hx hb dX7_isRound_64 rfl (lv_at hl 4 rfl) ?_
            refine lv_iload hx hb dX7_isRound_65 (lv_at hl 0 rfl) ?_
            refine r_ishr hx hb (by omega) dX7_isRound_67 ?_
            refine lv_iconst (v := iI 1) hx hb dX7_isRound_68 rfl ?_
            refine r_iand hx hb (by exact ⟨shrI_n hss.1, by decide⟩) dX7_isRound_69 ?_
            refine r_if_ne hx hb (tgt := 77) (by omega) dX7_isRound_70 (by decide) (fun c_5 => ?_) (fun c_5 => ?_)
            · refine lv_iconst (v := iI 0) hx hb dX7_isRound_77 rfl ?_
              refine lv_istore (lv' := [(5, .int (iI 0)), (7, .int (iI (((row / (pwN 10 (Int.toNat kk))) % 10) - 1))), (6, .int (iI kk)), (4, .int (iI bb)), (3, .int (iI ss)), (0, .ref (gA g 18)), (1, .int (iI x)), (2, .int (iI row))]) hx hb dX7_isRound_78 hl (by decide) rfl (fun ls hl => ?_)
              refine lv_iload hx hb dX7_isRound_80 (lv_at hl 0 rfl) ?_
              refine r_if_eq hx hb (tgt := 123) (by decide) dX7_isRound_82 (by decide) (fun c_6 => ?_) (fun c => absurd c (by decide))
              refine lv_iinc (v := iI (kk + (-1))) (lv' := [(6, .int (iI (kk + (-1)))), (5, .int (iI 0)), (7, .int (iI (((row / (pwN 10 (Int.toNat kk))) % 10) - 1))), (4, .int (iI bb)), (3, .int (iI ss)), (0, .ref (gA g 18)), (1, .int (iI x)), (2, .int (iI row))]) hx hb dX7_isRound_123 hl (k := 2) rfl (iI_add _ _) (by decide) rfl (fun ls hl => ?_)
              refine lv_goto (tgt := 21) hx hb dX7_isRound_126 (by decide) ?_
              exact ih21 (kk + (-1)) 0 bb ss ND (jj + 1) (behO kc (A 4 (row / pwN 10 kk.toNat % 10 - 1)) (A 7 x)) (pre * 10 + row / pwN 10 kk.toNat % 10) (by omega) (by omega) (by first | exact hN | exact fun c hc => (q_2.2.1 c hc).trans (hN c hc)) (by first | exact Or.inr ⟨rfl, by rw [← hS]; exact rdB_f (fun q => absurd q.1 (by omega))⟩ | exact Or.inr ⟨rfl, by rw [← hS]; exact rdB_f (fun q => q.2.1 (hBy (by assumption)))⟩ | exact Or.inr ⟨rfl, by rw [← hS]; exact rdB_f (fun q => q.2.2 (by rw [← v2]; omega))⟩ | exact Or.inl ⟨rfl, (bt_or2 hss (v := row / pwN 10 kk.toNat % 10 - 1) (w := 0) (by omega) (by decide)).2, by omega, KOK_beh hkc w_gx.1 (w_own _ (by omega)), v4, bt_new hss hpre (by omega) hB, by rw [← hS, rdB_t ⟨by omega, hBn (by assumption), by rw [← v2]; assumption⟩, v2, show (A 3 6).toNat - (jj + 1) = kk.toNat from by omega]⟩) (by omega) _ _ hI ls (lv_sub hl [0, 1, 3, 4, 5, 6, 7] rfl)
            · refine lv_iconst (v := iI 1) hx hb dX7_isRound_73 rfl ?_
              refine lv_goto (tgt := 78) hx hb dX7_isRound_74 (by decide) ?_
              refine lv_istore (lv' := [(5, .int (iI 1)), (7, .int (iI (((row / (pwN 10 (Int.toNat kk))) % 10) - 1))), (6, .int (iI kk)), (4, .int (iI bb)), (3, .int (iI ss)), (0, .ref (gA g 18)), (1, .int (iI x)), (2, .int (iI row))]) hx hb dX7_isRound_78 hl (by decide) rfl (fun ls hl => ?_)
              refine lv_iload hx hb dX7_isRound_80 (lv_at hl 0 rfl) ?_
              refine r_if_eq hx hb (tgt := 123) (by decide) dX7_isRound_82 (by decide) (fun c => absurd c (by decide)) (fun c_7 => ?_)
              refine lv_iload_n hx hb dX7_isRound_85 rfl (lv_at hl 4 rfl) ?_
              refine lv_iconst (v := iI 1) hx hb dX7_isRound_86 rfl ?_
              refine lv_iload hx hb dX7_isRound_87 (lv_at hl 1 rfl) ?_
              refine r_ishl hx hb (by omega) dX7_isRound_89 ?_
              refine r_ior hx hb (by exact ⟨hss.1, by unfold shlI; exact Int.mul_nonneg (by decide) (Int.pow_nonneg (by decide))⟩) dX7_isRound_90 ?_
              refine lv_istore_n (lv' := [(3, .int (iI (orI ss (shlI 1 (((row / (pwN 10 (Int.toNat kk))) % 10) - 1))))), (5, .int (iI 1)), (7, .int (iI (((row / (pwN 10 (Int.toNat kk))) % 10) - 1))), (6, .int (iI kk)), (4, .int (iI bb)), (0, .ref (gA g 18)), (1, .int (iI x)), (2, .int (iI row))]) hx hb dX7_isRound_91 rfl hl (by decide) rfl (fun ls hl => ?_)
              refine lv_aload_n hx hb dX7_isRound_92 rfl (lv_at hl 5 rfl) ?_
              refine lv_aload_n hx hb dX7_isRound_93 rfl (lv_at hl 5 rfl) ?_
              refine r_get C hI 18 (by decide) rfl rfl hin7 13 (by decide) (fn := "trial") (fd := "[I") (index := 28) (by decide +kernel) ⟨rfl, rfl, rfl⟩ (v := .ref (gA g 25)) rfl dX7_isRound_94 ?_
              refine lv_iload_n hx hb dX7_isRound_97 rfl (lv_at hl 6 rfl) ?_
              refine lv_iload hx hb dX7_isRound_98 (lv_at hl 2 rfl) ?_
              refine r_iv C hI (As := [.ref (gA g 25), .int (iI x), .int (iI (((row / (pwN 10 (Int.toNat kk))) % 10) - 1))]) (rest := []) (c_X7_goHand l g ND x (((row / (pwN 10 (Int.toNat kk))) % 10) - 1) kc (by omega) (by omega) (show KOK kc (ND 21 (3 * x)) from by rw [e21x]; exact hkc) kcb (show 1 ≤ (ND 21 (3 * x)) ∧ (ND 21 (3 * x)) ≤ 3 from by omega) (show -2147483648 ≤ (ND 21 (3 * x + 1)) ∧ (ND 21 (3 * x + 1)) < 2147483648 from by omega) (show 1 ≤ (ND 20 (3 * (((row / (pwN 10 (Int.toNat kk))) % 10) - 1))) ∧ (ND 20 (3 * (((row / (pwN 10 (Int.toNat kk))) % 10) - 1))) ≤ 7 from by rw [e20]; omega) hgc) (cwV 3 hts gX7_isRound_X7_goHand rfl rfl rfl (by decide +kernel) ⟨Nat.le_of_ble_eq_true rfl, Nat.le_of_ble_eq_true rfl⟩) (by decide) rfl rfl rfl hl.1 rfl (Nat.le_of_ble_eq_true rfl) dX7_isRound_100 ⟨Nat.zero_le _, Nat.zero_le _⟩ (k_E (fun z_2 M_2 H locs q_2 hI => ?_))
              have v2 : z_2 = repO (A 8 x) kc (A 4 (row / pwN 10 kk.toNat % 10 - 1)) := by have h9 := q_2.1; rw [e21b, e20] at h9; exact h9
              have v3 := repO_b (A 8 x) kc (A 4 (row / pwN 10 kk.toNat % 10 - 1)) kcb
              have v4 := q_2.2.2.1
              rw [e20, e21x] at v4
              refine lv_istore (lv' := [(8, .int (iI z_2)), (3, .int (iI (orI ss (shlI 1 (((row / (pwN 10 (Int.toNat kk))) % 10) - 1))))), (5, .int (iI 1)), (7, .int (iI (((row / (pwN 10 (Int.toNat kk))) % 10) - 1))), (6, .int (iI kk)), (4, .int (iI bb)), (0, .ref (gA g 18)), (1, .int (iI x)), (2, .int (iI row))]) hx hb dX7_isRound_103 hl (by decide) rfl (fun ls hl => ?_)
              refine lv_iload hx hb dX7_isRound_105 (lv_at hl 0 rfl) ?_
              refine lv_iload hx hb dX7_isRound_107 (lv_at hl 5 rfl) ?_
              refine r_icmp_eq hx hb (tgt := 116) (by omega) (by omega) dX7_isRound_109 (by decide) (fun c_8 => ?_) (fun c_8 => ?_)
              · refine lv_iconst (v := iI 0) hx hb dX7_isRound_116 rfl ?_
                refine lv_istore (lv' := [(5, .int (iI 0)), (8, .int (iI z_2)), (3, .int (iI (orI ss (shlI 1 (((row / (pwN 10 (Int.toNat kk))) % 10) - 1))))), (7, .int (iI (((row / (pwN 10 (Int.toNat kk))) % 10) - 1))), (6, .int (iI kk)), (4, .int (iI bb)), (0, .ref (gA g 18)), (1, .int (iI x)), (2, .int (iI row))]) hx hb dX7_isRound_117 hl (by decide) rfl (fun ls hl => ?_)
                refine lv_iload hx hb dX7_isRound_119 (lv_at hl 1 rfl) ?_
                refine lv_istore (lv' := [(4, .int (iI z_2)), (5, .int (iI 0)), (8, .int (iI z_2)), (3, .int (iI (orI ss (shlI 1 (((row / (pwN 10 (Int.toNat kk))) % 10) - 1))))), (7, .int (iI (((row / (pwN 10 (Int.toNat kk))) % 10) - 1))), (6, .int (iI kk)), (0, .ref (gA g 18)), (1, .int (iI x)), (2, .int (iI row))]) hx hb dX7_isRound_121 hl (by decide) rfl (fun ls hl => ?_)
                refine lv_iinc (v := iI (kk + (-1))) (lv' := [(6, .int (iI (kk + (-1)))), (4, .int (iI z_2)), (5, .int (iI 0)), (8, .int (iI z_2)), (3, .int (iI (orI ss (shlI 1 (((row / (pwN 10 (Int.toNat kk))) % 10) - 1))))), (7, .int (iI (((row / (pwN 10 (Int.toNat kk))) % 10) - 1))), (0, .ref (gA g 18)), (1, .int (iI x)), (2, .int (iI row))]) hx hb dX7_isRound_123 hl (k := 5) rfl (iI_add _ _) (by decide) rfl (fun ls hl => ?_)
                refine lv_goto (tgt := 21) hx hb dX7_isRound_126 (by decide) ?_
                exact ih21 (kk + (-1)) 0 z_2 (orI ss (shlI 1 (((row / (pwN 10 (Int.toNat kk))) % 10) - 1))) M_2 (jj + 1) (behO kc (A 4 (row / pwN 10 kk.toNat % 10 - 1)) (A 7 x)) (pre * 10 + row / pwN 10 kk.toNat % 10) (by omega) (by omega) (by first | exact hN | exact fun c hc => (q_2.2.1 c hc).trans (hN c hc)) (by first | exact Or.inr ⟨rfl, by rw [← hS]; exact rdB_f (fun q => absurd q.1 (by omega))⟩ | exact Or.inr ⟨rfl, by rw [← hS]; exact rdB_f (fun q => q.2.1 (hBy (by assumption)))⟩ | exact Or.inr ⟨rfl, by rw [← hS]; exact rdB_f (fun q => q.2.2 (by rw [← v2]; omega))⟩ | exact Or.inl ⟨rfl, (bt_or2 hss (v := row / pwN 10 kk.toNat % 10 - 1) (w := 0) (by omega) (by decide)).2, by omega, KOK_beh hkc w_gx.1 (w_own _ (by omega)), v4, bt_new hss hpre (by omega) hB, by rw [← hS, rdB_t ⟨by omega, hBn (by assumption), by rw [← v2]; assumption⟩, v2, show (A 3 6).toNat - (jj + 1) = kk.toNat from by omega]⟩) (by omega) _ _ hI ls (lv_sub hl [0, 2, 1, 4, 6, 7, 8] rfl)
              · refine lv_iconst (v := iI 1) hx hb dX7_isRound_112 rfl ?_
                refine lv_goto (tgt := 117) hx hb dX7_isRound_113 (by decide) ?_
                refine lv_istore (lv' := [(5, .int (iI 1)), (8, .int (iI z_2)), (3, .int (iI (orI ss (shlI 1 (((row / (pwN 10 (Int.toNat kk))) % 10) - 1))))), (7, .int (iI (((row / (pwN 10 (Int.toNat kk))) % 10) - 1))), (6, .int (iI kk)), (4, .int (iI bb)), (0, .ref (gA g 18)), (1, .int (iI x)), (2, .int (iI row))]) hx hb dX7_isRound_117 hl (by decide) rfl (fun ls hl => ?_)
                refine lv_iload hx hb dX7_isRound_119 (lv_at hl 1 rfl) ?_
                refine lv_istore (lv' := [(4, .int (iI z_2)), (5, .int (iI 1)), (8, .int (iI z_2)), (3, .int (iI (orI ss (shlI 1 (((row / (pwN 10 (Int.toNat kk))) % 10) - 1))))), (7, .int (iI (((row / (pwN 10 (Int.toNat kk))) % 10) - 1))), (6, .int (iI kk)), (0, .ref (gA g 18)), (1, .int (iI x)), (2, .int (iI row))]) hx hb dX7_isRound_121 hl (by decide) rfl (fun ls hl => ?_)
                refine lv_iinc (v := iI (kk + (-1))) (lv' := [(6, .int (iI (kk + (-1)))), (4, .int (iI z_2)), (5, .int (iI 1)), (8, .int (iI z_2)), (3, .int (iI (orI ss (shlI 1 (((row / (pwN 10 (Int.toNat kk))) % 10) - 1))))), (7, .int (iI (((row / (pwN 10 (Int.toNat kk))) % 10) - 1))), (0, .ref (gA g 18)), (1, .int (iI x)), (2, .int (iI row))]) hx hb dX7_isRound_123 hl (k := 5) rfl (iI_add _ _) (by decide) rfl (fun ls hl => ?_)
                refine lv_goto (tgt := 21) hx hb dX7_isRound_126 (by decide) ?_
                exact ih21 (kk + (-1)) 1 z_2 (orI ss (shlI 1 (((row / (pwN 10 (Int.toNat kk))) % 10) - 1))) M_2 (jj + 1) (behO kc (A 4 (row / pwN 10 kk.toNat % 10 - 1)) (A 7 x)) (pre * 10 + row / pwN 10 kk.toNat % 10) (by omega) (by omega) (by first | exact hN | exact fun c hc => (q_2.2.1 c hc).trans (hN c hc)) (by first | exact Or.inr ⟨rfl, by rw [← hS]; exact rdB_f (fun q => absurd q.1 (by omega))⟩ | exact Or.inr ⟨rfl, by rw [← hS]; exact rdB_f (fun q => q.2.1 (hBy (by assumption)))⟩ | exact Or.inr ⟨rfl, by rw [← hS]; exact rdB_f (fun q => q.2.2 (by rw [← v2]; omega))⟩ | exact Or.inl ⟨rfl, (bt_or2 hss (v := row / pwN 10 kk.toNat % 10 - 1) (w := 0) (by omega) (by decide)).2, by omega, KOK_beh hkc w_gx.1 (w_own _ (by omega)), v4, bt_new hss hpre (by omega) hB, by rw [← hS, rdB_t ⟨by omega, hBn (by assumption), by rw [← v2]; assumption⟩, v2, show (A 3 6).toNat - (jj + 1) = kk.toNat from by omega]⟩) (by omega) _ _ hI ls (lv_sub hl [0, 2, 1, 4, 6, 7, 8] rfl)
  exact lp21 _ ((M_1 18 4) - 1) 1 (-9) 0 M_1 0 (A 33 x) 0 (by omega) (by omega) (by exact fun c hc => by rw [q_1, cpA_n hc]) (by exact Or.inl ⟨rfl, by decide, by decide, w_k, by rw [q_1]; exact KG_begin hg (by omega), fun w hw => by rw [hfO_0 (by decide), if_neg (by decide)]; unfold andI shrI; rw [Int.zero_ediv]; rfl, rfl⟩) (Nat.lt_succ_self _) _ _ hI ls (lv_sub hl [0, 1, 2, 3, 4, 5, 6] rfl)
set_option maxHeartbeats 4000000 in
set_option maxRecDepth 100000 in
theorem c_X7_findRounds (l : Launch) (g : GT) (M : Mem) (x : Int) (A : Mem) (wf : WF A) (rp : RP A M) (hxg : 0 ≤ x ∧ x < A 3 7) (hg : KG (A 33 x) (M 24) (5 * x)) : Ctr l g yX7_findRounds wsX7_findRounds ({ frames := 4, cells := 0, slots := 0, locals := 98 } : Room) [.ref (gA g 18), .int (iI x)] M (pX (fun u => FR M u ∧ u 18 25 = ((rlO (A 4) (A 3 6) (A 8 x) (A 7 x) (A 3 6).toNat (A 33 x) (-1) 0).length : Int) ∧ u 18 26 = (rlO (A 4) (A 3 6) (A 8 x) (A 7 x) (A 3 6).toNat (A 33 x) (-1) 0).headD (-9))) := by
  refine Ctr.mk (cc := cX7_findRounds) (maxL := 3) (ret := none) (lv := [(0, .ref (gA g 18)), (1, .int (iI x))]) (by decide) rfl (Nat.le_of_ble_eq_true rfl) rfl ?_
  intro p e s m below meth c C hr hlk hI ls hl
  have C : CallFix p m c cX7_findRounds 3 s ([.ref (gA g 18), .int (iI x)] : List Value).toArray wsX7_findRounds RX7 := C
  have hx := C.1
  have hb := C.2.1
  have hts := C.2.2.2.2
  have hin7 : ∀ w ∈ u_ws RX7 TX7 31, w ∈ wsX7_findRounds := by decide +kernel
  have wf0 := wf
  have rp0 := rp
  obtain ⟨w_txt, hL, w_cnt, w_per, w_glo, w_now, w_act, w_rng, w_slo, w_see, w_sa⟩ := wf
  obtain ⟨⟨p_p, p_g⟩, p_r, g_r⟩ := rp
  have w_gx := w_glo x hxg
  have w_k : KOK (A 33 x) (A 7 x) := (w_now.1 x (by omega)).2.2 hxg.2
  have w_own : ∀ q : Int, 0 ≤ q ∧ q < A 3 6 → 1 ≤ A 4 q ∧ A 4 q ≤ 7 := fun q hq => (w_per q hq).1
  have kb := KOK_b w_k
  have hrl := rdL_eq (own := A 4) (P := A 3 6) (kd := A 8 x) (rm := A 7 x) (k := A 33 x) (by omega) kb
  refine lv_aload_n hx hb dX7_findRounds_0 rfl (lv_at hl 0 rfl) ?_
  refine lv_iconst (v := iI 0) hx hb dX7_findRounds_1 rfl ?_
  refine r_put C hI 18 (by decide) rfl rfl tyX7 tyX7_ok nmX7 hin7 25 (by decide) (fn := "roundMany") (fd := "I") (index := 166) (by decide +kernel) ⟨rfl, rfl, rfl⟩ rfl (z := 0) rfl rfl (Nat.le_of_ble_eq_true rfl) rfl dX7_findRounds_2 (fun H locs hI => ?_)
  refine lv_aload_n hx hb dX7_findRounds_5 rfl (lv_at hl 0 rfl) ?_
  refine lv_bipush (v := iI (-9)) hx hb dX7_findRounds_6 (by decide +kernel) ?_
  refine r_put C hI 18 (by decide) rfl rfl tyX7 tyX7_ok nmX7 hin7 26 (by decide) (fn := "roundFirst") (fd := "I") (index := 169) (by decide +kernel) ⟨rfl, rfl, rfl⟩ rfl (z := (-9)) rfl rfl (Nat.le_of_ble_eq_true rfl) rfl dX7_findRounds_8 (fun H locs hI => ?_)
  refine lv_iconst (v := iI 0) hx hb dX7_findRounds_11 rfl ?_
  refine lv_istore_n (lv' := [(2, .int (iI 0)), (0, .ref (gA g 18)), (1, .int (iI x))]) hx hb dX7_findRounds_12 rfl hl (by decide) rfl (fun ls hl => ?_)
  have lp13 : ∀ (n13 : Nat) (rr : Int) (ND : Mem) (jj : Nat), (rr = (jj : Int) ∧ jj ≤ 10 ^ (A 3 6).toNat) → (FR M ND) → (ND 18 25 = ((flN (rdL (A 4) (A 3 6) (A 8 x) (A 7 x) (A 33 x)) jj).length : Int)) → (ND 18 26 = (flN (rdL (A 4) (A 3 6) (A 8 x) (A 7 x) (A 33 x)) jj).headD (-9)) → 10 ^ (A 3 6).toNat - jj < n13 → ∀ (H : Heap) (locs : List Loc), HI g s H locs ND → ∀ ls : Array Slot, lv_has ls 3 [(2, .int (iI rr)), (0, .ref (gA g 18)), (1, .int (iI x))] → W p l e ({ frames := 4, cells := 0, slots := 0, locals := 98 } : Room) s m ([.ref (gA g 18), .int (iI x)] : List Value).toArray below meth c H locs 0 0 (MQ below (QV g (pX (fun u => FR M u ∧ u 18 25 = ((rlO (A 4) (A 3 6) (A 8 x) (A 7 x) (A 3 6).toNat (A 33 x) (-1) 0).length : Int) ∧ u 18 26 = (rlO (A 4) (A 3 6) (A 8 x) (A 7 x) (A 3 6).toNat (A 33 x) (-1) 0).headD (-9)))) ([.ref (gA g 18), .int (iI x)] : List Value).toArray s 0 0 (AA g)) (F0 m 13 ls []) := by
    intro n13
    induction n13 with
    | zero => intro rr ND jj h1 hF k1 k2 hn13; exact absurd hn13 (Nat.not_lt_zero _)
    | succ n13 ih13 =>
      intro rr ND jj h1 hF k1 k2 hn13 H locs hI ls hl
      have e18 : ND 18 4 = A 3 6 := (hF.2 4 (by decide)).trans p_p
      have tp : pwN 10 (Int.toNat (ND 18 4)) = ((10 ^ (A 3 6).toNat : Nat) : Int) := by rw [e18]; exact pwN_nat 10 _
      have tb := pw10_b (n := Int.toNat (ND 18 4)) (by omega)
      have ln := flN_len (f := rdL (A 4) (A 3 6) (A 8 x) (A 7 x) (A 33 x)) (m := 1) (fun p => by unfold rdL; split <;> simp) jj
      have tn : jj < 10 ^ (A 3 6).toNat → rr < 100000 := fun q => by omega
      refine lv_iload_n hx hb dX7_findRounds_13 rfl (lv_at hl 0 rfl) ?_
      refine lv_bipush (v := iI 10) hx hb dX7_findRounds_14 (by decide +kernel) ?_
      refine lv_aload_n hx hb dX7_findRounds_16 rfl (lv_at hl 1 rfl) ?_
      refine r_get C hI 18 (by decide) rfl rfl hin7 4 (by decide) (fn := "people") (fd := "I") (index := 54) (by decide +kernel) ⟨rfl, rfl, rfl⟩ (v := .int (iI (ND 18 4))) rfl dX7_findRounds_17 ?_
      refine r_is C hI (As := [.int (iI 10), .int (iI (ND 18 4))]) (rest := [.int (iI rr)]) (c_X7_power l g ND 10 (ND 18 4) (by omega)) (va_cwS 2 hts gX7_findRounds_X7_power rfl rfl rfl (by decide +kernel) ⟨Nat.le_of_ble_eq_true rfl, Nat.le_of_ble_eq_true rfl⟩) rfl hl.1 rfl (Nat.le_of_ble_eq_true rfl) dX7_findRounds_20 ⟨Nat.zero_le _, Nat.zero_le _⟩ (k_I (fun H locs hI => ?_))
      refine r_icmp_ge hx hb (tgt := 70) (by omega) (by omega) dX7_findRounds_23 (by decide) (fun c_1 => ?_) (fun c_1 => ?_)
      · refine r_vret C hr hlk hI ?_ dX7_findRounds_70
        exact ⟨rfl, (show (fun u => FR M u ∧ u 18 25 = ((rlO (A 4) (A 3 6) (A 8 x) (A 7 x) (A 3 6).toNat (A 33 x) (-1) 0).length : Int) ∧ u 18 26 = (rlO (A 4) (A 3 6) (A 8 x) (A 7 x) (A 3 6).toNat (A 33 x) (-1) 0).headD (-9)) ND from by (have hj : jj = 10 ^ (A 3 6).toNat := by omega); rw [hj, hrl] at k1 k2; exact ⟨hF, k1, k2⟩)⟩
      · refine lv_aload_n hx hb dX7_findRounds_26 rfl (lv_at hl 1 rfl) ?_
        refine lv_iload_n hx hb dX7_findRounds_27 rfl (lv_at hl 2 rfl) ?_
        refine lv_iload_n hx hb dX7_findRounds_28 rfl (lv_at hl 0 rfl) ?_
        refine r_iv C hI (As := [.int (iI x), .int (iI rr)]) (rest := []) (c_X7_isRound l g ND x rr A wf0 (FR_RP hF rp0) (by omega) (by rw [hF.1 24 (by decide) (by decide)]; exact hg) (by omega)) (cwV 2 hts gX7_findRounds_X7_isRound rfl rfl rfl (by decide +kernel) ⟨Nat.le_of_ble_eq_true rfl, Nat.le_of_ble_eq_true rfl⟩) (by decide) rfl rfl rfl hl.1 rfl (Nat.le_of_ble_eq_true rfl) dX7_findRounds_29 ⟨Nat.zero_le _, Nat.zero_le _⟩ (k_E (fun z_1 M_1 H locs q_1 hI => ?_))
        have zb : z_1 = 0 ∨ z_1 = 1 := by rw [q_1.1]; unfold bI; split <;> simp
        have fr1 := FR.trans hF (FR_25 q_1.2)
        have m_c : M_1 18 25 = ND 18 25 := by rw [q_1.2 18 (by decide)]
        have m_f : M_1 18 26 = ND 18 26 := by rw [q_1.2 18 (by decide)]
        have hz0 : z_1 = 0 → rdL (A 4) (A 3 6) (A 8 x) (A 7 x) (A 33 x) rr = [] := fun q => by
          rw [q_1.1] at q
          unfold rdL
          rw [if_neg (fun q2 => by rw [bI_t q2] at q; exact absurd q (by decide))]
        have hz1 : ¬ z_1 = 0 → rdL (A 4) (A 3 6) (A 8 x) (A 7 x) (A 33 x) rr = [rr] := fun q => by
          rw [q_1.1] at q
          unfold rdL
          rw [if_pos (Decidable.byContradiction (fun q2 => q (bI_f q2)))]
        refine r_if_eq hx hb (tgt := 64) (by omega) dX7_findRounds_32 (by decide) (fun c_2 => ?_) (fun c_2 => ?_)
        · refine lv_iinc (v := iI (rr + 1)) (lv' := [(2, .int (iI (rr + 1))), (0, .ref (gA g 18)), (1, .int (iI x))]) hx hb dX7_findRounds_64 hl (k := 0) rfl (iI_add _ _) (by decide) rfl (fun ls hl => ?_)
          refine lv_goto (tgt := 13) hx hb dX7_findRounds_67 (by decide) ?_
          exact ih13 (rr + 1) M_1 (jj + 1) (by omega) (by first | exact fr1 | exact FR.trans fr1 (FR.trans (FR_m (by decide)) (FR_m (by decide)))) (by (simp only [flN, ← h1.1]; first | (rw [hz0 (by omega), List.append_nil, m_c]; exact k1) | (rw [hz1 (by omega), List.length_append, mset_s, rw1_s, m_c, k1]; simp))) (by (simp only [flN, ← h1.1]; first | (rw [hz0 (by omega), List.append_nil, m_f]; exact k2) | (rw [hz1 (by omega), mset_s, rw1_n _ _ (by decide), mset_s, rw1_s, hd_app]; first | (rw [if_pos (by omega)]; done) | (rw [if_neg (by omega), m_f]; exact k2)))) (by omega) _ _ hI ls (lv_sub hl [0, 1, 2] rfl)
        · refine lv_aload_n hx hb dX7_findRounds_35 rfl (lv_at hl 1 rfl) ?_
          refine lv_aload_n hx hb dX7_findRounds_36 rfl (lv_at hl 1 rfl) ?_
          refine r_get C hI 18 (by decide) rfl rfl hin7 25 (by decide) (fn := "roundMany") (fd := "I") (index := 166) (by decide +kernel) ⟨rfl, rfl, rfl⟩ (v := .int (iI (M_1 18 25))) rfl dX7_findRounds_37 ?_
          refine r_if_ne hx hb (tgt := 47) (by omega) dX7_findRounds_40 (by decide) (fun c_3 => ?_) (fun c_3 => ?_)
          · refine lv_aload_n hx hb dX7_findRounds_47 rfl (lv_at hl 1 rfl) ?_
            refine r_get C hI 18 (by decide) rfl rfl hin7 26 (by decide) (fn := "roundFirst") (fd := "I") (index := 169) (by decide +kernel) ⟨rfl, rfl, rfl⟩ (v := .int (iI (M_1 18 26))) rfl dX7_findRounds_48 ?_
            refine r_put C hI 18 (by decide) rfl rfl tyX7 tyX7_ok nmX7 hin7 26 (by decide) (fn := "roundFirst") (fd := "I") (index := 169) (by decide +kernel) ⟨rfl, rfl, rfl⟩ rfl (z := M_1 18 26) rfl rfl (Nat.le_of_ble_eq_true rfl) rfl dX7_findRounds_51 (fun H locs hI => ?_)
            refine lv_aload_n hx hb dX7_findRounds_54 rfl (lv_at hl 1 rfl) ?_
            refine lv_dup hx hb dX7_findRounds_55 rfl ?_
            refine r_get C hI 18 (by decide) rfl rfl hin7 25 (by decide) (fn := "roundMany") (fd := "I") (index := 166) (by decide +kernel) ⟨rfl, rfl, rfl⟩ (v := .int (iI (M_1 18 25))) rfl dX7_findRounds_56 ?_
            refine r_eqI (z2 := M_1 18 25) (by first | rfl | (repeat first | rw [mset_s, rw1_s] | rw [mset_s, rw1_n _ _ (by omega)] | rw [mset_n _ _ _ (by decide)])) ?_
            refine lv_iconst (v := iI 1) hx hb dX7_findRounds_59 rfl ?_
            refine r_iadd hx hb dX7_findRounds_60 ?_
            refine r_put C hI 18 (by decide) rfl rfl tyX7 tyX7_ok nmX7 hin7 25 (by decide) (fn := "roundMany") (fd := "I") (index := 166) (by decide +kernel) ⟨rfl, rfl, rfl⟩ rfl (z := (M_1 18 25) + 1) rfl rfl (Nat.le_of_ble_eq_true rfl) rfl dX7_findRounds_61 (fun H locs hI => ?_)
            refine lv_iinc (v := iI (rr + 1)) (lv' := [(2, .int (iI (rr + 1))), (0, .ref (gA g 18)), (1, .int (iI x))]) hx hb dX7_findRounds_64 hl (k := 0) rfl (iI_add _ _) (by decide) rfl (fun ls hl => ?_)
            refine lv_goto (tgt := 13) hx hb dX7_findRounds_67 (by decide) ?_
            exact ih13 (rr + 1) (mset (mset M_1 18 26 (M_1 18 26)) 18 25 ((M_1 18 25) + 1)) (jj + 1) (by omega) (by first | exact fr1 | exact FR.trans fr1 (FR.trans (FR_m (by decide)) (FR_m (by decide)))) (by (simp only [flN, ← h1.1]; first | (rw [hz0 (by omega), List.append_nil, m_c]; exact k1) | (rw [hz1 (by omega), List.length_append, mset_s, rw1_s, m_c, k1]; simp))) (by (simp only [flN, ← h1.1]; first | (rw [hz0 (by omega), List.append_nil, m_f]; exact k2) | (rw [hz1 (by omega), mset_s, rw1_n _ _ (by decide), mset_s, rw1_s, hd_app]; first | (rw [if_pos (by omega)]; done) | (rw [if_neg (by omega), m_f]; exact k2)))) (by omega) _ _ hI ls (lv_sub hl [0, 1, 2] rfl)
          · refine lv_iload_n hx hb dX7_findRounds_43 rfl (lv_at hl 0 rfl) ?_
            refine lv_goto (tgt := 51) hx hb dX7_findRounds_44 (by decide) ?_
            refine r_put C hI 18 (by decide) rfl rfl tyX7 tyX7_ok nmX7 hin7 26 (by decide) (fn := "roundFirst") (fd := "I") (index := 169) (by decide +kernel) ⟨rfl, rfl, rfl⟩ rfl (z := rr) rfl rfl (Nat.le_of_ble_eq_true rfl) rfl dX7_findRounds_51 (fun H locs hI => ?_)
            refine lv_aload_n hx hb dX7_findRounds_54 rfl (lv_at hl 1 rfl) ?_
            refine lv_dup hx hb dX7_findRounds_55 rfl ?_
            refine r_get C hI 18 (by decide) rfl rfl hin7 25 (by decide) (fn := "roundMany") (fd := "I") (index := 166) (by decide +kernel) ⟨rfl, rfl, rfl⟩ (v := .int (iI (M_1 18 25))) rfl dX7_findRounds_56 ?_
            refine r_eqI (z2 := M_1 18 25) (by first | rfl | (repeat first | rw [mset_s, rw1_s] | rw [mset_s, rw1_n _ _ (by omega)] | rw [mset_n _ _ _ (by decide)])) ?_
            refine lv_iconst (v := iI 1) hx hb dX7_findRounds_59 rfl ?_
            refine r_iadd hx hb dX7_findRounds_60 ?_
            refine r_put C hI 18 (by decide) rfl rfl tyX7 tyX7_ok nmX7 hin7 25 (by decide) (fn := "roundMany") (fd := "I") (index := 166) (by decide +kernel) ⟨rfl, rfl, rfl⟩ rfl (z := (M_1 18 25) + 1) rfl rfl (Nat.le_of_ble_eq_true rfl) rfl dX7_findRounds_61 (fun H locs hI => ?_)
            refine lv_iinc (v := iI (rr + 1)) (lv' := [(2, .int (iI (rr + 1))), (0, .ref (gA g 18)), (1, .int (iI x))]) hx hb dX7_findRounds_64 hl (k := 0) rfl (iI_add _ _) (by decide) rfl (fun ls hl => ?_)
            refine lv_goto (tgt := 13) hx hb dX7_findRounds_67 (by decide) ?_
            exact ih13 (rr + 1) (mset (mset M_1 18 26 rr) 18 25 ((M_1 18 25) + 1)) (jj + 1) (by omega) (by first | exact fr1 | exact FR.trans fr1 (FR.trans (FR_m (by decide)) (FR_m (by decide)))) (by (simp only [flN, ← h1.1]; first | (rw [hz0 (by omega), List.append_nil, m_c]; exact k1) | (rw [hz1 (by omega), List.length_append, mset_s, rw1_s, m_c, k1]; simp))) (by (simp only [flN, ← h1.1]; first | (rw [hz0 (by omega), List.append_nil, m_f]; exact k2) | (rw [hz1 (by omega), mset_s, rw1_n _ _ (by decide), mset_s, rw1_s, hd_app]; first | (rw [if_pos (by omega)]; done) | (rw [if_neg (by omega), m_f]; exact k2)))) (by omega) _ _ hI ls (lv_sub hl [0, 1, 2] rfl)
  exact lp13 _ 0 (mset (mset M 18 25 0) 18 26 (-9)) 0 (by exact ⟨rfl, Nat.zero_le _⟩) (by exact FR.trans (FR_m (by decide)) (FR_m (by decide))) (by rfl) (by rfl) (Nat.lt_succ_self _) _ _ hI ls (lv_sub hl [0, 1, 2] rfl)
set_option maxHeartbeats 4000000 in
set_option maxRecDepth 100000 in
theorem c_X7_rounds (l : Launch) (g : GT) (M : Mem) (x : Int) (v : Int) (A : Mem) (wf : WF A) (rm : RM A M) (h_x : -2147483648 ≤ x ∧ x < 2147483648) (h_v : -2147483648 ≤ v ∧ v < 2147483648) : Ctr l g yX7_rounds wsX7_rounds ({ frames := 5, cells := 0, slots := 0, locals := 120 } : Room) [.ref (gA g 18), .int (iI x), .int (iI v)] M (pE (fun z u => z = zRou A x v ∧ QC M u ∧ RM (A) u)) := by
  refine Ctr.mk (cc := cX7_rounds) (maxL := 3) (ret := some .int) (lv := [(0, .ref (gA g 18)), (1, .int (iI x)), (2, .int (iI v))]) (by decide) rfl (Nat.le_of_ble_eq_true rfl) rfl ?_
  intro p e s m below meth c C hr hlk hI ls hl
  have C : CallFix p m c cX7_rounds 3 s ([.ref (gA g 18), .int (iI x), .int (iI v)] : List Value).toArray wsX7_rounds RX7 := C
  have hx := C.1
  have hb := C.2.1
  have hts := C.2.2.2.2
  have hin7 : ∀ w ∈ u_ws RX7 TX7 31, w ∈ wsX7_rounds := by decide +kernel
  have wf0 := wf
  obtain ⟨w_txt, hL, w_cnt, w_per, w_glo, w_now, w_act, w_rng, w_slo, w_see, w_sa⟩ := wf
  have rm0 := rm
  obtain ⟨⟨t_n, t_l⟩, ⟨⟨p_p, p_g⟩, p_r, g_r⟩, pgn, ⟨a_n, a_r⟩, k_r, ⟨s_n, s_r⟩, sd⟩ := rm
  have w_gx := w_glo x
  have w_nx : 0 ≤ x ∧ x < 4 → (0 ≤ A 33 x ∧ A 33 x < 1000) ∧ (A 34 x = -9 ∨ (0 ≤ A 34 x ∧ A 34 x < A 3 6 ∧ x < A 3 7)) := fun q => ⟨(w_now.1 x q).1, (w_now.1 x q).2.1⟩
  have w_kx : 0 ≤ x ∧ x < A 3 7 → KOK (A 33 x) (A 7 x) := fun q => (w_now.1 x (by omega)).2.2 q.2
  have r_kx : 0 ≤ x ∧ x < A 3 7 → KG (A 33 x) (M 24) (5 * x) := fun q => (PG_0 pgn x q).1
  have r_wx : 0 ≤ x ∧ x < A 3 7 → M 24 (5 * x + 4) = A 34 x := fun q => (PG_0 pgn x q).2
  have g_x := g_r x
  have r_fx : 0 ≤ x ∧ x < A 3 7 → M 24 (5 * x) = figs (A 33 x) := fun q => (PG_0 pgn x q).1.1
  have f_x := figs_b (A 33 x)
  have rp1 : RP A (mset M 18 0 0) := (RO rm0).2.2.1
  refine lv_aload_n hx hb dX7_rounds_0 rfl (lv_at hl 0 rfl) ?_
  refine lv_iconst (v := iI 0) hx hb dX7_rounds_1 rfl ?_
  refine r_put C hI 18 (by decide) rfl rfl tyX7 tyX7_ok nmX7 hin7 0 (by decide) (fn := "thrown") (fd := "I") (index := 50) (by decide +kernel) ⟨rfl, rfl, rfl⟩ rfl (z := 0) rfl rfl (Nat.le_of_ble_eq_true rfl) rfl dX7_rounds_2 (fun H locs hI => ?_)
  refine lv_aload_n hx hb dX7_rounds_5 rfl (lv_at hl 0 rfl) ?_
  refine lv_iload_n hx hb dX7_rounds_6 rfl (lv_at hl 1 rfl) ?_
  refine r_iv C hI (As := [.int (iI x)]) (rest := []) (c_X7_noGlove l g (mset M 18 0 0) x (by omega) (show 0 ≤ (M 18 5) ∧ (M 18 5) ≤ 4 from by omega)) (cwV 1 hts gX7_rounds_X7_noGlove rfl rfl rfl (by decide +kernel) ⟨Nat.le_of_ble_eq_true rfl, Nat.le_of_ble_eq_true rfl⟩) (by decide) rfl rfl rfl hl.1 rfl (Nat.le_of_ble_eq_true rfl) dX7_rounds_7 ⟨Nat.zero_le _, Nat.zero_le _⟩ (k_I (fun H locs hI => ?_))
  refine r_eqI (z2 := bI (¬ (0 ≤ x ∧ x ≤ (M 18 5) - 1))) rfl ?_
  refine r_b_eq hx hb (tgt := 15) dX7_rounds_10 (by decide) (fun c_1 => ?_) (fun c_1 => ?_)
  · refine lv_iload_n hx hb dX7_rounds_15 rfl (lv_at hl 2 rfl) ?_
    refine r_i2l hx hb (by omega) dX7_rounds_16 ?_
    refine lv_lconst (v := iL 0) hx hb dX7_rounds_17 (by decide +kernel) ?_
    refine lv_lconst (v := iL 1) hx hb dX7_rounds_18 (by decide +kernel) ?_
    refine r_is C hI (As := [.long (iL v), .long (iL 0), .long (iL 1)]) (rest := []) (c_X7_in l g (mset M 18 0 0) v 0 1 (by omega) (by omega) (by omega)) (va_cwS 3 hts gX7_rounds_X7_in rfl rfl rfl (by decide +kernel) ⟨Nat.le_of_ble_eq_true rfl, Nat.le_of_ble_eq_true rfl⟩) rfl hl.1 rfl (Nat.le_of_ble_eq_true rfl) dX7_rounds_19 ⟨Nat.zero_le _, Nat.zero_le _⟩ (k_I (fun H locs hI => ?_))
    refine r_b_ne hx hb (tgt := 28) dX7_rounds_22 (by decide) (fun c_2 => ?_) (fun c_2 => ?_)
    · refine lv_aload_n hx hb dX7_rounds_28 rfl (lv_at hl 0 rfl) ?_
      refine lv_aload_n hx hb dX7_rounds_29 rfl (lv_at hl 0 rfl) ?_
      refine r_get C hI 18 (by decide) rfl rfl hin7 12 (by decide) (fn := "page") (fd := "[I") (index := 25) (by decide +kernel) ⟨rfl, rfl, rfl⟩ (v := .ref (gA g 24)) rfl dX7_rounds_30 ?_
      refine lv_iload_n hx hb dX7_rounds_33 rfl (lv_at hl 1 rfl) ?_
      refine r_iv C hI (As := [.ref (gA g 24), .int (iI x)]) (rest := []) (c_X7_isWorn_24 l g (mset M 18 0 0) x (by omega) (show -2147483648 ≤ (M 24 (5 * x + 4)) ∧ (M 24 (5 * x + 4)) < 2147483648 from by omega)) (cwV 2 hts gX7_rounds_X7_isWorn rfl rfl rfl (by decide +kernel) ⟨Nat.le_of_ble_eq_true rfl, Nat.le_of_ble_eq_true rfl⟩) (by decide) rfl rfl rfl hl.1 rfl (Nat.le_of_ble_eq_true rfl) dX7_rounds_34 ⟨Nat.zero_le _, Nat.zero_le _⟩ (k_I (fun H locs hI => ?_))
      refine r_eqI (z2 := bI (¬ (M 24 (5 * x + 4)) = -9)) rfl ?_
      refine r_b_eq hx hb (tgt := 43) dX7_rounds_37 (by decide) (fun c_3 => ?_) (fun c_3 => ?_)
      · refine lv_aload_n hx hb dX7_rounds_43 rfl (lv_at hl 0 rfl) ?_
        refine lv_iload_n hx hb dX7_rounds_44 rfl (lv_at hl 1 rfl) ?_
        refine r_iv C hI (As := [.int (iI x)]) (rest := []) (c_X7_findRounds l g (mset M 18 0 0) x A wf0 rp1 (by omega) (r_kx (by omega))) (cwV 1 hts gX7_rounds_X7_findRounds rfl rfl rfl (by decide +kernel) ⟨Nat.le_of_ble_eq_true rfl, Nat.le_of_ble_eq_true rfl⟩) (by decide) rfl rfl rfl hl.1 rfl (Nat.le_of_ble_eq_true rfl) dX7_rounds_45 ⟨Nat.zero_le _, Nat.zero_le _⟩ (k_X (fun M_1 H locs q_1 hI => ?_))
        have rfr := RM_FR rm0 q_1.1
        have hlb := rlO_len (A 4) (A 3 6) (A 8 x) (A 7 x) w_cnt.1.2 (A 3 6).toNat (A 33 x) (-1) 0
        refine lv_iload_n hx hb dX7_rounds_48 rfl (lv_at hl 2 rfl) ?_
        refine r_if_ne hx hb (tgt := 59) (by omega) dX7_rounds_49 (by decide) (fun c_4 => ?_) (fun c_4 => ?_)
        · refine lv_aload_n hx hb dX7_rounds_59 rfl (lv_at hl 0 rfl) ?_
          refine r_get C hI 18 (by decide) rfl rfl hin7 26 (by decide) (fn := "roundFirst") (fd := "I") (index := 169) (by decide +kernel) ⟨rfl, rfl, rfl⟩ (v := .int (iI (M_1 18 26))) rfl dX7_rounds_60 ?_
          refine r_iret C hr hlk hI ?_ dX7_rounds_63
          exact ⟨_, rfl, (show (fun z u => z = zRou A x v ∧ QC M u ∧ RM (A) u) (M_1 18 26) M_1 from by exact ⟨(by unfold zRou tdO; rw [if_neg (by omega), if_neg (by omega), if_neg (by omega)]; first | (rw [if_pos (by omega)]; exact q_1.2.1) | (rw [if_neg (by omega)]; exact q_1.2.2)), (by exact rfr)⟩)⟩
        · refine lv_aload_n hx hb dX7_rounds_52 rfl (lv_at hl 0 rfl) ?_
          refine r_get C hI 18 (by decide) rfl rfl hin7 25 (by decide) (fn := "roundMany") (fd := "I") (index := 166) (by decide +kernel) ⟨rfl, rfl, rfl⟩ (v := .int (iI (M_1 18 25))) rfl dX7_rounds_53 ?_
          refine lv_goto (tgt := 63) hx hb dX7_rounds_56 (by decide) ?_
          refine r_iret C hr hlk hI ?_ dX7_rounds_63
          exact ⟨_, rfl, (show (fun z u => z = zRou A x v ∧ QC M u ∧ RM (A) u) (M_1 18 25) M_1 from by exact ⟨(by unfold zRou tdO; rw [if_neg (by omega), if_neg (by omega), if_neg (by omega)]; first | (rw [if_pos (by omega)]; exact q_1.2.1) | (rw [if_neg (by omega)]; exact q_1.2.2)), (by exact rfr)⟩)⟩
      · refine lv_bipush (v := iI (-3)) hx hb dX7_rounds_40 (by decide +kernel) ?_
        refine r_iret C hr hlk hI ?_ dX7_rounds_42
        exact ⟨_, rfl, (show (fun z u => z = zRou A x v ∧ QC M u ∧ RM (A) u) (-3) (mset M 18 0 0) from by exact ⟨(by unfold zRou; (repeat' split) <;> first | rfl | omega | (simp_all; done) | (simp_all; omega)), (by exact RO rm0)⟩)⟩
    · refine lv_bipush (v := iI (-2)) hx hb dX7_rounds_25 (by decide +kernel) ?_
      refine r_iret C hr hlk hI ?_ dX7_rounds_27
      exact ⟨_, rfl, (show (fun z u => z = zRou A x v ∧ QC M u ∧ RM (A) u) (-2) (mset M 18 0 0) from by exact ⟨(by unfold zRou; (repeat' split) <;> first | rfl | omega | (simp_all; done) | (simp_all; omega)), (by exact RO rm0)⟩)⟩
  · refine lv_iconst (v := iI (-1)) hx hb dX7_rounds_13 rfl ?_
    refine r_iret C hr hlk hI ?_ dX7_rounds_14
    exact ⟨_, rfl, (show (fun z u => z = zRou A x v ∧ QC M u ∧ RM (A) u) (-1) (mset M 18 0 0) from by exact ⟨(by unfold zRou; (repeat' split) <;> first | rfl | omega | (simp_all; done) | (simp_all; omega)), (by exact RO rm0)⟩)⟩
