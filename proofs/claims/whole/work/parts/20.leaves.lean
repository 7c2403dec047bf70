/-! THE WORDS of what is kept -/
theorem stV_R (i : Nat) (k : Int) : 0 ≤ stV i k ∧ stV i k ≤ 9 := by unfold stV; (repeat' split) <;> omega
def fstO (k : Int) : Int := if 100 ≤ k then k / 100 else if 10 ≤ k then k / 10 else k
def behO (k d r : Int) : Int := if r ≤ 1 then d else if r = 2 then k % 10 * 10 + d else k % 100 * 10 + d
def figs (k : Int) : Int := if k ≤ 0 then 0 else if k < 10 then 1 else if k < 100 then 2 else 3
theorem figs_0 {k : Int} (h : k ≤ 0) : figs k = 0 := by simp [figs, h]
theorem figs_S {k : Int} (h : 0 < k) (h2 : k < 1000) : figs k = figs (k / 10) + 1 := by unfold figs; repeat (split); all_goals omega
def gFst (a b w : Int) : Int := if b ≤ a then w - a else 0
def gOth (a b w : Int) : Int := if a < b then w - b else 0
set_option maxHeartbeats 4000000 in
set_option maxRecDepth 100000 in
theorem c_X6_at (l : Launch) (g : GT) (M : Mem) (i : Nat) (k : Int) (n : Nat) (hi : i < 86) (he : ∀ r, cel g i r = gI g n r) (hn : n < 2147483648) (hk : 0 ≤ k ∧ k < n) : Ctr l g yX6_at wsX6_at ({ frames := 0, cells := 0, slots := 0, locals := 0 } : Room) [.ref (gA g i), .int (iI k)] M (pI (M i k) M) := by
  refine Ctr.mk (cc := cX6_at) (maxL := 2) (ret := some .int) (lv := [(0, .ref (gA g i)), (1, .int (iI k))]) (by decide) rfl (Nat.le_of_ble_eq_true rfl) rfl ?_
  intro p e s m below meth c C hr hlk hI ls hl
  have C : CallFix p m c cX6_at 2 s ([.ref (gA g i), .int (iI k)] : List Value).toArray wsX6_at RX6 := C
  have hx := C.1
  have hb := C.2.1
  have hts := C.2.2.2.2
  refine lv_iload_n hx hb dX6_at_0 rfl (lv_at hl 1 rfl) ?_
  refine r_if_lt hx hb (tgt := 16) (by omega) dX6_at_1 (by decide) (fun c_1 => ?_) (fun c_1 => ?_)
  · refine lv_iconst (v := iI 0) hx hb dX6_at_16 rfl ?_
    refine r_iret C hr hlk hI ?_ dX6_at_17
    exact ⟨congrArg (fun q => some (Value.int (iI q))) (show 0 = M i k from by first | rfl | omega), rfl⟩
  · refine lv_iload_n hx hb dX6_at_4 rfl (lv_at hl 1 rfl) ?_
    refine lv_aload_n hx hb dX6_at_5 rfl (lv_at hl 0 rfl) ?_
    refine r_alen C hI i hi (he _) dX6_at_6 ?_
    refine r_icmp_ge hx hb (tgt := 16) (by omega) (by omega) dX6_at_7 (by decide) (fun c_2 => ?_) (fun c_2 => ?_)
    · refine lv_iconst (v := iI 0) hx hb dX6_at_16 rfl ?_
      refine r_iret C hr hlk hI ?_ dX6_at_17
      exact ⟨congrArg (fun q => some (Value.int (iI q))) (show 0 = M i k from by first | rfl | omega), rfl⟩
    · refine lv_aload_n hx hb dX6_at_10 rfl (lv_at hl 0 rfl) ?_
      refine lv_iload_n hx hb dX6_at_11 rfl (lv_at hl 1 rfl) ?_
      refine r_ald C hI i hi (he _) (by omega) (by omega) dX6_at_12 ?_
      refine lv_goto (tgt := 17) hx hb dX6_at_13 (by decide) ?_
      refine r_iret C hr hlk hI ?_ dX6_at_17
      exact ⟨congrArg (fun q => some (Value.int (iI q))) (show M i k = M i k from by first | rfl | omega), rfl⟩
set_option maxHeartbeats 4000000 in
set_option maxRecDepth 100000 in
theorem c_X6_atS (l : Launch) (g : GT) (M : Mem) (i : Nat) (k : Int) (hi : i < 4) (hk : 0 ≤ k ∧ k < 3) : Ctr l g yX6_at wsX6_at ({ frames := 0, cells := 0, slots := 0, locals := 0 } : Room) [.ref (gT g i), .int (iI k)] M (pI (stV i k) M) := by
  refine Ctr.mk (cc := cX6_at) (maxL := 2) (ret := some .int) (lv := [(0, .ref (gT g i)), (1, .int (iI k))]) (by decide) rfl (Nat.le_of_ble_eq_true rfl) rfl ?_
  intro p e s m below meth c C hr hlk hI ls hl
  have C : CallFix p m c cX6_at 2 s ([.ref (gT g i), .int (iI k)] : List Value).toArray wsX6_at RX6 := C
  have hx := C.1
  have hb := C.2.1
  have hts := C.2.2.2.2
  refine lv_iload_n hx hb dX6_at_0 rfl (lv_at hl 1 rfl) ?_
  refine r_if_lt hx hb (tgt := 16) (by omega) dX6_at_1 (by decide) (fun c_1 => ?_) (fun c_1 => ?_)
  · refine lv_iconst (v := iI 0) hx hb dX6_at_16 rfl ?_
    refine r_iret C hr hlk hI ?_ dX6_at_17
    exact ⟨congrArg (fun q => some (Value.int (iI q))) (show 0 = stV i k from by first | rfl | omega), rfl⟩
  · refine lv_iload_n hx hb dX6_at_4 rfl (lv_at hl 1 rfl) ?_
    refine lv_aload_n hx hb dX6_at_5 rfl (lv_at hl 0 rfl) ?_
    refine r_tlen C hI i hi dX6_at_6 ?_
    refine r_icmp_ge hx hb (tgt := 16) (by omega) (by decide) dX6_at_7 (by decide) (fun c_2 => ?_) (fun c_2 => ?_)
    · refine lv_iconst (v := iI 0) hx hb dX6_at_16 rfl ?_
      refine r_iret C hr hlk hI ?_ dX6_at_17
      exact ⟨congrArg (fun q => some (Value.int (iI q))) (show 0 = stV i k from by first | rfl | omega), rfl⟩
    · refine lv_aload_n hx hb dX6_at_10 rfl (lv_at hl 0 rfl) ?_
      refine lv_iload_n hx hb dX6_at_11 rfl (lv_at hl 1 rfl) ?_
      refine r_tld C hI i hi (by omega) dX6_at_12 ?_
      refine lv_goto (tgt := 17) hx hb dX6_at_13 (by decide) ?_
      refine r_iret C hr hlk hI ?_ dX6_at_17
      exact ⟨congrArg (fun q => some (Value.int (iI q))) (show stV i k = stV i k from by first | rfl | omega), rfl⟩
set_option maxHeartbeats 4000000 in
set_option maxRecDepth 100000 in
theorem c_X6_put (l : Launch) (g : GT) (M : Mem) (i : Nat) (k : Int) (v : Int) (n : Nat) (hi : i < 86) (he : ∀ r, cel g i r = gI g n r) (hn : n < 2147483648) (hk : 0 ≤ k ∧ k < n) : Ctr l g yX6_put wsX6_put ({ frames := 0, cells := 0, slots := 0, locals := 0 } : Room) [.ref (gA g i), .int (iI k), .int (iI v)] M (pV (mset M i k v)) := by
  refine Ctr.mk (cc := cX6_put) (maxL := 3) (ret := none) (lv := [(0, .ref (gA g i)), (1, .int (iI k)), (2, .int (iI v))]) (by decide) rfl (Nat.le_of_ble_eq_true rfl) rfl ?_
  intro p e s m below meth c C hr hlk hI ls hl
  have C : CallFix p m c cX6_put 3 s ([.ref (gA g i), .int (iI k), .int (iI v)] : List Value).toArray wsX6_put RX6 := C
  have hx := C.1
  have hb := C.2.1
  have hts := C.2.2.2.2
  refine lv_iload_n hx hb dX6_put_0 rfl (lv_at hl 1 rfl) ?_
  refine r_if_lt hx hb (tgt := 14) (by omega) dX6_put_1 (by decide) (fun c_1 => ?_) (fun c_1 => ?_)
  · refine r_vret C hr hlk hI ?_ dX6_put_14
    exact ⟨rfl, (show M = mset M i k v from by first | rfl | (exfalso; omega))⟩
  · refine lv_iload_n hx hb dX6_put_4 rfl (lv_at hl 1 rfl) ?_
    refine lv_aload_n hx hb dX6_put_5 rfl (lv_at hl 0 rfl) ?_
    refine r_alen C hI i hi (he _) dX6_put_6 ?_
    refine r_icmp_ge hx hb (tgt := 14) (by omega) (by omega) dX6_put_7 (by decide) (fun c_2 => ?_) (fun c_2 => ?_)
    · refine r_vret C hr hlk hI ?_ dX6_put_14
      exact ⟨rfl, (show M = mset M i k v from by first | rfl | (exfalso; omega))⟩
    · refine lv_aload_n hx hb dX6_put_10 rfl (lv_at hl 0 rfl) ?_
      refine lv_iload_n hx hb dX6_put_11 rfl (lv_at hl 1 rfl) ?_
      refine lv_iload_n hx hb dX6_put_12 rfl (lv_at hl 2 rfl) ?_
      refine r_ast C hI i hi he (by omega) (by omega) dX6_put_13 (fun H locs hI => ?_)
      refine r_vret C hr hlk hI ?_ dX6_put_14
      exact ⟨rfl, (show mset M i k v = mset M i k v from by first | rfl | (exfalso; omega))⟩
set_option maxHeartbeats 4000000 in
set_option maxRecDepth 100000 in
theorem c_X6_within (l : Launch) (g : GT) (M : Mem) (v : Int) (a : Int) (b : Int) (hv : -2147483648 ≤ v ∧ v < 2147483648) (ha : -2147483648 ≤ a ∧ a < 2147483648) (hb : -2147483648 ≤ b ∧ b < 2147483648) : Ctr l g yX6_within wsX6_within ({ frames := 0, cells := 0, slots := 0, locals := 0 } : Room) [.int (iI v), .int (iI a), .int (iI b)] M (pI (bI (a ≤ v ∧ v ≤ b)) M) := by
  refine Ctr.mk (cc := cX6_within) (maxL := 3) (ret := some .boolean) (lv := [(0, .int (iI v)), (1, .int (iI a)), (2, .int (iI b))]) (by decide) rfl (Nat.le_of_ble_eq_true rfl) rfl ?_
  intro p e s m below meth c C hr hlk hI ls hl
  have C : CallFix p m c cX6_within 3 s ([.int (iI v), .int (iI a), .int (iI b)] : List Value).toArray wsX6_within RX6 := C
  have hx := C.1
  have hb := C.2.1
  have hts := C.2.2.2.2
  refine lv_iload_n hx hb dX6_within_0 rfl (lv_at hl 0 rfl) ?_
  refine lv_iload_n hx hb dX6_within_1 rfl (lv_at hl 1 rfl) ?_
  refine r_icmp_lt hx hb (tgt := 14) (by omega) (by omega) dX6_within_2 (by decide) (fun c_1 => ?_) (fun c_1 => ?_)
  · refine lv_iconst (v := iI 0) hx hb dX6_within_14 rfl ?_
    refine r_zret C hr hlk hI (by decide +kernel) ?_ dX6_within_15
    exact ⟨congrArg (fun q => some (Value.int (iI q))) (bI_f (by first | assumption | omega)).symm, rfl⟩
  · refine lv_iload_n hx hb dX6_within_5 rfl (lv_at hl 0 rfl) ?_
    refine lv_iload_n hx hb dX6_within_6 rfl (lv_at hl 2 rfl) ?_
    refine r_icmp_gt hx hb (tgt := 14) (by omega) (by omega) dX6_within_7 (by decide) (fun c_2 => ?_) (fun c_2 => ?_)
    · refine lv_iconst (v := iI 0) hx hb dX6_within_14 rfl ?_
      refine r_zret C hr hlk hI (by decide +kernel) ?_ dX6_within_15
      exact ⟨congrArg (fun q => some (Value.int (iI q))) (bI_f (by first | assumption | omega)).symm, rfl⟩
    · refine lv_iconst (v := iI 1) hx hb dX6_within_10 rfl ?_
      refine lv_goto (tgt := 15) hx hb dX6_within_11 (by decide) ?_
      refine r_zret C hr hlk hI (by decide +kernel) ?_ dX6_within_15
      exact ⟨congrArg (fun q => some (Value.int (iI q))) (bI_t (by first | assumption | omega)).symm, rfl⟩
set_option maxHeartbeats 4000000 in
set_option maxRecDepth 100000 in
theorem c_X6_isChoice (l : Launch) (g : GT) (M : Mem) (v : Int) (hv : -2147483648 ≤ v ∧ v < 2147483648) : Ctr l g yX6_isChoice wsX6_isChoice ({ frames := 1, cells := 0, slots := 0, locals := 22 } : Room) [.int (iI v)] M (pI (bI (0 ≤ v ∧ v ≤ 1)) M) := by
  refine Ctr.mk (cc := cX6_isChoice) (maxL := 1) (ret := some .boolean) (lv := [(0, .int (iI v))]) (by decide) rfl (Nat.le_of_ble_eq_true rfl) rfl ?_
  intro p e s m below meth c C hr hlk hI ls hl
  have C : CallFix p m c cX6_isChoice 1 s ([.int (iI v)] : List Value).toArray wsX6_isChoice RX6 := C
  have hx := C.1
  have hb := C.2.1
  have hts := C.2.2.2.2
  refine lv_iload_n hx hb dX6_isChoice_0 rfl (lv_at hl 0 rfl) ?_
  refine lv_iconst (v := iI 0) hx hb dX6_isChoice_1 rfl ?_
  refine lv_iconst (v := iI 1) hx hb dX6_isChoice_2 rfl ?_
  refine r_is C hI (As := [.int (iI v), .int (iI 0), .int (iI 1)]) (rest := []) (c_X6_within l g M v 0 1 (by omega) (by omega) (by omega)) (va_cwS 3 hts gX6_isChoice_X6_within rfl rfl rfl (by decide +kernel) ⟨Nat.le_of_ble_eq_true rfl, Nat.le_of_ble_eq_true rfl⟩) rfl hl.1 rfl (Nat.le_of_ble_eq_true rfl) dX6_isChoice_3 ⟨Nat.zero_le _, Nat.zero_le _⟩ (k_I (fun H locs hI => ?_))
  refine r_zret C hr hlk hI (z_b _) ?_ dX6_isChoice_6
  exact ⟨congrArg (fun q => some (Value.int (iI q))) (show bI (0 ≤ v ∧ v ≤ 1) = bI (0 ≤ v ∧ v ≤ 1) from by first | rfl | omega), rfl⟩
set_option maxHeartbeats 4000000 in
set_option maxRecDepth 100000 in
theorem c_X6_lastOf (l : Launch) (g : GT) (M : Mem) (k : Int) (hk : 0 ≤ k ∧ k < 2147483648) : Ctr l g yX6_lastOf wsX6_lastOf ({ frames := 0, cells := 0, slots := 0, locals := 0 } : Room) [.int (iI k)] M (pI (k % 10) M) := by
  refine Ctr.mk (cc := cX6_lastOf) (maxL := 1) (ret := some .int) (lv := [(0, .int (iI k))]) (by decide) rfl (Nat.le_of_ble_eq_true rfl) rfl ?_
  intro p e s m below meth c C hr hlk hI ls hl
  have C : CallFix p m c cX6_lastOf 1 s ([.int (iI k)] : List Value).toArray wsX6_lastOf RX6 := C
  have hx := C.1
  have hb := C.2.1
  have hts := C.2.2.2.2
  refine lv_iload_n hx hb dX6_lastOf_0 rfl (lv_at hl 0 rfl) ?_
  refine lv_bipush (v := iI 10) hx hb dX6_lastOf_1 (by decide +kernel) ?_
  refine r_irem hx hb (by omega) (by decide) dX6_lastOf_3 ?_
  refine r_iret C hr hlk hI ?_ dX6_lastOf_4
  exact ⟨congrArg (fun q => some (Value.int (iI q))) (show k % 10 = k % 10 from by first | rfl | omega), rfl⟩
set_option maxHeartbeats 4000000 in
set_option maxRecDepth 100000 in
theorem c_X6_withoutLast (l : Launch) (g : GT) (M : Mem) (k : Int) (hk : 0 ≤ k ∧ k < 2147483648) : Ctr l g yX6_withoutLast wsX6_withoutLast ({ frames := 0, cells := 0, slots := 0, locals := 0 } : Room) [.int (iI k)] M (pI (k / 10) M) := by
  refine Ctr.mk (cc := cX6_withoutLast) (maxL := 1) (ret := some .int) (lv := [(0, .int (iI k))]) (by decide) rfl (Nat.le_of_ble_eq_true rfl) rfl ?_
  intro p e s m below meth c C hr hlk hI ls hl
  have C : CallFix p m c cX6_withoutLast 1 s ([.int (iI k)] : List Value).toArray wsX6_withoutLast RX6 := C
  have hx := C.1
  have hb := C.2.1
  have hts := C.2.2.2.2
  refine lv_iload_n hx hb dX6_withoutLast_0 rfl (lv_at hl 0 rfl) ?_
  refine lv_bipush (v := iI 10) hx hb dX6_withoutLast_1 (by decide +kernel) ?_
  refine r_idiv hx hb (by omega) (by decide) dX6_withoutLast_3 ?_
  refine r_iret C hr hlk hI ?_ dX6_withoutLast_4
  exact ⟨congrArg (fun q => some (Value.int (iI q))) (show k / 10 = k / 10 from by first | rfl | omega), rfl⟩
set_option maxHeartbeats 4000000 in
set_option maxRecDepth 100000 in
theorem c_X6_firstOf (l : Launch) (g : GT) (M : Mem) (k : Int) (hk : 0 ≤ k ∧ k < 2147483648) : Ctr l g yX6_firstOf wsX6_firstOf ({ frames := 0, cells := 0, slots := 0, locals := 0 } : Room) [.int (iI k)] M (pI (fstO k) M) := by
  refine Ctr.mk (cc := cX6_firstOf) (maxL := 1) (ret := some .int) (lv := [(0, .int (iI k))]) (by decide) rfl (Nat.le_of_ble_eq_true rfl) rfl ?_
  intro p e s m below meth c C hr hlk hI ls hl
  have C : CallFix p m c cX6_firstOf 1 s ([.int (iI k)] : List Value).toArray wsX6_firstOf RX6 := C
  have hx := C.1
  have hb := C.2.1
  have hts := C.2.2.2.2
  refine lv_iload_n hx hb dX6_firstOf_0 rfl (lv_at hl 0 rfl) ?_
  refine lv_bipush (v := iI 100) hx hb dX6_firstOf_1 (by decide +kernel) ?_
  refine r_icmp_lt hx hb (tgt := 11) (by omega) (by decide) dX6_firstOf_3 (by decide) (fun c_1 => ?_) (fun c_1 => ?_)
  · refine lv_iload_n hx hb dX6_firstOf_11 rfl (lv_at hl 0 rfl) ?_
    refine lv_bipush (v := iI 10) hx hb dX6_firstOf_12 (by decide +kernel) ?_
    refine r_icmp_lt hx hb (tgt := 24) (by omega) (by decide) dX6_firstOf_14 (by decide) (fun c_2 => ?_) (fun c_2 => ?_)
    · refine lv_iload_n hx hb dX6_firstOf_24 rfl (lv_at hl 0 rfl) ?_
      refine r_iret C hr hlk hI ?_ dX6_firstOf_25
      exact ⟨congrArg (fun q => some (Value.int (iI q))) (show k = fstO k from by unfold fstO; repeat (split); all_goals omega), rfl⟩
    · refine lv_iload_n hx hb dX6_firstOf_17 rfl (lv_at hl 0 rfl) ?_
      refine lv_bipush (v := iI 10) hx hb dX6_firstOf_18 (by decide +kernel) ?_
      refine r_idiv hx hb (by omega) (by decide) dX6_firstOf_20 ?_
      refine lv_goto (tgt := 25) hx hb dX6_firstOf_21 (by decide) ?_
      refine r_iret C hr hlk hI ?_ dX6_firstOf_25
      exact ⟨congrArg (fun q => some (Value.int (iI q))) (show k / 10 = fstO k from by unfold fstO; repeat (split); all_goals omega), rfl⟩
  · refine lv_iload_n hx hb dX6_firstOf_6 rfl (lv_at hl 0 rfl) ?_
    refine lv_bipush (v := iI 100) hx hb dX6_firstOf_7 (by decide +kernel) ?_
    refine r_idiv hx hb (by omega) (by decide) dX6_firstOf_9 ?_
    refine r_iret C hr hlk hI ?_ dX6_firstOf_10
    exact ⟨congrArg (fun q => some (Value.int (iI q))) (show k / 100 = fstO k from by unfold fstO; repeat (split); all_goals omega), rfl⟩
set_option maxHeartbeats 4000000 in
set_option maxRecDepth 100000 in
theorem c_X6_withBehind (l : Launch) (g : GT) (M : Mem) (k : Int) (d : Int) (r : Int) (hk : 0 ≤ k ∧ k < 2147483648) (hr : -2147483648 ≤ r ∧ r < 2147483648) : Ctr l g yX6_withBehind wsX6_withBehind ({ frames := 0, cells := 0, slots := 0, locals := 0 } : Room) [.int (iI k), .int (iI d), .int (iI r)] M (pI (behO k d r) M) := by
  refine Ctr.mk (cc := cX6_withBehind) (maxL := 3) (ret := some .int) (lv := [(0, .int (iI k)), (1, .int (iI d)), (2, .int (iI r))]) (by decide) rfl (Nat.le_of_ble_eq_true rfl) rfl ?_
  intro p e s m below meth c C hr hlk hI ls hl
  have C : CallFix p m c cX6_withBehind 3 s ([.int (iI k), .int (iI d), .int (iI r)] : List Value).toArray wsX6_withBehind RX6 := C
  have hx := C.1
  have hb := C.2.1
  have hts := C.2.2.2.2
  refine lv_iload_n hx hb dX6_withBehind_0 rfl (lv_at hl 2 rfl) ?_
  refine lv_iconst (v := iI 1) hx hb dX6_withBehind_1 rfl ?_
  refine r_icmp_gt hx hb (tgt := 7) (by omega) (by decide) dX6_withBehind_2 (by decide) (fun c_1 => ?_) (fun c_1 => ?_)
  · refine lv_iload_n hx hb dX6_withBehind_7 rfl (lv_at hl 2 rfl) ?_
    refine lv_iconst (v := iI 2) hx hb dX6_withBehind_8 rfl ?_
    refine r_icmp_ne hx hb (tgt := 24) (by omega) (by decide) dX6_withBehind_9 (by decide) (fun c_2 => ?_) (fun c_2 => ?_)
    · refine lv_iload_n hx hb dX6_withBehind_24 rfl (lv_at hl 0 rfl) ?_
      refine lv_bipush (v := iI 100) hx hb dX6_withBehind_25 (by decide +kernel) ?_
      refine r_irem hx hb (by omega) (by decide) dX6_withBehind_27 ?_
      refine lv_bipush (v := iI 10) hx hb dX6_withBehind_28 (by decide +kernel) ?_
      refine r_imul hx hb dX6_withBehind_30 ?_
      refine lv_iload_n hx hb dX6_withBehind_31 rfl (lv_at hl 1 rfl) ?_
      refine r_iadd hx hb dX6_withBehind_32 ?_
      refine r_iret C hr hlk hI ?_ dX6_withBehind_33
      exact ⟨congrArg (fun q => some (Value.int (iI q))) (show ((k % 100) * 10) + d = behO k d r from by unfold behO; repeat (split); all_goals omega), rfl⟩
    · refine lv_iload_n hx hb dX6_withBehind_12 rfl (lv_at hl 0 rfl) ?_
      refine lv_bipush (v := iI 10) hx hb dX6_withBehind_13 (by decide +kernel) ?_
      refine r_irem hx hb (by omega) (by decide) dX6_withBehind_15 ?_
      refine lv_bipush (v := iI 10) hx hb dX6_withBehind_16 (by decide +kernel) ?_
      refine r_imul hx hb dX6_withBehind_18 ?_
      refine lv_iload_n hx hb dX6_withBehind_19 rfl (lv_at hl 1 rfl) ?_
      refine r_iadd hx hb dX6_withBehind_20 ?_
      refine lv_goto (tgt := 33) hx hb dX6_withBehind_21 (by decide) ?_
      refine r_iret C hr hlk hI ?_ dX6_withBehind_33
      exact ⟨congrArg (fun q => some (Value.int (iI q))) (show ((k % 10) * 10) + d = behO k d r from by unfold behO; repeat (split); all_goals omega), rfl⟩
  · refine lv_iload_n hx hb dX6_withBehind_5 rfl (lv_at hl 1 rfl) ?_
    refine r_iret C hr hlk hI ?_ dX6_withBehind_6
    exact ⟨congrArg (fun q => some (Value.int (iI q))) (show d = behO k d r from by unfold behO; repeat (split); all_goals omega), rfl⟩
set_option maxHeartbeats 4000000 in
set_option maxRecDepth 100000 in
theorem c_X6_gainOfFirst (l : Launch) (g : GT) (M : Mem) (a : Int) (b : Int) (w : Int) (ha : -2147483648 ≤ a ∧ a < 2147483648) (hb : -2147483648 ≤ b ∧ b < 2147483648) : Ctr l g yX6_gainOfFirst wsX6_gainOfFirst ({ frames := 0, cells := 0, slots := 0, locals := 0 } : Room) [.int (iI a), .int (iI b), .int (iI w)] M (pI (gFst a b w) M) := by
  refine Ctr.mk (cc := cX6_gainOfFirst) (maxL := 3) (ret := some .int) (lv := [(0, .int (iI a)), (1, .int (iI b)), (2, .int (iI w))]) (by decide) rfl (Nat.le_of_ble_eq_true rfl) rfl ?_
  intro p e s m below meth c C hr hlk hI ls hl
  have C : CallFix p m c cX6_gainOfFirst 3 s ([.int (iI a), .int (iI b), .int (iI w)] : List Value).toArray wsX6_gainOfFirst RX6 := C
  have hx := C.1
  have hb := C.2.1
  have hts := C.2.2.2.2
  refine lv_iload_n hx hb dX6_gainOfFirst_0 rfl (lv_at hl 0 rfl) ?_
  refine lv_iload_n hx hb dX6_gainOfFirst_1 rfl (lv_at hl 1 rfl) ?_
  refine r_icmp_lt hx hb (tgt := 11) (by omega) (by omega) dX6_gainOfFirst_2 (by decide) (fun c_1 => ?_) (fun c_1 => ?_)
  · refine lv_iconst (v := iI 0) hx hb dX6_gainOfFirst_11 rfl ?_
    refine r_iret C hr hlk hI ?_ dX6_gainOfFirst_12
    exact ⟨congrArg (fun q => some (Value.int (iI q))) (show 0 = gFst a b w from by unfold gFst; split; all_goals omega), rfl⟩
  · refine lv_iload_n hx hb dX6_gainOfFirst_5 rfl (lv_at hl 2 rfl) ?_
    refine lv_iload_n hx hb dX6_gainOfFirst_6 rfl (lv_at hl 0 rfl) ?_
    refine r_isub hx hb dX6_gainOfFirst_7 ?_
    refine lv_goto (tgt := 12) hx hb dX6_gainOfFirst_8 (by decide) ?_
    refine r_iret C hr hlk hI ?_ dX6_gainOfFirst_12
    exact ⟨congrArg (fun q => some (Value.int (iI q))) (show w - a = gFst a b w from by unfold gFst; split; all_goals omega), rfl⟩
set_option maxHeartbeats 4000000 in
set_option maxRecDepth 100000 in
theorem c_X6_gainOfOther (l : Launch) (g : GT) (M : Mem) (a : Int) (b : Int) (w : Int) (ha : -2147483648 ≤ a ∧ a < 2147483648) (hb : -2147483648 ≤ b ∧ b < 2147483648) : Ctr l g yX6_gainOfOther wsX6_gainOfOther ({ frames := 0, cells := 0, slots := 0, locals := 0 } : Room) [.int (iI a), .int (iI b), .int (iI w)] M (pI (gOth a b w) M) := by
  refine Ctr.mk (cc := cX6_gainOfOther) (maxL := 3) (ret := some .int) (lv := [(0, .int (iI a)), (1, .int (iI b)), (2, .int (iI w))]) (by decide) rfl (Nat.le_of_ble_eq_true rfl) rfl ?_
  intro p e s m below meth c C hr hlk hI ls hl
  have C : CallFix p m c cX6_gainOfOther 3 s ([.int (iI a), .int (iI b), .int (iI w)] : List Value).toArray wsX6_gainOfOther RX6 := C
  have hx := C.1
  have hb := C.2.1
  have hts := C.2.2.2.2
  refine lv_iload_n hx hb dX6_gainOfOther_0 rfl (lv_at hl 1 rfl) ?_
  refine lv_iload_n hx hb dX6_gainOfOther_1 rfl (lv_at hl 0 rfl) ?_
  refine r_icmp_le hx hb (tgt := 11) (by omega) (by omega) dX6_gainOfOther_2 (by decide) (fun c_1 => ?_) (fun c_1 => ?_)
  · refine lv_iconst (v := iI 0) hx hb dX6_gainOfOther_11 rfl ?_
    refine r_iret C hr hlk hI ?_ dX6_gainOfOther_12
    exact ⟨congrArg (fun q => some (Value.int (iI q))) (show 0 = gOth a b w from by unfold gOth; split; all_goals omega), rfl⟩
  · refine lv_iload_n hx hb dX6_gainOfOther_5 rfl (lv_at hl 2 rfl) ?_
    refine lv_iload_n hx hb dX6_gainOfOther_6 rfl (lv_at hl 1 rfl) ?_
    refine r_isub hx hb dX6_gainOfOther_7 ?_
    refine lv_goto (tgt := 12) hx hb dX6_gainOfOther_8 (by decide) ?_
    refine r_iret C hr hlk hI ?_ dX6_gainOfOther_12
    exact ⟨congrArg (fun q => some (Value.int (iI q))) (show w - b = gOth a b w from by unfold gOth; split; all_goals omega), rfl⟩
set_option maxHeartbeats 4000000 in
set_option maxRecDepth 100000 in
theorem c_X6_figuresIn (l : Launch) (g : GT) (M : Mem) (k : Int) (hk : 0 ≤ k ∧ k < 1000) : Ctr l g yX6_figuresIn wsX6_figuresIn ({ frames := 0, cells := 0, slots := 0, locals := 0 } : Room) [.int (iI k)] M (pI (figs k) M) := by
  refine Ctr.mk (cc := cX6_figuresIn) (maxL := 3) (ret := some .int) (lv := [(0, .int (iI k))]) (by decide) rfl (Nat.le_of_ble_eq_true rfl) rfl ?_
  intro p e s m below meth c C hr hlk hI ls hl
  have C : CallFix p m c cX6_figuresIn 3 s ([.int (iI k)] : List Value).toArray wsX6_figuresIn RX6 := C
  have hx := C.1
  have hb := C.2.1
  have hts := C.2.2.2.2
  refine lv_iconst (v := iI 0) hx hb dX6_figuresIn_0 rfl ?_
  refine lv_istore_n (lv' := [(1, .int (iI 0)), (0, .int (iI k))]) hx hb dX6_figuresIn_1 rfl hl (by decide) rfl (fun ls hl => ?_)
  refine lv_iload_n hx hb dX6_figuresIn_2 rfl (lv_at hl 1 rfl) ?_
  refine lv_istore_n (lv' := [(2, .int (iI k)), (1, .int (iI 0)), (0, .int (iI k))]) hx hb dX6_figuresIn_3 rfl hl (by decide) rfl (fun ls hl => ?_)
  have lp4 : ∀ (n4 : Nat) (x : Int) (n : Int), (0 ≤ x ∧ x < 1000) → (n + figs x = figs k) → x.toNat < n4 → ∀ (H : Heap) (locs : List Loc), HI g s H locs M → ∀ ls : Array Slot, lv_has ls 3 [(2, .int (iI x)), (1, .int (iI n)), (0, .int (iI k))] → W p l e ({ frames := 0, cells := 0, slots := 0, locals := 0 } : Room) s m ([.int (iI k)] : List Value).toArray below meth c H locs 0 0 (MQ below (QV g (pI (figs k) M)) ([.int (iI k)] : List Value).toArray s 0 0 (AA g)) (F0 m 4 ls []) := by
    intro n4
    induction n4 with
    | zero => intro x n h1 h2 hn4; exact absurd hn4 (Nat.not_lt_zero _)
    | succ n4 ih4 =>
      intro x n h1 h2 hn4 H locs hI ls hl
      refine lv_iload_n hx hb dX6_figuresIn_4 rfl (lv_at hl 0 rfl) ?_
      refine r_if_le hx hb (tgt := 19) (by omega) dX6_figuresIn_5 (by decide) (fun c_1 => ?_) (fun c_1 => ?_)
      · refine lv_iload_n hx hb dX6_figuresIn_19 rfl (lv_at hl 1 rfl) ?_
        refine r_iret C hr hlk hI ?_ dX6_figuresIn_20
        exact ⟨congrArg (fun q => some (Value.int (iI q))) (show n = figs k from by (have := figs_0 (k := x) (by omega); omega)), rfl⟩
      · refine lv_iinc (v := iI (n + 1)) (lv' := [(1, .int (iI (n + 1))), (2, .int (iI x)), (0, .int (iI k))]) hx hb dX6_figuresIn_8 hl (k := 1) rfl (iI_add _ _) (by decide) rfl (fun ls hl => ?_)
        refine lv_iload_n hx hb dX6_figuresIn_11 rfl (lv_at hl 1 rfl) ?_
        refine lv_bipush (v := iI 10) hx hb dX6_figuresIn_12 (by decide +kernel) ?_
        refine r_idiv hx hb (by omega) (by decide) dX6_figuresIn_14 ?_
        refine lv_istore_n (lv' := [(2, .int (iI (x / 10))), (1, .int (iI (n + 1))), (0, .int (iI k))]) hx hb dX6_figuresIn_15 rfl hl (by decide) rfl (fun ls hl => ?_)
        refine lv_goto (tgt := 4) hx hb dX6_figuresIn_16 (by decide) ?_
        exact ih4 (x / 10) (n + 1) (by omega) (by (have := figs_S (k := x) (by omega) (by omega); omega)) (by omega) _ _ hI ls (lv_sub hl [0, 1, 2] rfl)
  exact lp4 _ k 0 (by omega) (by omega) (Nat.lt_succ_self _) _ _ hI ls (lv_sub hl [0, 1, 2] rfl)
