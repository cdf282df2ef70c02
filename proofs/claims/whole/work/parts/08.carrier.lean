set_option maxHeartbeats 4000000 in
set_option maxRecDepth 100000 in
theorem e4_flag {S : Sto} {Q : Int32 → Sto → Prop} (hF : Fx S) {p0 : Int32}  (h : ∀ w1 : Int32, w1 = (if p0 = 0 then 0 else 1 : Int32) → (Q w1 S)) : Ci K4_flag [vi p0] S Q := by
  refine Ci.intro rfl (Nat.le_of_ble_eq_true rfl) (fun X O => ?_)
  have C := O.1
  have hn : sN S ≤ sN S := Nat.le_refl _
  show WP X 0 [(0, vi p0)] [] S 0 0
  refine r_iloadn C 0 dX4_flag_0 rfl ?_
  have kJ2 : ∀ (w1 : Int32) (_ : w1 = (if p0 = 0 then 0 else 1 : Int32)), WP X 9 [] [vi w1] S 0 0 := by
    intro w1 hw1
    replace h := h w1 hw1
    have hz_w1 : w1 = 0 ∨ w1 = 1 := by rw [hw1]; repeat (first | exact Or.inl rfl | exact Or.inr rfl | assumption | split)
    exact ri O ⟨_, rfl, rfl⟩ dX4_flag_9 (by decide) (by decide) hF hn h
  refine r_if_eq C dX4_flag_1 (tgt := 8) (by decide) (fun hc3 => ?_) (fun hc3 => ?_)
  · refine r_iconst C (x := 0) dX4_flag_8 (by decide) ?_
    refine r_perm [] rfl ?_
    exact kJ2 _ (if_pos hc3).symm
  · refine r_iconst C (x := 1) dX4_flag_4 (by decide) ?_
    refine r_goto C dX4_flag_5 (tgt := 9) (by decide) ?_
    refine r_perm [] rfl ?_
    exact kJ2 _ (if_neg hc3).symm
theorem q4_flag {S : Sto} (hF : Fx S) {p0 : Int32}   : Ci K4_flag [vi p0] S (fun x S1 => x = ((if p0 = 0 then 0 else 1 : Int32)) ∧ S1 = S) := by
  refine e4_flag hF  ?_
  intro w hw; subst hw
  exact ⟨rfl, rfl⟩
set_option maxHeartbeats 4000000 in
set_option maxRecDepth 100000 in
theorem e4_streamAt {S : Sto} {Q : Option Nat → Sto → Prop} (hF : Fx S) {p1 : Int32}  (h : (p1 < 0 → (Q none S)) ∧ (¬ p1 < 0 → ((p1 < 8 → ((0 ≤ (p1 : Int32).toInt ∧ (p1 : Int32).toInt < (8 : Nat)) ∧ (Q (some (3 + 2 * p1.toNatClampNeg)) S))) ∧ (¬ p1 < 8 → (Q none S))))) : Co K4_streamAt [vr 0, vi p1] S Q := by
  refine Co.intro rfl (Nat.le_of_ble_eq_true rfl) (fun X O => ?_)
  have C := O.1
  have hn : sN S ≤ sN S := Nat.le_refl _
  show WP X 0 [(0, vr 0), (1, vi p1)] [] S 0 0
  refine r_iloadn C 1 dX4_streamAt_0 rfl ?_
  refine r_if_lt C dX4_streamAt_1 (tgt := 10) (by decide) (fun hc3 => ?_) (fun hc3 => ?_)
  · replace h := h.1 hc3
    refine r_null C dX4_streamAt_10 ?_
    refine r_goto C dX4_streamAt_11 (tgt := 20) (by decide) ?_
    exact ra O ⟨_, rfl⟩ dX4_streamAt_20 (by decide) (by decide) hF hn h
  · replace h := h.2 hc3
    refine r_iloadn C 1 dX4_streamAt_4 rfl ?_
    refine r_bipush C (x := 8) dX4_streamAt_5 (by decide) ?_
    refine r_icmp_lt C dX4_streamAt_7 (tgt := 14) (by decide) (fun hc6 => ?_) (fun hc6 => ?_)
    · replace h := h.1 hc6
      refine r_aloadn C 0 dX4_streamAt_14 rfl ?_
      refine r_getR C (hF.k (by decide) rfl) fl_4_27 rfl (o := some 2) hF.c0 dX4_streamAt_15 ?_
      refine r_iloadn C 1 dX4_streamAt_18 rfl ?_
      obtain ⟨hi7, h⟩ := h
      refine r_aald C (o := some (3 + 2 * p1.toNatClampNeg)) (hF.k (by decide) rfl) (by decide) (ixL (n := 8) rfl hi7) (hF.stRI hi7) dX4_streamAt_19 ?_
      exact ra O ⟨_, rfl⟩ dX4_streamAt_20 (by decide) (by decide) hF hn h
    · replace h := h.2 hc6
      refine r_null C dX4_streamAt_10 ?_
      refine r_goto C dX4_streamAt_11 (tgt := 20) (by decide) ?_
      exact ra O ⟨_, rfl⟩ dX4_streamAt_20 (by decide) (by decide) hF hn h
set_option maxHeartbeats 4000000 in
set_option maxRecDepth 100000 in
theorem e4_sideAt {S : Sto} {Q : Option Nat → Sto → Prop} (hF : Fx S) {p1 : Int32}  (h : (p1 < 0 → (Q none S)) ∧ (¬ p1 < 0 → ((p1 ≤ 1 → ((0 ≤ (p1 : Int32).toInt ∧ (p1 : Int32).toInt < (2 : Nat)) ∧ (Q (some (20 + 3 * p1.toNatClampNeg)) S))) ∧ (¬ p1 ≤ 1 → (Q none S))))) : Co K4_sideAt [vr 0, vi p1] S Q := by
  refine Co.intro rfl (Nat.le_of_ble_eq_true rfl) (fun X O => ?_)
  have C := O.1
  have hn : sN S ≤ sN S := Nat.le_refl _
  show WP X 0 [(0, vr 0), (1, vi p1)] [] S 0 0
  refine r_iloadn C 1 dX4_sideAt_0 rfl ?_
  refine r_if_lt C dX4_sideAt_1 (tgt := 9) (by decide) (fun hc3 => ?_) (fun hc3 => ?_)
  · replace h := h.1 hc3
    refine r_null C dX4_sideAt_9 ?_
    refine r_goto C dX4_sideAt_10 (tgt := 19) (by decide) ?_
    exact ra O ⟨_, rfl⟩ dX4_sideAt_19 (by decide) (by decide) hF hn h
  · replace h := h.2 hc3
    refine r_iloadn C 1 dX4_sideAt_4 rfl ?_
    refine r_iconst C (x := 1) dX4_sideAt_5 (by decide) ?_
    refine r_icmp_le C dX4_sideAt_6 (tgt := 13) (by decide) (fun hc6 => ?_) (fun hc6 => ?_)
    · replace h := h.1 hc6
      refine r_aloadn C 0 dX4_sideAt_13 rfl ?_
      refine r_getR C (hF.k (by decide) rfl) fl_4_36 rfl (o := some 19) hF.c1 dX4_sideAt_14 ?_
      refine r_iloadn C 1 dX4_sideAt_17 rfl ?_
      obtain ⟨hi7, h⟩ := h
      refine r_aald C (o := some (20 + 3 * p1.toNatClampNeg)) (hF.k (by decide) rfl) (by decide) (ixL (n := 2) rfl hi7) (hF.sdRI hi7) dX4_sideAt_18 ?_
      exact ra O ⟨_, rfl⟩ dX4_sideAt_19 (by decide) (by decide) hF hn h
    · replace h := h.2 hc6
      refine r_null C dX4_sideAt_9 ?_
      refine r_goto C dX4_sideAt_10 (tgt := 19) (by decide) ?_
      exact ra O ⟨_, rfl⟩ dX4_sideAt_19 (by decide) (by decide) hF hn h
set_option maxHeartbeats 4000000 in
set_option maxRecDepth 100000 in
theorem e4_packetOf {S : Sto} {Q : Option Nat → Sto → Prop} (hF : Fx S) {p1 : Int32} {p2 : Int32}  (h : Co K4_sideAt [vr 0, vi p1] S (fun x1 S1 => (∀ b, x1 = some b → al S1 b 2) ∧ ((∀ b3 : Nat, x1 = some b3 → (Co K2_packetAt [vr b3, vi p2] S1 (fun x5 S5 => (∀ b, x5 = some b → al S5 b 1) ∧ (Q x5 S5)))) ∧ (x1 = none → (Q none S1))))) : Co K4_packetOf [vr 0, vi p1, vi p2] S Q := by
  refine Co.intro rfl (Nat.le_of_ble_eq_true rfl) (fun X O => ?_)
  have C := O.1
  have hn : sN S ≤ sN S := Nat.le_refl _
  show WP X 0 [(0, vr 0), (1, vi p1), (2, vi p2)] [] S 0 0
  refine r_aloadn C 0 dX4_packetOf_0 rfl ?_
  refine r_iloadn C 1 dX4_packetOf_1 rfl ?_
  refine r_callVo C K4_sideAt [vi p1] [] (hF.k (by decide) rfl) (by decide) rfl cl_4_110 rm_4_packetOf_4_sideAt ⟨rfl, rfl⟩ (by decide) (by decide) rfl (Nat.le_of_ble_eq_true rfl) dX4_packetOf_2 h (fun x1 S1 hF1 hn1 h => ?_)
  obtain ⟨hk2, h⟩ := h
  refine r_astoren C dX4_packetOf_5 (by decide) rfl rfl ?_
  refine r_aloadn C 0 dX4_packetOf_6 rfl ?_
  refine r_ifnonnull C dX4_packetOf_7 (tgt := 14) (by decide) (fun b3 hb4 => ?_) (fun hb4 => ?_)
  · replace h := h.1 b3 hb4
    try rw [hb4]
    refine r_aloadn C 0 dX4_packetOf_14 rfl ?_
    refine r_iloadn C 3 dX4_packetOf_15 rfl ?_
    refine r_callVo C K2_packetAt [vi p2] [] (hk2 _ hb4) (by decide) rfl cl_4_272 rm_4_packetOf_2_packetAt ⟨rfl, rfl⟩ (by decide) (by decide) rfl (Nat.le_of_ble_eq_true rfl) dX4_packetOf_16 h (fun x5 S5 hF5 hn5 h => ?_)
    obtain ⟨hk6, h⟩ := h
    exact ra O ⟨_, rfl⟩ dX4_packetOf_19 (by decide) (by decide) hF5 (Nat.le_trans (Nat.le_trans hn hn1) hn5) h
  · replace h := h.2 hb4
    refine r_null C dX4_packetOf_10 ?_
    refine r_goto C dX4_packetOf_11 (tgt := 19) (by decide) ?_
    exact ra O ⟨_, rfl⟩ dX4_packetOf_19 (by decide) (by decide) hF1 (Nat.le_trans hn hn1) h
set_option maxHeartbeats 4000000 in
set_option maxRecDepth 100000 in
theorem e4_underWayAt {S : Sto} {Q : Option Nat → Sto → Prop} (hF : Fx S) {p1 : Int32}  (h : (p1 < 0 → (Q none S)) ∧ (¬ p1 < 0 → (((gI S 0 3) ≤ p1 → (Q none S)) ∧ (¬ (gI S 0 3) ≤ p1 → ((p1 < 400 → ((0 ≤ (p1 : Int32).toInt ∧ (p1 : Int32).toInt < (400 : Nat)) ∧ (Q (gR S 1 p1.toNatClampNeg) S))) ∧ (¬ p1 < 400 → (Q none S))))))) : Co K4_underWayAt [vr 0, vi p1] S Q := by
  refine Co.intro rfl (Nat.le_of_ble_eq_true rfl) (fun X O => ?_)
  have C := O.1
  have hn : sN S ≤ sN S := Nat.le_refl _
  show WP X 0 [(0, vr 0), (1, vi p1)] [] S 0 0
  refine r_iloadn C 1 dX4_underWayAt_0 rfl ?_
  refine r_if_lt C dX4_underWayAt_1 (tgt := 19) (by decide) (fun hc3 => ?_) (fun hc3 => ?_)
  · replace h := h.1 hc3
    refine r_null C dX4_underWayAt_19 ?_
    refine r_goto C dX4_underWayAt_20 (tgt := 29) (by decide) ?_
    exact ra O ⟨_, rfl⟩ dX4_underWayAt_29 (by decide) (by decide) hF hn h
  · replace h := h.2 hc3
    refine r_iloadn C 1 dX4_underWayAt_4 rfl ?_
    refine r_aloadn C 0 dX4_underWayAt_5 rfl ?_
    refine r_getI C (hF.k (by decide) rfl) fl_4_117 rfl dX4_underWayAt_6 ?_
    refine r_icmp_ge C dX4_underWayAt_9 (tgt := 19) (by decide) (fun hc6 => ?_) (fun hc6 => ?_)
    · replace h := h.1 hc6
      refine r_null C dX4_underWayAt_19 ?_
      refine r_goto C dX4_underWayAt_20 (tgt := 29) (by decide) ?_
      exact ra O ⟨_, rfl⟩ dX4_underWayAt_29 (by decide) (by decide) hF hn h
    · replace h := h.2 hc6
      refine r_iloadn C 1 dX4_underWayAt_12 rfl ?_
      refine r_sipush C (x := 400) dX4_underWayAt_13 (by decide) ?_
      refine r_icmp_lt C dX4_underWayAt_16 (tgt := 23) (by decide) (fun hc9 => ?_) (fun hc9 => ?_)
      · replace h := h.1 hc9
        refine r_aloadn C 0 dX4_underWayAt_23 rfl ?_
        refine r_getR C (hF.k (by decide) rfl) fl_4_21 rfl (o := some 1) hF.c2 dX4_underWayAt_24 ?_
        refine r_iloadn C 1 dX4_underWayAt_27 rfl ?_
        obtain ⟨hi10, h⟩ := h
        refine r_aald C (o := (gR S 1 p1.toNatClampNeg)) (hF.k (by decide) rfl) (by decide) (ixL (n := 400) rfl hi10) rfl dX4_underWayAt_28 ?_
        exact ra O ⟨_, rfl⟩ dX4_underWayAt_29 (by decide) (by decide) hF hn h
      · replace h := h.2 hc9
        refine r_null C dX4_underWayAt_19 ?_
        refine r_goto C dX4_underWayAt_20 (tgt := 29) (by decide) ?_
        exact ra O ⟨_, rfl⟩ dX4_underWayAt_29 (by decide) (by decide) hF hn h
set_option maxHeartbeats 4000000 in
set_option maxRecDepth 100000 in
theorem e4_isUntouched {S : Sto} {Q : Int32 → Sto → Prop} (hF : Fx S)   (h : ∀ X : Ctx, Oi X K4_isUntouched S Q → WP X 2 [(0, vr 0), (1, vi 0)] [] S 0 0) : Ci K4_isUntouched [vr 0] S Q := by
  refine Ci.intro rfl (Nat.le_of_ble_eq_true rfl) (fun X O => ?_)
  replace h := h X O
  have C := O.1
  have hn : sN S ≤ sN S := Nat.le_refl _
  show WP X 0 [(0, vr 0)] [] S 0 0
  refine r_iconst C (x := 0) dX4_isUntouched_0 (by decide) ?_
  refine r_istoren C dX4_isUntouched_1 (by decide) rfl rfl ?_
  refine r_perm [1, 0] rfl ?_
  exact h
set_option maxHeartbeats 4000000 in
set_option maxRecDepth 100000 in
theorem s4_isUntouched_2 {X : Ctx} {S0 S : Sto} {Q : Int32 → Sto → Prop} (hF : Fx S) (hn : sN S0 ≤ sN S) (O : Oi X K4_isUntouched S0 Q) {l1 : Int32}   (h : (8 ≤ l1 → (∀ w4 : Int32, w4 = (if (gI S 20 3) = 0 then (if (gI S 23 3) = 0 then 1 else 0 : Int32) else 0 : Int32) → (Q w4 S))) ∧ (¬ 8 ≤ l1 → ((0 ≤ (l1 : Int32).toInt ∧ (l1 : Int32).toInt < (8 : Nat)) ∧ ((¬ ((if (gI S (3 + 2 * l1.toNatClampNeg) 1) = 0 then (if (gI S (3 + 2 * l1.toNatClampNeg) 2) = 0 then (if (gI S (3 + 2 * l1.toNatClampNeg) 3) = 0 then 1 else 0 : Int32) else 0 : Int32) else 0 : Int32)) = 0 → (WP X 2 [(0, vr 0), (1, vi (l1 + 1))] [] S 0 0)) ∧ (((if (gI S (3 + 2 * l1.toNatClampNeg) 1) = 0 then (if (gI S (3 + 2 * l1.toNatClampNeg) 2) = 0 then (if (gI S (3 + 2 * l1.toNatClampNeg) 3) = 0 then 1 else 0 : Int32) else 0 : Int32) else 0 : Int32)) = 0 → (Q 0 S)))))) : WP X 2 [(0, vr 0), (1, vi l1)] [] S 0 0 := by
  have C := O.1
  refine r_iloadn C 1 dX4_isUntouched_2 rfl ?_
  refine r_bipush C (x := 8) dX4_isUntouched_3 (by decide) ?_
  refine r_icmp_ge C dX4_isUntouched_5 (tgt := 28) (by decide) (fun hc1 => ?_) (fun hc1 => ?_)
  · replace h := h.1 hc1
    refine r_aloadn C 0 dX4_isUntouched_28 rfl ?_
    refine r_getR C (hF.k (by decide) rfl) fl_4_36 rfl (o := some 19) hF.c1 dX4_isUntouched_29 ?_
    refine r_iconst C (x := 0) dX4_isUntouched_32 (by decide) ?_
    refine r_aald C (o := some 20) (hF.k (by decide) rfl) (by decide) (ixL (n := 2) rfl (ix_const (x := 0) (n := 2) (k := 0) (by decide) (by decide))) (hF.sdRI (ix_const (x := 0) (n := 2) (k := 0) (by decide) (by decide))) dX4_isUntouched_33 ?_
    refine r_getI C (hF.k (by decide) rfl) fl_4_114 rfl dX4_isUntouched_34 ?_
    have kJ5 : ∀ (w4 : Int32) (_ : w4 = (if (gI S 20 3) = 0 then (if (gI S 23 3) = 0 then 1 else 0 : Int32) else 0 : Int32)), WP X 57 [] [vi w4] S 0 0 := by
      intro w4 hw4
      replace h := h w4 hw4
      have hz_w4 : w4 = 0 ∨ w4 = 1 := by rw [hw4]; repeat (first | exact Or.inl rfl | exact Or.inr rfl | assumption | split)
      exact ri O ⟨_, rfl, nar_z hz_w4⟩ dX4_isUntouched_57 (by decide) (by decide) hF hn h
    refine r_if_ne C dX4_isUntouched_37 (tgt := 56) (by decide) (fun hc6 => ?_) (fun hc6 => ?_)
    · refine r_iconst C (x := 0) dX4_isUntouched_56 (by decide) ?_
      refine r_perm [] rfl ?_
      exact kJ5 _ (if_neg hc6).symm
    · refine r_aloadn C 0 dX4_isUntouched_40 rfl ?_
      refine r_getR C (hF.k (by decide) rfl) fl_4_36 rfl (o := some 19) hF.c1 dX4_isUntouched_41 ?_
      refine r_iconst C (x := 1) dX4_isUntouched_44 (by decide) ?_
      refine r_aald C (o := some 23) (hF.k (by decide) rfl) (by decide) (ixL (n := 2) rfl (ix_const (x := 1) (n := 2) (k := 1) (by decide) (by decide))) (hF.sdRI (ix_const (x := 1) (n := 2) (k := 1) (by decide) (by decide))) dX4_isUntouched_45 ?_
      refine r_getI C (hF.k (by decide) rfl) fl_4_114 rfl dX4_isUntouched_46 ?_
      have kJ7 : WP X 57 [] [vi (if (gI S 23 3) = 0 then 1 else 0 : Int32)] S 0 0 := by
        refine r_perm [] rfl ?_
        exact kJ5 _ (if_pos hc6).symm
      refine r_if_ne C dX4_isUntouched_49 (tgt := 56) (by decide) (fun hc8 => ?_) (fun hc8 => ?_)
      · refine r_iconst C (x := 0) dX4_isUntouched_56 (by decide) ?_
        refine r_perm [] rfl ?_
        rw [show (if (gI S 23 3) = 0 then 1 else 0 : Int32) = 0 from if_neg hc8] at kJ7
        exact kJ7
      · refine r_iconst C (x := 1) dX4_isUntouched_52 (by decide) ?_
        refine r_goto C dX4_isUntouched_53 (tgt := 57) (by decide) ?_
        refine r_perm [] rfl ?_
        rw [show (if (gI S 23 3) = 0 then 1 else 0 : Int32) = 1 from if_pos hc8] at kJ7
        exact kJ7
  · replace h := h.2 hc1
    refine r_aloadn C 0 dX4_isUntouched_8 rfl ?_
    refine r_getR C (hF.k (by decide) rfl) fl_4_27 rfl (o := some 2) hF.c0 dX4_isUntouched_9 ?_
    refine r_iloadn C 1 dX4_isUntouched_12 rfl ?_
    obtain ⟨hi9, h⟩ := h
    refine r_aald C (o := some (3 + 2 * l1.toNatClampNeg)) (hF.k (by decide) rfl) (by decide) (ixL (n := 8) rfl hi9) (hF.stRI hi9) dX4_isUntouched_13 ?_
    refine r_callVi C K3_isUntouched [] [] (hF.stI hi9) (by decide) rfl cl_4_275 rm_4_isUntouched_3_isUntouched ⟨rfl, rfl⟩ (by decide) (by decide) rfl (Nat.le_of_ble_eq_true rfl) dX4_isUntouched_14 (q3_isUntouched (S := S) hF (hF.stI hi9)) (fun x10 _ _ _ hq => ?_)
    obtain ⟨hqa, hqb⟩ := hq; obtain rfl := hqa.symm; obtain rfl := hqb.symm
    refine r_if_ne C dX4_isUntouched_17 (tgt := 22) (by decide) (fun hc11 => ?_) (fun hc11 => ?_)
    · replace h := h.1 hc11
      refine r_iinc C (y := (l1 + 1)) 1 dX4_isUntouched_22 rfl rfl (by decide) rfl rfl ?_
      refine r_goto C dX4_isUntouched_25 (tgt := 2) (by decide) ?_
      refine r_perm [1, 0] rfl ?_
      exact h
    · replace h := h.2 hc11
      refine r_iconst C (x := 0) dX4_isUntouched_20 (by decide) ?_
      exact ri O ⟨_, rfl, nar_z (Or.inl rfl)⟩ dX4_isUntouched_21 (by decide) (by decide) hF hn h
set_option maxHeartbeats 4000000 in
set_option maxRecDepth 100000 in
theorem e4_readBy {S : Sto} {Q : Int32 → Sto → Prop} (hF : Fx S) {p1 : Nat} (hp1 : al S p1 2) (h : ∀ X : Ctx, Oi X K4_readBy S Q → WP X 9 [(0, vr 0), (2, vi 0), (3, vi (1 - (gI S p1 0)))] [] S 0 0) : Ci K4_readBy [vr 0, vr p1] S Q := by
  refine Ci.intro rfl (Nat.le_of_ble_eq_true rfl) (fun X O => ?_)
  replace h := h X O
  have C := O.1
  have hn : sN S ≤ sN S := Nat.le_refl _
  show WP X 0 [(0, vr 0), (1, vr p1)] [] S 0 0
  refine r_iconst C (x := 0) dX4_readBy_0 (by decide) ?_
  refine r_istoren C dX4_readBy_1 (by decide) rfl rfl ?_
  refine r_iconst C (x := 1) dX4_readBy_2 (by decide) ?_
  refine r_aloadn C 2 dX4_readBy_3 rfl ?_
  refine r_getI C hp1 fl_4_276 rfl dX4_readBy_4 ?_
  refine r_isub C dX4_readBy_7 ?_
  refine r_istoren C dX4_readBy_8 (by decide) rfl rfl ?_
  refine r_perm [2, 1, 0] rfl ?_
  exact h
set_option maxHeartbeats 4000000 in
set_option maxRecDepth 100000 in
theorem s4_readBy_9 {X : Ctx} {S0 S : Sto} {Q : Int32 → Sto → Prop} (hF : Fx S) (hn : sN S0 ≤ sN S) (O : Oi X K4_readBy S0 Q) {l2 : Int32} {l3 : Int32}   (h : (8 ≤ l3 → (Q l2 S)) ∧ (¬ 8 ≤ l3 → ((0 ≤ (l3 : Int32).toInt ∧ (l3 : Int32).toInt < (8 : Nat)) ∧ (WP X 9 [(0, vr 0), (2, vi (l2 + (gI S (3 + 2 * l3.toNatClampNeg) 12))), (3, vi (l3 + 2))] [] S 0 0)))) : WP X 9 [(0, vr 0), (2, vi l2), (3, vi l3)] [] S 0 0 := by
  have C := O.1
  refine r_iloadn C 2 dX4_readBy_9 rfl ?_
  refine r_bipush C (x := 8) dX4_readBy_10 (by decide) ?_
  refine r_icmp_ge C dX4_readBy_12 (tgt := 33) (by decide) (fun hc2 => ?_) (fun hc2 => ?_)
  · replace h := h.1 hc2
    refine r_iloadn C 1 dX4_readBy_33 rfl ?_
    exact ri O ⟨_, rfl, rfl⟩ dX4_readBy_34 (by decide) (by decide) hF hn h
  · replace h := h.2 hc2
    refine r_iloadn C 1 dX4_readBy_15 rfl ?_
    refine r_aloadn C 0 dX4_readBy_16 rfl ?_
    refine r_getR C (hF.k (by decide) rfl) fl_4_27 rfl (o := some 2) hF.c0 dX4_readBy_17 ?_
    refine r_iloadn C 2 dX4_readBy_20 rfl ?_
    obtain ⟨hi3, h⟩ := h
    refine r_aald C (o := some (3 + 2 * l3.toNatClampNeg)) (hF.k (by decide) rfl) (by decide) (ixL (n := 8) rfl hi3) (hF.stRI hi3) dX4_readBy_21 ?_
    refine r_getI C (hF.stI hi3) fl_4_88 rfl dX4_readBy_22 ?_
    refine r_iadd C dX4_readBy_25 ?_
    refine r_istoren C dX4_readBy_26 (by decide) rfl rfl ?_
    refine r_iinc C (y := (l3 + 2)) 2 dX4_readBy_27 rfl rfl (by decide) rfl rfl ?_
    refine r_goto C dX4_readBy_30 (tgt := 9) (by decide) ?_
    refine r_perm [2, 1, 0] rfl ?_
    exact h
set_option maxHeartbeats 4000000 in
set_option maxRecDepth 100000 in
theorem e4_countedOf {S : Sto} {Q : Int32 → Sto → Prop} (hF : Fx S) {p1 : Nat} (hp1 : al S p1 2) (h : ∀ X : Ctx, Oi X K4_countedOf S Q → WP X 7 [(0, vr 0), (2, vi 0), (3, vi (gI S p1 0))] [] S 0 0) : Ci K4_countedOf [vr 0, vr p1] S Q := by
  refine Ci.intro rfl (Nat.le_of_ble_eq_true rfl) (fun X O => ?_)
  replace h := h X O
  have C := O.1
  have hn : sN S ≤ sN S := Nat.le_refl _
  show WP X 0 [(0, vr 0), (1, vr p1)] [] S 0 0
  refine r_iconst C (x := 0) dX4_countedOf_0 (by decide) ?_
  refine r_istoren C dX4_countedOf_1 (by decide) rfl rfl ?_
  refine r_aloadn C 2 dX4_countedOf_2 rfl ?_
  refine r_getI C hp1 fl_4_276 rfl dX4_countedOf_3 ?_
  refine r_istoren C dX4_countedOf_6 (by decide) rfl rfl ?_
  refine r_perm [2, 1, 0] rfl ?_
  exact h
set_option maxHeartbeats 4000000 in
set_option maxRecDepth 100000 in
theorem s4_countedOf_7 {X : Ctx} {S0 S : Sto} {Q : Int32 → Sto → Prop} (hF : Fx S) (hn : sN S0 ≤ sN S) (O : Oi X K4_countedOf S0 Q) {l2 : Int32} {l3 : Int32}   (h : (8 ≤ l3 → (Q l2 S)) ∧ (¬ 8 ≤ l3 → ((0 ≤ (l3 : Int32).toInt ∧ (l3 : Int32).toInt < (8 : Nat)) ∧ (WP X 7 [(0, vr 0), (2, vi (l2 + (gI S (3 + 2 * l3.toNatClampNeg) 5))), (3, vi (l3 + 2))] [] S 0 0)))) : WP X 7 [(0, vr 0), (2, vi l2), (3, vi l3)] [] S 0 0 := by
  have C := O.1
  refine r_iloadn C 2 dX4_countedOf_7 rfl ?_
  refine r_bipush C (x := 8) dX4_countedOf_8 (by decide) ?_
  refine r_icmp_ge C dX4_countedOf_10 (tgt := 31) (by decide) (fun hc2 => ?_) (fun hc2 => ?_)
  · replace h := h.1 hc2
    refine r_iloadn C 1 dX4_countedOf_31 rfl ?_
    exact ri O ⟨_, rfl, rfl⟩ dX4_countedOf_32 (by decide) (by decide) hF hn h
  · replace h := h.2 hc2
    refine r_iloadn C 1 dX4_countedOf_13 rfl ?_
    refine r_aloadn C 0 dX4_countedOf_14 rfl ?_
    refine r_getR C (hF.k (by decide) rfl) fl_4_27 rfl (o := some 2) hF.c0 dX4_countedOf_15 ?_
    refine r_iloadn C 2 dX4_countedOf_18 rfl ?_
    obtain ⟨hi3, h⟩ := h
    refine r_aald C (o := some (3 + 2 * l3.toNatClampNeg)) (hF.k (by decide) rfl) (by decide) (ixL (n := 8) rfl hi3) (hF.stRI hi3) dX4_countedOf_19 ?_
    refine r_getI C (hF.stI hi3) fl_4_197 rfl dX4_countedOf_20 ?_
    refine r_iadd C dX4_countedOf_23 ?_
    refine r_istoren C dX4_countedOf_24 (by decide) rfl rfl ?_
    refine r_iinc C (y := (l3 + 2)) 2 dX4_countedOf_25 rfl rfl (by decide) rfl rfl ?_
    refine r_goto C dX4_countedOf_28 (tgt := 7) (by decide) ?_
    refine r_perm [2, 1, 0] rfl ?_
    exact h
set_option maxHeartbeats 4000000 in
set_option maxRecDepth 100000 in
theorem e4_shape {S : Sto} {Q : Int32 → Sto → Prop} (hF : Fx S) {p1 : Int32} {p2 : Int32} {p3 : Int32}  (h : ∀ X : Ctx, Oi X K4_shape S Q → (p1 < 60 → (Q (-2) S)) ∧ (¬ p1 < 60 → ((1000 < p1 → (Q (-2) S)) ∧ (¬ 1000 < p1 → ((p2 < 50 → (Q (-2) S)) ∧ (¬ p2 < 50 → ((1000 < p2 → (Q (-2) S)) ∧ (¬ 1000 < p2 → ((p3 < 50 → (Q (-2) S)) ∧ (¬ p3 < 50 → ((p3 ≤ 4000 → (Ci K4_isUntouched [vr 0] S (fun x7 S7 => (¬ x7 = 0 → (WP X 70 [(0, vr 0), (1, vi p1), (2, vi p2), (3, vi p3), (4, vi 0)] [] (pI (pI (pI S7 0 5 p1) 0 6 p2) 0 7 p3) 0 0)) ∧ (x7 = 0 → (Q (-3) S7))))) ∧ (¬ p3 ≤ 4000 → (Q (-2) S))))))))))))) : Ci K4_shape [vr 0, vi p1, vi p2, vi p3] S Q := by
  refine Ci.intro rfl (Nat.le_of_ble_eq_true rfl) (fun X O => ?_)
  replace h := h X O
  have C := O.1
  have hn : sN S ≤ sN S := Nat.le_refl _
  show WP X 0 [(0, vr 0), (1, vi p1), (2, vi p2), (3, vi p3)] [] S 0 0
  refine r_iloadn C 1 dX4_shape_0 rfl ?_
  refine r_bipush C (x := 60) dX4_shape_1 (by decide) ?_
  refine r_icmp_lt C dX4_shape_3 (tgt := 39) (by decide) (fun hc1 => ?_) (fun hc1 => ?_)
  · replace h := h.1 hc1
    refine r_bipush C (x := (-2)) dX4_shape_39 (by decide) ?_
    exact ri O ⟨_, rfl, rfl⟩ dX4_shape_41 (by decide) (by decide) hF hn h
  · replace h := h.2 hc1
    refine r_iloadn C 1 dX4_shape_6 rfl ?_
    refine r_sipush C (x := 1000) dX4_shape_7 (by decide) ?_
    refine r_icmp_gt C dX4_shape_10 (tgt := 39) (by decide) (fun hc2 => ?_) (fun hc2 => ?_)
    · replace h := h.1 hc2
      refine r_bipush C (x := (-2)) dX4_shape_39 (by decide) ?_
      exact ri O ⟨_, rfl, rfl⟩ dX4_shape_41 (by decide) (by decide) hF hn h
    · replace h := h.2 hc2
      refine r_iloadn C 2 dX4_shape_13 rfl ?_
      refine r_bipush C (x := 50) dX4_shape_14 (by decide) ?_
      refine r_icmp_lt C dX4_shape_16 (tgt := 39) (by decide) (fun hc3 => ?_) (fun hc3 => ?_)
      · replace h := h.1 hc3
        refine r_bipush C (x := (-2)) dX4_shape_39 (by decide) ?_
        exact ri O ⟨_, rfl, rfl⟩ dX4_shape_41 (by decide) (by decide) hF hn h
      · replace h := h.2 hc3
        refine r_iloadn C 2 dX4_shape_19 rfl ?_
        refine r_sipush C (x := 1000) dX4_shape_20 (by decide) ?_
        refine r_icmp_gt C dX4_shape_23 (tgt := 39) (by decide) (fun hc4 => ?_) (fun hc4 => ?_)
        · replace h := h.1 hc4
          refine r_bipush C (x := (-2)) dX4_shape_39 (by decide) ?_
          exact ri O ⟨_, rfl, rfl⟩ dX4_shape_41 (by decide) (by decide) hF hn h
        · replace h := h.2 hc4
          refine r_iloadn C 3 dX4_shape_26 rfl ?_
          refine r_bipush C (x := 50) dX4_shape_27 (by decide) ?_
          refine r_icmp_lt C dX4_shape_29 (tgt := 39) (by decide) (fun hc5 => ?_) (fun hc5 => ?_)
          · replace h := h.1 hc5
            refine r_bipush C (x := (-2)) dX4_shape_39 (by decide) ?_
            exact ri O ⟨_, rfl, rfl⟩ dX4_shape_41 (by decide) (by decide) hF hn h
          · replace h := h.2 hc5
            refine r_iloadn C 3 dX4_shape_32 rfl ?_
            refine r_sipush C (x := 4000) dX4_shape_33 (by decide) ?_
            refine r_icmp_le C dX4_shape_36 (tgt := 42) (by decide) (fun hc6 => ?_) (fun hc6 => ?_)
            · replace h := h.1 hc6
              refine r_aloadn C 0 dX4_shape_42 rfl ?_
              refine r_callVi C K4_isUntouched [] [] (hF.k (by decide) rfl) (by decide) rfl cl_4_43 rm_4_shape_4_isUntouched ⟨rfl, rfl⟩ (by decide) (by decide) rfl (Nat.le_of_ble_eq_true rfl) dX4_shape_43 h (fun x7 S7 hF7 hn7 h => ?_)
              refine r_if_ne C dX4_shape_46 (tgt := 52) (by decide) (fun hc8 => ?_) (fun hc8 => ?_)
              · replace h := h.1 hc8
                refine r_aloadn C 0 dX4_shape_52 rfl ?_
                refine r_iloadn C 1 dX4_shape_53 rfl ?_
                refine r_putI C (hF7.k (by decide) rfl) fl_4_7 rfl rfl dX4_shape_54 ?_
                refine r_aloadn C 0 dX4_shape_57 rfl ?_
                refine r_iloadn C 2 dX4_shape_58 rfl ?_
                refine r_putI C (hF7.k (by decide) rfl) fl_4_13 rfl rfl dX4_shape_59 ?_
                refine r_aloadn C 0 dX4_shape_62 rfl ?_
                refine r_iloadn C 3 dX4_shape_63 rfl ?_
                refine r_putI C (hF7.k (by decide) rfl) fl_4_16 rfl rfl dX4_shape_64 ?_
                refine r_iconst C (x := 0) dX4_shape_67 (by decide) ?_
                refine r_istore C dX4_shape_68 (by decide) rfl rfl ?_
                refine r_perm [1, 2, 3, 4, 0] rfl ?_
                exact h
              · replace h := h.2 hc8
                refine r_bipush C (x := (-3)) dX4_shape_49 (by decide) ?_
                exact ri O ⟨_, rfl, rfl⟩ dX4_shape_51 (by decide) (by decide) hF7 (Nat.le_trans hn hn7) h
            · replace h := h.2 hc6
              refine r_bipush C (x := (-2)) dX4_shape_39 (by decide) ?_
              exact ri O ⟨_, rfl, rfl⟩ dX4_shape_41 (by decide) (by decide) hF hn h
set_option maxHeartbeats 4000000 in
set_option maxRecDepth 100000 in
theorem s4_shape_70 {X : Ctx} {S0 S : Sto} {Q : Int32 → Sto → Prop} (hF : Fx S) (hn : sN S0 ≤ sN S) (O : Oi X K4_shape S0 Q) {l1 : Int32} {l2 : Int32} {l3 : Int32} {l4 : Int32}   (h : (8 ≤ l4 → (WP X 108 [(0, vr 0), (1, vi l1), (3, vi l3), (4, vi 0)] [] S 0 0)) ∧ (¬ 8 ≤ l4 → ((0 ≤ (l4 : Int32).toInt ∧ (l4 : Int32).toInt < (8 : Nat)) ∧ (WP X 70 [(0, vr 0), (1, vi l1), (2, vi l2), (3, vi l3), (4, vi (l4 + 1))] [] (pI (pI S (3 + 2 * l4.toNatClampNeg) 8 l2) (3 + 2 * l4.toNatClampNeg) 13 l2) 0 0)))) : WP X 70 [(0, vr 0), (1, vi l1), (2, vi l2), (3, vi l3), (4, vi l4)] [] S 0 0 := by
  have C := O.1
  refine r_iload C 4 dX4_shape_70 rfl ?_
  refine r_bipush C (x := 8) dX4_shape_72 (by decide) ?_
  refine r_icmp_ge C dX4_shape_74 (tgt := 105) (by decide) (fun hc2 => ?_) (fun hc2 => ?_)
  · replace h := h.1 hc2
    refine r_iconst C (x := 0) dX4_shape_105 (by decide) ?_
    refine r_istore C dX4_shape_106 (by decide) rfl rfl ?_
    refine r_perm [1, 2, 4, 0] rfl ?_
    exact h
  · replace h := h.2 hc2
    refine r_aloadn C 0 dX4_shape_77 rfl ?_
    refine r_getR C (hF.k (by decide) rfl) fl_4_27 rfl (o := some 2) hF.c0 dX4_shape_78 ?_
    refine r_iload C 4 dX4_shape_81 rfl ?_
    obtain ⟨hi3, h⟩ := h
    refine r_aald C (o := some (3 + 2 * l4.toNatClampNeg)) (hF.k (by decide) rfl) (by decide) (ixL (n := 8) rfl hi3) (hF.stRI hi3) dX4_shape_83 ?_
    refine r_iloadn C 2 dX4_shape_84 rfl ?_
    refine r_putI C (hF.stI hi3) fl_4_47 rfl rfl dX4_shape_85 ?_
    refine r_aloadn C 0 dX4_shape_88 rfl ?_
    refine r_getR C (hF.k (by decide) rfl) fl_4_27 rfl (o := some 2) hF.c0 dX4_shape_89 ?_
    refine r_iload C 4 dX4_shape_92 rfl ?_
    refine r_aald C (o := some (3 + 2 * l4.toNatClampNeg)) (hF.k (by decide) rfl) (by decide) (ixL (n := 8) rfl hi3) (hF.stRI hi3) dX4_shape_94 ?_
    refine r_iloadn C 2 dX4_shape_95 rfl ?_
    refine r_putI C (hF.stI hi3) fl_4_50 rfl rfl dX4_shape_96 ?_
    refine r_iinc C (y := (l4 + 1)) 4 dX4_shape_99 rfl rfl (by decide) rfl rfl ?_
    refine r_goto C dX4_shape_102 (tgt := 70) (by decide) ?_
    refine r_perm [1, 2, 3, 4, 0] rfl ?_
    exact h
set_option maxHeartbeats 4000000 in
set_option maxRecDepth 100000 in
theorem s4_shape_108 {X : Ctx} {S0 S : Sto} {Q : Int32 → Sto → Prop} (hF : Fx S) (hn : sN S0 ≤ sN S) (O : Oi X K4_shape S0 Q) {l1 : Int32} {l3 : Int32} {l4 : Int32}   (h : (2 ≤ l4 → (Q 1 S)) ∧ (¬ 2 ≤ l4 → ((0 ≤ (l4 : Int32).toInt ∧ (l4 : Int32).toInt < (2 : Nat)) ∧ (WP X 108 [(0, vr 0), (1, vi l1), (3, vi l3), (4, vi (l4 + 1))] [] (pI (pI (pI S ((20 + 3 * l4.toNatClampNeg) + 2) 1 (10 * l1)) (20 + 3 * l4.toNatClampNeg) 8 l3) (20 + 3 * l4.toNatClampNeg) 9 l3) 0 0)))) : WP X 108 [(0, vr 0), (1, vi l1), (3, vi l3), (4, vi l4)] [] S 0 0 := by
  have C := O.1
  refine r_iload C 3 dX4_shape_108 rfl ?_
  refine r_iconst C (x := 2) dX4_shape_110 (by decide) ?_
  refine r_icmp_ge C dX4_shape_111 (tgt := 159) (by decide) (fun hc2 => ?_) (fun hc2 => ?_)
  · replace h := h.1 hc2
    refine r_iconst C (x := 1) dX4_shape_159 (by decide) ?_
    exact ri O ⟨_, rfl, rfl⟩ dX4_shape_160 (by decide) (by decide) hF hn h
  · replace h := h.2 hc2
    refine r_aloadn C 0 dX4_shape_114 rfl ?_
    refine r_getR C (hF.k (by decide) rfl) fl_4_36 rfl (o := some 19) hF.c1 dX4_shape_115 ?_
    refine r_iload C 3 dX4_shape_118 rfl ?_
    obtain ⟨hi3, h⟩ := h
    refine r_aald C (o := some (20 + 3 * l4.toNatClampNeg)) (hF.k (by decide) rfl) (by decide) (ixL (n := 2) rfl hi3) (hF.sdRI hi3) dX4_shape_120 ?_
    refine r_getR C (hF.sdI hi3) fl_4_53 rfl (hF.paceR (hF.sdI hi3)) dX4_shape_121 ?_
    refine r_bipush C (x := 10) dX4_shape_124 (by decide) ?_
    refine r_iloadn C 1 dX4_shape_126 rfl ?_
    refine r_imul C dX4_shape_127 ?_
    refine r_putI C (hF.pace (hF.sdI hi3)) fl_4_57 rfl rfl dX4_shape_128 ?_
    refine r_aloadn C 0 dX4_shape_131 rfl ?_
    refine r_getR C (hF.k (by decide) rfl) fl_4_36 rfl (o := some 19) hF.c1 dX4_shape_132 ?_
    refine r_iload C 3 dX4_shape_135 rfl ?_
    refine r_aald C (o := some (20 + 3 * l4.toNatClampNeg)) (hF.k (by decide) rfl) (by decide) (ixL (n := 2) rfl hi3) (hF.sdRI hi3) dX4_shape_137 ?_
    refine r_iloadn C 2 dX4_shape_138 rfl ?_
    refine r_putI C (hF.sdI hi3) fl_4_62 rfl rfl dX4_shape_139 ?_
    refine r_aloadn C 0 dX4_shape_142 rfl ?_
    refine r_getR C (hF.k (by decide) rfl) fl_4_36 rfl (o := some 19) hF.c1 dX4_shape_143 ?_
    refine r_iload C 3 dX4_shape_146 rfl ?_
    refine r_aald C (o := some (20 + 3 * l4.toNatClampNeg)) (hF.k (by decide) rfl) (by decide) (ixL (n := 2) rfl hi3) (hF.sdRI hi3) dX4_shape_148 ?_
    refine r_iloadn C 2 dX4_shape_149 rfl ?_
    refine r_putI C (hF.sdI hi3) fl_4_65 rfl rfl dX4_shape_150 ?_
    refine r_iinc C (y := (l4 + 1)) 3 dX4_shape_153 rfl rfl (by decide) rfl rfl ?_
    refine r_goto C dX4_shape_156 (tgt := 108) (by decide) ?_
    refine r_perm [1, 2, 3, 0] rfl ?_
    exact h
set_option maxHeartbeats 4000000 in
set_option maxRecDepth 100000 in
theorem e4_write {S : Sto} {Q : Int32 → Sto → Prop} (hF : Fx S) {p1 : Int32} {p2 : Int32}  (h : Co K4_streamAt [vr 0, vi p1] S (fun x1 S1 => (∀ b, x1 = some b → al S1 b 3) ∧ ((∀ b3 : Nat, x1 = some b3 → ((p2 < 1 → (Q (-2) S1)) ∧ (¬ p2 < 1 → ((p2 ≤ 1000 → ((¬ (gI S1 b3 2) = 0 → (Q (-3) S1)) ∧ ((gI S1 b3 2) = 0 → (((gI S1 b3 3) = 0 → ((((gI S1 b3 1) + p2) ≤ 1000 → (Q (gI (pI S1 b3 1 ((gI S1 b3 1) + p2)) b3 1) (pI S1 b3 1 ((gI S1 b3 1) + p2)))) ∧ (¬ ((gI S1 b3 1) + p2) ≤ 1000 → (Q (-4) S1)))) ∧ (¬ (gI S1 b3 3) = 0 → (Q (-3) S1)))))) ∧ (¬ p2 ≤ 1000 → (Q (-2) S1)))))) ∧ (x1 = none → (Q (-1) S1))))) : Ci K4_write [vr 0, vi p1, vi p2] S Q := by
  refine Ci.intro rfl (Nat.le_of_ble_eq_true rfl) (fun X O => ?_)
  have C := O.1
  have hn : sN S ≤ sN S := Nat.le_refl _
  show WP X 0 [(0, vr 0), (1, vi p1), (2, vi p2)] [] S 0 0
  refine r_aloadn C 0 dX4_write_0 rfl ?_
  refine r_iloadn C 1 dX4_write_1 rfl ?_
  refine r_callVo C K4_streamAt [vi p1] [] (hF.k (by decide) rfl) (by decide) rfl cl_4_68 rm_4_write_4_streamAt ⟨rfl, rfl⟩ (by decide) (by decide) rfl (Nat.le_of_ble_eq_true rfl) dX4_write_2 h (fun x1 S1 hF1 hn1 h => ?_)
  obtain ⟨hk2, h⟩ := h
  refine r_astoren C dX4_write_5 (by decide) rfl rfl ?_
  refine r_aloadn C 0 dX4_write_6 rfl ?_
  refine r_ifnonnull C dX4_write_7 (tgt := 12) (by decide) (fun b3 hb4 => ?_) (fun hb4 => ?_)
  · replace h := h.1 b3 hb4
    try rw [hb4]
    refine r_iloadn C 3 dX4_write_12 rfl ?_
    refine r_iconst C (x := 1) dX4_write_13 (by decide) ?_
    refine r_icmp_lt C dX4_write_14 (tgt := 24) (by decide) (fun hc5 => ?_) (fun hc5 => ?_)
    · replace h := h.1 hc5
      refine r_bipush C (x := (-2)) dX4_write_24 (by decide) ?_
      exact ri O ⟨_, rfl, rfl⟩ dX4_write_26 (by decide) (by decide) hF1 (Nat.le_trans hn hn1) h
    · replace h := h.2 hc5
      refine r_iloadn C 3 dX4_write_17 rfl ?_
      refine r_sipush C (x := 1000) dX4_write_18 (by decide) ?_
      refine r_icmp_le C dX4_write_21 (tgt := 27) (by decide) (fun hc6 => ?_) (fun hc6 => ?_)
      · replace h := h.1 hc6
        refine r_aloadn C 0 dX4_write_27 rfl ?_
        refine r_getI C (hk2 _ hb4) fl_4_72 rfl dX4_write_28 ?_
        refine r_if_ne C dX4_write_31 (tgt := 41) (by decide) (fun hc7 => ?_) (fun hc7 => ?_)
        · replace h := h.1 hc7
          refine r_bipush C (x := (-3)) dX4_write_41 (by decide) ?_
          exact ri O ⟨_, rfl, rfl⟩ dX4_write_43 (by decide) (by decide) hF1 (Nat.le_trans hn hn1) h
        · replace h := h.2 hc7
          refine r_aloadn C 0 dX4_write_34 rfl ?_
          refine r_getI C (hk2 _ hb4) fl_4_76 rfl dX4_write_35 ?_
          refine r_if_eq C dX4_write_38 (tgt := 44) (by decide) (fun hc8 => ?_) (fun hc8 => ?_)
          · replace h := h.1 hc8
            refine r_aloadn C 0 dX4_write_44 rfl ?_
            refine r_getI C (hk2 _ hb4) fl_4_79 rfl dX4_write_45 ?_
            refine r_iloadn C 3 dX4_write_48 rfl ?_
            refine r_iadd C dX4_write_49 ?_
            refine r_sipush C (x := 1000) dX4_write_50 (by decide) ?_
            refine r_icmp_le C dX4_write_53 (tgt := 59) (by decide) (fun hc9 => ?_) (fun hc9 => ?_)
            · replace h := h.1 hc9
              refine r_aloadn C 0 dX4_write_59 rfl ?_
              refine r_dup C rfl dX4_write_60 ?_
              refine r_getI C (hk2 _ hb4) fl_4_79 rfl dX4_write_61 ?_
              refine r_iloadn C 3 dX4_write_64 rfl ?_
              refine r_iadd C dX4_write_65 ?_
              refine r_putI C (hk2 _ hb4) fl_4_79 rfl rfl dX4_write_66 ?_
              refine r_aloadn C 0 dX4_write_69 rfl ?_
              refine r_getI C (hk2 _ hb4) fl_4_79 rfl dX4_write_70 ?_
              exact ri O ⟨_, rfl, rfl⟩ dX4_write_73 (by decide) (by decide) hF1 (Nat.le_trans hn hn1) h
            · replace h := h.2 hc9
              refine r_bipush C (x := (-4)) dX4_write_56 (by decide) ?_
              exact ri O ⟨_, rfl, rfl⟩ dX4_write_58 (by decide) (by decide) hF1 (Nat.le_trans hn hn1) h
          · replace h := h.2 hc8
            refine r_bipush C (x := (-3)) dX4_write_41 (by decide) ?_
            exact ri O ⟨_, rfl, rfl⟩ dX4_write_43 (by decide) (by decide) hF1 (Nat.le_trans hn hn1) h
      · replace h := h.2 hc6
        refine r_bipush C (x := (-2)) dX4_write_24 (by decide) ?_
        exact ri O ⟨_, rfl, rfl⟩ dX4_write_26 (by decide) (by decide) hF1 (Nat.le_trans hn hn1) h
  · replace h := h.2 hb4
    refine r_iconst C (x := (-1)) dX4_write_10 (by decide) ?_
    exact ri O ⟨_, rfl, rfl⟩ dX4_write_11 (by decide) (by decide) hF1 (Nat.le_trans hn hn1) h
set_option maxHeartbeats 4000000 in
set_option maxRecDepth 100000 in
theorem e4_end {S : Sto} {Q : Int32 → Sto → Prop} (hF : Fx S) {p1 : Int32}  (h : Co K4_streamAt [vr 0, vi p1] S (fun x1 S1 => (∀ b, x1 = some b → al S1 b 3) ∧ ((∀ b3 : Nat, x1 = some b3 → ((¬ (gI S1 b3 2) = 0 → (Q (-3) S1)) ∧ ((gI S1 b3 2) = 0 → (((gI S1 b3 3) = 0 → (Q 1 (pI S1 b3 2 1))) ∧ (¬ (gI S1 b3 3) = 0 → (Q (-3) S1)))))) ∧ (x1 = none → (Q (-1) S1))))) : Ci K4_end [vr 0, vi p1] S Q := by
  refine Ci.intro rfl (Nat.le_of_ble_eq_true rfl) (fun X O => ?_)
  have C := O.1
  have hn : sN S ≤ sN S := Nat.le_refl _
  show WP X 0 [(0, vr 0), (1, vi p1)] [] S 0 0
  refine r_aloadn C 0 dX4_end_0 rfl ?_
  refine r_iloadn C 1 dX4_end_1 rfl ?_
  refine r_callVo C K4_streamAt [vi p1] [] (hF.k (by decide) rfl) (by decide) rfl cl_4_68 rm_4_end_4_streamAt ⟨rfl, rfl⟩ (by decide) (by decide) rfl (Nat.le_of_ble_eq_true rfl) dX4_end_2 h (fun x1 S1 hF1 hn1 h => ?_)
  obtain ⟨hk2, h⟩ := h
  refine r_astoren C dX4_end_5 (by decide) rfl rfl ?_
  refine r_aloadn C 0 dX4_end_6 rfl ?_
  refine r_ifnonnull C dX4_end_7 (tgt := 12) (by decide) (fun b3 hb4 => ?_) (fun hb4 => ?_)
  · replace h := h.1 b3 hb4
    try rw [hb4]
    refine r_aloadn C 0 dX4_end_12 rfl ?_
    refine r_getI C (hk2 _ hb4) fl_4_72 rfl dX4_end_13 ?_
    refine r_if_ne C dX4_end_16 (tgt := 26) (by decide) (fun hc5 => ?_) (fun hc5 => ?_)
    · replace h := h.1 hc5
      refine r_bipush C (x := (-3)) dX4_end_26 (by decide) ?_
      exact ri O ⟨_, rfl, rfl⟩ dX4_end_28 (by decide) (by decide) hF1 (Nat.le_trans hn hn1) h
    · replace h := h.2 hc5
      refine r_aloadn C 0 dX4_end_19 rfl ?_
      refine r_getI C (hk2 _ hb4) fl_4_76 rfl dX4_end_20 ?_
      refine r_if_eq C dX4_end_23 (tgt := 29) (by decide) (fun hc6 => ?_) (fun hc6 => ?_)
      · replace h := h.1 hc6
        refine r_aloadn C 0 dX4_end_29 rfl ?_
        refine r_iconst C (x := 1) dX4_end_30 (by decide) ?_
        refine r_putZ C (hk2 _ hb4) fl_4_72 rfl (Or.inr rfl) rfl dX4_end_31 ?_
        refine r_iconst C (x := 1) dX4_end_34 (by decide) ?_
        exact ri O ⟨_, rfl, rfl⟩ dX4_end_35 (by decide) (by decide) hF1 (Nat.le_trans hn hn1) h
      · replace h := h.2 hc6
        refine r_bipush C (x := (-3)) dX4_end_26 (by decide) ?_
        exact ri O ⟨_, rfl, rfl⟩ dX4_end_28 (by decide) (by decide) hF1 (Nat.le_trans hn hn1) h
  · replace h := h.2 hb4
    refine r_iconst C (x := (-1)) dX4_end_10 (by decide) ?_
    exact ri O ⟨_, rfl, rfl⟩ dX4_end_11 (by decide) (by decide) hF1 (Nat.le_trans hn hn1) h
set_option maxHeartbeats 4000000 in
set_option maxRecDepth 100000 in
theorem e4_cut {S : Sto} {Q : Int32 → Sto → Prop} (hF : Fx S) {p1 : Int32}  (h : Co K4_streamAt [vr 0, vi p1] S (fun x1 S1 => (∀ b, x1 = some b → al S1 b 3) ∧ ((∀ b3 : Nat, x1 = some b3 → (((gI S1 b3 3) = 0 → (Q 1 (pI (pI S1 b3 3 1) b3 4 1))) ∧ (¬ (gI S1 b3 3) = 0 → (Q (-3) S1)))) ∧ (x1 = none → (Q (-1) S1))))) : Ci K4_cut [vr 0, vi p1] S Q := by
  refine Ci.intro rfl (Nat.le_of_ble_eq_true rfl) (fun X O => ?_)
  have C := O.1
  have hn : sN S ≤ sN S := Nat.le_refl _
  show WP X 0 [(0, vr 0), (1, vi p1)] [] S 0 0
  refine r_aloadn C 0 dX4_cut_0 rfl ?_
  refine r_iloadn C 1 dX4_cut_1 rfl ?_
  refine r_callVo C K4_streamAt [vi p1] [] (hF.k (by decide) rfl) (by decide) rfl cl_4_68 rm_4_cut_4_streamAt ⟨rfl, rfl⟩ (by decide) (by decide) rfl (Nat.le_of_ble_eq_true rfl) dX4_cut_2 h (fun x1 S1 hF1 hn1 h => ?_)
  obtain ⟨hk2, h⟩ := h
  refine r_astoren C dX4_cut_5 (by decide) rfl rfl ?_
  refine r_aloadn C 0 dX4_cut_6 rfl ?_
  refine r_ifnonnull C dX4_cut_7 (tgt := 12) (by decide) (fun b3 hb4 => ?_) (fun hb4 => ?_)
  · replace h := h.1 b3 hb4
    try rw [hb4]
    refine r_aloadn C 0 dX4_cut_12 rfl ?_
    refine r_getI C (hk2 _ hb4) fl_4_76 rfl dX4_cut_13 ?_
    refine r_if_eq C dX4_cut_16 (tgt := 22) (by decide) (fun hc5 => ?_) (fun hc5 => ?_)
    · replace h := h.1 hc5
      refine r_aloadn C 0 dX4_cut_22 rfl ?_
      refine r_iconst C (x := 1) dX4_cut_23 (by decide) ?_
      refine r_putZ C (hk2 _ hb4) fl_4_76 rfl (Or.inr rfl) rfl dX4_cut_24 ?_
      refine r_aloadn C 0 dX4_cut_27 rfl ?_
      refine r_iconst C (x := 1) dX4_cut_28 (by decide) ?_
      refine r_putZ C (hk2 _ hb4) fl_4_82 rfl (Or.inr rfl) rfl dX4_cut_29 ?_
      refine r_iconst C (x := 1) dX4_cut_32 (by decide) ?_
      exact ri O ⟨_, rfl, rfl⟩ dX4_cut_33 (by decide) (by decide) hF1 (Nat.le_trans hn hn1) h
    · replace h := h.2 hc5
      refine r_bipush C (x := (-3)) dX4_cut_19 (by decide) ?_
      exact ri O ⟨_, rfl, rfl⟩ dX4_cut_21 (by decide) (by decide) hF1 (Nat.le_trans hn hn1) h
  · replace h := h.2 hb4
    refine r_iconst C (x := (-1)) dX4_cut_10 (by decide) ?_
    exact ri O ⟨_, rfl, rfl⟩ dX4_cut_11 (by decide) (by decide) hF1 (Nat.le_trans hn hn1) h
set_option maxHeartbeats 4000000 in
set_option maxRecDepth 100000 in
theorem e4_read {S : Sto} {Q : Int32 → Sto → Prop} (hF : Fx S) {p1 : Int32} {p2 : Int32}  (h : Co K4_streamAt [vr 0, vi p1] S (fun x1 S1 => (∀ b, x1 = some b → al S1 b 3) ∧ ((∀ b3 : Nat, x1 = some b3 → ((p2 < 1 → (Q (-2) S1)) ∧ (¬ p2 < 1 → ((p2 ≤ 1000 → (((((gI (pI S1 b3 12 ((gI S1 b3 12) + (if ((gI S1 b3 11) - (gI S1 b3 12)) < p2 then ((gI S1 b3 11) - (gI S1 b3 12)) else p2))) b3 12) + (gI (pI S1 b3 12 ((gI S1 b3 12) + (if ((gI S1 b3 11) - (gI S1 b3 12)) < p2 then ((gI S1 b3 11) - (gI S1 b3 12)) else p2))) 0 6)) - (gI (pI S1 b3 12 ((gI S1 b3 12) + (if ((gI S1 b3 11) - (gI S1 b3 12)) < p2 then ((gI S1 b3 11) - (gI S1 b3 12)) else p2))) b3 13)) < ((gI (pI S1 b3 12 ((gI S1 b3 12) + (if ((gI S1 b3 11) - (gI S1 b3 12)) < p2 then ((gI S1 b3 11) - (gI S1 b3 12)) else p2))) 0 6) / 2) → ((0 ≤ ((1 - (p1 - p1 / 2 * 2)) : Int32).toInt ∧ ((1 - (p1 - p1 / 2 * 2)) : Int32).toInt < (2 : Nat)) ∧ (Ci K4_readBy [vr 0, vr (20 + 3 * (1 - (p1 - p1 / 2 * 2)).toNatClampNeg)] (pI S1 b3 12 ((gI S1 b3 12) + (if ((gI S1 b3 11) - (gI S1 b3 12)) < p2 then ((gI S1 b3 11) - (gI S1 b3 12)) else p2))) (fun x9 S9 => (((x9 + (gI S9 0 7)) - (gI S9 (20 + 3 * (1 - (p1 - p1 / 2 * 2)).toNatClampNeg) 9)) < ((gI S9 0 7) / 2) → (Q (if ((gI S1 b3 11) - (gI S1 b3 12)) < p2 then ((gI S1 b3 11) - (gI S1 b3 12)) else p2) S9)) ∧ (¬ ((x9 + (gI S9 0 7)) - (gI S9 (20 + 3 * (1 - (p1 - p1 / 2 * 2)).toNatClampNeg) 9)) < ((gI S9 0 7) / 2) → (Q (if ((gI S1 b3 11) - (gI S1 b3 12)) < p2 then ((gI S1 b3 11) - (gI S1 b3 12)) else p2) (pI S9 (20 + 3 * (1 - (p1 - p1 / 2 * 2)).toNatClampNeg) 10 1))))))) ∧ (¬ (((gI (pI S1 b3 12 ((gI S1 b3 12) + (if ((gI S1 b3 11) - (gI S1 b3 12)) < p2 then ((gI S1 b3 11) - (gI S1 b3 12)) else p2))) b3 12) + (gI (pI S1 b3 12 ((gI S1 b3 12) + (if ((gI S1 b3 11) - (gI S1 b3 12)) < p2 then ((gI S1 b3 11) - (gI S1 b3 12)) else p2))) 0 6)) - (gI (pI S1 b3 12 ((gI S1 b3 12) + (if ((gI S1 b3 11) - (gI S1 b3 12)) < p2 then ((gI S1 b3 11) - (gI S1 b3 12)) else p2))) b3 13)) < ((gI (pI S1 b3 12 ((gI S1 b3 12) + (if ((gI S1 b3 11) - (gI S1 b3 12)) < p2 then ((gI S1 b3 11) - (gI S1 b3 12)) else p2))) 0 6) / 2) → ((0 ≤ ((1 - (p1 - p1 / 2 * 2)) : Int32).toInt ∧ ((1 - (p1 - p1 / 2 * 2)) : Int32).toInt < (2 : Nat)) ∧ (Ci K4_readBy [vr 0, vr (20 + 3 * (1 - (p1 - p1 / 2 * 2)).toNatClampNeg)] (pI (pI S1 b3 12 ((gI S1 b3 12) + (if ((gI S1 b3 11) - (gI S1 b3 12)) < p2 then ((gI S1 b3 11) - (gI S1 b3 12)) else p2))) b3 14 1) (fun x12 S12 => (((x12 + (gI S12 0 7)) - (gI S12 (20 + 3 * (1 - (p1 - p1 / 2 * 2)).toNatClampNeg) 9)) < ((gI S12 0 7) / 2) → (Q (if ((gI S1 b3 11) - (gI S1 b3 12)) < p2 then ((gI S1 b3 11) - (gI S1 b3 12)) else p2) S12)) ∧ (¬ ((x12 + (gI S12 0 7)) - (gI S12 (20 + 3 * (1 - (p1 - p1 / 2 * 2)).toNatClampNeg) 9)) < ((gI S12 0 7) / 2) → (Q (if ((gI S1 b3 11) - (gI S1 b3 12)) < p2 then ((gI S1 b3 11) - (gI S1 b3 12)) else p2) (pI S12 (20 + 3 * (1 - (p1 - p1 / 2 * 2)).toNatClampNeg) 10 1))))))))) ∧ (¬ p2 ≤ 1000 → (Q (-2) S1)))))) ∧ (x1 = none → (Q (-1) S1))))) : Ci K4_read [vr 0, vi p1, vi p2] S Q := by
  refine Ci.intro rfl (Nat.le_of_ble_eq_true rfl) (fun X O => ?_)
  have C := O.1
  have hn : sN S ≤ sN S := Nat.le_refl _
  show WP X 0 [(0, vr 0), (1, vi p1), (2, vi p2)] [] S 0 0
  refine r_aloadn C 0 dX4_read_0 rfl ?_
  refine r_iloadn C 1 dX4_read_1 rfl ?_
  refine r_callVo C K4_streamAt [vi p1] [] (hF.k (by decide) rfl) (by decide) rfl cl_4_68 rm_4_read_4_streamAt ⟨rfl, rfl⟩ (by decide) (by decide) rfl (Nat.le_of_ble_eq_true rfl) dX4_read_2 h (fun x1 S1 hF1 hn1 h => ?_)
  obtain ⟨hk2, h⟩ := h
  refine r_astoren C dX4_read_5 (by decide) rfl rfl ?_
  refine r_aloadn C 0 dX4_read_6 rfl ?_
  refine r_ifnonnull C dX4_read_7 (tgt := 12) (by decide) (fun b3 hb4 => ?_) (fun hb4 => ?_)
  · replace h := h.1 b3 hb4
    try rw [hb4]
    refine r_iloadn C 3 dX4_read_12 rfl ?_
    refine r_iconst C (x := 1) dX4_read_13 (by decide) ?_
    refine r_icmp_lt C dX4_read_14 (tgt := 24) (by decide) (fun hc5 => ?_) (fun hc5 => ?_)
    · replace h := h.1 hc5
      refine r_bipush C (x := (-2)) dX4_read_24 (by decide) ?_
      exact ri O ⟨_, rfl, rfl⟩ dX4_read_26 (by decide) (by decide) hF1 (Nat.le_trans hn hn1) h
    · replace h := h.2 hc5
      refine r_iloadn C 3 dX4_read_17 rfl ?_
      refine r_sipush C (x := 1000) dX4_read_18 (by decide) ?_
      refine r_icmp_le C dX4_read_21 (tgt := 27) (by decide) (fun hc6 => ?_) (fun hc6 => ?_)
      · replace h := h.1 hc6
        refine r_iloadn C 3 dX4_read_27 rfl ?_
        refine r_aloadn C 0 dX4_read_28 rfl ?_
        refine r_getI C (hk2 _ hb4) fl_4_85 rfl dX4_read_29 ?_
        refine r_aloadn C 0 dX4_read_32 rfl ?_
        refine r_getI C (hk2 _ hb4) fl_4_88 rfl dX4_read_33 ?_
        refine r_isub C dX4_read_36 ?_
        refine r_min C mw_4_91 (by decide) (Nat.le_of_ble_eq_true rfl) (by decide) (by decide) dX4_read_37 ?_
        refine r_istore C dX4_read_40 (by decide) rfl rfl ?_
        refine r_aloadn C 1 dX4_read_42 rfl ?_
        refine r_dup C rfl dX4_read_43 ?_
        refine r_getI C (hk2 _ hb4) fl_4_88 rfl dX4_read_44 ?_
        refine r_iload C 0 dX4_read_47 rfl ?_
        refine r_iadd C dX4_read_49 ?_
        refine r_putI C (hk2 _ hb4) fl_4_88 rfl rfl dX4_read_50 ?_
        refine r_aloadn C 1 dX4_read_53 rfl ?_
        refine r_getI C (hk2 _ hb4) fl_4_88 rfl dX4_read_54 ?_
        refine r_aloadn C 2 dX4_read_57 rfl ?_
        refine r_getI C (hF1.k (by decide) rfl) fl_4_13 rfl dX4_read_58 ?_
        refine r_iadd C dX4_read_61 ?_
        refine r_aloadn C 1 dX4_read_62 rfl ?_
        refine r_getI C (hk2 _ hb4) fl_4_50 rfl dX4_read_63 ?_
        refine r_isub C dX4_read_66 ?_
        refine r_aloadn C 2 dX4_read_67 rfl ?_
        refine r_getI C (hF1.k (by decide) rfl) fl_4_13 rfl dX4_read_68 ?_
        refine r_iconst C (x := 2) dX4_read_71 (by decide) ?_
        refine r_idiv C dX4_read_72 (by decide) ?_
        refine r_icmp_lt C dX4_read_73 (tgt := 81) (by decide) (fun hc7 => ?_) (fun hc7 => ?_)
        · replace h := h.1 hc7
          refine r_aloadn C 2 dX4_read_81 rfl ?_
          refine r_getR C (hF1.k (by decide) rfl) fl_4_36 rfl (o := some 19) hF1.c1 dX4_read_82 ?_
          refine r_iconst C (x := 1) dX4_read_85 (by decide) ?_
          refine r_iloadn C 3 dX4_read_86 rfl ?_
          refine r_iconst C (x := 2) dX4_read_87 (by decide) ?_
          refine r_irem C dX4_read_88 (by decide) ?_
          refine r_isub C dX4_read_89 ?_
          obtain ⟨hi8, h⟩ := h
          refine r_aald C (o := some (20 + 3 * (1 - (p1 - p1 / 2 * 2)).toNatClampNeg)) (hF1.k (by decide) rfl) (by decide) (ixL (n := 2) rfl hi8) (hF1.sdRI hi8) dX4_read_90 ?_
          refine r_astore C dX4_read_91 (by decide) rfl rfl ?_
          refine r_aloadn C 3 dX4_read_93 rfl ?_
          refine r_aload C 0 dX4_read_94 rfl ?_
          refine r_callVi C K4_readBy [vr (20 + 3 * (1 - (p1 - p1 / 2 * 2)).toNatClampNeg)] [] (hF1.k (by decide) rfl) (by decide) rfl cl_4_100 rm_4_read_4_readBy ⟨rfl, rfl⟩ (by decide) (by decide) rfl (Nat.le_of_ble_eq_true rfl) dX4_read_96 h (fun x9 S9 hF9 hn9 h => ?_)
          refine r_aloadn C 3 dX4_read_99 rfl ?_
          refine r_getI C (hF9.k (by decide) rfl) fl_4_16 rfl dX4_read_100 ?_
          refine r_iadd C dX4_read_103 ?_
          refine r_aload C 0 dX4_read_104 rfl ?_
          refine r_getI C (hF9.sdI hi8) fl_4_65 rfl dX4_read_106 ?_
          refine r_isub C dX4_read_109 ?_
          refine r_aloadn C 3 dX4_read_110 rfl ?_
          refine r_getI C (hF9.k (by decide) rfl) fl_4_16 rfl dX4_read_111 ?_
          refine r_iconst C (x := 2) dX4_read_114 (by decide) ?_
          refine r_idiv C dX4_read_115 (by decide) ?_
          refine r_icmp_lt C dX4_read_116 (tgt := 125) (by decide) (fun hc10 => ?_) (fun hc10 => ?_)
          · replace h := h.1 hc10
            refine r_iload C 1 dX4_read_125 rfl ?_
            exact ri O ⟨_, rfl, rfl⟩ dX4_read_127 (by decide) (by decide) hF9 (Nat.le_trans (Nat.le_trans hn hn1) hn9) h
          · replace h := h.2 hc10
            refine r_aload C 0 dX4_read_119 rfl ?_
            refine r_iconst C (x := 1) dX4_read_121 (by decide) ?_
            refine r_putZ C (hF9.sdI hi8) fl_4_104 rfl (Or.inr rfl) rfl dX4_read_122 ?_
            refine r_iload C 1 dX4_read_125 rfl ?_
            exact ri O ⟨_, rfl, rfl⟩ dX4_read_127 (by decide) (by decide) hF9 (Nat.le_trans (Nat.le_trans hn hn1) hn9) h
        · replace h := h.2 hc7
          refine r_aloadn C 1 dX4_read_76 rfl ?_
          refine r_iconst C (x := 1) dX4_read_77 (by decide) ?_
          refine r_putZ C (hk2 _ hb4) fl_4_97 rfl (Or.inr rfl) rfl dX4_read_78 ?_
          refine r_aloadn C 2 dX4_read_81 rfl ?_
          refine r_getR C (hF1.k (by decide) rfl) fl_4_36 rfl (o := some 19) hF1.c1 dX4_read_82 ?_
          refine r_iconst C (x := 1) dX4_read_85 (by decide) ?_
          refine r_iloadn C 3 dX4_read_86 rfl ?_
          refine r_iconst C (x := 2) dX4_read_87 (by decide) ?_
          refine r_irem C dX4_read_88 (by decide) ?_
          refine r_isub C dX4_read_89 ?_
          obtain ⟨hi11, h⟩ := h
          refine r_aald C (o := some (20 + 3 * (1 - (p1 - p1 / 2 * 2)).toNatClampNeg)) (hF1.k (by decide) rfl) (by decide) (ixL (n := 2) rfl hi11) (hF1.sdRI hi11) dX4_read_90 ?_
          refine r_astore C dX4_read_91 (by decide) rfl rfl ?_
          refine r_aloadn C 3 dX4_read_93 rfl ?_
          refine r_aload C 0 dX4_read_94 rfl ?_
          refine r_callVi C K4_readBy [vr (20 + 3 * (1 - (p1 - p1 / 2 * 2)).toNatClampNeg)] [] (hF1.k (by decide) rfl) (by decide) rfl cl_4_100 rm_4_read_4_readBy ⟨rfl, rfl⟩ (by decide) (by decide) rfl (Nat.le_of_ble_eq_true rfl) dX4_read_96 h (fun x12 S12 hF12 hn12 h => ?_)
          refine r_aloadn C 3 dX4_read_99 rfl ?_
          refine r_getI C (hF12.k (by decide) rfl) fl_4_16 rfl dX4_read_100 ?_
          refine r_iadd C dX4_read_103 ?_
          refine r_aload C 0 dX4_read_104 rfl ?_
          refine r_getI C (hF12.sdI hi11) fl_4_65 rfl dX4_read_106 ?_
          refine r_isub C dX4_read_109 ?_
          refine r_aloadn C 3 dX4_read_110 rfl ?_
          refine r_getI C (hF12.k (by decide) rfl) fl_4_16 rfl dX4_read_111 ?_
          refine r_iconst C (x := 2) dX4_read_114 (by decide) ?_
          refine r_idiv C dX4_read_115 (by decide) ?_
          refine r_icmp_lt C dX4_read_116 (tgt := 125) (by decide) (fun hc13 => ?_) (fun hc13 => ?_)
          · replace h := h.1 hc13
            refine r_iload C 1 dX4_read_125 rfl ?_
            exact ri O ⟨_, rfl, rfl⟩ dX4_read_127 (by decide) (by decide) hF12 (Nat.le_trans (Nat.le_trans hn hn1) hn12) h
          · replace h := h.2 hc13
            refine r_aload C 0 dX4_read_119 rfl ?_
            refine r_iconst C (x := 1) dX4_read_121 (by decide) ?_
            refine r_putZ C (hF12.sdI hi11) fl_4_104 rfl (Or.inr rfl) rfl dX4_read_122 ?_
            refine r_iload C 1 dX4_read_125 rfl ?_
            exact ri O ⟨_, rfl, rfl⟩ dX4_read_127 (by decide) (by decide) hF12 (Nat.le_trans (Nat.le_trans hn hn1) hn12) h
      · replace h := h.2 hc6
        refine r_bipush C (x := (-2)) dX4_read_24 (by decide) ?_
        exact ri O ⟨_, rfl, rfl⟩ dX4_read_26 (by decide) (by decide) hF1 (Nat.le_trans hn hn1) h
  · replace h := h.2 hb4
    refine r_iconst C (x := (-1)) dX4_read_10 (by decide) ?_
    exact ri O ⟨_, rfl, rfl⟩ dX4_read_11 (by decide) (by decide) hF1 (Nat.le_trans hn hn1) h
set_option maxHeartbeats 4000000 in
set_option maxRecDepth 100000 in
theorem e4_move {S : Sto} {Q : Int32 → Sto → Prop} (hF : Fx S)   (h : ((gI S 0 8) < 50 → (Q ((gI S 0 8) + 1) (pI S 0 8 ((gI S 0 8) + 1)))) ∧ (¬ (gI S 0 8) < 50 → (Q (-4) S))) : Ci K4_move [vr 0] S Q := by
  refine Ci.intro rfl (Nat.le_of_ble_eq_true rfl) (fun X O => ?_)
  have C := O.1
  have hn : sN S ≤ sN S := Nat.le_refl _
  show WP X 0 [(0, vr 0)] [] S 0 0
  refine r_aloadn C 0 dX4_move_0 rfl ?_
  refine r_getI C (hF.k (by decide) rfl) fl_4_107 rfl dX4_move_1 ?_
  refine r_bipush C (x := 50) dX4_move_4 (by decide) ?_
  refine r_icmp_lt C dX4_move_6 (tgt := 12) (by decide) (fun hc1 => ?_) (fun hc1 => ?_)
  · replace h := h.1 hc1
    refine r_aloadn C 0 dX4_move_12 rfl ?_
    refine r_dup C rfl dX4_move_13 ?_
    refine r_getI C (hF.k (by decide) rfl) fl_4_107 rfl dX4_move_14 ?_
    refine r_iconst C (x := 1) dX4_move_17 (by decide) ?_
    refine r_iadd C dX4_move_18 ?_
    refine r_putI C (hF.k (by decide) rfl) fl_4_107 rfl rfl dX4_move_19 ?_
    refine r_aloadn C 0 dX4_move_22 rfl ?_
    refine r_getI C (hF.k (by decide) rfl) fl_4_107 rfl dX4_move_23 ?_
    exact ri O ⟨_, rfl, rfl⟩ dX4_move_26 (by decide) (by decide) hF hn h
  · replace h := h.2 hc1
    refine r_bipush C (x := (-4)) dX4_move_9 (by decide) ?_
    exact ri O ⟨_, rfl, rfl⟩ dX4_move_11 (by decide) (by decide) hF hn h
set_option maxHeartbeats 4000000 in
set_option maxRecDepth 100000 in
theorem e4_drop {S : Sto} {Q : Int32 → Sto → Prop} (hF : Fx S) {p1 : Int32}  (h : Co K4_underWayAt [vr 0, vi p1] S (fun x1 S1 => (∀ b, x1 = some b → al S1 b 1) ∧ ((∀ b3 : Nat, x1 = some b3 → (Cv K4_takeOffNet [vr 0, vi p1] S1 (fun S5 => Q (gI S5 0 3) S5))) ∧ (x1 = none → (Q (-1) S1))))) : Ci K4_drop [vr 0, vi p1] S Q := by
  refine Ci.intro rfl (Nat.le_of_ble_eq_true rfl) (fun X O => ?_)
  have C := O.1
  have hn : sN S ≤ sN S := Nat.le_refl _
  show WP X 0 [(0, vr 0), (1, vi p1)] [] S 0 0
  refine r_aloadn C 0 dX4_drop_0 rfl ?_
  refine r_iloadn C 1 dX4_drop_1 rfl ?_
  refine r_callVo C K4_underWayAt [vi p1] [] (hF.k (by decide) rfl) (by decide) rfl cl_4_151 rm_4_drop_4_underWayAt ⟨rfl, rfl⟩ (by decide) (by decide) rfl (Nat.le_of_ble_eq_true rfl) dX4_drop_2 h (fun x1 S1 hF1 hn1 h => ?_)
  obtain ⟨hk2, h⟩ := h
  refine r_ifnonnull C dX4_drop_5 (tgt := 10) (by decide) (fun b3 hb4 => ?_) (fun hb4 => ?_)
  · replace h := h.1 b3 hb4
    try rw [hb4]
    refine r_aloadn C 0 dX4_drop_10 rfl ?_
    refine r_iloadn C 1 dX4_drop_11 rfl ?_
    refine r_callVv C K4_takeOffNet [vi p1] [] (hF1.k (by decide) rfl) (by decide) rfl cl_4_155 rm_4_drop_4_takeOffNet ⟨rfl, rfl⟩ (by decide) (by decide) rfl (Nat.le_of_ble_eq_true rfl) dX4_drop_12 h (fun S5 hF5 hn5 h => ?_)
    refine r_aloadn C 0 dX4_drop_15 rfl ?_
    refine r_getI C (hF5.k (by decide) rfl) fl_4_117 rfl dX4_drop_16 ?_
    exact ri O ⟨_, rfl, rfl⟩ dX4_drop_19 (by decide) (by decide) hF5 (Nat.le_trans (Nat.le_trans hn hn1) hn5) h
  · replace h := h.2 hb4
    refine r_iconst C (x := (-1)) dX4_drop_8 (by decide) ?_
    exact ri O ⟨_, rfl, rfl⟩ dX4_drop_9 (by decide) (by decide) hF1 (Nat.le_trans hn hn1) h
set_option maxHeartbeats 4000000 in
set_option maxRecDepth 100000 in
theorem e4_twice {S : Sto} {Q : Int32 → Sto → Prop} (hF : Fx S) {p1 : Int32}  (h : Co K4_underWayAt [vr 0, vi p1] S (fun x1 S1 => (∀ b, x1 = some b → al S1 b 1) ∧ ((∀ b3 : Nat, x1 = some b3 → (((gI S1 0 3) < 400 → ((0 ≤ ((gI S1 0 3) : Int32).toInt ∧ ((gI S1 0 3) : Int32).toInt < (400 : Nat)) ∧ (Q ((gI S1 0 3) + 1) (pI (pR S1 1 (gI S1 0 3).toNatClampNeg (some b3)) 0 3 ((gI S1 0 3) + 1))))) ∧ (¬ (gI S1 0 3) < 400 → (Q (-4) S1)))) ∧ (x1 = none → (Q (-1) S1))))) : Ci K4_twice [vr 0, vi p1] S Q := by
  refine Ci.intro rfl (Nat.le_of_ble_eq_true rfl) (fun X O => ?_)
  have C := O.1
  have hn : sN S ≤ sN S := Nat.le_refl _
  show WP X 0 [(0, vr 0), (1, vi p1)] [] S 0 0
  refine r_aloadn C 0 dX4_twice_0 rfl ?_
  refine r_iloadn C 1 dX4_twice_1 rfl ?_
  refine r_callVo C K4_underWayAt [vi p1] [] (hF.k (by decide) rfl) (by decide) rfl cl_4_151 rm_4_twice_4_underWayAt ⟨rfl, rfl⟩ (by decide) (by decide) rfl (Nat.le_of_ble_eq_true rfl) dX4_twice_2 h (fun x1 S1 hF1 hn1 h => ?_)
  obtain ⟨hk2, h⟩ := h
  refine r_astoren C dX4_twice_5 (by decide) rfl rfl ?_
  refine r_aloadn C 0 dX4_twice_6 rfl ?_
  refine r_ifnonnull C dX4_twice_7 (tgt := 12) (by decide) (fun b3 hb4 => ?_) (fun hb4 => ?_)
  · replace h := h.1 b3 hb4
    try rw [hb4]
    refine r_aloadn C 1 dX4_twice_12 rfl ?_
    refine r_getI C (hF1.k (by decide) rfl) fl_4_117 rfl dX4_twice_13 ?_
    refine r_sipush C (x := 400) dX4_twice_16 (by decide) ?_
    refine r_icmp_lt C dX4_twice_19 (tgt := 25) (by decide) (fun hc5 => ?_) (fun hc5 => ?_)
    · replace h := h.1 hc5
      refine r_aloadn C 1 dX4_twice_25 rfl ?_
      refine r_getR C (hF1.k (by decide) rfl) fl_4_21 rfl (o := some 1) hF1.c2 dX4_twice_26 ?_
      refine r_aloadn C 1 dX4_twice_29 rfl ?_
      refine r_getI C (hF1.k (by decide) rfl) fl_4_117 rfl dX4_twice_30 ?_
      refine r_aloadn C 0 dX4_twice_33 rfl ?_
      obtain ⟨hi6, h⟩ := h
      have hF7 := Fx.put9s hF1 (a := 1) (k := (gI S1 0 3).toNatClampNeg) (hF1.k (by decide) rfl) (hk2 _ hb4)
      refine r_aast C (hF1.k (by decide) rfl) (by decide) (hk2 _ hb4) (by decide) rfl (ixL (n := 400) rfl hi6) dX4_twice_34 ?_
      refine r_aloadn C 1 dX4_twice_35 rfl ?_
      refine r_dup C rfl dX4_twice_36 ?_
      refine r_getI C (hF7.k (by decide) rfl) fl_4_117 rfl dX4_twice_37 ?_
      refine r_iconst C (x := 1) dX4_twice_40 (by decide) ?_
      refine r_iadd C dX4_twice_41 ?_
      refine r_putI C (hF7.k (by decide) rfl) fl_4_117 rfl rfl dX4_twice_42 ?_
      refine r_aloadn C 1 dX4_twice_45 rfl ?_
      refine r_getI C (hF7.k (by decide) rfl) fl_4_117 rfl dX4_twice_46 ?_
      exact ri O ⟨_, rfl, rfl⟩ dX4_twice_49 (by decide) (by decide) hF7 (Nat.le_trans hn hn1) h
    · replace h := h.2 hc5
      refine r_bipush C (x := (-4)) dX4_twice_22 (by decide) ?_
      exact ri O ⟨_, rfl, rfl⟩ dX4_twice_24 (by decide) (by decide) hF1 (Nat.le_trans hn hn1) h
  · replace h := h.2 hb4
    refine r_iconst C (x := (-1)) dX4_twice_10 (by decide) ?_
    exact ri O ⟨_, rfl, rfl⟩ dX4_twice_11 (by decide) (by decide) hF1 (Nat.le_trans hn hn1) h
set_option maxHeartbeats 4000000 in
set_option maxRecDepth 100000 in
theorem e4_takeOffNet {S : Sto} {Q : Sto → Prop} (hF : Fx S) {p1 : Int32}  (h : ∀ X : Ctx, Ov X K4_takeOffNet S Q → WP X 2 [(0, vr 0), (2, vi p1)] [] S 0 0) : Cv K4_takeOffNet [vr 0, vi p1] S Q := by
  refine Cv.intro rfl (Nat.le_of_ble_eq_true rfl) (fun X O => ?_)
  replace h := h X O
  have C := O.1
  have hn : sN S ≤ sN S := Nat.le_refl _
  show WP X 0 [(0, vr 0), (1, vi p1)] [] S 0 0
  refine r_iloadn C 1 dX4_takeOffNet_0 rfl ?_
  refine r_istoren C dX4_takeOffNet_1 (by decide) rfl rfl ?_
  refine r_perm [1, 0] rfl ?_
  exact h
set_option maxHeartbeats 4000000 in
set_option maxRecDepth 100000 in
theorem s4_takeOffNet_2 {X : Ctx} {S0 S : Sto} {Q : Sto → Prop} (hF : Fx S) (hn : sN S0 ≤ sN S) (O : Ov X K4_takeOffNet S0 Q) {l2 : Int32}   (h : (((gI S 0 3) - 1) ≤ l2 → ((0 ≤ (((gI S 0 3) - 1) : Int32).toInt ∧ (((gI S 0 3) - 1) : Int32).toInt < (400 : Nat)) ∧ (Q (pR (pI S 0 3 ((gI S 0 3) - 1)) 1 ((gI S 0 3) - 1).toNatClampNeg none)))) ∧ (¬ ((gI S 0 3) - 1) ≤ l2 → ((0 ≤ ((l2 + 1) : Int32).toInt ∧ ((l2 + 1) : Int32).toInt < (400 : Nat)) ∧ (∃ b6 : Nat, (gR S 1 (l2 + 1).toNatClampNeg) = some b6 ∧ ((0 ≤ (l2 : Int32).toInt ∧ (l2 : Int32).toInt < (400 : Nat)) ∧ (WP X 2 [(0, vr 0), (2, vi (l2 + 1))] [] (pR S 1 l2.toNatClampNeg (some b6)) 0 0)))))) : WP X 2 [(0, vr 0), (2, vi l2)] [] S 0 0 := by
  have C := O.1
  refine r_iloadn C 1 dX4_takeOffNet_2 rfl ?_
  refine r_aloadn C 0 dX4_takeOffNet_3 rfl ?_
  refine r_getI C (hF.k (by decide) rfl) fl_4_117 rfl dX4_takeOffNet_4 ?_
  refine r_iconst C (x := 1) dX4_takeOffNet_7 (by decide) ?_
  refine r_isub C dX4_takeOffNet_8 ?_
  refine r_icmp_ge C dX4_takeOffNet_9 (tgt := 32) (by decide) (fun hc2 => ?_) (fun hc2 => ?_)
  · replace h := h.1 hc2
    refine r_aloadn C 0 dX4_takeOffNet_32 rfl ?_
    refine r_dup C rfl dX4_takeOffNet_33 ?_
    refine r_getI C (hF.k (by decide) rfl) fl_4_117 rfl dX4_takeOffNet_34 ?_
    refine r_iconst C (x := 1) dX4_takeOffNet_37 (by decide) ?_
    refine r_isub C dX4_takeOffNet_38 ?_
    refine r_putI C (hF.k (by decide) rfl) fl_4_117 rfl rfl dX4_takeOffNet_39 ?_
    refine r_aloadn C 0 dX4_takeOffNet_42 rfl ?_
    refine r_getR C (hF.k (by decide) rfl) fl_4_21 rfl (o := some 1) hF.c2 dX4_takeOffNet_43 ?_
    refine r_aloadn C 0 dX4_takeOffNet_46 rfl ?_
    refine r_getI C (hF.k (by decide) rfl) fl_4_117 rfl dX4_takeOffNet_47 ?_
    refine r_null C dX4_takeOffNet_50 ?_
    obtain ⟨hi3, h⟩ := h
    have hF4 := Fx.put9n hF (a := 1) (k := ((gI S 0 3) - 1).toNatClampNeg) (hF.k (by decide) rfl)
    refine r_aastN C (hF.k (by decide) rfl) (by decide) (ixL (n := 400) rfl hi3) dX4_takeOffNet_51 ?_
    exact rv O rfl dX4_takeOffNet_52 (by decide) (by decide) hF4 hn h
  · replace h := h.2 hc2
    refine r_aloadn C 0 dX4_takeOffNet_12 rfl ?_
    refine r_getR C (hF.k (by decide) rfl) fl_4_21 rfl (o := some 1) hF.c2 dX4_takeOffNet_13 ?_
    refine r_iloadn C 1 dX4_takeOffNet_16 rfl ?_
    refine r_aloadn C 0 dX4_takeOffNet_17 rfl ?_
    refine r_getR C (hF.k (by decide) rfl) fl_4_21 rfl (o := some 1) hF.c2 dX4_takeOffNet_18 ?_
    refine r_iloadn C 1 dX4_takeOffNet_21 rfl ?_
    refine r_iconst C (x := 1) dX4_takeOffNet_22 (by decide) ?_
    refine r_iadd C dX4_takeOffNet_23 ?_
    obtain ⟨hi5, h⟩ := h
    refine r_aald C (o := (gR S 1 (l2 + 1).toNatClampNeg)) (hF.k (by decide) rfl) (by decide) (ixL (n := 400) rfl hi5) rfl dX4_takeOffNet_24 ?_
    obtain ⟨b6, hb7, h⟩ := h
    try rw [hb7]
    obtain ⟨hi8, h⟩ := h
    have hF9 := Fx.put9s hF (a := 1) (k := l2.toNatClampNeg) (hF.k (by decide) rfl) (Fx.pk hF (hF.k (by decide) rfl) hb7)
    refine r_aast C (hF.k (by decide) rfl) (by decide) (Fx.pk hF (hF.k (by decide) rfl) hb7) (by decide) rfl (ixL (n := 400) rfl hi8) dX4_takeOffNet_25 ?_
    refine r_iinc C (y := (l2 + 1)) 1 dX4_takeOffNet_26 rfl rfl (by decide) rfl rfl ?_
    refine r_goto C dX4_takeOffNet_29 (tgt := 2) (by decide) ?_
    refine r_perm [1, 0] rfl ?_
    exact h
set_option maxHeartbeats 4000000 in
set_option maxRecDepth 100000 in
theorem e4_stream {S : Sto} {Q : Int32 → Sto → Prop} (hF : Fx S) {p1 : Int32} {p2 : Int32}  (h : Co K4_streamAt [vr 0, vi p1] S (fun x1 S1 => (∀ b, x1 = some b → al S1 b 3) ∧ ((∀ b3 : Nat, x1 = some b3 → ((p2 = 0 → (Q (gI S1 b3 1) S1)) ∧ (p2 = 1 → (Q ((if (gI S1 b3 2) = 0 then 0 else 1 : Int32)) S1)) ∧ (p2 = 2 → (Q ((if (gI S1 b3 3) = 0 then 0 else 1 : Int32)) S1)) ∧ (p2 = 3 → (Q (gI S1 b3 5) S1)) ∧ (p2 = 4 → (Q (gI S1 b3 6) S1)) ∧ (p2 = 5 → (Q (gI S1 b3 7) S1)) ∧ (p2 = 6 → (Q (gI S1 b3 8) S1)) ∧ (p2 = 7 → (∀ w8 : Int32, w8 = (if (gI S1 b3 9) = 3 then 1 else 0 : Int32) → (Q ((if w8 = 0 then 0 else 1 : Int32)) S1))) ∧ (p2 = 8 → (Q (gI S1 b3 10) S1)) ∧ (p2 = 9 → (Q (gI S1 b3 11) S1)) ∧ (p2 = 10 → (Q (gI S1 b3 12) S1)) ∧ (p2 = 11 → (Q (gI S1 b3 13) S1)) ∧ (p2 = 12 → (Q ((if (gI S1 b3 14) = 0 then 0 else 1 : Int32)) S1)) ∧ (p2 = 13 → (Q (gI S1 b3 15) S1)) ∧ (p2 = 14 → (Q ((if (gI S1 b3 16) = 0 then 0 else 1 : Int32)) S1)) ∧ (¬ p2 = 0 → ¬ p2 = 1 → ¬ p2 = 2 → ¬ p2 = 3 → ¬ p2 = 4 → ¬ p2 = 5 → ¬ p2 = 6 → ¬ p2 = 7 → ¬ p2 = 8 → ¬ p2 = 9 → ¬ p2 = 10 → ¬ p2 = 11 → ¬ p2 = 12 → ¬ p2 = 13 → ¬ p2 = 14 → (Q (-2) S1)))) ∧ (x1 = none → (Q (-1) S1))))) : Ci K4_stream [vr 0, vi p1, vi p2] S Q := by
  refine Ci.intro rfl (Nat.le_of_ble_eq_true rfl) (fun X O => ?_)
  have C := O.1
  have hn : sN S ≤ sN S := Nat.le_refl _
  show WP X 0 [(0, vr 0), (1, vi p1), (2, vi p2)] [] S 0 0
  refine r_aloadn C 0 dX4_stream_0 rfl ?_
  refine r_iloadn C 1 dX4_stream_1 rfl ?_
  refine r_callVo C K4_streamAt [vi p1] [] (hF.k (by decide) rfl) (by decide) rfl cl_4_68 rm_4_stream_4_streamAt ⟨rfl, rfl⟩ (by decide) (by decide) rfl (Nat.le_of_ble_eq_true rfl) dX4_stream_2 h (fun x1 S1 hF1 hn1 h => ?_)
  obtain ⟨hk2, h⟩ := h
  refine r_astoren C dX4_stream_5 (by decide) rfl rfl ?_
  refine r_aloadn C 0 dX4_stream_6 rfl ?_
  refine r_ifnonnull C dX4_stream_7 (tgt := 12) (by decide) (fun b3 hb4 => ?_) (fun hb4 => ?_)
  · replace h := h.1 b3 hb4
    try rw [hb4]
    refine r_iloadn C 3 dX4_stream_12 rfl ?_
    refine r_table C dX4_stream_13 rfl (by decide) (fun i off hi hx5 => ?_) (fun hx5 => ?_)
    · have hlt : i < 15 := (Array.getElem?_eq_some_iff.mp hi).1
      obtain rfl | rfl | rfl | rfl | rfl | rfl | rfl | rfl | rfl | rfl | rfl | rfl | rfl | rfl | rfl : i = 0 ∨ i = 1 ∨ i = 2 ∨ i = 3 ∨ i = 4 ∨ i = 5 ∨ i = 6 ∨ i = 7 ∨ i = 8 ∨ i = 9 ∨ i = 10 ∨ i = 11 ∨ i = 12 ∨ i = 13 ∨ i = 14 := by omega
      · obtain rfl := Option.some.inj hi
        replace h := h.1 (hx5.trans (by decide))
        refine ⟨88, by decide, ?_⟩
        refine r_aloadn C 0 dX4_stream_88 rfl ?_
        refine r_getI C (hk2 _ hb4) fl_4_79 rfl dX4_stream_89 ?_
        exact ri O ⟨_, rfl, rfl⟩ dX4_stream_92 (by decide) (by decide) hF1 (Nat.le_trans hn hn1) h
      · obtain rfl := Option.some.inj hi
        replace h := h.2.1 (hx5.trans (by decide))
        refine ⟨93, by decide, ?_⟩
        refine r_aloadn C 0 dX4_stream_93 rfl ?_
        refine r_getI C (hk2 _ hb4) fl_4_72 rfl dX4_stream_94 ?_
        refine r_callSi C K4_flag [vi (gI S1 b3 2)] [] cl_4_193 rm_4_stream_4_flag ⟨rfl, rfl⟩ (by decide) (by decide) rfl (Nat.le_of_ble_eq_true rfl) dX4_stream_97 (q4_flag (S := S1) hF1) (fun x6 _ _ _ hq => ?_)
        obtain ⟨hqa, hqb⟩ := hq; obtain rfl := hqa.symm; obtain rfl := hqb.symm
        exact ri O ⟨_, rfl, rfl⟩ dX4_stream_100 (by decide) (by decide) hF1 (Nat.le_trans hn hn1) h
      · obtain rfl := Option.some.inj hi
        replace h := h.2.2.1 (hx5.trans (by decide))
        refine ⟨101, by decide, ?_⟩
        refine r_aloadn C 0 dX4_stream_101 rfl ?_
        refine r_getI C (hk2 _ hb4) fl_4_76 rfl dX4_stream_102 ?_
        refine r_callSi C K4_flag [vi (gI S1 b3 3)] [] cl_4_193 rm_4_stream_4_flag ⟨rfl, rfl⟩ (by decide) (by decide) rfl (Nat.le_of_ble_eq_true rfl) dX4_stream_105 (q4_flag (S := S1) hF1) (fun x7 _ _ _ hq => ?_)
        obtain ⟨hqa, hqb⟩ := hq; obtain rfl := hqa.symm; obtain rfl := hqb.symm
        exact ri O ⟨_, rfl, rfl⟩ dX4_stream_108 (by decide) (by decide) hF1 (Nat.le_trans hn hn1) h
      · obtain rfl := Option.some.inj hi
        replace h := h.2.2.2.1 (hx5.trans (by decide))
        refine ⟨109, by decide, ?_⟩
        refine r_aloadn C 0 dX4_stream_109 rfl ?_
        refine r_getI C (hk2 _ hb4) fl_4_197 rfl dX4_stream_110 ?_
        exact ri O ⟨_, rfl, rfl⟩ dX4_stream_113 (by decide) (by decide) hF1 (Nat.le_trans hn hn1) h
      · obtain rfl := Option.some.inj hi
        replace h := h.2.2.2.2.1 (hx5.trans (by decide))
        refine ⟨114, by decide, ?_⟩
        refine r_aloadn C 0 dX4_stream_114 rfl ?_
        refine r_getI C (hk2 _ hb4) fl_4_200 rfl dX4_stream_115 ?_
        exact ri O ⟨_, rfl, rfl⟩ dX4_stream_118 (by decide) (by decide) hF1 (Nat.le_trans hn hn1) h
      · obtain rfl := Option.some.inj hi
        replace h := h.2.2.2.2.2.1 (hx5.trans (by decide))
        refine ⟨119, by decide, ?_⟩
        refine r_aloadn C 0 dX4_stream_119 rfl ?_
        refine r_getI C (hk2 _ hb4) fl_4_203 rfl dX4_stream_120 ?_
        exact ri O ⟨_, rfl, rfl⟩ dX4_stream_123 (by decide) (by decide) hF1 (Nat.le_trans hn hn1) h
      · obtain rfl := Option.some.inj hi
        replace h := h.2.2.2.2.2.2.1 (hx5.trans (by decide))
        refine ⟨124, by decide, ?_⟩
        refine r_aloadn C 0 dX4_stream_124 rfl ?_
        refine r_getI C (hk2 _ hb4) fl_4_47 rfl dX4_stream_125 ?_
        exact ri O ⟨_, rfl, rfl⟩ dX4_stream_128 (by decide) (by decide) hF1 (Nat.le_trans hn hn1) h
      · obtain rfl := Option.some.inj hi
        replace h := h.2.2.2.2.2.2.2.1 (hx5.trans (by decide))
        refine ⟨129, by decide, ?_⟩
        refine r_aloadn C 0 dX4_stream_129 rfl ?_
        refine r_getI C (hk2 _ hb4) fl_4_206 rfl dX4_stream_130 ?_
        refine r_iconst C (x := 3) dX4_stream_133 (by decide) ?_
        have kJ9 : ∀ (w8 : Int32) (_ : w8 = (if (gI S1 b3 9) = 3 then 1 else 0 : Int32)), WP X 142 [] [vi w8] S1 0 0 := by
          intro w8 hw8
          replace h := h w8 hw8
          have hz_w8 : w8 = 0 ∨ w8 = 1 := by rw [hw8]; repeat (first | exact Or.inl rfl | exact Or.inr rfl | assumption | split)
          refine r_callSi C K4_flag [vi w8] [] cl_4_193 rm_4_stream_4_flag ⟨rfl, rfl⟩ (by decide) (by decide) rfl (Nat.le_of_ble_eq_true rfl) dX4_stream_142 (q4_flag (S := S1) hF1) (fun x11 _ _ _ hq => ?_)
          obtain ⟨hqa, hqb⟩ := hq; obtain rfl := hqa.symm; obtain rfl := hqb.symm
          exact ri O ⟨_, rfl, rfl⟩ dX4_stream_145 (by decide) (by decide) hF1 (Nat.le_trans hn hn1) h
        refine r_icmp_ne C dX4_stream_134 (tgt := 141) (by decide) (fun hc10 => ?_) (fun hc10 => ?_)
        · refine r_iconst C (x := 0) dX4_stream_141 (by decide) ?_
          refine r_perm [] rfl ?_
          exact kJ9 _ (if_neg hc10).symm
        · refine r_iconst C (x := 1) dX4_stream_137 (by decide) ?_
          refine r_goto C dX4_stream_138 (tgt := 142) (by decide) ?_
          refine r_perm [] rfl ?_
          exact kJ9 _ (if_pos hc10).symm
      · obtain rfl := Option.some.inj hi
        replace h := h.2.2.2.2.2.2.2.2.1 (hx5.trans (by decide))
        refine ⟨146, by decide, ?_⟩
        refine r_aloadn C 0 dX4_stream_146 rfl ?_
        refine r_getI C (hk2 _ hb4) fl_4_209 rfl dX4_stream_147 ?_
        exact ri O ⟨_, rfl, rfl⟩ dX4_stream_150 (by decide) (by decide) hF1 (Nat.le_trans hn hn1) h
      · obtain rfl := Option.some.inj hi
        replace h := h.2.2.2.2.2.2.2.2.2.1 (hx5.trans (by decide))
        refine ⟨151, by decide, ?_⟩
        refine r_aloadn C 0 dX4_stream_151 rfl ?_
        refine r_getI C (hk2 _ hb4) fl_4_85 rfl dX4_stream_152 ?_
        exact ri O ⟨_, rfl, rfl⟩ dX4_stream_155 (by decide) (by decide) hF1 (Nat.le_trans hn hn1) h
      · obtain rfl := Option.some.inj hi
        replace h := h.2.2.2.2.2.2.2.2.2.2.1 (hx5.trans (by decide))
        refine ⟨156, by decide, ?_⟩
        refine r_aloadn C 0 dX4_stream_156 rfl ?_
        refine r_getI C (hk2 _ hb4) fl_4_88 rfl dX4_stream_157 ?_
        exact ri O ⟨_, rfl, rfl⟩ dX4_stream_160 (by decide) (by decide) hF1 (Nat.le_trans hn hn1) h
      · obtain rfl := Option.some.inj hi
        replace h := h.2.2.2.2.2.2.2.2.2.2.2.1 (hx5.trans (by decide))
        refine ⟨161, by decide, ?_⟩
        refine r_aloadn C 0 dX4_stream_161 rfl ?_
        refine r_getI C (hk2 _ hb4) fl_4_50 rfl dX4_stream_162 ?_
        exact ri O ⟨_, rfl, rfl⟩ dX4_stream_165 (by decide) (by decide) hF1 (Nat.le_trans hn hn1) h
      · obtain rfl := Option.some.inj hi
        replace h := h.2.2.2.2.2.2.2.2.2.2.2.2.1 (hx5.trans (by decide))
        refine ⟨166, by decide, ?_⟩
        refine r_aloadn C 0 dX4_stream_166 rfl ?_
        refine r_getI C (hk2 _ hb4) fl_4_97 rfl dX4_stream_167 ?_
        refine r_callSi C K4_flag [vi (gI S1 b3 14)] [] cl_4_193 rm_4_stream_4_flag ⟨rfl, rfl⟩ (by decide) (by decide) rfl (Nat.le_of_ble_eq_true rfl) dX4_stream_170 (q4_flag (S := S1) hF1) (fun x12 _ _ _ hq => ?_)
        obtain ⟨hqa, hqb⟩ := hq; obtain rfl := hqa.symm; obtain rfl := hqb.symm
        exact ri O ⟨_, rfl, rfl⟩ dX4_stream_173 (by decide) (by decide) hF1 (Nat.le_trans hn hn1) h
      · obtain rfl := Option.some.inj hi
        replace h := h.2.2.2.2.2.2.2.2.2.2.2.2.2.1 (hx5.trans (by decide))
        refine ⟨174, by decide, ?_⟩
        refine r_aloadn C 0 dX4_stream_174 rfl ?_
        refine r_getI C (hk2 _ hb4) fl_4_211 rfl dX4_stream_175 ?_
        exact ri O ⟨_, rfl, rfl⟩ dX4_stream_178 (by decide) (by decide) hF1 (Nat.le_trans hn hn1) h
      · obtain rfl := Option.some.inj hi
        replace h := h.2.2.2.2.2.2.2.2.2.2.2.2.2.2.1 (hx5.trans (by decide))
        refine ⟨179, by decide, ?_⟩
        refine r_aloadn C 0 dX4_stream_179 rfl ?_
        refine r_getI C (hk2 _ hb4) fl_4_214 rfl dX4_stream_180 ?_
        refine r_callSi C K4_flag [vi (gI S1 b3 16)] [] cl_4_193 rm_4_stream_4_flag ⟨rfl, rfl⟩ (by decide) (by decide) rfl (Nat.le_of_ble_eq_true rfl) dX4_stream_183 (q4_flag (S := S1) hF1) (fun x13 _ _ _ hq => ?_)
        obtain ⟨hqa, hqb⟩ := hq; obtain rfl := hqa.symm; obtain rfl := hqb.symm
        exact ri O ⟨_, rfl, rfl⟩ dX4_stream_186 (by decide) (by decide) hF1 (Nat.le_trans hn hn1) h
    · replace h := h.2.2.2.2.2.2.2.2.2.2.2.2.2.2.2 (fun e => hx5 0 (by decide) (e.trans (by decide))) (fun e => hx5 1 (by decide) (e.trans (by decide))) (fun e => hx5 2 (by decide) (e.trans (by decide))) (fun e => hx5 3 (by decide) (e.trans (by decide))) (fun e => hx5 4 (by decide) (e.trans (by decide))) (fun e => hx5 5 (by decide) (e.trans (by decide))) (fun e => hx5 6 (by decide) (e.trans (by decide))) (fun e => hx5 7 (by decide) (e.trans (by decide))) (fun e => hx5 8 (by decide) (e.trans (by decide))) (fun e => hx5 9 (by decide) (e.trans (by decide))) (fun e => hx5 10 (by decide) (e.trans (by decide))) (fun e => hx5 11 (by decide) (e.trans (by decide))) (fun e => hx5 12 (by decide) (e.trans (by decide))) (fun e => hx5 13 (by decide) (e.trans (by decide))) (fun e => hx5 14 (by decide) (e.trans (by decide)))
      refine ⟨187, by decide, ?_⟩
      refine r_bipush C (x := (-2)) dX4_stream_187 (by decide) ?_
      exact ri O ⟨_, rfl, rfl⟩ dX4_stream_189 (by decide) (by decide) hF1 (Nat.le_trans hn hn1) h
  · replace h := h.2 hb4
    refine r_iconst C (x := (-1)) dX4_stream_10 (by decide) ?_
    exact ri O ⟨_, rfl, rfl⟩ dX4_stream_11 (by decide) (by decide) hF1 (Nat.le_trans hn hn1) h
set_option maxHeartbeats 4000000 in
set_option maxRecDepth 100000 in
theorem e4_state {S : Sto} {Q : Int32 → Sto → Prop} (hF : Fx S) {p1 : Int32} {p2 : Int32}  (h : Co K4_streamAt [vr 0, vi p1] S (fun x1 S1 => (∀ b, x1 = some b → al S1 b 3) ∧ ((∀ b3 : Nat, x1 = some b3 → ((0 ≤ (p2 : Int32).toInt ∧ (p2 : Int32).toInt < (1000 : Nat)) ∧ (∀ w10 : Int32, w10 = (if p2 < 0 then (-1) else (if p2 < 1000 then (gI S1 (b3 + 1) p2.toNatClampNeg) else (-1) : Int32) : Int32) → (Q w10 S1)))) ∧ (x1 = none → (Q (-1) S1))))) : Ci K4_state [vr 0, vi p1, vi p2] S Q := by
  refine Ci.intro rfl (Nat.le_of_ble_eq_true rfl) (fun X O => ?_)
  have C := O.1
  have hn : sN S ≤ sN S := Nat.le_refl _
  show WP X 0 [(0, vr 0), (1, vi p1), (2, vi p2)] [] S 0 0
  refine r_aloadn C 0 dX4_state_0 rfl ?_
  refine r_iloadn C 1 dX4_state_1 rfl ?_
  refine r_callVo C K4_streamAt [vi p1] [] (hF.k (by decide) rfl) (by decide) rfl cl_4_68 rm_4_state_4_streamAt ⟨rfl, rfl⟩ (by decide) (by decide) rfl (Nat.le_of_ble_eq_true rfl) dX4_state_2 h (fun x1 S1 hF1 hn1 h => ?_)
  obtain ⟨hk2, h⟩ := h
  refine r_astoren C dX4_state_5 (by decide) rfl rfl ?_
  refine r_aloadn C 0 dX4_state_6 rfl ?_
  refine r_ifnull C dX4_state_7 (tgt := 21) (by decide) (fun hb4 => ?_) (fun b3 hb4 => ?_)
  · replace h := h.2 hb4
    refine r_iconst C (x := (-1)) dX4_state_21 (by decide) ?_
    refine r_goto C dX4_state_22 (tgt := 31) (by decide) ?_
    exact ri O ⟨_, rfl, rfl⟩ dX4_state_31 (by decide) (by decide) hF1 (Nat.le_trans hn hn1) h
  · replace h := h.1 b3 hb4
    try rw [hb4]
    refine r_iloadn C 3 dX4_state_10 rfl ?_
    obtain ⟨hi9, h⟩ := h
    have kJ11 : ∀ (w10 : Int32) (_ : w10 = (if p2 < 0 then (-1) else (if p2 < 1000 then (gI S1 (b3 + 1) p2.toNatClampNeg) else (-1) : Int32) : Int32)), WP X 31 [] [vi w10] S1 0 0 := by
      intro w10 hw10
      replace h := h w10 hw10
      exact ri O ⟨_, rfl, rfl⟩ dX4_state_31 (by decide) (by decide) hF1 (Nat.le_trans hn hn1) h
    refine r_if_lt C dX4_state_11 (tgt := 21) (by decide) (fun hc12 => ?_) (fun hc12 => ?_)
    · refine r_iconst C (x := (-1)) dX4_state_21 (by decide) ?_
      refine r_goto C dX4_state_22 (tgt := 31) (by decide) ?_
      refine r_perm [] rfl ?_
      exact kJ11 _ (if_pos hc12).symm
    · refine r_iloadn C 3 dX4_state_14 rfl ?_
      refine r_sipush C (x := 1000) dX4_state_15 (by decide) ?_
      have kJ13 : WP X 31 [] [vi (if p2 < 1000 then (gI S1 (b3 + 1) p2.toNatClampNeg) else (-1) : Int32)] S1 0 0 := by
        refine r_perm [] rfl ?_
        exact kJ11 _ (if_neg hc12).symm
      refine r_icmp_lt C dX4_state_18 (tgt := 25) (by decide) (fun hc14 => ?_) (fun hc14 => ?_)
      · refine r_aloadn C 0 dX4_state_25 rfl ?_
        refine r_getR C (hk2 _ hb4) fl_4_217 rfl (hF1.rowR (hk2 _ hb4)) dX4_state_26 ?_
        refine r_iloadn C 3 dX4_state_29 rfl ?_
        refine r_bald C (hF1.row (hk2 _ hb4)) (ixL (n := 1000) (Fx.rowL (hk2 _ hb4)) hi9) dX4_state_30 ?_
        refine r_perm [] rfl ?_
        rw [show (if p2 < 1000 then (gI S1 (b3 + 1) p2.toNatClampNeg) else (-1) : Int32) = (gI S1 (b3 + 1) p2.toNatClampNeg) from if_pos hc14] at kJ13
        exact kJ13
      · refine r_iconst C (x := (-1)) dX4_state_21 (by decide) ?_
        refine r_goto C dX4_state_22 (tgt := 31) (by decide) ?_
        refine r_perm [] rfl ?_
        rw [show (if p2 < 1000 then (gI S1 (b3 + 1) p2.toNatClampNeg) else (-1) : Int32) = (-1) from if_neg hc14] at kJ13
        exact kJ13
set_option maxHeartbeats 4000000 in
set_option maxRecDepth 100000 in
theorem e4_side {S : Sto} {Q : Int32 → Sto → Prop} (hF : Fx S) {p1 : Int32} {p2 : Int32}  (h : Co K4_sideAt [vr 0, vi p1] S (fun x1 S1 => (∀ b, x1 = some b → al S1 b 2) ∧ ((∀ b3 : Nat, x1 = some b3 → ((p2 = 0 → (Q (gI S1 b3 3) S1)) ∧ (p2 = 1 → (Q (gI S1 (b3 + 2) 0) S1)) ∧ (p2 = 2 → (Q (gI S1 (b3 + 2) 1) S1)) ∧ (p2 = 3 → (Q (gI S1 (b3 + 2) 2) S1)) ∧ (p2 = 4 → (Q (gI S1 (b3 + 2) 3) S1)) ∧ (p2 = 5 → (Q (gI S1 (b3 + 2) 4) S1)) ∧ (p2 = 6 → (Q (gI S1 (b3 + 2) 5) S1)) ∧ (p2 = 7 → (Q (gI S1 (b3 + 2) 6) S1)) ∧ (p2 = 8 → (Q (gI S1 (b3 + 2) 7) S1)) ∧ (p2 = 9 → (Q ((if (gI S1 (b3 + 2) 8) = 0 then 0 else 1 : Int32)) S1)) ∧ (p2 = 10 → (Q (gI S1 b3 5) S1)) ∧ (p2 = 11 → (Q (gI S1 b3 6) S1)) ∧ (p2 = 12 → (Q ((if (gI S1 b3 7) = 0 then 0 else 1 : Int32)) S1)) ∧ (p2 = 13 → (Q (gI S1 b3 8) S1)) ∧ (p2 = 14 → (Ci K4_countedOf [vr 0, vr b3] S1 (fun x8 S8 => Q x8 S8))) ∧ (p2 = 15 → (Q ((if (gI S1 b3 10) = 0 then 0 else 1 : Int32)) S1)) ∧ (p2 = 16 → (Q (gI S1 b3 9) S1)) ∧ (¬ p2 = 0 → ¬ p2 = 1 → ¬ p2 = 2 → ¬ p2 = 3 → ¬ p2 = 4 → ¬ p2 = 5 → ¬ p2 = 6 → ¬ p2 = 7 → ¬ p2 = 8 → ¬ p2 = 9 → ¬ p2 = 10 → ¬ p2 = 11 → ¬ p2 = 12 → ¬ p2 = 13 → ¬ p2 = 14 → ¬ p2 = 15 → ¬ p2 = 16 → (Q (-2) S1)))) ∧ (x1 = none → (Q (-1) S1))))) : Ci K4_side [vr 0, vi p1, vi p2] S Q := by
  refine Ci.intro rfl (Nat.le_of_ble_eq_true rfl) (fun X O => ?_)
  have C := O.1
  have hn : sN S ≤ sN S := Nat.le_refl _
  show WP X 0 [(0, vr 0), (1, vi p1), (2, vi p2)] [] S 0 0
  refine r_aloadn C 0 dX4_side_0 rfl ?_
  refine r_iloadn C 1 dX4_side_1 rfl ?_
  refine r_callVo C K4_sideAt [vi p1] [] (hF.k (by decide) rfl) (by decide) rfl cl_4_110 rm_4_side_4_sideAt ⟨rfl, rfl⟩ (by decide) (by decide) rfl (Nat.le_of_ble_eq_true rfl) dX4_side_2 h (fun x1 S1 hF1 hn1 h => ?_)
  obtain ⟨hk2, h⟩ := h
  refine r_astoren C dX4_side_5 (by decide) rfl rfl ?_
  refine r_aloadn C 0 dX4_side_6 rfl ?_
  refine r_ifnonnull C dX4_side_7 (tgt := 12) (by decide) (fun b3 hb4 => ?_) (fun hb4 => ?_)
  · replace h := h.1 b3 hb4
    try rw [hb4]
    refine r_iloadn C 3 dX4_side_12 rfl ?_
    refine r_table C dX4_side_13 rfl (by decide) (fun i off hi hx5 => ?_) (fun hx5 => ?_)
    · have hlt : i < 17 := (Array.getElem?_eq_some_iff.mp hi).1
      obtain rfl | rfl | rfl | rfl | rfl | rfl | rfl | rfl | rfl | rfl | rfl | rfl | rfl | rfl | rfl | rfl | rfl : i = 0 ∨ i = 1 ∨ i = 2 ∨ i = 3 ∨ i = 4 ∨ i = 5 ∨ i = 6 ∨ i = 7 ∨ i = 8 ∨ i = 9 ∨ i = 10 ∨ i = 11 ∨ i = 12 ∨ i = 13 ∨ i = 14 ∨ i = 15 ∨ i = 16 := by omega
      · obtain rfl := Option.some.inj hi
        replace h := h.1 (hx5.trans (by decide))
        refine ⟨96, by decide, ?_⟩
        refine r_aloadn C 0 dX4_side_96 rfl ?_
        refine r_getI C (hk2 _ hb4) fl_4_114 rfl dX4_side_97 ?_
        exact ri O ⟨_, rfl, rfl⟩ dX4_side_100 (by decide) (by decide) hF1 (Nat.le_trans hn hn1) h
      · obtain rfl := Option.some.inj hi
        replace h := h.2.1 (hx5.trans (by decide))
        refine ⟨101, by decide, ?_⟩
        refine r_aloadn C 0 dX4_side_101 rfl ?_
        refine r_getR C (hk2 _ hb4) fl_4_53 rfl (hF1.paceR (hk2 _ hb4)) dX4_side_102 ?_
        refine r_getI C (hF1.pace (hk2 _ hb4)) fl_4_221 rfl dX4_side_105 ?_
        exact ri O ⟨_, rfl, rfl⟩ dX4_side_108 (by decide) (by decide) hF1 (Nat.le_trans hn hn1) h
      · obtain rfl := Option.some.inj hi
        replace h := h.2.2.1 (hx5.trans (by decide))
        refine ⟨109, by decide, ?_⟩
        refine r_aloadn C 0 dX4_side_109 rfl ?_
        refine r_getR C (hk2 _ hb4) fl_4_53 rfl (hF1.paceR (hk2 _ hb4)) dX4_side_110 ?_
        refine r_getI C (hF1.pace (hk2 _ hb4)) fl_4_57 rfl dX4_side_113 ?_
        exact ri O ⟨_, rfl, rfl⟩ dX4_side_116 (by decide) (by decide) hF1 (Nat.le_trans hn hn1) h
      · obtain rfl := Option.some.inj hi
        replace h := h.2.2.2.1 (hx5.trans (by decide))
        refine ⟨117, by decide, ?_⟩
        refine r_aloadn C 0 dX4_side_117 rfl ?_
        refine r_getR C (hk2 _ hb4) fl_4_53 rfl (hF1.paceR (hk2 _ hb4)) dX4_side_118 ?_
        refine r_getI C (hF1.pace (hk2 _ hb4)) fl_4_224 rfl dX4_side_121 ?_
        exact ri O ⟨_, rfl, rfl⟩ dX4_side_124 (by decide) (by decide) hF1 (Nat.le_trans hn hn1) h
      · obtain rfl := Option.some.inj hi
        replace h := h.2.2.2.2.1 (hx5.trans (by decide))
        refine ⟨125, by decide, ?_⟩
        refine r_aloadn C 0 dX4_side_125 rfl ?_
        refine r_getR C (hk2 _ hb4) fl_4_53 rfl (hF1.paceR (hk2 _ hb4)) dX4_side_126 ?_
        refine r_getI C (hF1.pace (hk2 _ hb4)) fl_4_227 rfl dX4_side_129 ?_
        exact ri O ⟨_, rfl, rfl⟩ dX4_side_132 (by decide) (by decide) hF1 (Nat.le_trans hn hn1) h
      · obtain rfl := Option.some.inj hi
        replace h := h.2.2.2.2.2.1 (hx5.trans (by decide))
        refine ⟨133, by decide, ?_⟩
        refine r_aloadn C 0 dX4_side_133 rfl ?_
        refine r_getR C (hk2 _ hb4) fl_4_53 rfl (hF1.paceR (hk2 _ hb4)) dX4_side_134 ?_
        refine r_getI C (hF1.pace (hk2 _ hb4)) fl_4_230 rfl dX4_side_137 ?_
        exact ri O ⟨_, rfl, rfl⟩ dX4_side_140 (by decide) (by decide) hF1 (Nat.le_trans hn hn1) h
      · obtain rfl := Option.some.inj hi
        replace h := h.2.2.2.2.2.2.1 (hx5.trans (by decide))
        refine ⟨141, by decide, ?_⟩
        refine r_aloadn C 0 dX4_side_141 rfl ?_
        refine r_getR C (hk2 _ hb4) fl_4_53 rfl (hF1.paceR (hk2 _ hb4)) dX4_side_142 ?_
        refine r_getI C (hF1.pace (hk2 _ hb4)) fl_4_233 rfl dX4_side_145 ?_
        exact ri O ⟨_, rfl, rfl⟩ dX4_side_148 (by decide) (by decide) hF1 (Nat.le_trans hn hn1) h
      · obtain rfl := Option.some.inj hi
        replace h := h.2.2.2.2.2.2.2.1 (hx5.trans (by decide))
        refine ⟨149, by decide, ?_⟩
        refine r_aloadn C 0 dX4_side_149 rfl ?_
        refine r_getR C (hk2 _ hb4) fl_4_53 rfl (hF1.paceR (hk2 _ hb4)) dX4_side_150 ?_
        refine r_getI C (hF1.pace (hk2 _ hb4)) fl_4_236 rfl dX4_side_153 ?_
        exact ri O ⟨_, rfl, rfl⟩ dX4_side_156 (by decide) (by decide) hF1 (Nat.le_trans hn hn1) h
      · obtain rfl := Option.some.inj hi
        replace h := h.2.2.2.2.2.2.2.2.1 (hx5.trans (by decide))
        refine ⟨157, by decide, ?_⟩
        refine r_aloadn C 0 dX4_side_157 rfl ?_
        refine r_getR C (hk2 _ hb4) fl_4_53 rfl (hF1.paceR (hk2 _ hb4)) dX4_side_158 ?_
        refine r_getI C (hF1.pace (hk2 _ hb4)) fl_4_239 rfl dX4_side_161 ?_
        exact ri O ⟨_, rfl, rfl⟩ dX4_side_164 (by decide) (by decide) hF1 (Nat.le_trans hn hn1) h
      · obtain rfl := Option.some.inj hi
        replace h := h.2.2.2.2.2.2.2.2.2.1 (hx5.trans (by decide))
        refine ⟨165, by decide, ?_⟩
        refine r_aloadn C 0 dX4_side_165 rfl ?_
        refine r_getR C (hk2 _ hb4) fl_4_53 rfl (hF1.paceR (hk2 _ hb4)) dX4_side_166 ?_
        refine r_getI C (hF1.pace (hk2 _ hb4)) fl_4_242 rfl dX4_side_169 ?_
        refine r_callSi C K4_flag [vi (gI S1 (b3 + 2) 8)] [] cl_4_193 rm_4_side_4_flag ⟨rfl, rfl⟩ (by decide) (by decide) rfl (Nat.le_of_ble_eq_true rfl) dX4_side_172 (q4_flag (S := S1) hF1) (fun x6 _ _ _ hq => ?_)
        obtain ⟨hqa, hqb⟩ := hq; obtain rfl := hqa.symm; obtain rfl := hqb.symm
        exact ri O ⟨_, rfl, rfl⟩ dX4_side_175 (by decide) (by decide) hF1 (Nat.le_trans hn hn1) h
      · obtain rfl := Option.some.inj hi
        replace h := h.2.2.2.2.2.2.2.2.2.2.1 (hx5.trans (by decide))
        refine ⟨176, by decide, ?_⟩
        refine r_aloadn C 0 dX4_side_176 rfl ?_
        refine r_getI C (hk2 _ hb4) fl_4_245 rfl dX4_side_177 ?_
        exact ri O ⟨_, rfl, rfl⟩ dX4_side_180 (by decide) (by decide) hF1 (Nat.le_trans hn hn1) h
      · obtain rfl := Option.some.inj hi
        replace h := h.2.2.2.2.2.2.2.2.2.2.2.1 (hx5.trans (by decide))
        refine ⟨181, by decide, ?_⟩
        refine r_aloadn C 0 dX4_side_181 rfl ?_
        refine r_getI C (hk2 _ hb4) fl_4_177 rfl dX4_side_182 ?_
        exact ri O ⟨_, rfl, rfl⟩ dX4_side_185 (by decide) (by decide) hF1 (Nat.le_trans hn hn1) h
      · obtain rfl := Option.some.inj hi
        replace h := h.2.2.2.2.2.2.2.2.2.2.2.2.1 (hx5.trans (by decide))
        refine ⟨186, by decide, ?_⟩
        refine r_aloadn C 0 dX4_side_186 rfl ?_
        refine r_getI C (hk2 _ hb4) fl_4_168 rfl dX4_side_187 ?_
        refine r_callSi C K4_flag [vi (gI S1 b3 7)] [] cl_4_193 rm_4_side_4_flag ⟨rfl, rfl⟩ (by decide) (by decide) rfl (Nat.le_of_ble_eq_true rfl) dX4_side_190 (q4_flag (S := S1) hF1) (fun x7 _ _ _ hq => ?_)
        obtain ⟨hqa, hqb⟩ := hq; obtain rfl := hqa.symm; obtain rfl := hqb.symm
        exact ri O ⟨_, rfl, rfl⟩ dX4_side_193 (by decide) (by decide) hF1 (Nat.le_trans hn hn1) h
      · obtain rfl := Option.some.inj hi
        replace h := h.2.2.2.2.2.2.2.2.2.2.2.2.2.1 (hx5.trans (by decide))
        refine ⟨194, by decide, ?_⟩
        refine r_aloadn C 0 dX4_side_194 rfl ?_
        refine r_getI C (hk2 _ hb4) fl_4_62 rfl dX4_side_195 ?_
        exact ri O ⟨_, rfl, rfl⟩ dX4_side_198 (by decide) (by decide) hF1 (Nat.le_trans hn hn1) h
      · obtain rfl := Option.some.inj hi
        replace h := h.2.2.2.2.2.2.2.2.2.2.2.2.2.2.1 (hx5.trans (by decide))
        refine ⟨199, by decide, ?_⟩
        refine r_aloadn C 1 dX4_side_199 rfl ?_
        refine r_aloadn C 0 dX4_side_200 rfl ?_
        refine r_callVi C K4_countedOf [vr b3] [] (hF1.k (by decide) rfl) (by decide) rfl cl_4_248 rm_4_side_4_countedOf ⟨rfl, rfl⟩ (by decide) (by decide) rfl (Nat.le_of_ble_eq_true rfl) dX4_side_201 h (fun x8 S8 hF8 hn8 h => ?_)
        exact ri O ⟨_, rfl, rfl⟩ dX4_side_204 (by decide) (by decide) hF8 (Nat.le_trans (Nat.le_trans hn hn1) hn8) h
      · obtain rfl := Option.some.inj hi
        replace h := h.2.2.2.2.2.2.2.2.2.2.2.2.2.2.2.1 (hx5.trans (by decide))
        refine ⟨205, by decide, ?_⟩
        refine r_aloadn C 0 dX4_side_205 rfl ?_
        refine r_getI C (hk2 _ hb4) fl_4_104 rfl dX4_side_206 ?_
        refine r_callSi C K4_flag [vi (gI S1 b3 10)] [] cl_4_193 rm_4_side_4_flag ⟨rfl, rfl⟩ (by decide) (by decide) rfl (Nat.le_of_ble_eq_true rfl) dX4_side_209 (q4_flag (S := S1) hF1) (fun x9 _ _ _ hq => ?_)
        obtain ⟨hqa, hqb⟩ := hq; obtain rfl := hqa.symm; obtain rfl := hqb.symm
        exact ri O ⟨_, rfl, rfl⟩ dX4_side_212 (by decide) (by decide) hF1 (Nat.le_trans hn hn1) h
      · obtain rfl := Option.some.inj hi
        replace h := h.2.2.2.2.2.2.2.2.2.2.2.2.2.2.2.2.1 (hx5.trans (by decide))
        refine ⟨213, by decide, ?_⟩
        refine r_aloadn C 0 dX4_side_213 rfl ?_
        refine r_getI C (hk2 _ hb4) fl_4_65 rfl dX4_side_214 ?_
        exact ri O ⟨_, rfl, rfl⟩ dX4_side_217 (by decide) (by decide) hF1 (Nat.le_trans hn hn1) h
    · replace h := h.2.2.2.2.2.2.2.2.2.2.2.2.2.2.2.2.2 (fun e => hx5 0 (by decide) (e.trans (by decide))) (fun e => hx5 1 (by decide) (e.trans (by decide))) (fun e => hx5 2 (by decide) (e.trans (by decide))) (fun e => hx5 3 (by decide) (e.trans (by decide))) (fun e => hx5 4 (by decide) (e.trans (by decide))) (fun e => hx5 5 (by decide) (e.trans (by decide))) (fun e => hx5 6 (by decide) (e.trans (by decide))) (fun e => hx5 7 (by decide) (e.trans (by decide))) (fun e => hx5 8 (by decide) (e.trans (by decide))) (fun e => hx5 9 (by decide) (e.trans (by decide))) (fun e => hx5 10 (by decide) (e.trans (by decide))) (fun e => hx5 11 (by decide) (e.trans (by decide))) (fun e => hx5 12 (by decide) (e.trans (by decide))) (fun e => hx5 13 (by decide) (e.trans (by decide))) (fun e => hx5 14 (by decide) (e.trans (by decide))) (fun e => hx5 15 (by decide) (e.trans (by decide))) (fun e => hx5 16 (by decide) (e.trans (by decide)))
      refine ⟨218, by decide, ?_⟩
      refine r_bipush C (x := (-2)) dX4_side_218 (by decide) ?_
      exact ri O ⟨_, rfl, rfl⟩ dX4_side_220 (by decide) (by decide) hF1 (Nat.le_trans hn hn1) h
  · replace h := h.2 hb4
    refine r_iconst C (x := (-1)) dX4_side_10 (by decide) ?_
    exact ri O ⟨_, rfl, rfl⟩ dX4_side_11 (by decide) (by decide) hF1 (Nat.le_trans hn hn1) h
set_option maxHeartbeats 4000000 in
set_option maxRecDepth 100000 in
theorem e4_packet {S : Sto} {Q : Int32 → Sto → Prop} (hF : Fx S) {p1 : Int32} {p2 : Int32} {p3 : Int32}  (h : Co K4_packetOf [vr 0, vi p1, vi p2] S (fun x1 S1 => (∀ b, x1 = some b → al S1 b 1) ∧ ((∀ b3 : Nat, x1 = some b3 → ((p3 = 0 → (Q (gI S1 b3 2) S1)) ∧ (p3 = 1 → (Q (gI S1 b3 3) S1)) ∧ (p3 = 2 → (Q (gI S1 b3 8) S1)) ∧ (p3 = 3 → (Q (gI S1 b3 7) S1)) ∧ (p3 = 4 → (Q ((if (gI S1 b3 9) = 0 then 0 else 1 : Int32)) S1)) ∧ (p3 = 5 → (Q ((if (gI S1 b3 10) = 0 then 0 else 1 : Int32)) S1)) ∧ (p3 = 6 → (Q ((if (gI S1 b3 11) = 0 then 0 else 1 : Int32)) S1)) ∧ (p3 = 7 → (Q ((if (gI S1 b3 12) = 0 then 0 else 1 : Int32)) S1)) ∧ (¬ p3 = 0 → ¬ p3 = 1 → ¬ p3 = 2 → ¬ p3 = 3 → ¬ p3 = 4 → ¬ p3 = 5 → ¬ p3 = 6 → ¬ p3 = 7 → (Q (-2) S1)))) ∧ (x1 = none → (Q (-1) S1))))) : Ci K4_packet [vr 0, vi p1, vi p2, vi p3] S Q := by
  refine Ci.intro rfl (Nat.le_of_ble_eq_true rfl) (fun X O => ?_)
  have C := O.1
  have hn : sN S ≤ sN S := Nat.le_refl _
  show WP X 0 [(0, vr 0), (1, vi p1), (2, vi p2), (3, vi p3)] [] S 0 0
  refine r_aloadn C 0 dX4_packet_0 rfl ?_
  refine r_iloadn C 1 dX4_packet_1 rfl ?_
  refine r_iloadn C 2 dX4_packet_2 rfl ?_
  refine r_callVo C K4_packetOf [vi p1, vi p2] [] (hF.k (by decide) rfl) (by decide) rfl cl_4_251 rm_4_packet_4_packetOf ⟨rfl, rfl⟩ (by decide) (by decide) rfl (Nat.le_of_ble_eq_true rfl) dX4_packet_3 h (fun x1 S1 hF1 hn1 h => ?_)
  obtain ⟨hk2, h⟩ := h
  refine r_astore C dX4_packet_6 (by decide) rfl rfl ?_
  refine r_aload C 0 dX4_packet_8 rfl ?_
  refine r_ifnonnull C dX4_packet_10 (tgt := 15) (by decide) (fun b3 hb4 => ?_) (fun hb4 => ?_)
  · replace h := h.1 b3 hb4
    try rw [hb4]
    refine r_iloadn C 4 dX4_packet_15 rfl ?_
    refine r_table C dX4_packet_16 rfl (by decide) (fun i off hi hx5 => ?_) (fun hx5 => ?_)
    · have hlt : i < 8 := (Array.getElem?_eq_some_iff.mp hi).1
      obtain rfl | rfl | rfl | rfl | rfl | rfl | rfl | rfl : i = 0 ∨ i = 1 ∨ i = 2 ∨ i = 3 ∨ i = 4 ∨ i = 5 ∨ i = 6 ∨ i = 7 := by omega
      · obtain rfl := Option.some.inj hi
        replace h := h.1 (hx5.trans (by decide))
        refine ⟨64, by decide, ?_⟩
        refine r_aload C 0 dX4_packet_64 rfl ?_
        refine r_getI C (hk2 _ hb4) fl_4_255 rfl dX4_packet_66 ?_
        exact ri O ⟨_, rfl, rfl⟩ dX4_packet_69 (by decide) (by decide) hF1 (Nat.le_trans hn hn1) h
      · obtain rfl := Option.some.inj hi
        replace h := h.2.1 (hx5.trans (by decide))
        refine ⟨70, by decide, ?_⟩
        refine r_aload C 0 dX4_packet_70 rfl ?_
        refine r_getI C (hk2 _ hb4) fl_4_161 rfl dX4_packet_72 ?_
        exact ri O ⟨_, rfl, rfl⟩ dX4_packet_75 (by decide) (by decide) hF1 (Nat.le_trans hn hn1) h
      · obtain rfl := Option.some.inj hi
        replace h := h.2.2.1 (hx5.trans (by decide))
        refine ⟨76, by decide, ?_⟩
        refine r_aload C 0 dX4_packet_76 rfl ?_
        refine r_getI C (hk2 _ hb4) fl_4_256 rfl dX4_packet_78 ?_
        exact ri O ⟨_, rfl, rfl⟩ dX4_packet_81 (by decide) (by decide) hF1 (Nat.le_trans hn hn1) h
      · obtain rfl := Option.some.inj hi
        replace h := h.2.2.2.1 (hx5.trans (by decide))
        refine ⟨82, by decide, ?_⟩
        refine r_aload C 0 dX4_packet_82 rfl ?_
        refine r_getI C (hk2 _ hb4) fl_4_142 rfl dX4_packet_84 ?_
        exact ri O ⟨_, rfl, rfl⟩ dX4_packet_87 (by decide) (by decide) hF1 (Nat.le_trans hn hn1) h
      · obtain rfl := Option.some.inj hi
        replace h := h.2.2.2.2.1 (hx5.trans (by decide))
        refine ⟨88, by decide, ?_⟩
        refine r_aload C 0 dX4_packet_88 rfl ?_
        refine r_getI C (hk2 _ hb4) fl_4_165 rfl dX4_packet_90 ?_
        refine r_callSi C K4_flag [vi (gI S1 b3 9)] [] cl_4_193 rm_4_packet_4_flag ⟨rfl, rfl⟩ (by decide) (by decide) rfl (Nat.le_of_ble_eq_true rfl) dX4_packet_93 (q4_flag (S := S1) hF1) (fun x6 _ _ _ hq => ?_)
        obtain ⟨hqa, hqb⟩ := hq; obtain rfl := hqa.symm; obtain rfl := hqb.symm
        exact ri O ⟨_, rfl, rfl⟩ dX4_packet_96 (by decide) (by decide) hF1 (Nat.le_trans hn hn1) h
      · obtain rfl := Option.some.inj hi
        replace h := h.2.2.2.2.2.1 (hx5.trans (by decide))
        refine ⟨97, by decide, ?_⟩
        refine r_aload C 0 dX4_packet_97 rfl ?_
        refine r_getI C (hk2 _ hb4) fl_4_259 rfl dX4_packet_99 ?_
        refine r_callSi C K4_flag [vi (gI S1 b3 10)] [] cl_4_193 rm_4_packet_4_flag ⟨rfl, rfl⟩ (by decide) (by decide) rfl (Nat.le_of_ble_eq_true rfl) dX4_packet_102 (q4_flag (S := S1) hF1) (fun x7 _ _ _ hq => ?_)
        obtain ⟨hqa, hqb⟩ := hq; obtain rfl := hqa.symm; obtain rfl := hqb.symm
        exact ri O ⟨_, rfl, rfl⟩ dX4_packet_105 (by decide) (by decide) hF1 (Nat.le_trans hn hn1) h
      · obtain rfl := Option.some.inj hi
        replace h := h.2.2.2.2.2.2.1 (hx5.trans (by decide))
        refine ⟨106, by decide, ?_⟩
        refine r_aload C 0 dX4_packet_106 rfl ?_
        refine r_getI C (hk2 _ hb4) fl_4_262 rfl dX4_packet_108 ?_
        refine r_callSi C K4_flag [vi (gI S1 b3 11)] [] cl_4_193 rm_4_packet_4_flag ⟨rfl, rfl⟩ (by decide) (by decide) rfl (Nat.le_of_ble_eq_true rfl) dX4_packet_111 (q4_flag (S := S1) hF1) (fun x8 _ _ _ hq => ?_)
        obtain ⟨hqa, hqb⟩ := hq; obtain rfl := hqa.symm; obtain rfl := hqb.symm
        exact ri O ⟨_, rfl, rfl⟩ dX4_packet_114 (by decide) (by decide) hF1 (Nat.le_trans hn hn1) h
      · obtain rfl := Option.some.inj hi
        replace h := h.2.2.2.2.2.2.2.1 (hx5.trans (by decide))
        refine ⟨115, by decide, ?_⟩
        refine r_aload C 0 dX4_packet_115 rfl ?_
        refine r_getI C (hk2 _ hb4) fl_4_171 rfl dX4_packet_117 ?_
        refine r_callSi C K4_flag [vi (gI S1 b3 12)] [] cl_4_193 rm_4_packet_4_flag ⟨rfl, rfl⟩ (by decide) (by decide) rfl (Nat.le_of_ble_eq_true rfl) dX4_packet_120 (q4_flag (S := S1) hF1) (fun x9 _ _ _ hq => ?_)
        obtain ⟨hqa, hqb⟩ := hq; obtain rfl := hqa.symm; obtain rfl := hqb.symm
        exact ri O ⟨_, rfl, rfl⟩ dX4_packet_123 (by decide) (by decide) hF1 (Nat.le_trans hn hn1) h
    · replace h := h.2.2.2.2.2.2.2.2 (fun e => hx5 0 (by decide) (e.trans (by decide))) (fun e => hx5 1 (by decide) (e.trans (by decide))) (fun e => hx5 2 (by decide) (e.trans (by decide))) (fun e => hx5 3 (by decide) (e.trans (by decide))) (fun e => hx5 4 (by decide) (e.trans (by decide))) (fun e => hx5 5 (by decide) (e.trans (by decide))) (fun e => hx5 6 (by decide) (e.trans (by decide))) (fun e => hx5 7 (by decide) (e.trans (by decide)))
      refine ⟨124, by decide, ?_⟩
      refine r_bipush C (x := (-2)) dX4_packet_124 (by decide) ?_
      exact ri O ⟨_, rfl, rfl⟩ dX4_packet_126 (by decide) (by decide) hF1 (Nat.le_trans hn hn1) h
  · replace h := h.2 hb4
    refine r_iconst C (x := (-1)) dX4_packet_13 (by decide) ?_
    exact ri O ⟨_, rfl, rfl⟩ dX4_packet_14 (by decide) (by decide) hF1 (Nat.le_trans hn hn1) h
set_option maxHeartbeats 4000000 in
set_option maxRecDepth 100000 in
theorem e4_part {S : Sto} {Q : Int32 → Sto → Prop} (hF : Fx S) {p1 : Int32} {p2 : Int32} {p3 : Int32} {p4 : Int32}  (h : Co K4_packetOf [vr 0, vi p1, vi p2] S (fun x1 S1 => (∀ b, x1 = some b → al S1 b 1) ∧ ((∀ b3 : Nat, x1 = some b3 → ((p3 < 0 → (Q (-1) S1)) ∧ (¬ p3 < 0 → ((p3 < (gI S1 b3 7) → ((p4 < 0 → (Q (-2) S1)) ∧ (¬ p4 < 0 → ((p4 ≤ 11 → ((4 ≤ p4 → ((0 ≤ (((p3 * 4) + 0) : Int32).toInt ∧ (((p3 * 4) + 0) : Int32).toInt < (64 : Nat)) ∧ ((0 ≤ ((p4 - 4) : Int32).toInt ∧ ((p4 - 4) : Int32).toInt < (8 : Nat)) ∧ (∀ w14 : Int32, w14 = (if ((if ((p3 * 4) + 0) < 0 then 0 else (if ((p3 * 4) + 0) < 64 then (gI S1 (b3 + 1) ((p3 * 4) + 0).toNatClampNeg) else 0 : Int32) : Int32)) = 1 then (gI S1 (b3 + 2) (p4 - 4).toNatClampNeg) else (-6) : Int32) → (Q w14 S1))))) ∧ (¬ 4 ≤ p4 → ((0 ≤ (((p3 * 4) + p4) : Int32).toInt ∧ (((p3 * 4) + p4) : Int32).toInt < (64 : Nat)) ∧ (Q ((if ((p3 * 4) + p4) < 0 then 0 else (if ((p3 * 4) + p4) < 64 then (gI S1 (b3 + 1) ((p3 * 4) + p4).toNatClampNeg) else 0 : Int32) : Int32)) S1))))) ∧ (¬ p4 ≤ 11 → (Q (-2) S1)))))) ∧ (¬ p3 < (gI S1 b3 7) → (Q (-1) S1)))))) ∧ (x1 = none → (Q (-1) S1))))) : Ci K4_part [vr 0, vi p1, vi p2, vi p3, vi p4] S Q := by
  refine Ci.intro rfl (Nat.le_of_ble_eq_true rfl) (fun X O => ?_)
  have C := O.1
  have hn : sN S ≤ sN S := Nat.le_refl _
  show WP X 0 [(0, vr 0), (1, vi p1), (2, vi p2), (3, vi p3), (4, vi p4)] [] S 0 0
  refine r_aloadn C 0 dX4_part_0 rfl ?_
  refine r_iloadn C 1 dX4_part_1 rfl ?_
  refine r_iloadn C 2 dX4_part_2 rfl ?_
  refine r_callVo C K4_packetOf [vi p1, vi p2] [] (hF.k (by decide) rfl) (by decide) rfl cl_4_251 rm_4_part_4_packetOf ⟨rfl, rfl⟩ (by decide) (by decide) rfl (Nat.le_of_ble_eq_true rfl) dX4_part_3 h (fun x1 S1 hF1 hn1 h => ?_)
  obtain ⟨hk2, h⟩ := h
  refine r_astore C dX4_part_6 (by decide) rfl rfl ?_
  refine r_aload C 0 dX4_part_8 rfl ?_
  refine r_ifnull C dX4_part_10 (tgt := 26) (by decide) (fun hb4 => ?_) (fun b3 hb4 => ?_)
  · replace h := h.2 hb4
    refine r_iconst C (x := (-1)) dX4_part_26 (by decide) ?_
    exact ri O ⟨_, rfl, rfl⟩ dX4_part_27 (by decide) (by decide) hF1 (Nat.le_trans hn hn1) h
  · replace h := h.1 b3 hb4
    try rw [hb4]
    refine r_iloadn C 4 dX4_part_13 rfl ?_
    refine r_if_lt C dX4_part_14 (tgt := 26) (by decide) (fun hc5 => ?_) (fun hc5 => ?_)
    · replace h := h.1 hc5
      refine r_iconst C (x := (-1)) dX4_part_26 (by decide) ?_
      exact ri O ⟨_, rfl, rfl⟩ dX4_part_27 (by decide) (by decide) hF1 (Nat.le_trans hn hn1) h
    · replace h := h.2 hc5
      refine r_iloadn C 4 dX4_part_17 rfl ?_
      refine r_aload C 0 dX4_part_18 rfl ?_
      refine r_getI C (hk2 _ hb4) fl_4_142 rfl dX4_part_20 ?_
      refine r_icmp_lt C dX4_part_23 (tgt := 28) (by decide) (fun hc6 => ?_) (fun hc6 => ?_)
      · replace h := h.1 hc6
        refine r_iload C 5 dX4_part_28 rfl ?_
        refine r_if_lt C dX4_part_30 (tgt := 40) (by decide) (fun hc7 => ?_) (fun hc7 => ?_)
        · replace h := h.1 hc7
          refine r_bipush C (x := (-2)) dX4_part_40 (by decide) ?_
          exact ri O ⟨_, rfl, rfl⟩ dX4_part_42 (by decide) (by decide) hF1 (Nat.le_trans hn hn1) h
        · replace h := h.2 hc7
          refine r_iload C 5 dX4_part_33 rfl ?_
          refine r_bipush C (x := 11) dX4_part_35 (by decide) ?_
          refine r_icmp_le C dX4_part_37 (tgt := 43) (by decide) (fun hc8 => ?_) (fun hc8 => ?_)
          · replace h := h.1 hc8
            refine r_iload C 5 dX4_part_43 rfl ?_
            refine r_iconst C (x := 4) dX4_part_45 (by decide) ?_
            refine r_icmp_ge C dX4_part_46 (tgt := 58) (by decide) (fun hc9 => ?_) (fun hc9 => ?_)
            · replace h := h.1 hc9
              refine r_aload C 0 dX4_part_58 rfl ?_
              refine r_iloadn C 4 dX4_part_60 rfl ?_
              refine r_iconst C (x := 0) dX4_part_61 (by decide) ?_
              obtain ⟨ho10, h⟩ := h
              refine r_callVi C K1_partAt [vi p3, vi 0] [] (hk2 _ hb4) (by decide) rfl cl_4_265 rm_4_part_1_partAt ⟨rfl, rfl⟩ (by decide) (by decide) rfl (Nat.le_of_ble_eq_true rfl) dX4_part_62 (q1_partAt (S := S1) hF1 (hk2 _ hb4) ho10) (fun x11 _ _ _ hq => ?_)
              obtain ⟨hqa, hqb⟩ := hq; obtain rfl := hqa.symm; obtain rfl := hqb.symm
              refine r_iconst C (x := 1) dX4_part_65 (by decide) ?_
              obtain ⟨hi13, h⟩ := h
              have kJ15 : ∀ (w14 : Int32) (_ : w14 = (if ((if ((p3 * 4) + 0) < 0 then 0 else (if ((p3 * 4) + 0) < 64 then (gI S1 (b3 + 1) ((p3 * 4) + 0).toNatClampNeg) else 0 : Int32) : Int32)) = 1 then (gI S1 (b3 + 2) (p4 - 4).toNatClampNeg) else (-6) : Int32)), WP X 84 [] [vi w14] S1 0 0 := by
                intro w14 hw14
                replace h := h w14 hw14
                exact ri O ⟨_, rfl, rfl⟩ dX4_part_84 (by decide) (by decide) hF1 (Nat.le_trans hn hn1) h
              refine r_icmp_ne C dX4_part_66 (tgt := 82) (by decide) (fun hc16 => ?_) (fun hc16 => ?_)
              · refine r_bipush C (x := (-6)) dX4_part_82 (by decide) ?_
                refine r_perm [] rfl ?_
                exact kJ15 _ (if_neg hc16).symm
              · refine r_aload C 0 dX4_part_69 rfl ?_
                refine r_getR C (hk2 _ hb4) fl_4_268 rfl (hF1.spansR (hk2 _ hb4)) dX4_part_71 ?_
                refine r_iload C 5 dX4_part_74 rfl ?_
                refine r_iconst C (x := 4) dX4_part_76 (by decide) ?_
                refine r_isub C dX4_part_77 ?_
                refine r_iald C (hF1.spans (hk2 _ hb4)) (ixL (n := 8) (Fx.spansL (hk2 _ hb4)) hi13) dX4_part_78 ?_
                refine r_goto C dX4_part_79 (tgt := 84) (by decide) ?_
                refine r_perm [] rfl ?_
                exact kJ15 _ (if_pos hc16).symm
            · replace h := h.2 hc9
              refine r_aload C 0 dX4_part_49 rfl ?_
              refine r_iloadn C 4 dX4_part_51 rfl ?_
              refine r_iload C 5 dX4_part_52 rfl ?_
              obtain ⟨ho17, h⟩ := h
              refine r_callVi C K1_partAt [vi p3, vi p4] [] (hk2 _ hb4) (by decide) rfl cl_4_265 rm_4_part_1_partAt ⟨rfl, rfl⟩ (by decide) (by decide) rfl (Nat.le_of_ble_eq_true rfl) dX4_part_54 (q1_partAt (S := S1) hF1 (hk2 _ hb4) ho17) (fun x18 _ _ _ hq => ?_)
              obtain ⟨hqa, hqb⟩ := hq; obtain rfl := hqa.symm; obtain rfl := hqb.symm
              exact ri O ⟨_, rfl, rfl⟩ dX4_part_57 (by decide) (by decide) hF1 (Nat.le_trans hn hn1) h
          · replace h := h.2 hc8
            refine r_bipush C (x := (-2)) dX4_part_40 (by decide) ?_
            exact ri O ⟨_, rfl, rfl⟩ dX4_part_42 (by decide) (by decide) hF1 (Nat.le_trans hn hn1) h
      · replace h := h.2 hc6
        refine r_iconst C (x := (-1)) dX4_part_26 (by decide) ?_
        exact ri O ⟨_, rfl, rfl⟩ dX4_part_27 (by decide) (by decide) hF1 (Nat.le_trans hn hn1) h
set_option maxHeartbeats 4000000 in
set_option maxRecDepth 100000 in
theorem e4_net {S : Sto} {Q : Int32 → Sto → Prop} (hF : Fx S) {p1 : Int32} {p2 : Int32}  (h : Co K4_underWayAt [vr 0, vi p1] S (fun x1 S1 => (∀ b, x1 = some b → al S1 b 1) ∧ ((∀ b3 : Nat, x1 = some b3 → ((p2 = 0 → (Q (gI S1 b3 0) S1)) ∧ (p2 = 1 → (Q (gI S1 b3 1) S1)) ∧ (¬ p2 = 0 → ¬ p2 = 1 → (Q (-2) S1)))) ∧ (x1 = none → (Q (-1) S1))))) : Ci K4_net [vr 0, vi p1, vi p2] S Q := by
  refine Ci.intro rfl (Nat.le_of_ble_eq_true rfl) (fun X O => ?_)
  have C := O.1
  have hn : sN S ≤ sN S := Nat.le_refl _
  show WP X 0 [(0, vr 0), (1, vi p1), (2, vi p2)] [] S 0 0
  refine r_aloadn C 0 dX4_net_0 rfl ?_
  refine r_iloadn C 1 dX4_net_1 rfl ?_
  refine r_callVo C K4_underWayAt [vi p1] [] (hF.k (by decide) rfl) (by decide) rfl cl_4_151 rm_4_net_4_underWayAt ⟨rfl, rfl⟩ (by decide) (by decide) rfl (Nat.le_of_ble_eq_true rfl) dX4_net_2 h (fun x1 S1 hF1 hn1 h => ?_)
  obtain ⟨hk2, h⟩ := h
  refine r_astoren C dX4_net_5 (by decide) rfl rfl ?_
  refine r_aloadn C 0 dX4_net_6 rfl ?_
  refine r_ifnonnull C dX4_net_7 (tgt := 12) (by decide) (fun b3 hb4 => ?_) (fun hb4 => ?_)
  · replace h := h.1 b3 hb4
    try rw [hb4]
    refine r_iloadn C 3 dX4_net_12 rfl ?_
    by_cases hk0 : p2 = 0
    · replace h := h.1 hk0
      refine r_lookup C dX4_net_13 (tgt := 40) (by decide) (by first | (rw [hk0]; done) | (rw [hk0]; rfl)) (by decide) ?_
      refine r_aloadn C 0 dX4_net_40 rfl ?_
      refine r_getI C (hk2 _ hb4) fl_4_158 rfl dX4_net_41 ?_
      exact ri O ⟨_, rfl, rfl⟩ dX4_net_44 (by decide) (by decide) hF1 (Nat.le_trans hn hn1) h
    · by_cases hk1 : p2 = 1
      · replace h := h.2.1 hk1
        refine r_lookup C dX4_net_13 (tgt := 45) (by decide) (by first | (rw [hk1]; done) | (rw [hk1]; rfl)) (by decide) ?_
        refine r_aloadn C 0 dX4_net_45 rfl ?_
        refine r_getI C (hk2 _ hb4) fl_4_148 rfl dX4_net_46 ?_
        exact ri O ⟨_, rfl, rfl⟩ dX4_net_49 (by decide) (by decide) hF1 (Nat.le_trans hn hn1) h
      · replace h := h.2.2 hk0 hk1
        refine r_lookup C dX4_net_13 (off := 37) (tgt := 50) (by decide) ((lv_osw hk0 (by decide)).trans ((lv_osw hk1 (by decide)).trans rfl)) (by decide) ?_
        refine r_bipush C (x := (-2)) dX4_net_50 (by decide) ?_
        exact ri O ⟨_, rfl, rfl⟩ dX4_net_52 (by decide) (by decide) hF1 (Nat.le_trans hn hn1) h
  · replace h := h.2 hb4
    refine r_iconst C (x := (-1)) dX4_net_10 (by decide) ?_
    exact ri O ⟨_, rfl, rfl⟩ dX4_net_11 (by decide) (by decide) hF1 (Nat.le_trans hn hn1) h
set_option maxHeartbeats 4000000 in
set_option maxRecDepth 100000 in
theorem e4_told {S : Sto} {Q : Int32 → Sto → Prop} (hF : Fx S) {p1 : Int32}  (h : (p1 = 0 → (Q (gI S 0 4) S)) ∧ (p1 = 1 → (Q (gI S 0 3) S)) ∧ (p1 = 2 → (Q (gI S 0 8) S)) ∧ (p1 = 3 → (Q (gI S 0 9) S)) ∧ (p1 = 4 → (Q ((if (gI S 0 10) = 0 then 0 else 1 : Int32)) S)) ∧ (p1 = 5 → (Q (gI S 0 11) S)) ∧ (p1 = 6 → (Q (gI S 0 12) S)) ∧ (p1 = 7 → (Q (gI S 0 13) S)) ∧ (¬ p1 = 0 → ¬ p1 = 1 → ¬ p1 = 2 → ¬ p1 = 3 → ¬ p1 = 4 → ¬ p1 = 5 → ¬ p1 = 6 → ¬ p1 = 7 → (Q (-2) S))) : Ci K4_told [vr 0, vi p1] S Q := by
  refine Ci.intro rfl (Nat.le_of_ble_eq_true rfl) (fun X O => ?_)
  have C := O.1
  have hn : sN S ≤ sN S := Nat.le_refl _
  show WP X 0 [(0, vr 0), (1, vi p1)] [] S 0 0
  refine r_iloadn C 1 dX4_told_0 rfl ?_
  refine r_table C dX4_told_1 rfl (by decide) (fun i off hi hx1 => ?_) (fun hx1 => ?_)
  · have hlt : i < 8 := (Array.getElem?_eq_some_iff.mp hi).1
    obtain rfl | rfl | rfl | rfl | rfl | rfl | rfl | rfl : i = 0 ∨ i = 1 ∨ i = 2 ∨ i = 3 ∨ i = 4 ∨ i = 5 ∨ i = 6 ∨ i = 7 := by omega
    · obtain rfl := Option.some.inj hi
      replace h := h.1 (hx1.trans (by decide))
      refine ⟨48, by decide, ?_⟩
      refine r_aloadn C 0 dX4_told_48 rfl ?_
      refine r_getI C (hF.k (by decide) rfl) fl_4_129 rfl dX4_told_49 ?_
      exact ri O ⟨_, rfl, rfl⟩ dX4_told_52 (by decide) (by decide) hF hn h
    · obtain rfl := Option.some.inj hi
      replace h := h.2.1 (hx1.trans (by decide))
      refine ⟨53, by decide, ?_⟩
      refine r_aloadn C 0 dX4_told_53 rfl ?_
      refine r_getI C (hF.k (by decide) rfl) fl_4_117 rfl dX4_told_54 ?_
      exact ri O ⟨_, rfl, rfl⟩ dX4_told_57 (by decide) (by decide) hF hn h
    · obtain rfl := Option.some.inj hi
      replace h := h.2.2.1 (hx1.trans (by decide))
      refine ⟨58, by decide, ?_⟩
      refine r_aloadn C 0 dX4_told_58 rfl ?_
      refine r_getI C (hF.k (by decide) rfl) fl_4_107 rfl dX4_told_59 ?_
      exact ri O ⟨_, rfl, rfl⟩ dX4_told_62 (by decide) (by decide) hF hn h
    · obtain rfl := Option.some.inj hi
      replace h := h.2.2.2.1 (hx1.trans (by decide))
      refine ⟨63, by decide, ?_⟩
      refine r_aloadn C 0 dX4_told_63 rfl ?_
      refine r_getI C (hF.k (by decide) rfl) fl_4_132 rfl dX4_told_64 ?_
      exact ri O ⟨_, rfl, rfl⟩ dX4_told_67 (by decide) (by decide) hF hn h
    · obtain rfl := Option.some.inj hi
      replace h := h.2.2.2.2.1 (hx1.trans (by decide))
      refine ⟨68, by decide, ?_⟩
      refine r_aloadn C 0 dX4_told_68 rfl ?_
      refine r_getI C (hF.k (by decide) rfl) fl_4_120 rfl dX4_told_69 ?_
      refine r_callSi C K4_flag [vi (gI S 0 10)] [] cl_4_193 rm_4_told_4_flag ⟨rfl, rfl⟩ (by decide) (by decide) rfl (Nat.le_of_ble_eq_true rfl) dX4_told_72 (q4_flag (S := S) hF) (fun x2 _ _ _ hq => ?_)
      obtain ⟨hqa, hqb⟩ := hq; obtain rfl := hqa.symm; obtain rfl := hqb.symm
      exact ri O ⟨_, rfl, rfl⟩ dX4_told_75 (by decide) (by decide) hF hn h
    · obtain rfl := Option.some.inj hi
      replace h := h.2.2.2.2.2.1 (hx1.trans (by decide))
      refine ⟨76, by decide, ?_⟩
      refine r_aloadn C 0 dX4_told_76 rfl ?_
      refine r_getI C (hF.k (by decide) rfl) fl_4_126 rfl dX4_told_77 ?_
      exact ri O ⟨_, rfl, rfl⟩ dX4_told_80 (by decide) (by decide) hF hn h
    · obtain rfl := Option.some.inj hi
      replace h := h.2.2.2.2.2.2.1 (hx1.trans (by decide))
      refine ⟨81, by decide, ?_⟩
      refine r_aloadn C 0 dX4_told_81 rfl ?_
      refine r_getI C (hF.k (by decide) rfl) fl_4_123 rfl dX4_told_82 ?_
      exact ri O ⟨_, rfl, rfl⟩ dX4_told_85 (by decide) (by decide) hF hn h
    · obtain rfl := Option.some.inj hi
      replace h := h.2.2.2.2.2.2.2.1 (hx1.trans (by decide))
      refine ⟨86, by decide, ?_⟩
      refine r_aloadn C 0 dX4_told_86 rfl ?_
      refine r_getI C (hF.k (by decide) rfl) fl_4_162 rfl dX4_told_87 ?_
      exact ri O ⟨_, rfl, rfl⟩ dX4_told_90 (by decide) (by decide) hF hn h
  · replace h := h.2.2.2.2.2.2.2.2 (fun e => hx1 0 (by decide) (e.trans (by decide))) (fun e => hx1 1 (by decide) (e.trans (by decide))) (fun e => hx1 2 (by decide) (e.trans (by decide))) (fun e => hx1 3 (by decide) (e.trans (by decide))) (fun e => hx1 4 (by decide) (e.trans (by decide))) (fun e => hx1 5 (by decide) (e.trans (by decide))) (fun e => hx1 6 (by decide) (e.trans (by decide))) (fun e => hx1 7 (by decide) (e.trans (by decide)))
    refine ⟨91, by decide, ?_⟩
    refine r_bipush C (x := (-2)) dX4_told_91 (by decide) ?_
    exact ri O ⟨_, rfl, rfl⟩ dX4_told_93 (by decide) (by decide) hF hn h
