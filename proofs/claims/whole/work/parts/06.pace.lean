set_option maxHeartbeats 4000000 in
set_option maxRecDepth 100000 in
theorem e0_startOver {S : Sto} {Q : Sto → Prop} (hF : Fx S) {p0 : Nat} {p1 : Int32} {p2 : Int32} (hp0 : al S p0 0) (h : Q (pI (pI (pI (pI (pI (pI S p0 1 (10 * p1)) p0 2 1000000) p0 3 p2) p0 4 (-6)) p0 5 (-6)) p0 6 (-6))) : Cv K0_startOver [vr p0, vi p1, vi p2] S Q := by
  refine Cv.intro rfl (Nat.le_of_ble_eq_true rfl) (fun X O => ?_)
  have C := O.1
  have hn : sN S ≤ sN S := Nat.le_refl _
  show WP X 0 [(0, vr p0), (1, vi p1), (2, vi p2)] [] S 0 0
  refine r_aloadn C 0 dX0_startOver_0 rfl ?_
  refine r_bipush C (x := 10) dX0_startOver_1 (by decide) ?_
  refine r_iloadn C 1 dX0_startOver_3 rfl ?_
  refine r_imul C dX0_startOver_4 ?_
  refine r_putI C hp0 fl_0_15 rfl rfl dX0_startOver_5 ?_
  refine r_aloadn C 0 dX0_startOver_8 rfl ?_
  refine r_ldc C (x := 1000000) (mB 109 (by decide +kernel) rfl) dX0_startOver_9 ?_
  refine r_putI C hp0 fl_0_20 rfl rfl dX0_startOver_11 ?_
  refine r_aloadn C 0 dX0_startOver_14 rfl ?_
  refine r_iloadn C 2 dX0_startOver_15 rfl ?_
  refine r_putI C hp0 fl_0_23 rfl rfl dX0_startOver_16 ?_
  refine r_aloadn C 0 dX0_startOver_19 rfl ?_
  refine r_bipush C (x := (-6)) dX0_startOver_20 (by decide) ?_
  refine r_putI C hp0 fl_0_26 rfl rfl dX0_startOver_22 ?_
  refine r_aloadn C 0 dX0_startOver_25 rfl ?_
  refine r_bipush C (x := (-6)) dX0_startOver_26 (by decide) ?_
  refine r_putI C hp0 fl_0_29 rfl rfl dX0_startOver_28 ?_
  refine r_aloadn C 0 dX0_startOver_31 rfl ?_
  refine r_bipush C (x := (-6)) dX0_startOver_32 (by decide) ?_
  refine r_putI C hp0 fl_0_32 rfl rfl dX0_startOver_34 ?_
  exact rv O rfl dX0_startOver_37 (by decide) (by decide) hF hn h
set_option maxHeartbeats 4000000 in
set_option maxRecDepth 100000 in
theorem e0_isShut {S : Sto} {Q : Int32 → Sto → Prop} (hF : Fx S) {p0 : Nat} {p1 : Int32} (hp0 : al S p0 0) (h : ∀ w3 : Int32, w3 = (if ((gI S p0 0) + p1) ≤ (gI S p0 1) then 0 else (if (gI S p0 8) = 0 then 1 else 0 : Int32) : Int32) → (Q w3 S)) : Ci K0_isShut [vr p0, vi p1] S Q := by
  refine Ci.intro rfl (Nat.le_of_ble_eq_true rfl) (fun X O => ?_)
  have C := O.1
  have hn : sN S ≤ sN S := Nat.le_refl _
  show WP X 0 [(0, vr p0), (1, vi p1)] [] S 0 0
  refine r_aloadn C 0 dX0_isShut_0 rfl ?_
  refine r_getI C hp0 fl_0_35 rfl dX0_isShut_1 ?_
  refine r_iloadn C 1 dX0_isShut_4 rfl ?_
  refine r_iadd C dX0_isShut_5 ?_
  refine r_aloadn C 0 dX0_isShut_6 rfl ?_
  refine r_getI C hp0 fl_0_15 rfl dX0_isShut_7 ?_
  have kJ4 : ∀ (w3 : Int32) (_ : w3 = (if ((gI S p0 0) + p1) ≤ (gI S p0 1) then 0 else (if (gI S p0 8) = 0 then 1 else 0 : Int32) : Int32)), WP X 25 [] [vi w3] S 0 0 := by
    intro w3 hw3
    replace h := h w3 hw3
    have hz_w3 : w3 = 0 ∨ w3 = 1 := by rw [hw3]; repeat (first | exact Or.inl rfl | exact Or.inr rfl | assumption | split)
    exact ri O ⟨_, rfl, nar_z hz_w3⟩ dX0_isShut_25 (by decide) (by decide) hF hn h
  refine r_icmp_le C dX0_isShut_10 (tgt := 24) (by decide) (fun hc5 => ?_) (fun hc5 => ?_)
  · refine r_iconst C (x := 0) dX0_isShut_24 (by decide) ?_
    refine r_perm [] rfl ?_
    exact kJ4 _ (if_pos hc5).symm
  · refine r_aloadn C 0 dX0_isShut_13 rfl ?_
    refine r_getI C hp0 fl_0_38 rfl dX0_isShut_14 ?_
    have kJ6 : WP X 25 [] [vi (if (gI S p0 8) = 0 then 1 else 0 : Int32)] S 0 0 := by
      refine r_perm [] rfl ?_
      exact kJ4 _ (if_neg hc5).symm
    refine r_if_ne C dX0_isShut_17 (tgt := 24) (by decide) (fun hc7 => ?_) (fun hc7 => ?_)
    · refine r_iconst C (x := 0) dX0_isShut_24 (by decide) ?_
      refine r_perm [] rfl ?_
      rw [show (if (gI S p0 8) = 0 then 1 else 0 : Int32) = 0 from if_neg hc7] at kJ6
      exact kJ6
    · refine r_iconst C (x := 1) dX0_isShut_20 (by decide) ?_
      refine r_goto C dX0_isShut_21 (tgt := 25) (by decide) ?_
      refine r_perm [] rfl ?_
      rw [show (if (gI S p0 8) = 0 then 1 else 0 : Int32) = 1 from if_pos hc7] at kJ6
      exact kJ6
theorem q0_isShut {S : Sto} (hF : Fx S) {p0 : Nat} {p1 : Int32} (hp0 : al S p0 0)  : Ci K0_isShut [vr p0, vi p1] S (fun x S1 => x = ((if ((gI S p0 0) + p1) ≤ (gI S p0 1) then 0 else (if (gI S p0 8) = 0 then 1 else 0 : Int32) : Int32)) ∧ S1 = S) := by
  refine e0_isShut hF hp0 ?_
  intro w hw; subst hw
  exact ⟨rfl, rfl⟩
set_option maxHeartbeats 4000000 in
set_option maxRecDepth 100000 in
theorem e0_measure {S : Sto} {Q : Sto → Prop} (hF : Fx S) {p0 : Nat} {p1 : Int32} (hp0 : al S p0 0) (h : (¬ (gI S p0 4) = (-6) → (Q (pI (pI (pI S p0 6 (((3 * (gI S p0 6)) + (if 0 ≤ ((gI S p0 5) - (8 * p1)) then ((gI S p0 5) - (8 * p1)) else 0 - ((gI S p0 5) - (8 * p1)))) / 4)) p0 5 (((7 * (gI (pI S p0 6 (((3 * (gI S p0 6)) + (if 0 ≤ ((gI S p0 5) - (8 * p1)) then ((gI S p0 5) - (8 * p1)) else 0 - ((gI S p0 5) - (8 * p1)))) / 4)) p0 5)) + (8 * p1)) / 8)) p0 4 p1))) ∧ ((gI S p0 4) = (-6) → (Q (pI (pI (pI S p0 5 (8 * p1)) p0 6 (4 * p1)) p0 4 p1)))) : Cv K0_measure [vr p0, vi p1] S Q := by
  refine Cv.intro rfl (Nat.le_of_ble_eq_true rfl) (fun X O => ?_)
  have C := O.1
  have hn : sN S ≤ sN S := Nat.le_refl _
  show WP X 0 [(0, vr p0), (1, vi p1)] [] S 0 0
  refine r_aloadn C 0 dX0_measure_0 rfl ?_
  refine r_getI C hp0 fl_0_26 rfl dX0_measure_1 ?_
  refine r_bipush C (x := (-6)) dX0_measure_4 (by decide) ?_
  refine r_icmp_ne C dX0_measure_6 (tgt := 27) (by decide) (fun hc1 => ?_) (fun hc1 => ?_)
  · replace h := h.1 hc1
    refine r_aloadn C 0 dX0_measure_27 rfl ?_
    refine r_iconst C (x := 3) dX0_measure_28 (by decide) ?_
    refine r_aloadn C 0 dX0_measure_29 rfl ?_
    refine r_getI C hp0 fl_0_32 rfl dX0_measure_30 ?_
    refine r_imul C dX0_measure_33 ?_
    refine r_aloadn C 0 dX0_measure_34 rfl ?_
    refine r_getI C hp0 fl_0_29 rfl dX0_measure_35 ?_
    refine r_bipush C (x := 8) dX0_measure_38 (by decide) ?_
    refine r_iloadn C 1 dX0_measure_40 rfl ?_
    refine r_imul C dX0_measure_41 ?_
    refine r_isub C dX0_measure_42 ?_
    refine r_abs C mw_0_42 (by decide) (Nat.le_of_ble_eq_true rfl) (by decide) (by decide) dX0_measure_43 ?_
    refine r_iadd C dX0_measure_46 ?_
    refine r_iconst C (x := 4) dX0_measure_47 (by decide) ?_
    refine r_idiv C dX0_measure_48 (by decide) ?_
    refine r_putI C hp0 fl_0_32 rfl rfl dX0_measure_49 ?_
    refine r_aloadn C 0 dX0_measure_52 rfl ?_
    refine r_bipush C (x := 7) dX0_measure_53 (by decide) ?_
    refine r_aloadn C 0 dX0_measure_55 rfl ?_
    refine r_getI C hp0 fl_0_29 rfl dX0_measure_56 ?_
    refine r_imul C dX0_measure_59 ?_
    refine r_bipush C (x := 8) dX0_measure_60 (by decide) ?_
    refine r_iloadn C 1 dX0_measure_62 rfl ?_
    refine r_imul C dX0_measure_63 ?_
    refine r_iadd C dX0_measure_64 ?_
    refine r_bipush C (x := 8) dX0_measure_65 (by decide) ?_
    refine r_idiv C dX0_measure_67 (by decide) ?_
    refine r_putI C hp0 fl_0_29 rfl rfl dX0_measure_68 ?_
    refine r_aloadn C 0 dX0_measure_71 rfl ?_
    refine r_iloadn C 1 dX0_measure_72 rfl ?_
    refine r_putI C hp0 fl_0_26 rfl rfl dX0_measure_73 ?_
    exact rv O rfl dX0_measure_76 (by decide) (by decide) hF hn h
  · replace h := h.2 hc1
    refine r_aloadn C 0 dX0_measure_9 rfl ?_
    refine r_bipush C (x := 8) dX0_measure_10 (by decide) ?_
    refine r_iloadn C 1 dX0_measure_12 rfl ?_
    refine r_imul C dX0_measure_13 ?_
    refine r_putI C hp0 fl_0_29 rfl rfl dX0_measure_14 ?_
    refine r_aloadn C 0 dX0_measure_17 rfl ?_
    refine r_iconst C (x := 4) dX0_measure_18 (by decide) ?_
    refine r_iloadn C 1 dX0_measure_19 rfl ?_
    refine r_imul C dX0_measure_20 ?_
    refine r_putI C hp0 fl_0_32 rfl rfl dX0_measure_21 ?_
    refine r_goto C dX0_measure_24 (tgt := 71) (by decide) ?_
    refine r_aloadn C 0 dX0_measure_71 rfl ?_
    refine r_iloadn C 1 dX0_measure_72 rfl ?_
    refine r_putI C hp0 fl_0_26 rfl rfl dX0_measure_73 ?_
    exact rv O rfl dX0_measure_76 (by decide) (by decide) hF hn h
set_option maxHeartbeats 4000000 in
set_option maxRecDepth 100000 in
theorem e0_grow {S : Sto} {Q : Sto → Prop} (hF : Fx S) {p0 : Nat} {p1 : Int32} {p2 : Int32} (hp0 : al S p0 0) (h : ((gI S p0 2) ≤ (gI S p0 1) → (((gI S p0 1) ≤ 0 → (Q S)) ∧ (¬ (gI S p0 1) ≤ 0 → ((¬ (gI S p0 1) = 0) ∧ (Q (pI S p0 1 ((gI S p0 1) + ((p2 * p1) / (gI S p0 1))))))))) ∧ (¬ (gI S p0 2) ≤ (gI S p0 1) → (Q (pI S p0 1 ((gI S p0 1) + p1))))) : Cv K0_grow [vr p0, vi p1, vi p2] S Q := by
  refine Cv.intro rfl (Nat.le_of_ble_eq_true rfl) (fun X O => ?_)
  have C := O.1
  have hn : sN S ≤ sN S := Nat.le_refl _
  show WP X 0 [(0, vr p0), (1, vi p1), (2, vi p2)] [] S 0 0
  refine r_aloadn C 0 dX0_grow_0 rfl ?_
  refine r_getI C hp0 fl_0_15 rfl dX0_grow_1 ?_
  refine r_aloadn C 0 dX0_grow_4 rfl ?_
  refine r_getI C hp0 fl_0_20 rfl dX0_grow_5 ?_
  refine r_icmp_ge C dX0_grow_8 (tgt := 24) (by decide) (fun hc2 => ?_) (fun hc2 => ?_)
  · replace h := h.1 hc2
    refine r_aloadn C 0 dX0_grow_24 rfl ?_
    refine r_getI C hp0 fl_0_15 rfl dX0_grow_25 ?_
    refine r_if_le C dX0_grow_28 (tgt := 48) (by decide) (fun hc4 => ?_) (fun hc4 => ?_)
    · replace h := h.1 hc4
      exact rv O rfl dX0_grow_48 (by decide) (by decide) hF hn h
    · replace h := h.2 hc4
      refine r_aloadn C 0 dX0_grow_31 rfl ?_
      refine r_dup C rfl dX0_grow_32 ?_
      refine r_getI C hp0 fl_0_15 rfl dX0_grow_33 ?_
      refine r_iloadn C 2 dX0_grow_36 rfl ?_
      refine r_iloadn C 1 dX0_grow_37 rfl ?_
      refine r_imul C dX0_grow_38 ?_
      refine r_aloadn C 0 dX0_grow_39 rfl ?_
      refine r_getI C hp0 fl_0_15 rfl dX0_grow_40 ?_
      obtain ⟨ho5, h⟩ := h
      refine r_idiv C dX0_grow_43 ho5 ?_
      refine r_iadd C dX0_grow_44 ?_
      refine r_putI C hp0 fl_0_15 rfl rfl dX0_grow_45 ?_
      exact rv O rfl dX0_grow_48 (by decide) (by decide) hF hn h
  · replace h := h.2 hc2
    refine r_aloadn C 0 dX0_grow_11 rfl ?_
    refine r_dup C rfl dX0_grow_12 ?_
    refine r_getI C hp0 fl_0_15 rfl dX0_grow_13 ?_
    refine r_iloadn C 1 dX0_grow_16 rfl ?_
    refine r_iadd C dX0_grow_17 ?_
    refine r_putI C hp0 fl_0_15 rfl rfl dX0_grow_18 ?_
    refine r_goto C dX0_grow_21 (tgt := 48) (by decide) ?_
    exact rv O rfl dX0_grow_48 (by decide) (by decide) hF hn h
set_option maxHeartbeats 4000000 in
set_option maxRecDepth 100000 in
theorem e0_fallBack {S : Sto} {Q : Sto → Prop} (hF : Fx S) {p0 : Nat} {p1 : Int32} {p2 : Int32} (hp0 : al S p0 0) (h : Q (pI (pI (pI S p0 3 p1) p0 1 (if ((gI (pI S p0 3 p1) p0 1) / 2) < (2 * p2) then (2 * p2) else ((gI (pI S p0 3 p1) p0 1) / 2))) p0 2 (gI (pI (pI S p0 3 p1) p0 1 (if ((gI (pI S p0 3 p1) p0 1) / 2) < (2 * p2) then (2 * p2) else ((gI (pI S p0 3 p1) p0 1) / 2))) p0 1))) : Cv K0_fallBack [vr p0, vi p1, vi p2] S Q := by
  refine Cv.intro rfl (Nat.le_of_ble_eq_true rfl) (fun X O => ?_)
  have C := O.1
  have hn : sN S ≤ sN S := Nat.le_refl _
  show WP X 0 [(0, vr p0), (1, vi p1), (2, vi p2)] [] S 0 0
  refine r_aloadn C 0 dX0_fallBack_0 rfl ?_
  refine r_iloadn C 1 dX0_fallBack_1 rfl ?_
  refine r_putI C hp0 fl_0_23 rfl rfl dX0_fallBack_2 ?_
  refine r_aloadn C 0 dX0_fallBack_5 rfl ?_
  refine r_aloadn C 0 dX0_fallBack_6 rfl ?_
  refine r_getI C hp0 fl_0_15 rfl dX0_fallBack_7 ?_
  refine r_iconst C (x := 2) dX0_fallBack_10 (by decide) ?_
  refine r_idiv C dX0_fallBack_11 (by decide) ?_
  refine r_iconst C (x := 2) dX0_fallBack_12 (by decide) ?_
  refine r_iloadn C 2 dX0_fallBack_13 rfl ?_
  refine r_imul C dX0_fallBack_14 ?_
  refine r_max C mw_0_48 (by decide) (Nat.le_of_ble_eq_true rfl) (by decide) (by decide) dX0_fallBack_15 ?_
  refine r_putI C hp0 fl_0_15 rfl rfl dX0_fallBack_18 ?_
  refine r_aloadn C 0 dX0_fallBack_21 rfl ?_
  refine r_aloadn C 0 dX0_fallBack_22 rfl ?_
  refine r_getI C hp0 fl_0_15 rfl dX0_fallBack_23 ?_
  refine r_putI C hp0 fl_0_20 rfl rfl dX0_fallBack_26 ?_
  exact rv O rfl dX0_fallBack_29 (by decide) (by decide) hF hn h
set_option maxHeartbeats 4000000 in
set_option maxRecDepth 100000 in
theorem e0_limit {S : Sto} {Q : Int32 → Sto → Prop} (hF : Fx S) {p0 : Nat} (hp0 : al S p0 0) (h : ∀ w1 : Int32, w1 = (if (gI S p0 4) = (-6) then 8 else (if 1 < ((9 * (if (gI S p0 5) < (8 * (gI S p0 4)) then (8 * (gI S p0 4)) else (gI S p0 5))) / 64) then ((9 * (if (gI S p0 5) < (8 * (gI S p0 4)) then (8 * (gI S p0 4)) else (gI S p0 5))) / 64) else 1) : Int32) → (Q w1 S)) : Ci K0_limit [vr p0] S Q := by
  refine Ci.intro rfl (Nat.le_of_ble_eq_true rfl) (fun X O => ?_)
  have C := O.1
  have hn : sN S ≤ sN S := Nat.le_refl _
  show WP X 0 [(0, vr p0)] [] S 0 0
  refine r_aloadn C 0 dX0_limit_0 rfl ?_
  refine r_getI C hp0 fl_0_26 rfl dX0_limit_1 ?_
  refine r_bipush C (x := (-6)) dX0_limit_4 (by decide) ?_
  have kJ2 : ∀ (w1 : Int32) (_ : w1 = (if (gI S p0 4) = (-6) then 8 else (if 1 < ((9 * (if (gI S p0 5) < (8 * (gI S p0 4)) then (8 * (gI S p0 4)) else (gI S p0 5))) / 64) then ((9 * (if (gI S p0 5) < (8 * (gI S p0 4)) then (8 * (gI S p0 4)) else (gI S p0 5))) / 64) else 1) : Int32)), WP X 38 [] [vi w1] S 0 0 := by
    intro w1 hw1
    replace h := h w1 hw1
    exact ri O ⟨_, rfl, rfl⟩ dX0_limit_38 (by decide) (by decide) hF hn h
  refine r_icmp_ne C dX0_limit_6 (tgt := 14) (by decide) (fun hc3 => ?_) (fun hc3 => ?_)
  · refine r_iconst C (x := 1) dX0_limit_14 (by decide) ?_
    refine r_bipush C (x := 9) dX0_limit_15 (by decide) ?_
    refine r_aloadn C 0 dX0_limit_17 rfl ?_
    refine r_getI C hp0 fl_0_29 rfl dX0_limit_18 ?_
    refine r_bipush C (x := 8) dX0_limit_21 (by decide) ?_
    refine r_aloadn C 0 dX0_limit_23 rfl ?_
    refine r_getI C hp0 fl_0_26 rfl dX0_limit_24 ?_
    refine r_imul C dX0_limit_27 ?_
    refine r_max C mw_0_48 (by decide) (Nat.le_of_ble_eq_true rfl) (by decide) (by decide) dX0_limit_28 ?_
    refine r_imul C dX0_limit_31 ?_
    refine r_bipush C (x := 64) dX0_limit_32 (by decide) ?_
    refine r_idiv C dX0_limit_34 (by decide) ?_
    refine r_max C mw_0_48 (by decide) (Nat.le_of_ble_eq_true rfl) (by decide) (by decide) dX0_limit_35 ?_
    refine r_perm [] rfl ?_
    exact kJ2 _ (if_neg hc3).symm
  · refine r_bipush C (x := 8) dX0_limit_9 (by decide) ?_
    refine r_goto C dX0_limit_11 (tgt := 38) (by decide) ?_
    refine r_perm [] rfl ?_
    exact kJ2 _ (if_pos hc3).symm
theorem q0_limit {S : Sto} (hF : Fx S) {p0 : Nat} (hp0 : al S p0 0)  : Ci K0_limit [vr p0] S (fun x S1 => x = ((if (gI S p0 4) = (-6) then 8 else (if 1 < ((9 * (if (gI S p0 5) < (8 * (gI S p0 4)) then (8 * (gI S p0 4)) else (gI S p0 5))) / 64) then ((9 * (if (gI S p0 5) < (8 * (gI S p0 4)) then (8 * (gI S p0 4)) else (gI S p0 5))) / 64) else 1) : Int32)) ∧ S1 = S) := by
  refine e0_limit hF hp0 ?_
  intro w hw; subst hw
  exact ⟨rfl, rfl⟩
set_option maxHeartbeats 4000000 in
set_option maxRecDepth 100000 in
theorem e0_waitTime {S : Sto} {Q : Int32 → Sto → Prop} (hF : Fx S) {p0 : Nat} (hp0 : al S p0 0) (h : ∀ w1 : Int32, w1 = (if (gI S p0 4) = (-6) then 8 else ((((gI S p0 5) + (if (4 * (gI S p0 6)) < 8 then 8 else (4 * (gI S p0 6)))) / 8) + 2) : Int32) → (Q w1 S)) : Ci K0_waitTime [vr p0] S Q := by
  refine Ci.intro rfl (Nat.le_of_ble_eq_true rfl) (fun X O => ?_)
  have C := O.1
  have hn : sN S ≤ sN S := Nat.le_refl _
  show WP X 0 [(0, vr p0)] [] S 0 0
  refine r_aloadn C 0 dX0_waitTime_0 rfl ?_
  refine r_getI C hp0 fl_0_26 rfl dX0_waitTime_1 ?_
  refine r_bipush C (x := (-6)) dX0_waitTime_4 (by decide) ?_
  have kJ2 : ∀ (w1 : Int32) (_ : w1 = (if (gI S p0 4) = (-6) then 8 else ((((gI S p0 5) + (if (4 * (gI S p0 6)) < 8 then 8 else (4 * (gI S p0 6)))) / 8) + 2) : Int32)), WP X 35 [] [vi w1] S 0 0 := by
    intro w1 hw1
    replace h := h w1 hw1
    exact ri O ⟨_, rfl, rfl⟩ dX0_waitTime_35 (by decide) (by decide) hF hn h
  refine r_icmp_ne C dX0_waitTime_6 (tgt := 14) (by decide) (fun hc3 => ?_) (fun hc3 => ?_)
  · refine r_aloadn C 0 dX0_waitTime_14 rfl ?_
    refine r_getI C hp0 fl_0_29 rfl dX0_waitTime_15 ?_
    refine r_iconst C (x := 4) dX0_waitTime_18 (by decide) ?_
    refine r_aloadn C 0 dX0_waitTime_19 rfl ?_
    refine r_getI C hp0 fl_0_32 rfl dX0_waitTime_20 ?_
    refine r_imul C dX0_waitTime_23 ?_
    refine r_bipush C (x := 8) dX0_waitTime_24 (by decide) ?_
    refine r_max C mw_0_48 (by decide) (Nat.le_of_ble_eq_true rfl) (by decide) (by decide) dX0_waitTime_26 ?_
    refine r_iadd C dX0_waitTime_29 ?_
    refine r_bipush C (x := 8) dX0_waitTime_30 (by decide) ?_
    refine r_idiv C dX0_waitTime_32 (by decide) ?_
    refine r_iconst C (x := 2) dX0_waitTime_33 (by decide) ?_
    refine r_iadd C dX0_waitTime_34 ?_
    refine r_perm [] rfl ?_
    exact kJ2 _ (if_neg hc3).symm
  · refine r_bipush C (x := 8) dX0_waitTime_9 (by decide) ?_
    refine r_goto C dX0_waitTime_11 (tgt := 35) (by decide) ?_
    refine r_perm [] rfl ?_
    exact kJ2 _ (if_pos hc3).symm
theorem q0_waitTime {S : Sto} (hF : Fx S) {p0 : Nat} (hp0 : al S p0 0)  : Ci K0_waitTime [vr p0] S (fun x S1 => x = ((if (gI S p0 4) = (-6) then 8 else ((((gI S p0 5) + (if (4 * (gI S p0 6)) < 8 then 8 else (4 * (gI S p0 6)))) / 8) + 2) : Int32)) ∧ S1 = S) := by
  refine e0_waitTime hF hp0 ?_
  intro w hw; subst hw
  exact ⟨rfl, rfl⟩
set_option maxHeartbeats 4000000 in
set_option maxRecDepth 100000 in
theorem e0_probeIfLate {S : Sto} {Q : Sto → Prop} (hF : Fx S) {p0 : Nat} {p1 : Int32} (hp0 : al S p0 0) (h : ((gI S p0 0) ≤ 0 → (Q S)) ∧ (¬ (gI S p0 0) ≤ 0 → ((p1 < ((gI S p0 9) + (((if (gI S p0 4) = (-6) then 8 else ((((gI S p0 5) + (if (4 * (gI S p0 6)) < 8 then 8 else (4 * (gI S p0 6)))) / 8) + 2) : Int32)) <<< ((if 6 < (gI S p0 7) then 6 else (gI S p0 7)) &&& 31))) → (Q S)) ∧ (¬ p1 < ((gI S p0 9) + (((if (gI S p0 4) = (-6) then 8 else ((((gI S p0 5) + (if (4 * (gI S p0 6)) < 8 then 8 else (4 * (gI S p0 6)))) / 8) + 2) : Int32)) <<< ((if 6 < (gI S p0 7) then 6 else (gI S p0 7)) &&& 31))) → (Q (pI (pI S p0 8 1) p0 7 ((gI (pI S p0 8 1) p0 7) + 1))))))) : Cv K0_probeIfLate [vr p0, vi p1] S Q := by
  refine Cv.intro rfl (Nat.le_of_ble_eq_true rfl) (fun X O => ?_)
  have C := O.1
  have hn : sN S ≤ sN S := Nat.le_refl _
  show WP X 0 [(0, vr p0), (1, vi p1)] [] S 0 0
  refine r_aloadn C 0 dX0_probeIfLate_0 rfl ?_
  refine r_getI C hp0 fl_0_35 rfl dX0_probeIfLate_1 ?_
  refine r_if_le C dX0_probeIfLate_4 (tgt := 45) (by decide) (fun hc2 => ?_) (fun hc2 => ?_)
  · replace h := h.1 hc2
    exact rv O rfl dX0_probeIfLate_45 (by decide) (by decide) hF hn h
  · replace h := h.2 hc2
    refine r_iloadn C 1 dX0_probeIfLate_7 rfl ?_
    refine r_aloadn C 0 dX0_probeIfLate_8 rfl ?_
    refine r_getI C hp0 fl_0_52 rfl dX0_probeIfLate_9 ?_
    refine r_aloadn C 0 dX0_probeIfLate_12 rfl ?_
    refine r_callVi C K0_waitTime [] [vi (gI S p0 9), vi p1] hp0 (by decide) rfl cl_0_55 rm_0_probeIfLate_0_waitTime ⟨rfl, rfl⟩ (by decide) (by decide) rfl (Nat.le_of_ble_eq_true rfl) dX0_probeIfLate_13 (q0_waitTime (S := S) hF hp0) (fun x3 _ _ _ hq => ?_)
    obtain ⟨hqa, hqb⟩ := hq; obtain rfl := hqa.symm; obtain rfl := hqb.symm
    refine r_aloadn C 0 dX0_probeIfLate_16 rfl ?_
    refine r_getI C hp0 fl_0_59 rfl dX0_probeIfLate_17 ?_
    refine r_bipush C (x := 6) dX0_probeIfLate_20 (by decide) ?_
    refine r_min C mw_0_62 (by decide) (Nat.le_of_ble_eq_true rfl) (by decide) (by decide) dX0_probeIfLate_22 ?_
    refine r_ishl C dX0_probeIfLate_25 ?_
    refine r_iadd C dX0_probeIfLate_26 ?_
    refine r_icmp_lt C dX0_probeIfLate_27 (tgt := 45) (by decide) (fun hc4 => ?_) (fun hc4 => ?_)
    · replace h := h.1 hc4
      exact rv O rfl dX0_probeIfLate_45 (by decide) (by decide) hF hn h
    · replace h := h.2 hc4
      refine r_aloadn C 0 dX0_probeIfLate_30 rfl ?_
      refine r_iconst C (x := 1) dX0_probeIfLate_31 (by decide) ?_
      refine r_putZ C hp0 fl_0_38 rfl (Or.inr rfl) rfl dX0_probeIfLate_32 ?_
      refine r_aloadn C 0 dX0_probeIfLate_35 rfl ?_
      refine r_dup C rfl dX0_probeIfLate_36 ?_
      refine r_getI C hp0 fl_0_59 rfl dX0_probeIfLate_37 ?_
      refine r_iconst C (x := 1) dX0_probeIfLate_40 (by decide) ?_
      refine r_iadd C dX0_probeIfLate_41 ?_
      refine r_putI C hp0 fl_0_59 rfl rfl dX0_probeIfLate_42 ?_
      exact rv O rfl dX0_probeIfLate_45 (by decide) (by decide) hF hn h
