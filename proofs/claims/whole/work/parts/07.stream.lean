set_option maxHeartbeats 4000000 in
set_option maxRecDepth 100000 in
theorem e3_isUntouched {S : Sto} {Q : Int32 → Sto → Prop} (hF : Fx S) {p0 : Nat} (hp0 : al S p0 3) (h : ∀ w7 : Int32, w7 = (if (gI S p0 1) = 0 then (if (gI S p0 2) = 0 then (if (gI S p0 3) = 0 then 1 else 0 : Int32) else 0 : Int32) else 0 : Int32) → (Q w7 S)) : Ci K3_isUntouched [vr p0] S Q := by
  refine Ci.intro rfl (Nat.le_of_ble_eq_true rfl) (fun X O => ?_)
  have C := O.1
  have hn : sN S ≤ sN S := Nat.le_refl _
  show WP X 0 [(0, vr p0)] [] S 0 0
  refine r_aloadn C 0 dX3_isUntouched_0 rfl ?_
  refine r_getI C hp0 fl_3_25 rfl dX3_isUntouched_1 ?_
  have kJ8 : ∀ (w7 : Int32) (_ : w7 = (if (gI S p0 1) = 0 then (if (gI S p0 2) = 0 then (if (gI S p0 3) = 0 then 1 else 0 : Int32) else 0 : Int32) else 0 : Int32)), WP X 26 [] [vi w7] S 0 0 := by
    intro w7 hw7
    replace h := h w7 hw7
    have hz_w7 : w7 = 0 ∨ w7 = 1 := by rw [hw7]; repeat (first | exact Or.inl rfl | exact Or.inr rfl | assumption | split)
    exact ri O ⟨_, rfl, nar_z hz_w7⟩ dX3_isUntouched_26 (by decide) (by decide) hF hn h
  refine r_if_ne C dX3_isUntouched_4 (tgt := 25) (by decide) (fun hc9 => ?_) (fun hc9 => ?_)
  · refine r_iconst C (x := 0) dX3_isUntouched_25 (by decide) ?_
    refine r_perm [] rfl ?_
    exact kJ8 _ (if_neg hc9).symm
  · refine r_aloadn C 0 dX3_isUntouched_7 rfl ?_
    refine r_getI C hp0 fl_3_28 rfl dX3_isUntouched_8 ?_
    have kJ12 : WP X 26 [] [vi (if (gI S p0 2) = 0 then (if (gI S p0 3) = 0 then 1 else 0 : Int32) else 0 : Int32)] S 0 0 := by
      refine r_perm [] rfl ?_
      exact kJ8 _ (if_pos hc9).symm
    refine r_if_ne C dX3_isUntouched_11 (tgt := 25) (by decide) (fun hc13 => ?_) (fun hc13 => ?_)
    · refine r_iconst C (x := 0) dX3_isUntouched_25 (by decide) ?_
      refine r_perm [] rfl ?_
      rw [show (if (gI S p0 2) = 0 then (if (gI S p0 3) = 0 then 1 else 0 : Int32) else 0 : Int32) = 0 from if_neg hc13] at kJ12
      exact kJ12
    · refine r_aloadn C 0 dX3_isUntouched_14 rfl ?_
      refine r_getI C hp0 fl_3_32 rfl dX3_isUntouched_15 ?_
      have kJ14 : WP X 26 [] [vi (if (gI S p0 3) = 0 then 1 else 0 : Int32)] S 0 0 := by
        refine r_perm [] rfl ?_
        rw [show (if (gI S p0 2) = 0 then (if (gI S p0 3) = 0 then 1 else 0 : Int32) else 0 : Int32) = (if (gI S p0 3) = 0 then 1 else 0 : Int32) from if_pos hc13] at kJ12
        exact kJ12
      refine r_if_ne C dX3_isUntouched_18 (tgt := 25) (by decide) (fun hc15 => ?_) (fun hc15 => ?_)
      · refine r_iconst C (x := 0) dX3_isUntouched_25 (by decide) ?_
        refine r_perm [] rfl ?_
        rw [show (if (gI S p0 3) = 0 then 1 else 0 : Int32) = 0 from if_neg hc15] at kJ14
        exact kJ14
      · refine r_iconst C (x := 1) dX3_isUntouched_21 (by decide) ?_
        refine r_goto C dX3_isUntouched_22 (tgt := 26) (by decide) ?_
        refine r_perm [] rfl ?_
        rw [show (if (gI S p0 3) = 0 then 1 else 0 : Int32) = 1 from if_pos hc15] at kJ14
        exact kJ14
theorem q3_isUntouched {S : Sto} (hF : Fx S) {p0 : Nat} (hp0 : al S p0 3)  : Ci K3_isUntouched [vr p0] S (fun x S1 => x = ((if (gI S p0 1) = 0 then (if (gI S p0 2) = 0 then (if (gI S p0 3) = 0 then 1 else 0 : Int32) else 0 : Int32) else 0 : Int32)) ∧ S1 = S) := by
  refine e3_isUntouched hF hp0 ?_
  intro w hw; subst hw
  exact ⟨rfl, rfl⟩
set_option maxHeartbeats 4000000 in
set_option maxRecDepth 100000 in
theorem e3_isEndDue {S : Sto} {Q : Int32 → Sto → Prop} (hF : Fx S) {p0 : Nat} (hp0 : al S p0 3) (h : ∀ w15 : Int32, w15 = (if (gI S p0 2) = 0 then 0 else (if (gI S p0 5) = (gI S p0 1) then (if (gI S p0 9) = 0 then 1 else (if (gI S p0 9) = 2 then 1 else 0 : Int32) : Int32) else 0 : Int32) : Int32) → (Q w15 S)) : Ci K3_isEndDue [vr p0] S Q := by
  refine Ci.intro rfl (Nat.le_of_ble_eq_true rfl) (fun X O => ?_)
  have C := O.1
  have hn : sN S ≤ sN S := Nat.le_refl _
  show WP X 0 [(0, vr p0)] [] S 0 0
  refine r_aloadn C 0 dX3_isEndDue_0 rfl ?_
  refine r_getI C hp0 fl_3_28 rfl dX3_isEndDue_1 ?_
  have kJ16 : ∀ (w15 : Int32) (_ : w15 = (if (gI S p0 2) = 0 then 0 else (if (gI S p0 5) = (gI S p0 1) then (if (gI S p0 9) = 0 then 1 else (if (gI S p0 9) = 2 then 1 else 0 : Int32) : Int32) else 0 : Int32) : Int32)), WP X 38 [] [vi w15] S 0 0 := by
    intro w15 hw15
    replace h := h w15 hw15
    have hz_w15 : w15 = 0 ∨ w15 = 1 := by rw [hw15]; repeat (first | exact Or.inl rfl | exact Or.inr rfl | assumption | split)
    exact ri O ⟨_, rfl, nar_z hz_w15⟩ dX3_isEndDue_38 (by decide) (by decide) hF hn h
  refine r_if_eq C dX3_isEndDue_4 (tgt := 37) (by decide) (fun hc17 => ?_) (fun hc17 => ?_)
  · refine r_iconst C (x := 0) dX3_isEndDue_37 (by decide) ?_
    refine r_perm [] rfl ?_
    exact kJ16 _ (if_pos hc17).symm
  · refine r_aloadn C 0 dX3_isEndDue_7 rfl ?_
    refine r_getI C hp0 fl_3_35 rfl dX3_isEndDue_8 ?_
    refine r_aloadn C 0 dX3_isEndDue_11 rfl ?_
    refine r_getI C hp0 fl_3_25 rfl dX3_isEndDue_12 ?_
    have kJ24 : WP X 38 [] [vi (if (gI S p0 5) = (gI S p0 1) then (if (gI S p0 9) = 0 then 1 else (if (gI S p0 9) = 2 then 1 else 0 : Int32) : Int32) else 0 : Int32)] S 0 0 := by
      refine r_perm [] rfl ?_
      exact kJ16 _ (if_neg hc17).symm
    refine r_icmp_ne C dX3_isEndDue_15 (tgt := 37) (by decide) (fun hc25 => ?_) (fun hc25 => ?_)
    · refine r_iconst C (x := 0) dX3_isEndDue_37 (by decide) ?_
      refine r_perm [] rfl ?_
      rw [show (if (gI S p0 5) = (gI S p0 1) then (if (gI S p0 9) = 0 then 1 else (if (gI S p0 9) = 2 then 1 else 0 : Int32) : Int32) else 0 : Int32) = 0 from if_neg hc25] at kJ24
      exact kJ24
    · refine r_aloadn C 0 dX3_isEndDue_18 rfl ?_
      refine r_getI C hp0 fl_3_38 rfl dX3_isEndDue_19 ?_
      have kJ28 : WP X 38 [] [vi (if (gI S p0 9) = 0 then 1 else (if (gI S p0 9) = 2 then 1 else 0 : Int32) : Int32)] S 0 0 := by
        refine r_perm [] rfl ?_
        rw [show (if (gI S p0 5) = (gI S p0 1) then (if (gI S p0 9) = 0 then 1 else (if (gI S p0 9) = 2 then 1 else 0 : Int32) : Int32) else 0 : Int32) = (if (gI S p0 9) = 0 then 1 else (if (gI S p0 9) = 2 then 1 else 0 : Int32) : Int32) from if_pos hc25] at kJ24
        exact kJ24
      refine r_if_eq C dX3_isEndDue_22 (tgt := 33) (by decide) (fun hc29 => ?_) (fun hc29 => ?_)
      · refine r_iconst C (x := 1) dX3_isEndDue_33 (by decide) ?_
        refine r_goto C dX3_isEndDue_34 (tgt := 38) (by decide) ?_
        refine r_perm [] rfl ?_
        rw [show (if (gI S p0 9) = 0 then 1 else (if (gI S p0 9) = 2 then 1 else 0 : Int32) : Int32) = 1 from if_pos hc29] at kJ28
        exact kJ28
      · refine r_aloadn C 0 dX3_isEndDue_25 rfl ?_
        refine r_getI C hp0 fl_3_38 rfl dX3_isEndDue_26 ?_
        refine r_iconst C (x := 2) dX3_isEndDue_29 (by decide) ?_
        have kJ30 : WP X 38 [] [vi (if (gI S p0 9) = 2 then 1 else 0 : Int32)] S 0 0 := by
          refine r_perm [] rfl ?_
          rw [show (if (gI S p0 9) = 0 then 1 else (if (gI S p0 9) = 2 then 1 else 0 : Int32) : Int32) = (if (gI S p0 9) = 2 then 1 else 0 : Int32) from if_neg hc29] at kJ28
          exact kJ28
        refine r_icmp_ne C dX3_isEndDue_30 (tgt := 37) (by decide) (fun hc31 => ?_) (fun hc31 => ?_)
        · refine r_iconst C (x := 0) dX3_isEndDue_37 (by decide) ?_
          refine r_perm [] rfl ?_
          rw [show (if (gI S p0 9) = 2 then 1 else 0 : Int32) = 0 from if_neg hc31] at kJ30
          exact kJ30
        · refine r_iconst C (x := 1) dX3_isEndDue_33 (by decide) ?_
          refine r_goto C dX3_isEndDue_34 (tgt := 38) (by decide) ?_
          refine r_perm [] rfl ?_
          rw [show (if (gI S p0 9) = 2 then 1 else 0 : Int32) = 1 from if_pos hc31] at kJ30
          exact kJ30
theorem q3_isEndDue {S : Sto} (hF : Fx S) {p0 : Nat} (hp0 : al S p0 3)  : Ci K3_isEndDue [vr p0] S (fun x S1 => x = ((if (gI S p0 2) = 0 then 0 else (if (gI S p0 5) = (gI S p0 1) then (if (gI S p0 9) = 0 then 1 else (if (gI S p0 9) = 2 then 1 else 0 : Int32) : Int32) else 0 : Int32) : Int32)) ∧ S1 = S) := by
  refine e3_isEndDue hF hp0 ?_
  intro w hw; subst hw
  exact ⟨rfl, rfl⟩
set_option maxHeartbeats 4000000 in
set_option maxRecDepth 100000 in
theorem e3_senderKnows {S : Sto} {Q : Int32 → Sto → Prop} (hF : Fx S) {p0 : Nat} {p1 : Int32} (hp0 : al S p0 3) (h : (0 ≤ (p1 : Int32).toInt ∧ (p1 : Int32).toInt < (1000 : Nat)) ∧ (Q ((gI S (p0 + 1) p1.toNatClampNeg) &&& 3) S)) : Ci K3_senderKnows [vr p0, vi p1] S Q := by
  refine Ci.intro rfl (Nat.le_of_ble_eq_true rfl) (fun X O => ?_)
  have C := O.1
  have hn : sN S ≤ sN S := Nat.le_refl _
  show WP X 0 [(0, vr p0), (1, vi p1)] [] S 0 0
  refine r_aloadn C 0 dX3_senderKnows_0 rfl ?_
  refine r_getR C hp0 fl_3_9 rfl (hF.rowR hp0) dX3_senderKnows_1 ?_
  refine r_iloadn C 1 dX3_senderKnows_4 rfl ?_
  obtain ⟨hi1, h⟩ := h
  refine r_bald C (hF.row hp0) (ixL (n := 1000) (Fx.rowL hp0) hi1) dX3_senderKnows_5 ?_
  refine r_iconst C (x := 3) dX3_senderKnows_6 (by decide) ?_
  refine r_iand C dX3_senderKnows_7 ?_
  exact ri O ⟨_, rfl, rfl⟩ dX3_senderKnows_8 (by decide) (by decide) hF hn h
theorem q3_senderKnows {S : Sto} (hF : Fx S) {p0 : Nat} {p1 : Int32} (hp0 : al S p0 3) (ho1 : 0 ≤ (p1 : Int32).toInt ∧ (p1 : Int32).toInt < (1000 : Nat)) : Ci K3_senderKnows [vr p0, vi p1] S (fun x S1 => x = ((gI S (p0 + 1) p1.toNatClampNeg) &&& 3) ∧ S1 = S) := by
  refine e3_senderKnows hF hp0 ?_
  refine ⟨ho1, ?_⟩
  exact ⟨rfl, rfl⟩
set_option maxHeartbeats 4000000 in
set_option maxRecDepth 100000 in
theorem e3_setSenderKnows {S : Sto} {Q : Sto → Prop} (hF : Fx S) {p0 : Nat} {p1 : Int32} {p2 : Int32} (hp0 : al S p0 3) (h : (0 ≤ (p1 : Int32).toInt ∧ (p1 : Int32).toInt < (1000 : Nat)) ∧ (Q (pI S (p0 + 1) p1.toNatClampNeg ((((((gI S (p0 + 1) p1.toNatClampNeg) &&& 4) ||| p2) : Int32).toInt8.toInt32 : Int32).toInt8.toInt32)))) : Cv K3_setSenderKnows [vr p0, vi p1, vi p2] S Q := by
  refine Cv.intro rfl (Nat.le_of_ble_eq_true rfl) (fun X O => ?_)
  have C := O.1
  have hn : sN S ≤ sN S := Nat.le_refl _
  show WP X 0 [(0, vr p0), (1, vi p1), (2, vi p2)] [] S 0 0
  refine r_aloadn C 0 dX3_setSenderKnows_0 rfl ?_
  refine r_getR C hp0 fl_3_9 rfl (hF.rowR hp0) dX3_setSenderKnows_1 ?_
  refine r_iloadn C 1 dX3_setSenderKnows_4 rfl ?_
  refine r_aloadn C 0 dX3_setSenderKnows_5 rfl ?_
  refine r_getR C hp0 fl_3_9 rfl (hF.rowR hp0) dX3_setSenderKnows_6 ?_
  refine r_iloadn C 1 dX3_setSenderKnows_9 rfl ?_
  obtain ⟨hi1, h⟩ := h
  refine r_bald C (hF.row hp0) (ixL (n := 1000) (Fx.rowL hp0) hi1) dX3_setSenderKnows_10 ?_
  refine r_iconst C (x := 4) dX3_setSenderKnows_11 (by decide) ?_
  refine r_iand C dX3_setSenderKnows_12 ?_
  refine r_iloadn C 2 dX3_setSenderKnows_13 rfl ?_
  refine r_ior C dX3_setSenderKnows_14 ?_
  refine r_i2b C dX3_setSenderKnows_15 ?_
  refine r_bast C (hF.row hp0) (ixL (n := 1000) (Fx.rowL hp0) hi1) dX3_setSenderKnows_16 ?_
  exact rv O rfl dX3_setSenderKnows_17 (by decide) (by decide) hF hn h
set_option maxHeartbeats 4000000 in
set_option maxRecDepth 100000 in
theorem e3_stop {S : Sto} {Q : Int32 → Sto → Prop} (hF : Fx S) {p0 : Nat} {p1 : Int32} {p2 : Int32} (hp0 : al S p0 3) (h : ∀ w1 : Int32, w1 = (if 0 ≤ p1 then (if (p1 + p2) < 1000 then (p1 + p2) else 1000) else p1 : Int32) → (Q w1 S)) : Ci K3_stop [vr p0, vi p1, vi p2] S Q := by
  refine Ci.intro rfl (Nat.le_of_ble_eq_true rfl) (fun X O => ?_)
  have C := O.1
  have hn : sN S ≤ sN S := Nat.le_refl _
  show WP X 0 [(0, vr p0), (1, vi p1), (2, vi p2)] [] S 0 0
  refine r_iloadn C 1 dX3_stop_0 rfl ?_
  have kJ2 : ∀ (w1 : Int32) (_ : w1 = (if 0 ≤ p1 then (if (p1 + p2) < 1000 then (p1 + p2) else 1000) else p1 : Int32)), WP X 17 [] [vi w1] S 0 0 := by
    intro w1 hw1
    replace h := h w1 hw1
    exact ri O ⟨_, rfl, rfl⟩ dX3_stop_17 (by decide) (by decide) hF hn h
  refine r_if_ge C dX3_stop_1 (tgt := 8) (by decide) (fun hc3 => ?_) (fun hc3 => ?_)
  · refine r_sipush C (x := 1000) dX3_stop_8 (by decide) ?_
    refine r_iloadn C 1 dX3_stop_11 rfl ?_
    refine r_iloadn C 2 dX3_stop_12 rfl ?_
    refine r_iadd C dX3_stop_13 ?_
    refine r_min C mw_3_41 (by decide) (Nat.le_of_ble_eq_true rfl) (by decide) (by decide) dX3_stop_14 ?_
    refine r_perm [] rfl ?_
    exact kJ2 _ (if_pos hc3).symm
  · refine r_iloadn C 1 dX3_stop_4 rfl ?_
    refine r_goto C dX3_stop_5 (tgt := 17) (by decide) ?_
    refine r_perm [] rfl ?_
    exact kJ2 _ (if_neg hc3).symm
theorem q3_stop {S : Sto} (hF : Fx S) {p0 : Nat} {p1 : Int32} {p2 : Int32} (hp0 : al S p0 3)  : Ci K3_stop [vr p0, vi p1, vi p2] S (fun x S1 => x = ((if 0 ≤ p1 then (if (p1 + p2) < 1000 then (p1 + p2) else 1000) else p1 : Int32)) ∧ S1 = S) := by
  refine e3_stop hF hp0 ?_
  intro w hw; subst hw
  exact ⟨rfl, rfl⟩
set_option maxHeartbeats 4000000 in
set_option maxRecDepth 100000 in
theorem e3_firstAgain {S : Sto} {Q : Int32 → Sto → Prop} (hF : Fx S) {p0 : Nat} (hp0 : al S p0 3) (h : ∀ X : Ctx, Oi X K3_firstAgain S Q → WP X 2 [(0, vr p0), (1, vi 0)] [] S 0 0) : Ci K3_firstAgain [vr p0] S Q := by
  refine Ci.intro rfl (Nat.le_of_ble_eq_true rfl) (fun X O => ?_)
  replace h := h X O
  have C := O.1
  have hn : sN S ≤ sN S := Nat.le_refl _
  show WP X 0 [(0, vr p0)] [] S 0 0
  refine r_iconst C (x := 0) dX3_firstAgain_0 (by decide) ?_
  refine r_istoren C dX3_firstAgain_1 (by decide) rfl rfl ?_
  refine r_perm [1, 0] rfl ?_
  exact h
set_option maxHeartbeats 4000000 in
set_option maxRecDepth 100000 in
theorem s3_firstAgain_2 {X : Ctx} {S0 S : Sto} {Q : Int32 → Sto → Prop} (hF : Fx S) (hn : sN S0 ≤ sN S) (O : Oi X K3_firstAgain S0 Q) {l0 : Nat} {l1 : Int32} (hl0 : al S l0 3)  (h : ((gI S l0 5) ≤ l1 → (Q l1 S)) ∧ (¬ (gI S l0 5) ≤ l1 → ((0 ≤ (l1 : Int32).toInt ∧ (l1 : Int32).toInt < (1000 : Nat)) ∧ ((((gI S (l0 + 1) l1.toNatClampNeg) &&& 3) = 2 → (Q l1 S)) ∧ (¬ ((gI S (l0 + 1) l1.toNatClampNeg) &&& 3) = 2 → (WP X 2 [(0, vr l0), (1, vi (l1 + 1))] [] S 0 0)))))) : WP X 2 [(0, vr l0), (1, vi l1)] [] S 0 0 := by
  have C := O.1
  refine r_iloadn C 1 dX3_firstAgain_2 rfl ?_
  refine r_aloadn C 0 dX3_firstAgain_3 rfl ?_
  refine r_getI C hl0 fl_3_35 rfl dX3_firstAgain_4 ?_
  refine r_icmp_ge C dX3_firstAgain_7 (tgt := 25) (by decide) (fun hc1 => ?_) (fun hc1 => ?_)
  · replace h := h.1 hc1
    refine r_iloadn C 1 dX3_firstAgain_25 rfl ?_
    exact ri O ⟨_, rfl, rfl⟩ dX3_firstAgain_26 (by decide) (by decide) hF hn h
  · replace h := h.2 hc1
    refine r_aloadn C 0 dX3_firstAgain_10 rfl ?_
    refine r_iloadn C 1 dX3_firstAgain_11 rfl ?_
    obtain ⟨ho2, h⟩ := h
    refine r_callVi C K3_senderKnows [vi l1] [] hl0 (by decide) rfl cl_3_47 rm_3_firstAgain_3_senderKnows ⟨rfl, rfl⟩ (by decide) (by decide) rfl (Nat.le_of_ble_eq_true rfl) dX3_firstAgain_12 (q3_senderKnows (S := S) hF hl0 ho2) (fun x3 _ _ _ hq => ?_)
    obtain ⟨hqa, hqb⟩ := hq; obtain rfl := hqa.symm; obtain rfl := hqb.symm
    refine r_iconst C (x := 2) dX3_firstAgain_15 (by decide) ?_
    refine r_icmp_eq C dX3_firstAgain_16 (tgt := 25) (by decide) (fun hc4 => ?_) (fun hc4 => ?_)
    · replace h := h.1 hc4
      refine r_iloadn C 1 dX3_firstAgain_25 rfl ?_
      exact ri O ⟨_, rfl, rfl⟩ dX3_firstAgain_26 (by decide) (by decide) hF hn h
    · replace h := h.2 hc4
      refine r_iinc C (y := (l1 + 1)) 1 dX3_firstAgain_19 rfl rfl (by decide) rfl rfl ?_
      refine r_goto C dX3_firstAgain_22 (tgt := 2) (by decide) ?_
      refine r_perm [1, 0] rfl ?_
      exact h
set_option maxHeartbeats 4000000 in
set_option maxRecDepth 100000 in
theorem e3_countAgainFrom {S : Sto} {Q : Int32 → Sto → Prop} (hF : Fx S) {p0 : Nat} {p1 : Int32} (hp0 : al S p0 3) (h : ∀ X : Ctx, Oi X K3_countAgainFrom S Q → WP X 2 [(0, vr p0), (1, vi p1), (2, vi p1)] [] S 0 0) : Ci K3_countAgainFrom [vr p0, vi p1] S Q := by
  refine Ci.intro rfl (Nat.le_of_ble_eq_true rfl) (fun X O => ?_)
  replace h := h X O
  have C := O.1
  have hn : sN S ≤ sN S := Nat.le_refl _
  show WP X 0 [(0, vr p0), (1, vi p1)] [] S 0 0
  refine r_iloadn C 1 dX3_countAgainFrom_0 rfl ?_
  refine r_istoren C dX3_countAgainFrom_1 (by decide) rfl rfl ?_
  refine r_perm [1, 2, 0] rfl ?_
  exact h
set_option maxHeartbeats 4000000 in
set_option maxRecDepth 100000 in
theorem s3_countAgainFrom_2 {X : Ctx} {S0 S : Sto} {Q : Int32 → Sto → Prop} (hF : Fx S) (hn : sN S0 ≤ sN S) (O : Oi X K3_countAgainFrom S0 Q) {l0 : Nat} {l1 : Int32} {l2 : Int32} (hl0 : al S l0 3)  (h : ((gI S l0 5) ≤ l2 → (Q (l2 - l1) S)) ∧ (¬ (gI S l0 5) ≤ l2 → ((0 ≤ (l2 : Int32).toInt ∧ (l2 : Int32).toInt < (1000 : Nat)) ∧ ((¬ ((gI S (l0 + 1) l2.toNatClampNeg) &&& 3) = 2 → (Q (l2 - l1) S)) ∧ (((gI S (l0 + 1) l2.toNatClampNeg) &&& 3) = 2 → (WP X 2 [(0, vr l0), (1, vi l1), (2, vi (l2 + 1))] [] S 0 0)))))) : WP X 2 [(0, vr l0), (1, vi l1), (2, vi l2)] [] S 0 0 := by
  have C := O.1
  refine r_iloadn C 2 dX3_countAgainFrom_2 rfl ?_
  refine r_aloadn C 0 dX3_countAgainFrom_3 rfl ?_
  refine r_getI C hl0 fl_3_35 rfl dX3_countAgainFrom_4 ?_
  refine r_icmp_ge C dX3_countAgainFrom_7 (tgt := 25) (by decide) (fun hc1 => ?_) (fun hc1 => ?_)
  · replace h := h.1 hc1
    refine r_iloadn C 2 dX3_countAgainFrom_25 rfl ?_
    refine r_iloadn C 1 dX3_countAgainFrom_26 rfl ?_
    refine r_isub C dX3_countAgainFrom_27 ?_
    exact ri O ⟨_, rfl, rfl⟩ dX3_countAgainFrom_28 (by decide) (by decide) hF hn h
  · replace h := h.2 hc1
    refine r_aloadn C 0 dX3_countAgainFrom_10 rfl ?_
    refine r_iloadn C 2 dX3_countAgainFrom_11 rfl ?_
    obtain ⟨ho2, h⟩ := h
    refine r_callVi C K3_senderKnows [vi l2] [] hl0 (by decide) rfl cl_3_47 rm_3_countAgainFrom_3_senderKnows ⟨rfl, rfl⟩ (by decide) (by decide) rfl (Nat.le_of_ble_eq_true rfl) dX3_countAgainFrom_12 (q3_senderKnows (S := S) hF hl0 ho2) (fun x3 _ _ _ hq => ?_)
    obtain ⟨hqa, hqb⟩ := hq; obtain rfl := hqa.symm; obtain rfl := hqb.symm
    refine r_iconst C (x := 2) dX3_countAgainFrom_15 (by decide) ?_
    refine r_icmp_ne C dX3_countAgainFrom_16 (tgt := 25) (by decide) (fun hc4 => ?_) (fun hc4 => ?_)
    · replace h := h.1 hc4
      refine r_iloadn C 2 dX3_countAgainFrom_25 rfl ?_
      refine r_iloadn C 1 dX3_countAgainFrom_26 rfl ?_
      refine r_isub C dX3_countAgainFrom_27 ?_
      exact ri O ⟨_, rfl, rfl⟩ dX3_countAgainFrom_28 (by decide) (by decide) hF hn h
    · replace h := h.2 hc4
      refine r_iinc C (y := (l2 + 1)) 2 dX3_countAgainFrom_19 rfl rfl (by decide) rfl rfl ?_
      refine r_goto C dX3_countAgainFrom_22 (tgt := 2) (by decide) ?_
      refine r_perm [1, 2, 0] rfl ?_
      exact h
set_option maxHeartbeats 4000000 in
set_option maxRecDepth 100000 in
theorem e3_markSent {S : Sto} {Q : Sto → Prop} (hF : Fx S) {p0 : Nat} {p1 : Int32} {p2 : Int32} (hp0 : al S p0 3) (h : ∀ X : Ctx, Ov X K3_markSent S Q → WP X 10 [(0, vr p0), (3, vi ((if 0 ≤ p1 then (if (p1 + p2) < 1000 then (p1 + p2) else 1000) else p1 : Int32))), (4, vi p1)] [] S 0 0) : Cv K3_markSent [vr p0, vi p1, vi p2] S Q := by
  refine Cv.intro rfl (Nat.le_of_ble_eq_true rfl) (fun X O => ?_)
  replace h := h X O
  have C := O.1
  have hn : sN S ≤ sN S := Nat.le_refl _
  show WP X 0 [(0, vr p0), (1, vi p1), (2, vi p2)] [] S 0 0
  refine r_aloadn C 0 dX3_markSent_0 rfl ?_
  refine r_iloadn C 1 dX3_markSent_1 rfl ?_
  refine r_iloadn C 2 dX3_markSent_2 rfl ?_
  refine r_callVi C K3_stop [vi p1, vi p2] [] hp0 (by decide) rfl cl_3_51 rm_3_markSent_3_stop ⟨rfl, rfl⟩ (by decide) (by decide) rfl (Nat.le_of_ble_eq_true rfl) dX3_markSent_3 (q3_stop (S := S) hF hp0) (fun x1 _ _ _ hq => ?_)
  obtain ⟨hqa, hqb⟩ := hq; obtain rfl := hqa.symm; obtain rfl := hqb.symm
  refine r_istoren C dX3_markSent_6 (by decide) rfl rfl ?_
  refine r_iloadn C 2 dX3_markSent_7 rfl ?_
  refine r_istore C dX3_markSent_8 (by decide) rfl rfl ?_
  refine r_perm [2, 1, 0] rfl ?_
  exact h
set_option maxHeartbeats 4000000 in
set_option maxRecDepth 100000 in
theorem s3_markSent_10 {X : Ctx} {S0 S : Sto} {Q : Sto → Prop} (hF : Fx S) (hn : sN S0 ≤ sN S) (O : Ov X K3_markSent S0 Q) {l0 : Nat} {l3 : Int32} {l4 : Int32} (hl0 : al S l0 3)  (h : (l3 ≤ l4 → (Q (pI S l0 5 (if (gI S l0 5) < l3 then l3 else (gI S l0 5))))) ∧ (¬ l3 ≤ l4 → ((0 ≤ (l4 : Int32).toInt ∧ (l4 : Int32).toInt < (1000 : Nat)) ∧ ((¬ ((gI S (l0 + 1) l4.toNatClampNeg) &&& 3) = 2 → (Cv K3_setSenderKnows [vr l0, vi l4, vi 1] S (fun S5 => WP X 10 [(0, vr l0), (3, vi l3), (4, vi (l4 + 1))] [] S5 0 0))) ∧ (((gI S (l0 + 1) l4.toNatClampNeg) &&& 3) = 2 → (Cv K3_setSenderKnows [vr l0, vi l4, vi 1] (pI S l0 7 ((gI S l0 7) - 1)) (fun S6 => WP X 10 [(0, vr l0), (3, vi l3), (4, vi (l4 + 1))] [] S6 0 0))))))) : WP X 10 [(0, vr l0), (3, vi l3), (4, vi l4)] [] S 0 0 := by
  have C := O.1
  refine r_iload C 2 dX3_markSent_10 rfl ?_
  refine r_iloadn C 1 dX3_markSent_12 rfl ?_
  refine r_icmp_ge C dX3_markSent_13 (tgt := 49) (by decide) (fun hc1 => ?_) (fun hc1 => ?_)
  · replace h := h.1 hc1
    refine r_aloadn C 0 dX3_markSent_49 rfl ?_
    refine r_aloadn C 0 dX3_markSent_50 rfl ?_
    refine r_getI C hl0 fl_3_35 rfl dX3_markSent_51 ?_
    refine r_iloadn C 1 dX3_markSent_54 rfl ?_
    refine r_max C mw_3_61 (by decide) (Nat.le_of_ble_eq_true rfl) (by decide) (by decide) dX3_markSent_55 ?_
    refine r_putI C hl0 fl_3_35 rfl rfl dX3_markSent_58 ?_
    exact rv O rfl dX3_markSent_61 (by decide) (by decide) hF hn h
  · replace h := h.2 hc1
    refine r_aloadn C 0 dX3_markSent_16 rfl ?_
    refine r_iload C 2 dX3_markSent_17 rfl ?_
    obtain ⟨ho2, h⟩ := h
    refine r_callVi C K3_senderKnows [vi l4] [] hl0 (by decide) rfl cl_3_47 rm_3_markSent_3_senderKnows ⟨rfl, rfl⟩ (by decide) (by decide) rfl (Nat.le_of_ble_eq_true rfl) dX3_markSent_19 (q3_senderKnows (S := S) hF hl0 ho2) (fun x3 _ _ _ hq => ?_)
    obtain ⟨hqa, hqb⟩ := hq; obtain rfl := hqa.symm; obtain rfl := hqb.symm
    refine r_iconst C (x := 2) dX3_markSent_22 (by decide) ?_
    refine r_icmp_ne C dX3_markSent_23 (tgt := 36) (by decide) (fun hc4 => ?_) (fun hc4 => ?_)
    · replace h := h.1 hc4
      refine r_aloadn C 0 dX3_markSent_36 rfl ?_
      refine r_iload C 2 dX3_markSent_37 rfl ?_
      refine r_iconst C (x := 1) dX3_markSent_39 (by decide) ?_
      refine r_callVv C K3_setSenderKnows [vi l4, vi 1] [] hl0 (by decide) rfl cl_3_57 rm_3_markSent_3_setSenderKnows ⟨rfl, rfl⟩ (by decide) (by decide) rfl (Nat.le_of_ble_eq_true rfl) dX3_markSent_40 h (fun S5 hF5 hn5 h => ?_)
      refine r_iinc C (y := (l4 + 1)) 2 dX3_markSent_43 rfl rfl (by decide) rfl rfl ?_
      refine r_goto C dX3_markSent_46 (tgt := 10) (by decide) ?_
      refine r_perm [1, 2, 0] rfl ?_
      exact h
    · replace h := h.2 hc4
      refine r_aloadn C 0 dX3_markSent_26 rfl ?_
      refine r_dup C rfl dX3_markSent_27 ?_
      refine r_getI C hl0 fl_3_54 rfl dX3_markSent_28 ?_
      refine r_iconst C (x := 1) dX3_markSent_31 (by decide) ?_
      refine r_isub C dX3_markSent_32 ?_
      refine r_putI C hl0 fl_3_54 rfl rfl dX3_markSent_33 ?_
      refine r_aloadn C 0 dX3_markSent_36 rfl ?_
      refine r_iload C 2 dX3_markSent_37 rfl ?_
      refine r_iconst C (x := 1) dX3_markSent_39 (by decide) ?_
      refine r_callVv C K3_setSenderKnows [vi l4, vi 1] [] hl0 (by decide) rfl cl_3_57 rm_3_markSent_3_setSenderKnows ⟨rfl, rfl⟩ (by decide) (by decide) rfl (Nat.le_of_ble_eq_true rfl) dX3_markSent_40 h (fun S6 hF6 hn6 h => ?_)
      refine r_iinc C (y := (l4 + 1)) 2 dX3_markSent_43 rfl rfl (by decide) rfl rfl ?_
      refine r_goto C dX3_markSent_46 (tgt := 10) (by decide) ?_
      refine r_perm [1, 2, 0] rfl ?_
      exact h
set_option maxHeartbeats 4000000 in
set_option maxRecDepth 100000 in
theorem e3_markArrived {S : Sto} {Q : Sto → Prop} (hF : Fx S) {p0 : Nat} {p1 : Int32} {p2 : Int32} (hp0 : al S p0 3) (h : ∀ X : Ctx, Ov X K3_markArrived S Q → WP X 10 [(0, vr p0), (3, vi ((if 0 ≤ p1 then (if (p1 + p2) < 1000 then (p1 + p2) else 1000) else p1 : Int32))), (4, vi p1)] [] S 0 0) : Cv K3_markArrived [vr p0, vi p1, vi p2] S Q := by
  refine Cv.intro rfl (Nat.le_of_ble_eq_true rfl) (fun X O => ?_)
  replace h := h X O
  have C := O.1
  have hn : sN S ≤ sN S := Nat.le_refl _
  show WP X 0 [(0, vr p0), (1, vi p1), (2, vi p2)] [] S 0 0
  refine r_aloadn C 0 dX3_markArrived_0 rfl ?_
  refine r_iloadn C 1 dX3_markArrived_1 rfl ?_
  refine r_iloadn C 2 dX3_markArrived_2 rfl ?_
  refine r_callVi C K3_stop [vi p1, vi p2] [] hp0 (by decide) rfl cl_3_51 rm_3_markArrived_3_stop ⟨rfl, rfl⟩ (by decide) (by decide) rfl (Nat.le_of_ble_eq_true rfl) dX3_markArrived_3 (q3_stop (S := S) hF hp0) (fun x1 _ _ _ hq => ?_)
  obtain ⟨hqa, hqb⟩ := hq; obtain rfl := hqa.symm; obtain rfl := hqb.symm
  refine r_istoren C dX3_markArrived_6 (by decide) rfl rfl ?_
  refine r_iloadn C 2 dX3_markArrived_7 rfl ?_
  refine r_istore C dX3_markArrived_8 (by decide) rfl rfl ?_
  refine r_perm [2, 1, 0] rfl ?_
  exact h
set_option maxHeartbeats 4000000 in
set_option maxRecDepth 100000 in
theorem s3_markArrived_10 {X : Ctx} {S0 S : Sto} {Q : Sto → Prop} (hF : Fx S) (hn : sN S0 ≤ sN S) (O : Ov X K3_markArrived S0 Q) {l0 : Nat} {l3 : Int32} {l4 : Int32} (hl0 : al S l0 3)  (h : (l3 ≤ l4 → (Q S)) ∧ (¬ l3 ≤ l4 → ((0 ≤ (l4 : Int32).toInt ∧ (l4 : Int32).toInt < (1000 : Nat)) ∧ ((¬ ((gI S (l0 + 1) l4.toNatClampNeg) &&& 3) = 2 → ((((gI S (l0 + 1) l4.toNatClampNeg) &&& 3) = 3 → (WP X 10 [(0, vr l0), (3, vi l3), (4, vi (l4 + 1))] [] S 0 0)) ∧ (¬ ((gI S (l0 + 1) l4.toNatClampNeg) &&& 3) = 3 → (Cv K3_setSenderKnows [vr l0, vi l4, vi 3] (pI S l0 6 ((gI S l0 6) + 1)) (fun S6 => WP X 10 [(0, vr l0), (3, vi l3), (4, vi (l4 + 1))] [] S6 0 0))))) ∧ (((gI S (l0 + 1) l4.toNatClampNeg) &&& 3) = 2 → ((((gI S (l0 + 1) l4.toNatClampNeg) &&& 3) = 3 → (WP X 10 [(0, vr l0), (3, vi l3), (4, vi (l4 + 1))] [] (pI S l0 7 ((gI S l0 7) - 1)) 0 0)) ∧ (¬ ((gI S (l0 + 1) l4.toNatClampNeg) &&& 3) = 3 → (Cv K3_setSenderKnows [vr l0, vi l4, vi 3] (pI (pI S l0 7 ((gI S l0 7) - 1)) l0 6 ((gI (pI S l0 7 ((gI S l0 7) - 1)) l0 6) + 1)) (fun S8 => WP X 10 [(0, vr l0), (3, vi l3), (4, vi (l4 + 1))] [] S8 0 0))))))))) : WP X 10 [(0, vr l0), (3, vi l3), (4, vi l4)] [] S 0 0 := by
  have C := O.1
  refine r_iload C 2 dX3_markArrived_10 rfl ?_
  refine r_iloadn C 1 dX3_markArrived_12 rfl ?_
  refine r_icmp_ge C dX3_markArrived_13 (tgt := 69) (by decide) (fun hc1 => ?_) (fun hc1 => ?_)
  · replace h := h.1 hc1
    exact rv O rfl dX3_markArrived_69 (by decide) (by decide) hF hn h
  · replace h := h.2 hc1
    refine r_aloadn C 0 dX3_markArrived_16 rfl ?_
    refine r_iload C 2 dX3_markArrived_17 rfl ?_
    obtain ⟨ho2, h⟩ := h
    refine r_callVi C K3_senderKnows [vi l4] [] hl0 (by decide) rfl cl_3_47 rm_3_markArrived_3_senderKnows ⟨rfl, rfl⟩ (by decide) (by decide) rfl (Nat.le_of_ble_eq_true rfl) dX3_markArrived_19 (q3_senderKnows (S := S) hF hl0 ho2) (fun x3 _ _ _ hq => ?_)
    obtain ⟨hqa, hqb⟩ := hq; obtain rfl := hqa.symm; obtain rfl := hqb.symm
    refine r_istore C dX3_markArrived_22 (by decide) rfl rfl ?_
    refine r_iload C 0 dX3_markArrived_24 rfl ?_
    refine r_iconst C (x := 2) dX3_markArrived_26 (by decide) ?_
    refine r_icmp_ne C dX3_markArrived_27 (tgt := 40) (by decide) (fun hc4 => ?_) (fun hc4 => ?_)
    · replace h := h.1 hc4
      refine r_iload C 0 dX3_markArrived_40 rfl ?_
      refine r_iconst C (x := 3) dX3_markArrived_42 (by decide) ?_
      refine r_icmp_eq C dX3_markArrived_43 (tgt := 63) (by decide) (fun hc5 => ?_) (fun hc5 => ?_)
      · replace h := h.1 hc5
        refine r_iinc C (y := (l4 + 1)) 3 dX3_markArrived_63 rfl rfl (by decide) rfl rfl ?_
        refine r_goto C dX3_markArrived_66 (tgt := 10) (by decide) ?_
        refine r_perm [2, 3, 0] rfl ?_
        exact h
      · replace h := h.2 hc5
        refine r_aloadn C 1 dX3_markArrived_46 rfl ?_
        refine r_dup C rfl dX3_markArrived_47 ?_
        refine r_getI C hl0 fl_3_64 rfl dX3_markArrived_48 ?_
        refine r_iconst C (x := 1) dX3_markArrived_51 (by decide) ?_
        refine r_iadd C dX3_markArrived_52 ?_
        refine r_putI C hl0 fl_3_64 rfl rfl dX3_markArrived_53 ?_
        refine r_aloadn C 1 dX3_markArrived_56 rfl ?_
        refine r_iload C 3 dX3_markArrived_57 rfl ?_
        refine r_iconst C (x := 3) dX3_markArrived_59 (by decide) ?_
        refine r_callVv C K3_setSenderKnows [vi l4, vi 3] [] hl0 (by decide) rfl cl_3_57 rm_3_markArrived_3_setSenderKnows ⟨rfl, rfl⟩ (by decide) (by decide) rfl (Nat.le_of_ble_eq_true rfl) dX3_markArrived_60 h (fun S6 hF6 hn6 h => ?_)
        refine r_iinc C (y := (l4 + 1)) 3 dX3_markArrived_63 rfl rfl (by decide) rfl rfl ?_
        refine r_goto C dX3_markArrived_66 (tgt := 10) (by decide) ?_
        refine r_perm [2, 3, 0] rfl ?_
        exact h
    · replace h := h.2 hc4
      refine r_aloadn C 1 dX3_markArrived_30 rfl ?_
      refine r_dup C rfl dX3_markArrived_31 ?_
      refine r_getI C hl0 fl_3_54 rfl dX3_markArrived_32 ?_
      refine r_iconst C (x := 1) dX3_markArrived_35 (by decide) ?_
      refine r_isub C dX3_markArrived_36 ?_
      refine r_putI C hl0 fl_3_54 rfl rfl dX3_markArrived_37 ?_
      refine r_iload C 0 dX3_markArrived_40 rfl ?_
      refine r_iconst C (x := 3) dX3_markArrived_42 (by decide) ?_
      refine r_icmp_eq C dX3_markArrived_43 (tgt := 63) (by decide) (fun hc7 => ?_) (fun hc7 => ?_)
      · replace h := h.1 hc7
        refine r_iinc C (y := (l4 + 1)) 3 dX3_markArrived_63 rfl rfl (by decide) rfl rfl ?_
        refine r_goto C dX3_markArrived_66 (tgt := 10) (by decide) ?_
        refine r_perm [2, 3, 0] rfl ?_
        exact h
      · replace h := h.2 hc7
        refine r_aloadn C 1 dX3_markArrived_46 rfl ?_
        refine r_dup C rfl dX3_markArrived_47 ?_
        refine r_getI C hl0 fl_3_64 rfl dX3_markArrived_48 ?_
        refine r_iconst C (x := 1) dX3_markArrived_51 (by decide) ?_
        refine r_iadd C dX3_markArrived_52 ?_
        refine r_putI C hl0 fl_3_64 rfl rfl dX3_markArrived_53 ?_
        refine r_aloadn C 1 dX3_markArrived_56 rfl ?_
        refine r_iload C 3 dX3_markArrived_57 rfl ?_
        refine r_iconst C (x := 3) dX3_markArrived_59 (by decide) ?_
        refine r_callVv C K3_setSenderKnows [vi l4, vi 3] [] hl0 (by decide) rfl cl_3_57 rm_3_markArrived_3_setSenderKnows ⟨rfl, rfl⟩ (by decide) (by decide) rfl (Nat.le_of_ble_eq_true rfl) dX3_markArrived_60 h (fun S8 hF8 hn8 h => ?_)
        refine r_iinc C (y := (l4 + 1)) 3 dX3_markArrived_63 rfl rfl (by decide) rfl rfl ?_
        refine r_goto C dX3_markArrived_66 (tgt := 10) (by decide) ?_
        refine r_perm [2, 3, 0] rfl ?_
        exact h
set_option maxHeartbeats 4000000 in
set_option maxRecDepth 100000 in
theorem e3_markAgain {S : Sto} {Q : Sto → Prop} (hF : Fx S) {p0 : Nat} {p1 : Int32} {p2 : Int32} (hp0 : al S p0 3) (h : ∀ X : Ctx, Ov X K3_markAgain S Q → WP X 10 [(0, vr p0), (3, vi ((if 0 ≤ p1 then (if (p1 + p2) < 1000 then (p1 + p2) else 1000) else p1 : Int32))), (4, vi p1)] [] S 0 0) : Cv K3_markAgain [vr p0, vi p1, vi p2] S Q := by
  refine Cv.intro rfl (Nat.le_of_ble_eq_true rfl) (fun X O => ?_)
  replace h := h X O
  have C := O.1
  have hn : sN S ≤ sN S := Nat.le_refl _
  show WP X 0 [(0, vr p0), (1, vi p1), (2, vi p2)] [] S 0 0
  refine r_aloadn C 0 dX3_markAgain_0 rfl ?_
  refine r_iloadn C 1 dX3_markAgain_1 rfl ?_
  refine r_iloadn C 2 dX3_markAgain_2 rfl ?_
  refine r_callVi C K3_stop [vi p1, vi p2] [] hp0 (by decide) rfl cl_3_51 rm_3_markAgain_3_stop ⟨rfl, rfl⟩ (by decide) (by decide) rfl (Nat.le_of_ble_eq_true rfl) dX3_markAgain_3 (q3_stop (S := S) hF hp0) (fun x1 _ _ _ hq => ?_)
  obtain ⟨hqa, hqb⟩ := hq; obtain rfl := hqa.symm; obtain rfl := hqb.symm
  refine r_istoren C dX3_markAgain_6 (by decide) rfl rfl ?_
  refine r_iloadn C 2 dX3_markAgain_7 rfl ?_
  refine r_istore C dX3_markAgain_8 (by decide) rfl rfl ?_
  refine r_perm [2, 1, 0] rfl ?_
  exact h
set_option maxHeartbeats 4000000 in
set_option maxRecDepth 100000 in
theorem s3_markAgain_10 {X : Ctx} {S0 S : Sto} {Q : Sto → Prop} (hF : Fx S) (hn : sN S0 ≤ sN S) (O : Ov X K3_markAgain S0 Q) {l0 : Nat} {l3 : Int32} {l4 : Int32} (hl0 : al S l0 3)  (h : (l3 ≤ l4 → (Q S)) ∧ (¬ l3 ≤ l4 → ((0 ≤ (l4 : Int32).toInt ∧ (l4 : Int32).toInt < (1000 : Nat)) ∧ ((¬ ((gI S (l0 + 1) l4.toNatClampNeg) &&& 3) = 1 → (WP X 10 [(0, vr l0), (3, vi l3), (4, vi (l4 + 1))] [] S 0 0)) ∧ (((gI S (l0 + 1) l4.toNatClampNeg) &&& 3) = 1 → (Cv K3_setSenderKnows [vr l0, vi l4, vi 2] (pI S l0 7 ((gI S l0 7) + 1)) (fun S5 => WP X 10 [(0, vr l0), (3, vi l3), (4, vi (l4 + 1))] [] S5 0 0))))))) : WP X 10 [(0, vr l0), (3, vi l3), (4, vi l4)] [] S 0 0 := by
  have C := O.1
  refine r_iload C 2 dX3_markAgain_10 rfl ?_
  refine r_iloadn C 1 dX3_markAgain_12 rfl ?_
  refine r_icmp_ge C dX3_markAgain_13 (tgt := 49) (by decide) (fun hc1 => ?_) (fun hc1 => ?_)
  · replace h := h.1 hc1
    exact rv O rfl dX3_markAgain_49 (by decide) (by decide) hF hn h
  · replace h := h.2 hc1
    refine r_aloadn C 0 dX3_markAgain_16 rfl ?_
    refine r_iload C 2 dX3_markAgain_17 rfl ?_
    obtain ⟨ho2, h⟩ := h
    refine r_callVi C K3_senderKnows [vi l4] [] hl0 (by decide) rfl cl_3_47 rm_3_markAgain_3_senderKnows ⟨rfl, rfl⟩ (by decide) (by decide) rfl (Nat.le_of_ble_eq_true rfl) dX3_markAgain_19 (q3_senderKnows (S := S) hF hl0 ho2) (fun x3 _ _ _ hq => ?_)
    obtain ⟨hqa, hqb⟩ := hq; obtain rfl := hqa.symm; obtain rfl := hqb.symm
    refine r_iconst C (x := 1) dX3_markAgain_22 (by decide) ?_
    refine r_icmp_ne C dX3_markAgain_23 (tgt := 43) (by decide) (fun hc4 => ?_) (fun hc4 => ?_)
    · replace h := h.1 hc4
      refine r_iinc C (y := (l4 + 1)) 2 dX3_markAgain_43 rfl rfl (by decide) rfl rfl ?_
      refine r_goto C dX3_markAgain_46 (tgt := 10) (by decide) ?_
      refine r_perm [1, 2, 0] rfl ?_
      exact h
    · replace h := h.2 hc4
      refine r_aloadn C 0 dX3_markAgain_26 rfl ?_
      refine r_dup C rfl dX3_markAgain_27 ?_
      refine r_getI C hl0 fl_3_54 rfl dX3_markAgain_28 ?_
      refine r_iconst C (x := 1) dX3_markAgain_31 (by decide) ?_
      refine r_iadd C dX3_markAgain_32 ?_
      refine r_putI C hl0 fl_3_54 rfl rfl dX3_markAgain_33 ?_
      refine r_aloadn C 0 dX3_markAgain_36 rfl ?_
      refine r_iload C 2 dX3_markAgain_37 rfl ?_
      refine r_iconst C (x := 2) dX3_markAgain_39 (by decide) ?_
      refine r_callVv C K3_setSenderKnows [vi l4, vi 2] [] hl0 (by decide) rfl cl_3_57 rm_3_markAgain_3_setSenderKnows ⟨rfl, rfl⟩ (by decide) (by decide) rfl (Nat.le_of_ble_eq_true rfl) dX3_markAgain_40 h (fun S5 hF5 hn5 h => ?_)
      refine r_iinc C (y := (l4 + 1)) 2 dX3_markAgain_43 rfl rfl (by decide) rfl rfl ?_
      refine r_goto C dX3_markAgain_46 (tgt := 10) (by decide) ?_
      refine r_perm [1, 2, 0] rfl ?_
      exact h
set_option maxHeartbeats 4000000 in
set_option maxRecDepth 100000 in
theorem e3_markCame {S : Sto} {Q : Sto → Prop} (hF : Fx S) {p0 : Nat} {p1 : Int32} {p2 : Int32} (hp0 : al S p0 3) (h : ∀ X : Ctx, Ov X K3_markCame S Q → WP X 10 [(0, vr p0), (3, vi ((if 0 ≤ p1 then (if (p1 + p2) < 1000 then (p1 + p2) else 1000) else p1 : Int32))), (4, vi p1)] [] S 0 0) : Cv K3_markCame [vr p0, vi p1, vi p2] S Q := by
  refine Cv.intro rfl (Nat.le_of_ble_eq_true rfl) (fun X O => ?_)
  replace h := h X O
  have C := O.1
  have hn : sN S ≤ sN S := Nat.le_refl _
  show WP X 0 [(0, vr p0), (1, vi p1), (2, vi p2)] [] S 0 0
  refine r_aloadn C 0 dX3_markCame_0 rfl ?_
  refine r_iloadn C 1 dX3_markCame_1 rfl ?_
  refine r_iloadn C 2 dX3_markCame_2 rfl ?_
  refine r_callVi C K3_stop [vi p1, vi p2] [] hp0 (by decide) rfl cl_3_51 rm_3_markCame_3_stop ⟨rfl, rfl⟩ (by decide) (by decide) rfl (Nat.le_of_ble_eq_true rfl) dX3_markCame_3 (q3_stop (S := S) hF hp0) (fun x1 _ _ _ hq => ?_)
  obtain ⟨hqa, hqb⟩ := hq; obtain rfl := hqa.symm; obtain rfl := hqb.symm
  refine r_istoren C dX3_markCame_6 (by decide) rfl rfl ?_
  refine r_iloadn C 2 dX3_markCame_7 rfl ?_
  refine r_istore C dX3_markCame_8 (by decide) rfl rfl ?_
  refine r_perm [2, 1, 0] rfl ?_
  exact h
set_option maxHeartbeats 4000000 in
set_option maxRecDepth 100000 in
theorem s3_markCame_10 {X : Ctx} {S0 S : Sto} {Q : Sto → Prop} (hF : Fx S) (hn : sN S0 ≤ sN S) (O : Ov X K3_markCame S0 Q) {l0 : Nat} {l3 : Int32} {l4 : Int32} (hl0 : al S l0 3)  (h : (l3 ≤ l4 → (WP X 61 [(0, vr l0)] [] S 0 0)) ∧ (¬ l3 ≤ l4 → ((0 ≤ (l4 : Int32).toInt ∧ (l4 : Int32).toInt < (1000 : Nat)) ∧ ((¬ ((gI S (l0 + 1) l4.toNatClampNeg) &&& 4) = 0 → (WP X 10 [(0, vr l0), (3, vi l3), (4, vi (l4 + 1))] [] S 0 0)) ∧ (((gI S (l0 + 1) l4.toNatClampNeg) &&& 4) = 0 → (WP X 10 [(0, vr l0), (3, vi l3), (4, vi (l4 + 1))] [] (pI (pI S (l0 + 1) l4.toNatClampNeg (((((gI S (l0 + 1) l4.toNatClampNeg) ||| 4) : Int32).toInt8.toInt32 : Int32).toInt8.toInt32)) l0 10 ((gI (pI S (l0 + 1) l4.toNatClampNeg (((((gI S (l0 + 1) l4.toNatClampNeg) ||| 4) : Int32).toInt8.toInt32 : Int32).toInt8.toInt32)) l0 10) + 1)) 0 0)))))) : WP X 10 [(0, vr l0), (3, vi l3), (4, vi l4)] [] S 0 0 := by
  have C := O.1
  refine r_iload C 2 dX3_markCame_10 rfl ?_
  refine r_iloadn C 1 dX3_markCame_12 rfl ?_
  refine r_icmp_ge C dX3_markCame_13 (tgt := 61) (by decide) (fun hc1 => ?_) (fun hc1 => ?_)
  · replace h := h.1 hc1
    refine r_perm [0] rfl ?_
    exact h
  · replace h := h.2 hc1
    refine r_aloadn C 0 dX3_markCame_16 rfl ?_
    refine r_getR C hl0 fl_3_9 rfl (hF.rowR hl0) dX3_markCame_17 ?_
    refine r_iload C 2 dX3_markCame_20 rfl ?_
    obtain ⟨hi2, h⟩ := h
    refine r_bald C (hF.row hl0) (ixL (n := 1000) (Fx.rowL hl0) hi2) dX3_markCame_22 ?_
    refine r_iconst C (x := 4) dX3_markCame_23 (by decide) ?_
    refine r_iand C dX3_markCame_24 ?_
    refine r_if_ne C dX3_markCame_25 (tgt := 55) (by decide) (fun hc3 => ?_) (fun hc3 => ?_)
    · replace h := h.1 hc3
      refine r_iinc C (y := (l4 + 1)) 2 dX3_markCame_55 rfl rfl (by decide) rfl rfl ?_
      refine r_goto C dX3_markCame_58 (tgt := 10) (by decide) ?_
      refine r_perm [1, 2, 0] rfl ?_
      exact h
    · replace h := h.2 hc3
      refine r_aloadn C 0 dX3_markCame_28 rfl ?_
      refine r_getR C hl0 fl_3_9 rfl (hF.rowR hl0) dX3_markCame_29 ?_
      refine r_iload C 2 dX3_markCame_32 rfl ?_
      refine r_aloadn C 0 dX3_markCame_34 rfl ?_
      refine r_getR C hl0 fl_3_9 rfl (hF.rowR hl0) dX3_markCame_35 ?_
      refine r_iload C 2 dX3_markCame_38 rfl ?_
      refine r_bald C (hF.row hl0) (ixL (n := 1000) (Fx.rowL hl0) hi2) dX3_markCame_40 ?_
      refine r_iconst C (x := 4) dX3_markCame_41 (by decide) ?_
      refine r_ior C dX3_markCame_42 ?_
      refine r_i2b C dX3_markCame_43 ?_
      refine r_bast C (hF.row hl0) (ixL (n := 1000) (Fx.rowL hl0) hi2) dX3_markCame_44 ?_
      refine r_aloadn C 0 dX3_markCame_45 rfl ?_
      refine r_dup C rfl dX3_markCame_46 ?_
      refine r_getI C hl0 fl_3_67 rfl dX3_markCame_47 ?_
      refine r_iconst C (x := 1) dX3_markCame_50 (by decide) ?_
      refine r_iadd C dX3_markCame_51 ?_
      refine r_putI C hl0 fl_3_67 rfl rfl dX3_markCame_52 ?_
      refine r_iinc C (y := (l4 + 1)) 2 dX3_markCame_55 rfl rfl (by decide) rfl rfl ?_
      refine r_goto C dX3_markCame_58 (tgt := 10) (by decide) ?_
      refine r_perm [1, 2, 0] rfl ?_
      exact h
set_option maxHeartbeats 4000000 in
set_option maxRecDepth 100000 in
theorem s3_markCame_61 {X : Ctx} {S0 S : Sto} {Q : Sto → Prop} (hF : Fx S) (hn : sN S0 ≤ sN S) (O : Ov X K3_markCame S0 Q) {l0 : Nat} (hl0 : al S l0 3)  (h : (1000 ≤ (gI S l0 11) → (Q S)) ∧ (¬ 1000 ≤ (gI S l0 11) → ((0 ≤ ((gI S l0 11) : Int32).toInt ∧ ((gI S l0 11) : Int32).toInt < (1000 : Nat)) ∧ ((((gI S (l0 + 1) (gI S l0 11).toNatClampNeg) &&& 4) = 0 → (Q S)) ∧ (¬ ((gI S (l0 + 1) (gI S l0 11).toNatClampNeg) &&& 4) = 0 → (WP X 61 [(0, vr l0)] [] (pI S l0 11 ((gI S l0 11) + 1)) 0 0)))))) : WP X 61 [(0, vr l0)] [] S 0 0 := by
  have C := O.1
  refine r_aloadn C 0 dX3_markCame_61 rfl ?_
  refine r_getI C hl0 fl_3_70 rfl dX3_markCame_62 ?_
  refine r_sipush C (x := 1000) dX3_markCame_65 (by decide) ?_
  refine r_icmp_ge C dX3_markCame_68 (tgt := 98) (by decide) (fun hc2 => ?_) (fun hc2 => ?_)
  · replace h := h.1 hc2
    exact rv O rfl dX3_markCame_98 (by decide) (by decide) hF hn h
  · replace h := h.2 hc2
    refine r_aloadn C 0 dX3_markCame_71 rfl ?_
    refine r_getR C hl0 fl_3_9 rfl (hF.rowR hl0) dX3_markCame_72 ?_
    refine r_aloadn C 0 dX3_markCame_75 rfl ?_
    refine r_getI C hl0 fl_3_70 rfl dX3_markCame_76 ?_
    obtain ⟨hi3, h⟩ := h
    refine r_bald C (hF.row hl0) (ixL (n := 1000) (Fx.rowL hl0) hi3) dX3_markCame_79 ?_
    refine r_iconst C (x := 4) dX3_markCame_80 (by decide) ?_
    refine r_iand C dX3_markCame_81 ?_
    refine r_if_eq C dX3_markCame_82 (tgt := 98) (by decide) (fun hc4 => ?_) (fun hc4 => ?_)
    · replace h := h.1 hc4
      exact rv O rfl dX3_markCame_98 (by decide) (by decide) hF hn h
    · replace h := h.2 hc4
      refine r_aloadn C 0 dX3_markCame_85 rfl ?_
      refine r_dup C rfl dX3_markCame_86 ?_
      refine r_getI C hl0 fl_3_70 rfl dX3_markCame_87 ?_
      refine r_iconst C (x := 1) dX3_markCame_90 (by decide) ?_
      refine r_iadd C dX3_markCame_91 ?_
      refine r_putI C hl0 fl_3_70 rfl rfl dX3_markCame_92 ?_
      refine r_goto C dX3_markCame_95 (tgt := 61) (by decide) ?_
      refine r_perm [0] rfl ?_
      exact h
set_option maxHeartbeats 4000000 in
set_option maxRecDepth 100000 in
theorem e1_roomLeft {S : Sto} {Q : Int32 → Sto → Prop} (hF : Fx S) {p0 : Nat} (hp0 : al S p0 1) (h : Q ((gI S p0 4) - (gI S p0 8)) S) : Ci K1_roomLeft [vr p0] S Q := by
  refine Ci.intro rfl (Nat.le_of_ble_eq_true rfl) (fun X O => ?_)
  have C := O.1
  have hn : sN S ≤ sN S := Nat.le_refl _
  show WP X 0 [(0, vr p0)] [] S 0 0
  refine r_aloadn C 0 dX1_roomLeft_0 rfl ?_
  refine r_getI C hp0 fl_1_34 rfl dX1_roomLeft_1 ?_
  refine r_aloadn C 0 dX1_roomLeft_4 rfl ?_
  refine r_getI C hp0 fl_1_18 rfl dX1_roomLeft_5 ?_
  refine r_isub C dX1_roomLeft_8 ?_
  exact ri O ⟨_, rfl, rfl⟩ dX1_roomLeft_9 (by decide) (by decide) hF hn h
theorem q1_roomLeft {S : Sto} (hF : Fx S) {p0 : Nat} (hp0 : al S p0 1)  : Ci K1_roomLeft [vr p0] S (fun x S1 => x = ((gI S p0 4) - (gI S p0 8)) ∧ S1 = S) := by
  refine e1_roomLeft hF hp0 ?_
  exact ⟨rfl, rfl⟩
set_option maxHeartbeats 4000000 in
set_option maxRecDepth 100000 in
theorem e1_isInFlight {S : Sto} {Q : Int32 → Sto → Prop} (hF : Fx S) {p0 : Nat} (hp0 : al S p0 1) (h : ∀ w7 : Int32, w7 = (if (gI S p0 9) = 0 then 0 else (if (gI S p0 10) = 0 then (if (gI S p0 11) = 0 then 1 else 0 : Int32) else 0 : Int32) : Int32) → (Q w7 S)) : Ci K1_isInFlight [vr p0] S Q := by
  refine Ci.intro rfl (Nat.le_of_ble_eq_true rfl) (fun X O => ?_)
  have C := O.1
  have hn : sN S ≤ sN S := Nat.le_refl _
  show WP X 0 [(0, vr p0)] [] S 0 0
  refine r_aloadn C 0 dX1_isInFlight_0 rfl ?_
  refine r_getI C hp0 fl_1_37 rfl dX1_isInFlight_1 ?_
  have kJ8 : ∀ (w7 : Int32) (_ : w7 = (if (gI S p0 9) = 0 then 0 else (if (gI S p0 10) = 0 then (if (gI S p0 11) = 0 then 1 else 0 : Int32) else 0 : Int32) : Int32)), WP X 26 [] [vi w7] S 0 0 := by
    intro w7 hw7
    replace h := h w7 hw7
    have hz_w7 : w7 = 0 ∨ w7 = 1 := by rw [hw7]; repeat (first | exact Or.inl rfl | exact Or.inr rfl | assumption | split)
    exact ri O ⟨_, rfl, nar_z hz_w7⟩ dX1_isInFlight_26 (by decide) (by decide) hF hn h
  refine r_if_eq C dX1_isInFlight_4 (tgt := 25) (by decide) (fun hc9 => ?_) (fun hc9 => ?_)
  · refine r_iconst C (x := 0) dX1_isInFlight_25 (by decide) ?_
    refine r_perm [] rfl ?_
    exact kJ8 _ (if_pos hc9).symm
  · refine r_aloadn C 0 dX1_isInFlight_7 rfl ?_
    refine r_getI C hp0 fl_1_41 rfl dX1_isInFlight_8 ?_
    have kJ12 : WP X 26 [] [vi (if (gI S p0 10) = 0 then (if (gI S p0 11) = 0 then 1 else 0 : Int32) else 0 : Int32)] S 0 0 := by
      refine r_perm [] rfl ?_
      exact kJ8 _ (if_neg hc9).symm
    refine r_if_ne C dX1_isInFlight_11 (tgt := 25) (by decide) (fun hc13 => ?_) (fun hc13 => ?_)
    · refine r_iconst C (x := 0) dX1_isInFlight_25 (by decide) ?_
      refine r_perm [] rfl ?_
      rw [show (if (gI S p0 10) = 0 then (if (gI S p0 11) = 0 then 1 else 0 : Int32) else 0 : Int32) = 0 from if_neg hc13] at kJ12
      exact kJ12
    · refine r_aloadn C 0 dX1_isInFlight_14 rfl ?_
      refine r_getI C hp0 fl_1_44 rfl dX1_isInFlight_15 ?_
      have kJ14 : WP X 26 [] [vi (if (gI S p0 11) = 0 then 1 else 0 : Int32)] S 0 0 := by
        refine r_perm [] rfl ?_
        rw [show (if (gI S p0 10) = 0 then (if (gI S p0 11) = 0 then 1 else 0 : Int32) else 0 : Int32) = (if (gI S p0 11) = 0 then 1 else 0 : Int32) from if_pos hc13] at kJ12
        exact kJ12
      refine r_if_ne C dX1_isInFlight_18 (tgt := 25) (by decide) (fun hc15 => ?_) (fun hc15 => ?_)
      · refine r_iconst C (x := 0) dX1_isInFlight_25 (by decide) ?_
        refine r_perm [] rfl ?_
        rw [show (if (gI S p0 11) = 0 then 1 else 0 : Int32) = 0 from if_neg hc15] at kJ14
        exact kJ14
      · refine r_iconst C (x := 1) dX1_isInFlight_21 (by decide) ?_
        refine r_goto C dX1_isInFlight_22 (tgt := 26) (by decide) ?_
        refine r_perm [] rfl ?_
        rw [show (if (gI S p0 11) = 0 then 1 else 0 : Int32) = 1 from if_pos hc15] at kJ14
        exact kJ14
theorem q1_isInFlight {S : Sto} (hF : Fx S) {p0 : Nat} (hp0 : al S p0 1)  : Ci K1_isInFlight [vr p0] S (fun x S1 => x = ((if (gI S p0 9) = 0 then 0 else (if (gI S p0 10) = 0 then (if (gI S p0 11) = 0 then 1 else 0 : Int32) else 0 : Int32) : Int32)) ∧ S1 = S) := by
  refine e1_isInFlight hF hp0 ?_
  intro w hw; subst hw
  exact ⟨rfl, rfl⟩
set_option maxHeartbeats 4000000 in
set_option maxRecDepth 100000 in
theorem e1_partAt {S : Sto} {Q : Int32 → Sto → Prop} (hF : Fx S) {p0 : Nat} {p1 : Int32} {p2 : Int32} (hp0 : al S p0 1) (h : (0 ≤ (((p1 * 4) + p2) : Int32).toInt ∧ (((p1 * 4) + p2) : Int32).toInt < (64 : Nat)) ∧ (∀ w6 : Int32, w6 = (if ((p1 * 4) + p2) < 0 then 0 else (if ((p1 * 4) + p2) < 64 then (gI S (p0 + 1) ((p1 * 4) + p2).toNatClampNeg) else 0 : Int32) : Int32) → (Q w6 S))) : Ci K1_partAt [vr p0, vi p1, vi p2] S Q := by
  refine Ci.intro rfl (Nat.le_of_ble_eq_true rfl) (fun X O => ?_)
  have C := O.1
  have hn : sN S ≤ sN S := Nat.le_refl _
  show WP X 0 [(0, vr p0), (1, vi p1), (2, vi p2)] [] S 0 0
  refine r_iloadn C 1 dX1_partAt_0 rfl ?_
  refine r_iconst C (x := 4) dX1_partAt_1 (by decide) ?_
  refine r_imul C dX1_partAt_2 ?_
  refine r_iloadn C 2 dX1_partAt_3 rfl ?_
  refine r_iadd C dX1_partAt_4 ?_
  refine r_istoren C dX1_partAt_5 (by decide) rfl rfl ?_
  refine r_iloadn C 0 dX1_partAt_6 rfl ?_
  obtain ⟨hi5, h⟩ := h
  have kJ7 : ∀ (w6 : Int32) (_ : w6 = (if ((p1 * 4) + p2) < 0 then 0 else (if ((p1 * 4) + p2) < 64 then (gI S (p0 + 1) ((p1 * 4) + p2).toNatClampNeg) else 0 : Int32) : Int32)), WP X 29 [] [vi w6] S 0 0 := by
    intro w6 hw6
    replace h := h w6 hw6
    exact ri O ⟨_, rfl, rfl⟩ dX1_partAt_29 (by decide) (by decide) hF hn h
  refine r_if_lt C dX1_partAt_7 (tgt := 19) (by decide) (fun hc8 => ?_) (fun hc8 => ?_)
  · refine r_iconst C (x := 0) dX1_partAt_19 (by decide) ?_
    refine r_goto C dX1_partAt_20 (tgt := 29) (by decide) ?_
    refine r_perm [] rfl ?_
    exact kJ7 _ (if_pos hc8).symm
  · refine r_iloadn C 0 dX1_partAt_10 rfl ?_
    refine r_aloadn C 1 dX1_partAt_11 rfl ?_
    refine r_getR C hp0 fl_1_9 rfl (hF.partsR hp0) dX1_partAt_12 ?_
    refine r_alen C (hF.parts hp0) (by decide) (n := 64) (by rw [show ln (p0 + 1) = 64 from (Fx.partsL hp0)]; decide) dX1_partAt_15 ?_
    have kJ9 : WP X 29 [] [vi (if ((p1 * 4) + p2) < 64 then (gI S (p0 + 1) ((p1 * 4) + p2).toNatClampNeg) else 0 : Int32)] S 0 0 := by
      refine r_perm [] rfl ?_
      exact kJ7 _ (if_neg hc8).symm
    refine r_icmp_lt C dX1_partAt_16 (tgt := 23) (by decide) (fun hc10 => ?_) (fun hc10 => ?_)
    · refine r_aloadn C 1 dX1_partAt_23 rfl ?_
      refine r_getR C hp0 fl_1_9 rfl (hF.partsR hp0) dX1_partAt_24 ?_
      refine r_iloadn C 0 dX1_partAt_27 rfl ?_
      refine r_iald C (hF.parts hp0) (ixL (n := 64) (Fx.partsL hp0) hi5) dX1_partAt_28 ?_
      refine r_perm [] rfl ?_
      rw [show (if ((p1 * 4) + p2) < 64 then (gI S (p0 + 1) ((p1 * 4) + p2).toNatClampNeg) else 0 : Int32) = (gI S (p0 + 1) ((p1 * 4) + p2).toNatClampNeg) from if_pos hc10] at kJ9
      exact kJ9
    · refine r_iconst C (x := 0) dX1_partAt_19 (by decide) ?_
      refine r_goto C dX1_partAt_20 (tgt := 29) (by decide) ?_
      refine r_perm [] rfl ?_
      rw [show (if ((p1 * 4) + p2) < 64 then (gI S (p0 + 1) ((p1 * 4) + p2).toNatClampNeg) else 0 : Int32) = 0 from if_neg hc10] at kJ9
      exact kJ9
theorem q1_partAt {S : Sto} (hF : Fx S) {p0 : Nat} {p1 : Int32} {p2 : Int32} (hp0 : al S p0 1) (ho1 : 0 ≤ (((p1 * 4) + p2) : Int32).toInt ∧ (((p1 * 4) + p2) : Int32).toInt < (64 : Nat)) : Ci K1_partAt [vr p0, vi p1, vi p2] S (fun x S1 => x = ((if ((p1 * 4) + p2) < 0 then 0 else (if ((p1 * 4) + p2) < 64 then (gI S (p0 + 1) ((p1 * 4) + p2).toNatClampNeg) else 0 : Int32) : Int32)) ∧ S1 = S) := by
  refine e1_partAt hF hp0 ?_
  refine ⟨ho1, ?_⟩
  intro w hw; subst hw
  exact ⟨rfl, rfl⟩
set_option maxHeartbeats 4000000 in
set_option maxRecDepth 100000 in
theorem e1_weightOf {S : Sto} {Q : Int32 → Sto → Prop} (hF : Fx S) {p0 : Int32} {p1 : Int32}  (h : (p0 = 1 → (Q (6 + (4 * (p1 - 1))) S)) ∧ (p0 = 2 → (Q 5 S)) ∧ (p0 = 3 → (Q 5 S)) ∧ (p0 = 4 → (Q (8 + (p1 - p1 / 10000 * 10000)) S)) ∧ (p0 = 5 → (Q 7 S)) ∧ (p0 = 6 → (Q 9 S)) ∧ (p0 = 7 → (Q 9 S)) ∧ (¬ p0 = 1 → ¬ p0 = 2 → ¬ p0 = 3 → ¬ p0 = 4 → ¬ p0 = 5 → ¬ p0 = 6 → ¬ p0 = 7 → (Q 1 S))) : Ci K1_weightOf [vi p0, vi p1] S Q := by
  refine Ci.intro rfl (Nat.le_of_ble_eq_true rfl) (fun X O => ?_)
  have C := O.1
  have hn : sN S ≤ sN S := Nat.le_refl _
  show WP X 0 [(0, vi p0), (1, vi p1)] [] S 0 0
  refine r_iloadn C 0 dX1_weightOf_0 rfl ?_
  refine r_table C dX1_weightOf_1 rfl (by decide) (fun i off hi hx1 => ?_) (fun hx1 => ?_)
  · have hlt : i < 7 := (Array.getElem?_eq_some_iff.mp hi).1
    obtain rfl | rfl | rfl | rfl | rfl | rfl | rfl : i = 0 ∨ i = 1 ∨ i = 2 ∨ i = 3 ∨ i = 4 ∨ i = 5 ∨ i = 6 := by omega
    · obtain rfl := Option.some.inj hi
      replace h := h.1 (hx1.trans (by decide))
      refine ⟨44, by decide, ?_⟩
      refine r_bipush C (x := 6) dX1_weightOf_44 (by decide) ?_
      refine r_iconst C (x := 4) dX1_weightOf_46 (by decide) ?_
      refine r_iloadn C 1 dX1_weightOf_47 rfl ?_
      refine r_iconst C (x := 1) dX1_weightOf_48 (by decide) ?_
      refine r_isub C dX1_weightOf_49 ?_
      refine r_imul C dX1_weightOf_50 ?_
      refine r_iadd C dX1_weightOf_51 ?_
      exact ri O ⟨_, rfl, rfl⟩ dX1_weightOf_52 (by decide) (by decide) hF hn h
    · obtain rfl := Option.some.inj hi
      replace h := h.2.1 (hx1.trans (by decide))
      refine ⟨53, by decide, ?_⟩
      refine r_iconst C (x := 5) dX1_weightOf_53 (by decide) ?_
      exact ri O ⟨_, rfl, rfl⟩ dX1_weightOf_54 (by decide) (by decide) hF hn h
    · obtain rfl := Option.some.inj hi
      replace h := h.2.2.1 (hx1.trans (by decide))
      refine ⟨53, by decide, ?_⟩
      refine r_iconst C (x := 5) dX1_weightOf_53 (by decide) ?_
      exact ri O ⟨_, rfl, rfl⟩ dX1_weightOf_54 (by decide) (by decide) hF hn h
    · obtain rfl := Option.some.inj hi
      replace h := h.2.2.2.1 (hx1.trans (by decide))
      refine ⟨55, by decide, ?_⟩
      refine r_bipush C (x := 8) dX1_weightOf_55 (by decide) ?_
      refine r_iloadn C 1 dX1_weightOf_57 rfl ?_
      refine r_sipush C (x := 10000) dX1_weightOf_58 (by decide) ?_
      refine r_irem C dX1_weightOf_61 (by decide) ?_
      refine r_iadd C dX1_weightOf_62 ?_
      exact ri O ⟨_, rfl, rfl⟩ dX1_weightOf_63 (by decide) (by decide) hF hn h
    · obtain rfl := Option.some.inj hi
      replace h := h.2.2.2.2.1 (hx1.trans (by decide))
      refine ⟨64, by decide, ?_⟩
      refine r_bipush C (x := 7) dX1_weightOf_64 (by decide) ?_
      exact ri O ⟨_, rfl, rfl⟩ dX1_weightOf_66 (by decide) (by decide) hF hn h
    · obtain rfl := Option.some.inj hi
      replace h := h.2.2.2.2.2.1 (hx1.trans (by decide))
      refine ⟨67, by decide, ?_⟩
      refine r_bipush C (x := 9) dX1_weightOf_67 (by decide) ?_
      exact ri O ⟨_, rfl, rfl⟩ dX1_weightOf_69 (by decide) (by decide) hF hn h
    · obtain rfl := Option.some.inj hi
      replace h := h.2.2.2.2.2.2.1 (hx1.trans (by decide))
      refine ⟨67, by decide, ?_⟩
      refine r_bipush C (x := 9) dX1_weightOf_67 (by decide) ?_
      exact ri O ⟨_, rfl, rfl⟩ dX1_weightOf_69 (by decide) (by decide) hF hn h
  · replace h := h.2.2.2.2.2.2.2 (fun e => hx1 0 (by decide) (e.trans (by decide))) (fun e => hx1 1 (by decide) (e.trans (by decide))) (fun e => hx1 2 (by decide) (e.trans (by decide))) (fun e => hx1 3 (by decide) (e.trans (by decide))) (fun e => hx1 4 (by decide) (e.trans (by decide))) (fun e => hx1 5 (by decide) (e.trans (by decide))) (fun e => hx1 6 (by decide) (e.trans (by decide)))
    refine ⟨70, by decide, ?_⟩
    refine r_iconst C (x := 1) dX1_weightOf_70 (by decide) ?_
    exact ri O ⟨_, rfl, rfl⟩ dX1_weightOf_71 (by decide) (by decide) hF hn h
set_option maxHeartbeats 4000000 in
set_option maxRecDepth 100000 in
theorem e1_add {S : Sto} {Q : Int32 → Sto → Prop} (hF : Fx S) {p0 : Nat} {p1 : Int32} {p2 : Int32} {p3 : Int32} {p4 : Int32} (hp0 : al S p0 1) (h : Ci K1_weightOf [vi p1, vi p4] S (fun x1 S1 => (16 ≤ (gI S1 p0 7) → (Q 0 S1)) ∧ (¬ 16 ≤ (gI S1 p0 7) → ((x1 ≤ ((gI S1 p0 4) - (gI S1 p0 8)) → ((0 ≤ (((gI S1 p0 7) * 4) : Int32).toInt ∧ (((gI S1 p0 7) * 4) : Int32).toInt < (64 : Nat)) ∧ ((0 ≤ ((((gI S1 p0 7) * 4) + 1) : Int32).toInt ∧ ((((gI S1 p0 7) * 4) + 1) : Int32).toInt < (64 : Nat)) ∧ ((0 ≤ ((((gI S1 p0 7) * 4) + 2) : Int32).toInt ∧ ((((gI S1 p0 7) * 4) + 2) : Int32).toInt < (64 : Nat)) ∧ ((0 ≤ ((((gI S1 p0 7) * 4) + 3) : Int32).toInt ∧ ((((gI S1 p0 7) * 4) + 3) : Int32).toInt < (64 : Nat)) ∧ ((p1 = 1 → (Q 1 (pI (pI (pI (pI (pI (pI S1 (p0 + 1) ((gI S1 p0 7) * 4).toNatClampNeg p1) (p0 + 1) (((gI S1 p0 7) * 4) + 1).toNatClampNeg p2) (p0 + 1) (((gI S1 p0 7) * 4) + 2).toNatClampNeg p3) (p0 + 1) (((gI S1 p0 7) * 4) + 3).toNatClampNeg p4) p0 7 ((gI (pI (pI (pI (pI S1 (p0 + 1) ((gI S1 p0 7) * 4).toNatClampNeg p1) (p0 + 1) (((gI S1 p0 7) * 4) + 1).toNatClampNeg p2) (p0 + 1) (((gI S1 p0 7) * 4) + 2).toNatClampNeg p3) (p0 + 1) (((gI S1 p0 7) * 4) + 3).toNatClampNeg p4) p0 7) + 1)) p0 8 ((gI (pI (pI (pI (pI (pI S1 (p0 + 1) ((gI S1 p0 7) * 4).toNatClampNeg p1) (p0 + 1) (((gI S1 p0 7) * 4) + 1).toNatClampNeg p2) (p0 + 1) (((gI S1 p0 7) * 4) + 2).toNatClampNeg p3) (p0 + 1) (((gI S1 p0 7) * 4) + 3).toNatClampNeg p4) p0 7 ((gI (pI (pI (pI (pI S1 (p0 + 1) ((gI S1 p0 7) * 4).toNatClampNeg p1) (p0 + 1) (((gI S1 p0 7) * 4) + 1).toNatClampNeg p2) (p0 + 1) (((gI S1 p0 7) * 4) + 2).toNatClampNeg p3) (p0 + 1) (((gI S1 p0 7) * 4) + 3).toNatClampNeg p4) p0 7) + 1)) p0 8) + x1)))) ∧ (¬ p1 = 1 → (Q 1 (pI (pI (pI (pI (pI (pI (pI S1 (p0 + 1) ((gI S1 p0 7) * 4).toNatClampNeg p1) (p0 + 1) (((gI S1 p0 7) * 4) + 1).toNatClampNeg p2) (p0 + 1) (((gI S1 p0 7) * 4) + 2).toNatClampNeg p3) (p0 + 1) (((gI S1 p0 7) * 4) + 3).toNatClampNeg p4) p0 7 ((gI (pI (pI (pI (pI S1 (p0 + 1) ((gI S1 p0 7) * 4).toNatClampNeg p1) (p0 + 1) (((gI S1 p0 7) * 4) + 1).toNatClampNeg p2) (p0 + 1) (((gI S1 p0 7) * 4) + 2).toNatClampNeg p3) (p0 + 1) (((gI S1 p0 7) * 4) + 3).toNatClampNeg p4) p0 7) + 1)) p0 8 ((gI (pI (pI (pI (pI (pI S1 (p0 + 1) ((gI S1 p0 7) * 4).toNatClampNeg p1) (p0 + 1) (((gI S1 p0 7) * 4) + 1).toNatClampNeg p2) (p0 + 1) (((gI S1 p0 7) * 4) + 2).toNatClampNeg p3) (p0 + 1) (((gI S1 p0 7) * 4) + 3).toNatClampNeg p4) p0 7 ((gI (pI (pI (pI (pI S1 (p0 + 1) ((gI S1 p0 7) * 4).toNatClampNeg p1) (p0 + 1) (((gI S1 p0 7) * 4) + 1).toNatClampNeg p2) (p0 + 1) (((gI S1 p0 7) * 4) + 2).toNatClampNeg p3) (p0 + 1) (((gI S1 p0 7) * 4) + 3).toNatClampNeg p4) p0 7) + 1)) p0 8) + x1)) p0 9 1))))))))) ∧ (¬ x1 ≤ ((gI S1 p0 4) - (gI S1 p0 8)) → (Q 0 S1)))))) : Ci K1_add [vr p0, vi p1, vi p2, vi p3, vi p4] S Q := by
  refine Ci.intro rfl (Nat.le_of_ble_eq_true rfl) (fun X O => ?_)
  have C := O.1
  have hn : sN S ≤ sN S := Nat.le_refl _
  show WP X 0 [(0, vr p0), (1, vi p1), (2, vi p2), (3, vi p3), (4, vi p4)] [] S 0 0
  refine r_iloadn C 1 dX1_add_0 rfl ?_
  refine r_iload C 4 dX1_add_1 rfl ?_
  refine r_callSi C K1_weightOf [vi p1, vi p4] [] cl_1_47 rm_1_add_1_weightOf ⟨rfl, rfl⟩ (by decide) (by decide) rfl (Nat.le_of_ble_eq_true rfl) dX1_add_3 h (fun x1 S1 hF1 hn1 h => ?_)
  refine r_istore C dX1_add_6 (by decide) rfl rfl ?_
  refine r_aloadn C 1 dX1_add_8 rfl ?_
  refine r_getI C (al.mono hp0 hn1) fl_1_51 rfl dX1_add_9 ?_
  refine r_bipush C (x := 16) dX1_add_12 (by decide) ?_
  refine r_icmp_ge C dX1_add_14 (tgt := 26) (by decide) (fun hc2 => ?_) (fun hc2 => ?_)
  · replace h := h.1 hc2
    refine r_iconst C (x := 0) dX1_add_26 (by decide) ?_
    exact ri O ⟨_, rfl, nar_z (Or.inl rfl)⟩ dX1_add_27 (by decide) (by decide) hF1 (Nat.le_trans hn hn1) h
  · replace h := h.2 hc2
    refine r_iload C 0 dX1_add_17 rfl ?_
    refine r_aloadn C 1 dX1_add_19 rfl ?_
    refine r_callVi C K1_roomLeft [] [vi x1] (al.mono hp0 hn1) (by decide) rfl cl_1_54 rm_1_add_1_roomLeft ⟨rfl, rfl⟩ (by decide) (by decide) rfl (Nat.le_of_ble_eq_true rfl) dX1_add_20 (q1_roomLeft (S := S1) hF1 (al.mono hp0 hn1)) (fun x3 _ _ _ hq => ?_)
    obtain ⟨hqa, hqb⟩ := hq; obtain rfl := hqa.symm; obtain rfl := hqb.symm
    refine r_icmp_le C dX1_add_23 (tgt := 28) (by decide) (fun hc4 => ?_) (fun hc4 => ?_)
    · replace h := h.1 hc4
      refine r_aloadn C 1 dX1_add_28 rfl ?_
      refine r_getI C (al.mono hp0 hn1) fl_1_51 rfl dX1_add_29 ?_
      refine r_iconst C (x := 4) dX1_add_32 (by decide) ?_
      refine r_imul C dX1_add_33 ?_
      refine r_istore C dX1_add_34 (by decide) rfl rfl ?_
      refine r_aloadn C 2 dX1_add_36 rfl ?_
      refine r_getR C (al.mono hp0 hn1) fl_1_9 rfl (hF1.partsR (al.mono hp0 hn1)) dX1_add_37 ?_
      refine r_iload C 0 dX1_add_40 rfl ?_
      refine r_iloadn C 3 dX1_add_42 rfl ?_
      obtain ⟨hi5, h⟩ := h
      refine r_iast C (hF1.parts (al.mono hp0 hn1)) (ixL (n := 64) (Fx.partsL (al.mono hp0 hn1)) hi5) dX1_add_43 ?_
      refine r_aloadn C 2 dX1_add_44 rfl ?_
      refine r_getR C (al.mono hp0 hn1) fl_1_9 rfl (hF1.partsR (al.mono hp0 hn1)) dX1_add_45 ?_
      refine r_iload C 0 dX1_add_48 rfl ?_
      refine r_iconst C (x := 1) dX1_add_50 (by decide) ?_
      refine r_iadd C dX1_add_51 ?_
      refine r_iloadn C 4 dX1_add_52 rfl ?_
      obtain ⟨hi6, h⟩ := h
      refine r_iast C (hF1.parts (al.mono hp0 hn1)) (ixL (n := 64) (Fx.partsL (al.mono hp0 hn1)) hi6) dX1_add_53 ?_
      refine r_aloadn C 2 dX1_add_54 rfl ?_
      refine r_getR C (al.mono hp0 hn1) fl_1_9 rfl (hF1.partsR (al.mono hp0 hn1)) dX1_add_55 ?_
      refine r_iload C 0 dX1_add_58 rfl ?_
      refine r_iconst C (x := 2) dX1_add_60 (by decide) ?_
      refine r_iadd C dX1_add_61 ?_
      refine r_iloadn C 5 dX1_add_62 rfl ?_
      obtain ⟨hi7, h⟩ := h
      refine r_iast C (hF1.parts (al.mono hp0 hn1)) (ixL (n := 64) (Fx.partsL (al.mono hp0 hn1)) hi7) dX1_add_63 ?_
      refine r_aloadn C 2 dX1_add_64 rfl ?_
      refine r_getR C (al.mono hp0 hn1) fl_1_9 rfl (hF1.partsR (al.mono hp0 hn1)) dX1_add_65 ?_
      refine r_iload C 0 dX1_add_68 rfl ?_
      refine r_iconst C (x := 3) dX1_add_70 (by decide) ?_
      refine r_iadd C dX1_add_71 ?_
      refine r_iload C 6 dX1_add_72 rfl ?_
      obtain ⟨hi8, h⟩ := h
      refine r_iast C (hF1.parts (al.mono hp0 hn1)) (ixL (n := 64) (Fx.partsL (al.mono hp0 hn1)) hi8) dX1_add_74 ?_
      refine r_aloadn C 2 dX1_add_75 rfl ?_
      refine r_dup C rfl dX1_add_76 ?_
      refine r_getI C (al.mono hp0 hn1) fl_1_51 rfl dX1_add_77 ?_
      refine r_iconst C (x := 1) dX1_add_80 (by decide) ?_
      refine r_iadd C dX1_add_81 ?_
      refine r_putI C (al.mono hp0 hn1) fl_1_51 rfl rfl dX1_add_82 ?_
      refine r_aloadn C 2 dX1_add_85 rfl ?_
      refine r_dup C rfl dX1_add_86 ?_
      refine r_getI C (al.mono hp0 hn1) fl_1_18 rfl dX1_add_87 ?_
      refine r_iload C 1 dX1_add_90 rfl ?_
      refine r_iadd C dX1_add_92 ?_
      refine r_putI C (al.mono hp0 hn1) fl_1_18 rfl rfl dX1_add_93 ?_
      refine r_iloadn C 3 dX1_add_96 rfl ?_
      refine r_iconst C (x := 1) dX1_add_97 (by decide) ?_
      refine r_icmp_eq C dX1_add_98 (tgt := 106) (by decide) (fun hc9 => ?_) (fun hc9 => ?_)
      · replace h := h.1 hc9
        refine r_iconst C (x := 1) dX1_add_106 (by decide) ?_
        exact ri O ⟨_, rfl, nar_z (Or.inr rfl)⟩ dX1_add_107 (by decide) (by decide) hF1 (Nat.le_trans hn hn1) h
      · replace h := h.2 hc9
        refine r_aloadn C 2 dX1_add_101 rfl ?_
        refine r_iconst C (x := 1) dX1_add_102 (by decide) ?_
        refine r_putZ C (al.mono hp0 hn1) fl_1_37 rfl (Or.inr rfl) rfl dX1_add_103 ?_
        refine r_iconst C (x := 1) dX1_add_106 (by decide) ?_
        exact ri O ⟨_, rfl, nar_z (Or.inr rfl)⟩ dX1_add_107 (by decide) (by decide) hF1 (Nat.le_trans hn hn1) h
    · replace h := h.2 hc4
      refine r_iconst C (x := 0) dX1_add_26 (by decide) ?_
      exact ri O ⟨_, rfl, nar_z (Or.inl rfl)⟩ dX1_add_27 (by decide) (by decide) hF1 (Nat.le_trans hn hn1) h
set_option maxHeartbeats 4000000 in
set_option maxRecDepth 100000 in
theorem e2_packetAt {S : Sto} {Q : Option Nat → Sto → Prop} (hF : Fx S) {p0 : Nat} {p1 : Int32} (hp0 : al S p0 2) (h : (p1 < 0 → (Q none S)) ∧ (¬ p1 < 0 → (((gI S p0 3) ≤ p1 → (Q none S)) ∧ (¬ (gI S p0 3) ≤ p1 → ((p1 < 300 → ((0 ≤ (p1 : Int32).toInt ∧ (p1 : Int32).toInt < (300 : Nat)) ∧ (Q (gR S (p0 + 1) p1.toNatClampNeg) S))) ∧ (¬ p1 < 300 → (Q none S))))))) : Co K2_packetAt [vr p0, vi p1] S Q := by
  refine Co.intro rfl (Nat.le_of_ble_eq_true rfl) (fun X O => ?_)
  have C := O.1
  have hn : sN S ≤ sN S := Nat.le_refl _
  show WP X 0 [(0, vr p0), (1, vi p1)] [] S 0 0
  refine r_iloadn C 1 dX2_packetAt_0 rfl ?_
  refine r_if_lt C dX2_packetAt_1 (tgt := 19) (by decide) (fun hc3 => ?_) (fun hc3 => ?_)
  · replace h := h.1 hc3
    refine r_null C dX2_packetAt_19 ?_
    refine r_goto C dX2_packetAt_20 (tgt := 29) (by decide) ?_
    exact ra O ⟨_, rfl⟩ dX2_packetAt_29 (by decide) (by decide) hF hn h
  · replace h := h.2 hc3
    refine r_iloadn C 1 dX2_packetAt_4 rfl ?_
    refine r_aloadn C 0 dX2_packetAt_5 rfl ?_
    refine r_getI C hp0 fl_2_45 rfl dX2_packetAt_6 ?_
    refine r_icmp_ge C dX2_packetAt_9 (tgt := 19) (by decide) (fun hc6 => ?_) (fun hc6 => ?_)
    · replace h := h.1 hc6
      refine r_null C dX2_packetAt_19 ?_
      refine r_goto C dX2_packetAt_20 (tgt := 29) (by decide) ?_
      exact ra O ⟨_, rfl⟩ dX2_packetAt_29 (by decide) (by decide) hF hn h
    · replace h := h.2 hc6
      refine r_iloadn C 1 dX2_packetAt_12 rfl ?_
      refine r_sipush C (x := 300) dX2_packetAt_13 (by decide) ?_
      refine r_icmp_lt C dX2_packetAt_16 (tgt := 23) (by decide) (fun hc9 => ?_) (fun hc9 => ?_)
      · replace h := h.1 hc9
        refine r_aloadn C 0 dX2_packetAt_23 rfl ?_
        refine r_getR C hp0 fl_2_11 rfl (hF.pksR hp0) dX2_packetAt_24 ?_
        refine r_iloadn C 1 dX2_packetAt_27 rfl ?_
        obtain ⟨hi10, h⟩ := h
        refine r_aald C (o := (gR S (p0 + 1) p1.toNatClampNeg)) (hF.pks hp0) (by decide) (ixL (n := 300) (Fx.pksL hp0) hi10) rfl dX2_packetAt_28 ?_
        exact ra O ⟨_, rfl⟩ dX2_packetAt_29 (by decide) (by decide) hF hn h
      · replace h := h.2 hc9
        refine r_null C dX2_packetAt_19 ?_
        refine r_goto C dX2_packetAt_20 (tgt := 29) (by decide) ?_
        exact ra O ⟨_, rfl⟩ dX2_packetAt_29 (by decide) (by decide) hF hn h
