set_option maxHeartbeats 4000000 in
set_option maxRecDepth 100000 in
theorem e5_in {S : Sto} {Q : Int32 → Sto → Prop} (hF : Fx S) {p0 : Int64} {p2 : Int64} {p4 : Int64}  (h : ∀ w3 : Int32, w3 = (if (lg_cmp p0 p2) < 0 then 0 else (if 0 < (lg_cmp p0 p4) then 0 else 1 : Int32) : Int32) → (Q w3 S)) : Ci K5_in [vl p0, vl p2, vl p4] S Q := by
  refine Ci.intro rfl (Nat.le_of_ble_eq_true rfl) (fun X O => ?_)
  have C := O.1
  have hn : sN S ≤ sN S := Nat.le_refl _
  show WP X 0 [(0, vl p0), (2, vl p2), (4, vl p4)] [] S 0 0
  refine r_lloadn C 0 dX5_in_0 rfl ?_
  refine r_lloadn C 1 dX5_in_1 rfl ?_
  refine r_lcmp C dX5_in_2 ?_
  have kJ4 : ∀ (w3 : Int32) (_ : w3 = (if (lg_cmp p0 p2) < 0 then 0 else (if 0 < (lg_cmp p0 p4) then 0 else 1 : Int32) : Int32)), WP X 18 [] [vi w3] S 0 0 := by
    intro w3 hw3
    replace h := h w3 hw3
    have hz_w3 : w3 = 0 ∨ w3 = 1 := by rw [hw3]; repeat (first | exact Or.inl rfl | exact Or.inr rfl | assumption | split)
    exact ri O ⟨_, rfl, nar_z hz_w3⟩ dX5_in_18 (by decide) (by decide) hF hn h
  refine r_if_lt C dX5_in_3 (tgt := 17) (by decide) (fun hc5 => ?_) (fun hc5 => ?_)
  · refine r_iconst C (x := 0) dX5_in_17 (by decide) ?_
    refine r_perm [] rfl ?_
    exact kJ4 _ (if_pos hc5).symm
  · refine r_lloadn C 0 dX5_in_6 rfl ?_
    refine r_lload C 2 dX5_in_7 rfl ?_
    refine r_lcmp C dX5_in_9 ?_
    have kJ6 : WP X 18 [] [vi (if 0 < (lg_cmp p0 p4) then 0 else 1 : Int32)] S 0 0 := by
      refine r_perm [] rfl ?_
      exact kJ4 _ (if_neg hc5).symm
    refine r_if_gt C dX5_in_10 (tgt := 17) (by decide) (fun hc7 => ?_) (fun hc7 => ?_)
    · refine r_iconst C (x := 0) dX5_in_17 (by decide) ?_
      refine r_perm [] rfl ?_
      rw [show (if 0 < (lg_cmp p0 p4) then 0 else 1 : Int32) = 0 from if_pos hc7] at kJ6
      exact kJ6
    · refine r_iconst C (x := 1) dX5_in_13 (by decide) ?_
      refine r_goto C dX5_in_14 (tgt := 18) (by decide) ?_
      refine r_perm [] rfl ?_
      rw [show (if 0 < (lg_cmp p0 p4) then 0 else 1 : Int32) = 1 from if_neg hc7] at kJ6
      exact kJ6
theorem q5_in {S : Sto} (hF : Fx S) {p0 : Int64} {p2 : Int64} {p4 : Int64}   : Ci K5_in [vl p0, vl p2, vl p4] S (fun x S1 => x = ((if (lg_cmp p0 p2) < 0 then 0 else (if 0 < (lg_cmp p0 p4) then 0 else 1 : Int32) : Int32)) ∧ S1 = S) := by
  refine e5_in hF  ?_
  intro w hw; subst hw
  exact ⟨rfl, rfl⟩
theorem q5_inH {S : Sto} (hF : Fx S) {p0 p2 p4 : Int64} : Ci K5_in [vl p0, vl p2, vl p4] S (fun x S1 => x = (if p2.toInt ≤ p0.toInt ∧ p0.toInt ≤ p4.toInt then 1 else 0 : Int32) ∧ S1 = S) := by
  refine e5_in hF (fun w hw => ⟨?_, rfl⟩)
  rw [hw]
  simp only [lg_cmp_lt, lg_cmp_gt, Int64.lt_iff_toInt_lt]
  split <;> split <;> first | rfl | (split <;> first | rfl | omega) | omega
set_option maxHeartbeats 4000000 in
set_option maxRecDepth 100000 in
theorem e5_isStream {S : Sto} {Q : Int32 → Sto → Prop} (hF : Fx S) {p0 : Int32}  (h : Q (if (0 : Int64).toInt ≤ ((p0 : Int32).toInt64 : Int64).toInt ∧ ((p0 : Int32).toInt64 : Int64).toInt ≤ (7 : Int64).toInt then 1 else 0 : Int32) S) : Ci K5_isStream [vi p0] S Q := by
  refine Ci.intro rfl (Nat.le_of_ble_eq_true rfl) (fun X O => ?_)
  have C := O.1
  have hn : sN S ≤ sN S := Nat.le_refl _
  show WP X 0 [(0, vi p0)] [] S 0 0
  refine r_iloadn C 0 dX5_isStream_0 rfl ?_
  refine r_i2l C dX5_isStream_1 ?_
  refine r_lconst C dX5_isStream_2 (x := 0) (by decide) ?_
  refine r_ldc2 C (x := 7) (mB 807 (by decide +kernel) rfl) dX5_isStream_3 ?_
  refine r_callSi C K5_in [vl ((p0 : Int32).toInt64), vl 0, vl 7] [] cl_5_185 rm_5_isStream_5_in ⟨rfl, rfl⟩ (by decide) (by decide) rfl (Nat.le_of_ble_eq_true rfl) dX5_isStream_6 (q5_inH (S := S) hF) (fun x1 _ _ _ hq => ?_)
  obtain ⟨hqa, hqb⟩ := hq; obtain rfl := hqa.symm; obtain rfl := hqb.symm
  exact ri O ⟨_, rfl, nar_z (by repeat (first | exact Or.inl rfl | exact Or.inr rfl | split))⟩ dX5_isStream_9 (by decide) (by decide) hF hn h
theorem q5_isStream {S : Sto} (hF : Fx S) {p0 : Int32}   : Ci K5_isStream [vi p0] S (fun x S1 => x = (if (0 : Int64).toInt ≤ ((p0 : Int32).toInt64 : Int64).toInt ∧ ((p0 : Int32).toInt64 : Int64).toInt ≤ (7 : Int64).toInt then 1 else 0 : Int32) ∧ S1 = S) := by
  refine e5_isStream hF  ?_
  exact ⟨rfl, rfl⟩
set_option maxHeartbeats 4000000 in
set_option maxRecDepth 100000 in
theorem e5_isSide {S : Sto} {Q : Int32 → Sto → Prop} (hF : Fx S) {p0 : Int32}  (h : Q (if (0 : Int64).toInt ≤ ((p0 : Int32).toInt64 : Int64).toInt ∧ ((p0 : Int32).toInt64 : Int64).toInt ≤ (1 : Int64).toInt then 1 else 0 : Int32) S) : Ci K5_isSide [vi p0] S Q := by
  refine Ci.intro rfl (Nat.le_of_ble_eq_true rfl) (fun X O => ?_)
  have C := O.1
  have hn : sN S ≤ sN S := Nat.le_refl _
  show WP X 0 [(0, vi p0)] [] S 0 0
  refine r_iloadn C 0 dX5_isSide_0 rfl ?_
  refine r_i2l C dX5_isSide_1 ?_
  refine r_lconst C dX5_isSide_2 (x := 0) (by decide) ?_
  refine r_lconst C dX5_isSide_3 (x := 1) (by decide) ?_
  refine r_callSi C K5_in [vl ((p0 : Int32).toInt64), vl 0, vl 1] [] cl_5_185 rm_5_isSide_5_in ⟨rfl, rfl⟩ (by decide) (by decide) rfl (Nat.le_of_ble_eq_true rfl) dX5_isSide_4 (q5_inH (S := S) hF) (fun x1 _ _ _ hq => ?_)
  obtain ⟨hqa, hqb⟩ := hq; obtain rfl := hqa.symm; obtain rfl := hqb.symm
  exact ri O ⟨_, rfl, nar_z (by repeat (first | exact Or.inl rfl | exact Or.inr rfl | split))⟩ dX5_isSide_7 (by decide) (by decide) hF hn h
theorem q5_isSide {S : Sto} (hF : Fx S) {p0 : Int32}   : Ci K5_isSide [vi p0] S (fun x S1 => x = (if (0 : Int64).toInt ≤ ((p0 : Int32).toInt64 : Int64).toInt ∧ ((p0 : Int32).toInt64 : Int64).toInt ≤ (1 : Int64).toInt then 1 else 0 : Int32) ∧ S1 = S) := by
  refine e5_isSide hF  ?_
  exact ⟨rfl, rfl⟩
theorem q5_isStreamH {S : Sto} (hF : Fx S) {p0 : Int32} : Ci K5_isStream [vi p0] S (fun x S1 => x = (if 0 ≤ p0.toInt ∧ p0.toInt < 8 then 1 else 0 : Int32) ∧ S1 = S) := by
  refine e5_isStream hF ⟨?_, rfl⟩
  rw [Int32.toInt_toInt64, show (0 : Int64).toInt = 0 from rfl, show (7 : Int64).toInt = 7 from rfl]
  split <;> split <;> first | rfl | omega
theorem q5_isSideH {S : Sto} (hF : Fx S) {p0 : Int32} : Ci K5_isSide [vi p0] S (fun x S1 => x = (if 0 ≤ p0.toInt ∧ p0.toInt < 2 then 1 else 0 : Int32) ∧ S1 = S) := by
  refine e5_isSide hF ⟨?_, rfl⟩
  rw [Int32.toInt_toInt64, show (0 : Int64).toInt = 0 from rfl, show (1 : Int64).toInt = 1 from rfl]
  split <;> split <;> first | rfl | omega
set_option maxHeartbeats 4000000 in
set_option maxRecDepth 100000 in
theorem e5_asInt {S : Sto} {Q : Int32 → Sto → Prop} (hF : Fx S) {p0 : Int32}  (h : ∀ w1 : Int32, w1 = (if p0 = 0 then 0 else 1 : Int32) → (Q w1 S)) : Ci K5_asInt [vi p0] S Q := by
  refine Ci.intro rfl (Nat.le_of_ble_eq_true rfl) (fun X O => ?_)
  have C := O.1
  have hn : sN S ≤ sN S := Nat.le_refl _
  show WP X 0 [(0, vi p0)] [] S 0 0
  refine r_iloadn C 0 dX5_asInt_0 rfl ?_
  have kJ2 : ∀ (w1 : Int32) (_ : w1 = (if p0 = 0 then 0 else 1 : Int32)), WP X 9 [] [vi w1] S 0 0 := by
    intro w1 hw1
    replace h := h w1 hw1
    have hz_w1 : w1 = 0 ∨ w1 = 1 := by rw [hw1]; repeat (first | exact Or.inl rfl | exact Or.inr rfl | assumption | split)
    exact ri O ⟨_, rfl, rfl⟩ dX5_asInt_9 (by decide) (by decide) hF hn h
  refine r_if_eq C dX5_asInt_1 (tgt := 8) (by decide) (fun hc3 => ?_) (fun hc3 => ?_)
  · refine r_iconst C (x := 0) dX5_asInt_8 (by decide) ?_
    refine r_perm [] rfl ?_
    exact kJ2 _ (if_pos hc3).symm
  · refine r_iconst C (x := 1) dX5_asInt_4 (by decide) ?_
    refine r_goto C dX5_asInt_5 (tgt := 9) (by decide) ?_
    refine r_perm [] rfl ?_
    exact kJ2 _ (if_neg hc3).symm
theorem q5_asInt {S : Sto} (hF : Fx S) {p0 : Int32}   : Ci K5_asInt [vi p0] S (fun x S1 => x = ((if p0 = 0 then 0 else 1 : Int32)) ∧ S1 = S) := by
  refine e5_asInt hF  ?_
  intro w hw; subst hw
  exact ⟨rfl, rfl⟩
set_option maxHeartbeats 4000000 in
set_option maxRecDepth 100000 in
theorem e5_at {S : Sto} {Q : Int32 → Sto → Prop} (hF : Fx S) {p1 : Int32} {p2 : Int32}  (h : Q ((300 * p1) + p2) S) : Ci K5_at [vr 26, vi p1, vi p2] S Q := by
  refine Ci.intro rfl (Nat.le_of_ble_eq_true rfl) (fun X O => ?_)
  have C := O.1
  have hn : sN S ≤ sN S := Nat.le_refl _
  show WP X 0 [(0, vr 26), (1, vi p1), (2, vi p2)] [] S 0 0
  refine r_sipush C (x := 300) dX5_at_0 (by decide) ?_
  refine r_iloadn C 1 dX5_at_3 rfl ?_
  refine r_imul C dX5_at_4 ?_
  refine r_iloadn C 2 dX5_at_5 rfl ?_
  refine r_iadd C dX5_at_6 ?_
  exact ri O ⟨_, rfl, rfl⟩ dX5_at_7 (by decide) (by decide) hF hn h
theorem q5_at {S : Sto} (hF : Fx S) {p1 : Int32} {p2 : Int32}   : Ci K5_at [vr 26, vi p1, vi p2] S (fun x S1 => x = ((300 * p1) + p2) ∧ S1 = S) := by
  refine e5_at hF  ?_
  exact ⟨rfl, rfl⟩
set_option maxHeartbeats 4000000 in
set_option maxRecDepth 100000 in
theorem e5_begin {S : Sto} {Q : Sto → Prop} (hF : Fx S)   (h : ∀ X : Ctx, Ov X K5_begin S Q → WP X 2 [(0, vr 26), (1, vi 0)] [] S 0 0) : Cv K5_begin [vr 26] S Q := by
  refine Cv.intro rfl (Nat.le_of_ble_eq_true rfl) (fun X O => ?_)
  replace h := h X O
  have C := O.1
  have hn : sN S ≤ sN S := Nat.le_refl _
  show WP X 0 [(0, vr 26)] [] S 0 0
  refine r_iconst C (x := 0) dX5_begin_0 (by decide) ?_
  refine r_istoren C dX5_begin_1 (by decide) rfl rfl ?_
  refine r_perm [1, 0] rfl ?_
  exact h
set_option maxHeartbeats 4000000 in
set_option maxRecDepth 100000 in
theorem s5_begin_2 {X : Ctx} {S0 S : Sto} {Q : Sto → Prop} (hF : Fx S) (hn : sN S0 ≤ sN S) (O : Ov X K5_begin S0 Q) {l1 : Int32}   (h : (8 ≤ l1 → (WP X 44 [(0, vr 26), (1, vi 0)] [] S 0 0)) ∧ (¬ 8 ≤ l1 → ((0 ≤ (l1 : Int32).toInt ∧ (l1 : Int32).toInt < (8 : Nat)) ∧ (WP X 2 [(0, vr 26), (1, vi (l1 + 1))] [] (pI (pI (pI S 35 l1.toNatClampNeg (gI S 26 1)) 40 l1.toNatClampNeg (gI S 26 1)) 42 l1.toNatClampNeg (-6)) 0 0)))) : WP X 2 [(0, vr 26), (1, vi l1)] [] S 0 0 := by
  have C := O.1
  refine r_iloadn C 1 dX5_begin_2 rfl ?_
  refine r_bipush C (x := 8) dX5_begin_3 (by decide) ?_
  refine r_icmp_ge C dX5_begin_5 (tgt := 42) (by decide) (fun hc1 => ?_) (fun hc1 => ?_)
  · replace h := h.1 hc1
    refine r_iconst C (x := 0) dX5_begin_42 (by decide) ?_
    refine r_istoren C dX5_begin_43 (by decide) rfl rfl ?_
    refine r_perm [1, 0] rfl ?_
    exact h
  · replace h := h.2 hc1
    refine r_aloadn C 0 dX5_begin_8 rfl ?_
    refine r_getR C (hF.k (by decide) rfl) fl_5_45 rfl (o := some 35) (hF.mR (by decide) rfl rfl) dX5_begin_9 ?_
    refine r_iloadn C 1 dX5_begin_12 rfl ?_
    refine r_aloadn C 0 dX5_begin_13 rfl ?_
    refine r_getI C (hF.k (by decide) rfl) fl_5_13 rfl dX5_begin_14 ?_
    obtain ⟨hi2, h⟩ := h
    refine r_iast C (hF.k (by decide) rfl) (ixL (n := 8) rfl hi2) dX5_begin_17 ?_
    refine r_aloadn C 0 dX5_begin_18 rfl ?_
    refine r_getR C (hF.k (by decide) rfl) fl_5_61 rfl (o := some 40) (hF.mR (by decide) rfl rfl) dX5_begin_19 ?_
    refine r_iloadn C 1 dX5_begin_22 rfl ?_
    refine r_aloadn C 0 dX5_begin_23 rfl ?_
    refine r_getI C (hF.k (by decide) rfl) fl_5_13 rfl dX5_begin_24 ?_
    refine r_iast C (hF.k (by decide) rfl) (ixL (n := 8) rfl hi2) dX5_begin_27 ?_
    refine r_aloadn C 0 dX5_begin_28 rfl ?_
    refine r_getR C (hF.k (by decide) rfl) fl_5_67 rfl (o := some 42) (hF.mR (by decide) rfl rfl) dX5_begin_29 ?_
    refine r_iloadn C 1 dX5_begin_32 rfl ?_
    refine r_bipush C (x := (-6)) dX5_begin_33 (by decide) ?_
    refine r_iast C (hF.k (by decide) rfl) (ixL (n := 8) rfl hi2) dX5_begin_35 ?_
    refine r_iinc C (y := (l1 + 1)) 1 dX5_begin_36 rfl rfl (by decide) rfl rfl ?_
    refine r_goto C dX5_begin_39 (tgt := 2) (by decide) ?_
    refine r_perm [1, 0] rfl ?_
    exact h
set_option maxHeartbeats 4000000 in
set_option maxRecDepth 100000 in
theorem s5_begin_44 {X : Ctx} {S0 S : Sto} {Q : Sto → Prop} (hF : Fx S) (hn : sN S0 ≤ sN S) (O : Ov X K5_begin S0 Q) {l1 : Int32}   (h : (2 ≤ l1 → (Q S)) ∧ (¬ 2 ≤ l1 → ((0 ≤ (l1 : Int32).toInt ∧ (l1 : Int32).toInt < (2 : Nat)) ∧ (WP X 44 [(0, vr 26), (1, vi (l1 + 1))] [] (pI (pI (pI (pI (pI (pI (pI (pI (pI (pI (pI S 46 l1.toNatClampNeg (10 * (gI S 26 0))) 47 l1.toNatClampNeg 1000000) 48 l1.toNatClampNeg (-1)) 49 l1.toNatClampNeg (-6)) 50 l1.toNatClampNeg (-6)) 51 l1.toNatClampNeg (-6)) 54 l1.toNatClampNeg (-6)) 55 l1.toNatClampNeg (-6)) 57 l1.toNatClampNeg (gI S 26 2)) 59 l1.toNatClampNeg (gI S 26 2)) 61 l1.toNatClampNeg (l1 + 6)) 0 0)))) : WP X 44 [(0, vr 26), (1, vi l1)] [] S 0 0 := by
  have C := O.1
  refine r_iloadn C 1 dX5_begin_44 rfl ?_
  refine r_iconst C (x := 2) dX5_begin_45 (by decide) ?_
  refine r_icmp_ge C dX5_begin_46 (tgt := 153) (by decide) (fun hc1 => ?_) (fun hc1 => ?_)
  · replace h := h.1 hc1
    exact rv O rfl dX5_begin_153 (by decide) (by decide) hF hn h
  · replace h := h.2 hc1
    refine r_aloadn C 0 dX5_begin_49 rfl ?_
    refine r_getR C (hF.k (by decide) rfl) fl_5_79 rfl (o := some 46) (hF.mR (by decide) rfl rfl) dX5_begin_50 ?_
    refine r_iloadn C 1 dX5_begin_53 rfl ?_
    refine r_bipush C (x := 10) dX5_begin_54 (by decide) ?_
    refine r_aloadn C 0 dX5_begin_56 rfl ?_
    refine r_getI C (hF.k (by decide) rfl) fl_5_7 rfl dX5_begin_57 ?_
    refine r_imul C dX5_begin_60 ?_
    obtain ⟨hi2, h⟩ := h
    refine r_iast C (hF.k (by decide) rfl) (ixL (n := 2) rfl hi2) dX5_begin_61 ?_
    refine r_aloadn C 0 dX5_begin_62 rfl ?_
    refine r_getR C (hF.k (by decide) rfl) fl_5_82 rfl (o := some 47) (hF.mR (by decide) rfl rfl) dX5_begin_63 ?_
    refine r_iloadn C 1 dX5_begin_66 rfl ?_
    refine r_ldc C (x := 1000000) (mB 591 (by decide +kernel) rfl) dX5_begin_67 ?_
    refine r_iast C (hF.k (by decide) rfl) (ixL (n := 2) rfl hi2) dX5_begin_69 ?_
    refine r_aloadn C 0 dX5_begin_70 rfl ?_
    refine r_getR C (hF.k (by decide) rfl) fl_5_85 rfl (o := some 48) (hF.mR (by decide) rfl rfl) dX5_begin_71 ?_
    refine r_iloadn C 1 dX5_begin_74 rfl ?_
    refine r_iconst C (x := (-1)) dX5_begin_75 (by decide) ?_
    refine r_iast C (hF.k (by decide) rfl) (ixL (n := 2) rfl hi2) dX5_begin_76 ?_
    refine r_aloadn C 0 dX5_begin_77 rfl ?_
    refine r_getR C (hF.k (by decide) rfl) fl_5_88 rfl (o := some 49) (hF.mR (by decide) rfl rfl) dX5_begin_78 ?_
    refine r_iloadn C 1 dX5_begin_81 rfl ?_
    refine r_bipush C (x := (-6)) dX5_begin_82 (by decide) ?_
    refine r_iast C (hF.k (by decide) rfl) (ixL (n := 2) rfl hi2) dX5_begin_84 ?_
    refine r_aloadn C 0 dX5_begin_85 rfl ?_
    refine r_getR C (hF.k (by decide) rfl) fl_5_91 rfl (o := some 50) (hF.mR (by decide) rfl rfl) dX5_begin_86 ?_
    refine r_iloadn C 1 dX5_begin_89 rfl ?_
    refine r_bipush C (x := (-6)) dX5_begin_90 (by decide) ?_
    refine r_iast C (hF.k (by decide) rfl) (ixL (n := 2) rfl hi2) dX5_begin_92 ?_
    refine r_aloadn C 0 dX5_begin_93 rfl ?_
    refine r_getR C (hF.k (by decide) rfl) fl_5_94 rfl (o := some 51) (hF.mR (by decide) rfl rfl) dX5_begin_94 ?_
    refine r_iloadn C 1 dX5_begin_97 rfl ?_
    refine r_bipush C (x := (-6)) dX5_begin_98 (by decide) ?_
    refine r_iast C (hF.k (by decide) rfl) (ixL (n := 2) rfl hi2) dX5_begin_100 ?_
    refine r_aloadn C 0 dX5_begin_101 rfl ?_
    refine r_getR C (hF.k (by decide) rfl) fl_5_103 rfl (o := some 54) (hF.mR (by decide) rfl rfl) dX5_begin_102 ?_
    refine r_iloadn C 1 dX5_begin_105 rfl ?_
    refine r_bipush C (x := (-6)) dX5_begin_106 (by decide) ?_
    refine r_iast C (hF.k (by decide) rfl) (ixL (n := 2) rfl hi2) dX5_begin_108 ?_
    refine r_aloadn C 0 dX5_begin_109 rfl ?_
    refine r_getR C (hF.k (by decide) rfl) fl_5_106 rfl (o := some 55) (hF.mR (by decide) rfl rfl) dX5_begin_110 ?_
    refine r_iloadn C 1 dX5_begin_113 rfl ?_
    refine r_bipush C (x := (-6)) dX5_begin_114 (by decide) ?_
    refine r_iast C (hF.k (by decide) rfl) (ixL (n := 2) rfl hi2) dX5_begin_116 ?_
    refine r_aloadn C 0 dX5_begin_117 rfl ?_
    refine r_getR C (hF.k (by decide) rfl) fl_5_112 rfl (o := some 57) (hF.mR (by decide) rfl rfl) dX5_begin_118 ?_
    refine r_iloadn C 1 dX5_begin_121 rfl ?_
    refine r_aloadn C 0 dX5_begin_122 rfl ?_
    refine r_getI C (hF.k (by decide) rfl) fl_5_16 rfl dX5_begin_123 ?_
    refine r_iast C (hF.k (by decide) rfl) (ixL (n := 2) rfl hi2) dX5_begin_126 ?_
    refine r_aloadn C 0 dX5_begin_127 rfl ?_
    refine r_getR C (hF.k (by decide) rfl) fl_5_118 rfl (o := some 59) (hF.mR (by decide) rfl rfl) dX5_begin_128 ?_
    refine r_iloadn C 1 dX5_begin_131 rfl ?_
    refine r_aloadn C 0 dX5_begin_132 rfl ?_
    refine r_getI C (hF.k (by decide) rfl) fl_5_16 rfl dX5_begin_133 ?_
    refine r_iast C (hF.k (by decide) rfl) (ixL (n := 2) rfl hi2) dX5_begin_136 ?_
    refine r_aloadn C 0 dX5_begin_137 rfl ?_
    refine r_getR C (hF.k (by decide) rfl) fl_5_124 rfl (o := some 61) (hF.mR (by decide) rfl rfl) dX5_begin_138 ?_
    refine r_iloadn C 1 dX5_begin_141 rfl ?_
    refine r_iloadn C 1 dX5_begin_142 rfl ?_
    refine r_bipush C (x := 6) dX5_begin_143 (by decide) ?_
    refine r_iadd C dX5_begin_145 ?_
    refine r_iast C (hF.k (by decide) rfl) (ixL (n := 2) rfl hi2) dX5_begin_146 ?_
    refine r_iinc C (y := (l1 + 1)) 1 dX5_begin_147 rfl rfl (by decide) rfl rfl ?_
    refine r_goto C dX5_begin_150 (tgt := 44) (by decide) ?_
    refine r_perm [1, 0] rfl ?_
    exact h
set_option maxHeartbeats 4000000 in
set_option maxRecDepth 100000 in
theorem e5_shape {S : Sto} {Q : Int32 → Sto → Prop} (hF : Fx S) {p1 : Int32} {p2 : Int32} {p3 : Int32}  (h : ((if (60 : Int64).toInt ≤ ((p1 : Int32).toInt64 : Int64).toInt ∧ ((p1 : Int32).toInt64 : Int64).toInt ≤ (1000 : Int64).toInt then 1 else 0 : Int32) = 0 → (Q (-2) S)) ∧ (¬ (if (60 : Int64).toInt ≤ ((p1 : Int32).toInt64 : Int64).toInt ∧ ((p1 : Int32).toInt64 : Int64).toInt ≤ (1000 : Int64).toInt then 1 else 0 : Int32) = 0 → (((if (50 : Int64).toInt ≤ ((p2 : Int32).toInt64 : Int64).toInt ∧ ((p2 : Int32).toInt64 : Int64).toInt ≤ (1000 : Int64).toInt then 1 else 0 : Int32) = 0 → (Q (-2) S)) ∧ (¬ (if (50 : Int64).toInt ≤ ((p2 : Int32).toInt64 : Int64).toInt ∧ ((p2 : Int32).toInt64 : Int64).toInt ≤ (1000 : Int64).toInt then 1 else 0 : Int32) = 0 → ((¬ (if (50 : Int64).toInt ≤ ((p3 : Int32).toInt64 : Int64).toInt ∧ ((p3 : Int32).toInt64 : Int64).toInt ≤ (4000 : Int64).toInt then 1 else 0 : Int32) = 0 → (((gI S 26 4) = 0 → (Cv K5_begin [vr 26] (pI (pI (pI S 26 0 p1) 26 1 p2) 26 2 p3) (fun S8 => Q 1 S8))) ∧ (¬ (gI S 26 4) = 0 → (Q (-3) S)))) ∧ ((if (50 : Int64).toInt ≤ ((p3 : Int32).toInt64 : Int64).toInt ∧ ((p3 : Int32).toInt64 : Int64).toInt ≤ (4000 : Int64).toInt then 1 else 0 : Int32) = 0 → (Q (-2) S))))))) : Ci K5_shape [vr 26, vi p1, vi p2, vi p3] S Q := by
  refine Ci.intro rfl (Nat.le_of_ble_eq_true rfl) (fun X O => ?_)
  have C := O.1
  have hn : sN S ≤ sN S := Nat.le_refl _
  show WP X 0 [(0, vr 26), (1, vi p1), (2, vi p2), (3, vi p3)] [] S 0 0
  refine r_iloadn C 1 dX5_shape_0 rfl ?_
  refine r_i2l C dX5_shape_1 ?_
  refine r_ldc2 C (x := 60) (mB 793 (by decide +kernel) rfl) dX5_shape_2 ?_
  refine r_ldc2 C (x := 1000) (mB 794 (by decide +kernel) rfl) dX5_shape_5 ?_
  refine r_callSi C K5_in [vl ((p1 : Int32).toInt64), vl 60, vl 1000] [] cl_5_185 rm_5_shape_5_in ⟨rfl, rfl⟩ (by decide) (by decide) rfl (Nat.le_of_ble_eq_true rfl) dX5_shape_8 (q5_inH (S := S) hF) (fun x1 _ _ _ hq => ?_)
  obtain ⟨hqa, hqb⟩ := hq; obtain rfl := hqa.symm; obtain rfl := hqb.symm
  refine r_if_eq C dX5_shape_11 (tgt := 42) (by decide) (fun hc2 => ?_) (fun hc2 => ?_)
  · replace h := h.1 hc2
    refine r_bipush C (x := (-2)) dX5_shape_42 (by decide) ?_
    exact ri O ⟨_, rfl, rfl⟩ dX5_shape_44 (by decide) (by decide) hF hn h
  · replace h := h.2 hc2
    refine r_iloadn C 2 dX5_shape_14 rfl ?_
    refine r_i2l C dX5_shape_15 ?_
    refine r_ldc2 C (x := 50) (mB 798 (by decide +kernel) rfl) dX5_shape_16 ?_
    refine r_ldc2 C (x := 1000) (mB 794 (by decide +kernel) rfl) dX5_shape_19 ?_
    refine r_callSi C K5_in [vl ((p2 : Int32).toInt64), vl 50, vl 1000] [] cl_5_185 rm_5_shape_5_in ⟨rfl, rfl⟩ (by decide) (by decide) rfl (Nat.le_of_ble_eq_true rfl) dX5_shape_22 (q5_inH (S := S) hF) (fun x3 _ _ _ hq => ?_)
    obtain ⟨hqa, hqb⟩ := hq; obtain rfl := hqa.symm; obtain rfl := hqb.symm
    refine r_if_eq C dX5_shape_25 (tgt := 42) (by decide) (fun hc4 => ?_) (fun hc4 => ?_)
    · replace h := h.1 hc4
      refine r_bipush C (x := (-2)) dX5_shape_42 (by decide) ?_
      exact ri O ⟨_, rfl, rfl⟩ dX5_shape_44 (by decide) (by decide) hF hn h
    · replace h := h.2 hc4
      refine r_iloadn C 3 dX5_shape_28 rfl ?_
      refine r_i2l C dX5_shape_29 ?_
      refine r_ldc2 C (x := 50) (mB 798 (by decide +kernel) rfl) dX5_shape_30 ?_
      refine r_ldc2 C (x := 4000) (mB 799 (by decide +kernel) rfl) dX5_shape_33 ?_
      refine r_callSi C K5_in [vl ((p3 : Int32).toInt64), vl 50, vl 4000] [] cl_5_185 rm_5_shape_5_in ⟨rfl, rfl⟩ (by decide) (by decide) rfl (Nat.le_of_ble_eq_true rfl) dX5_shape_36 (q5_inH (S := S) hF) (fun x5 _ _ _ hq => ?_)
      obtain ⟨hqa, hqb⟩ := hq; obtain rfl := hqa.symm; obtain rfl := hqb.symm
      refine r_if_ne C dX5_shape_39 (tgt := 45) (by decide) (fun hc6 => ?_) (fun hc6 => ?_)
      · replace h := h.1 hc6
        refine r_aloadn C 0 dX5_shape_45 rfl ?_
        refine r_getI C (hF.k (by decide) rfl) fl_5_197 rfl dX5_shape_46 ?_
        refine r_if_eq C dX5_shape_49 (tgt := 55) (by decide) (fun hc7 => ?_) (fun hc7 => ?_)
        · replace h := h.1 hc7
          refine r_aloadn C 0 dX5_shape_55 rfl ?_
          refine r_iloadn C 1 dX5_shape_56 rfl ?_
          refine r_putI C (hF.k (by decide) rfl) fl_5_7 rfl rfl dX5_shape_57 ?_
          refine r_aloadn C 0 dX5_shape_60 rfl ?_
          refine r_iloadn C 2 dX5_shape_61 rfl ?_
          refine r_putI C (hF.k (by decide) rfl) fl_5_13 rfl rfl dX5_shape_62 ?_
          refine r_aloadn C 0 dX5_shape_65 rfl ?_
          refine r_iloadn C 3 dX5_shape_66 rfl ?_
          refine r_putI C (hF.k (by decide) rfl) fl_5_16 rfl rfl dX5_shape_67 ?_
          refine r_aloadn C 0 dX5_shape_70 rfl ?_
          refine r_callVv C K5_begin [] [] (hF.k (by decide) rfl) (by decide) rfl cl_5_179 rm_5_shape_5_begin ⟨rfl, rfl⟩ (by decide) (by decide) rfl (Nat.le_of_ble_eq_true rfl) dX5_shape_71 h (fun S8 hF8 hn8 h => ?_)
          refine r_iconst C (x := 1) dX5_shape_74 (by decide) ?_
          exact ri O ⟨_, rfl, rfl⟩ dX5_shape_75 (by decide) (by decide) hF8 (Nat.le_trans hn hn8) h
        · replace h := h.2 hc7
          refine r_bipush C (x := (-3)) dX5_shape_52 (by decide) ?_
          exact ri O ⟨_, rfl, rfl⟩ dX5_shape_54 (by decide) (by decide) hF hn h
      · replace h := h.2 hc6
        refine r_bipush C (x := (-2)) dX5_shape_42 (by decide) ?_
        exact ri O ⟨_, rfl, rfl⟩ dX5_shape_44 (by decide) (by decide) hF hn h
set_option maxHeartbeats 4000000 in
set_option maxRecDepth 100000 in
theorem e5_write {S : Sto} {Q : Int32 → Sto → Prop} (hF : Fx S) {p1 : Int32} {p2 : Int32}  (h : (¬ (if 0 ≤ (p1 : Int32).toInt ∧ (p1 : Int32).toInt < 8 then 1 else 0 : Int32) = 0 → ((¬ (if (1 : Int64).toInt ≤ ((p2 : Int32).toInt64 : Int64).toInt ∧ ((p2 : Int32).toInt64 : Int64).toInt ≤ (1000 : Int64).toInt then 1 else 0 : Int32) = 0 → ((0 ≤ (p1 : Int32).toInt ∧ (p1 : Int32).toInt < (8 : Nat)) ∧ ((¬ (gI S 28 p1.toNatClampNeg) = 0 → (Q (-3) S)) ∧ ((gI S 28 p1.toNatClampNeg) = 0 → (((gI S 29 p1.toNatClampNeg) = 0 → ((((gI S 27 p1.toNatClampNeg) + p2) ≤ 1000 → (Q (gI (pI S 27 p1.toNatClampNeg ((gI S 27 p1.toNatClampNeg) + p2)) 27 p1.toNatClampNeg) (pI (pI S 27 p1.toNatClampNeg ((gI S 27 p1.toNatClampNeg) + p2)) 26 4 1))) ∧ (¬ ((gI S 27 p1.toNatClampNeg) + p2) ≤ 1000 → (Q (-4) S)))) ∧ (¬ (gI S 29 p1.toNatClampNeg) = 0 → (Q (-3) S))))))) ∧ ((if (1 : Int64).toInt ≤ ((p2 : Int32).toInt64 : Int64).toInt ∧ ((p2 : Int32).toInt64 : Int64).toInt ≤ (1000 : Int64).toInt then 1 else 0 : Int32) = 0 → (Q (-2) S)))) ∧ ((if 0 ≤ (p1 : Int32).toInt ∧ (p1 : Int32).toInt < 8 then 1 else 0 : Int32) = 0 → (Q (-1) S))) : Ci K5_write [vr 26, vi p1, vi p2] S Q := by
  refine Ci.intro rfl (Nat.le_of_ble_eq_true rfl) (fun X O => ?_)
  have C := O.1
  have hn : sN S ≤ sN S := Nat.le_refl _
  show WP X 0 [(0, vr 26), (1, vi p1), (2, vi p2)] [] S 0 0
  refine r_iloadn C 1 dX5_write_0 rfl ?_
  refine r_callSi C K5_isStream [vi p1] [] cl_5_201 rm_5_write_5_isStream ⟨rfl, rfl⟩ (by decide) (by decide) rfl (Nat.le_of_ble_eq_true rfl) dX5_write_1 (q5_isStreamH (S := S) hF) (fun x1 _ _ _ hq => ?_)
  obtain ⟨hqa, hqb⟩ := hq; obtain rfl := hqa.symm; obtain rfl := hqb.symm
  refine r_if_ne C dX5_write_4 (tgt := 9) (by decide) (fun hc2 => ?_) (fun hc2 => ?_)
  · replace h := h.1 hc2
    refine r_iloadn C 2 dX5_write_9 rfl ?_
    refine r_i2l C dX5_write_10 ?_
    refine r_lconst C dX5_write_11 (x := 1) (by decide) ?_
    refine r_ldc2 C (x := 1000) (mB 794 (by decide +kernel) rfl) dX5_write_12 ?_
    refine r_callSi C K5_in [vl ((p2 : Int32).toInt64), vl 1, vl 1000] [] cl_5_185 rm_5_write_5_in ⟨rfl, rfl⟩ (by decide) (by decide) rfl (Nat.le_of_ble_eq_true rfl) dX5_write_15 (q5_inH (S := S) hF) (fun x3 _ _ _ hq => ?_)
    obtain ⟨hqa, hqb⟩ := hq; obtain rfl := hqa.symm; obtain rfl := hqb.symm
    refine r_if_ne C dX5_write_18 (tgt := 24) (by decide) (fun hc4 => ?_) (fun hc4 => ?_)
    · replace h := h.1 hc4
      refine r_aloadn C 0 dX5_write_24 rfl ?_
      refine r_getR C (hF.k (by decide) rfl) fl_5_23 rfl (o := some 28) (hF.mR (by decide) rfl rfl) dX5_write_25 ?_
      refine r_iloadn C 1 dX5_write_28 rfl ?_
      obtain ⟨hi5, h⟩ := h
      refine r_zald C (hF.k (by decide) rfl) (ixL (n := 8) rfl hi5) dX5_write_29 ?_
      refine r_if_ne C dX5_write_30 (tgt := 42) (by decide) (fun hc6 => ?_) (fun hc6 => ?_)
      · replace h := h.1 hc6
        refine r_bipush C (x := (-3)) dX5_write_42 (by decide) ?_
        exact ri O ⟨_, rfl, rfl⟩ dX5_write_44 (by decide) (by decide) hF hn h
      · replace h := h.2 hc6
        refine r_aloadn C 0 dX5_write_33 rfl ?_
        refine r_getR C (hF.k (by decide) rfl) fl_5_27 rfl (o := some 29) (hF.mR (by decide) rfl rfl) dX5_write_34 ?_
        refine r_iloadn C 1 dX5_write_37 rfl ?_
        refine r_zald C (hF.k (by decide) rfl) (ixL (n := 8) rfl hi5) dX5_write_38 ?_
        refine r_if_eq C dX5_write_39 (tgt := 45) (by decide) (fun hc7 => ?_) (fun hc7 => ?_)
        · replace h := h.1 hc7
          refine r_aloadn C 0 dX5_write_45 rfl ?_
          refine r_getR C (hF.k (by decide) rfl) fl_5_19 rfl (o := some 27) (hF.mR (by decide) rfl rfl) dX5_write_46 ?_
          refine r_iloadn C 1 dX5_write_49 rfl ?_
          refine r_iald C (hF.k (by decide) rfl) (ixL (n := 8) rfl hi5) dX5_write_50 ?_
          refine r_iloadn C 2 dX5_write_51 rfl ?_
          refine r_iadd C dX5_write_52 ?_
          refine r_sipush C (x := 1000) dX5_write_53 (by decide) ?_
          refine r_icmp_le C dX5_write_56 (tgt := 62) (by decide) (fun hc8 => ?_) (fun hc8 => ?_)
          · replace h := h.1 hc8
            refine r_aloadn C 0 dX5_write_62 rfl ?_
            refine r_getR C (hF.k (by decide) rfl) fl_5_19 rfl (o := some 27) (hF.mR (by decide) rfl rfl) dX5_write_63 ?_
            refine r_iloadn C 1 dX5_write_66 rfl ?_
            refine r_dup2 C rfl rfl dX5_write_67 ?_
            refine r_iald C (hF.k (by decide) rfl) (ixL (n := 8) rfl hi5) dX5_write_68 ?_
            refine r_iloadn C 2 dX5_write_69 rfl ?_
            refine r_iadd C dX5_write_70 ?_
            refine r_iast C (hF.k (by decide) rfl) (ixL (n := 8) rfl hi5) dX5_write_71 ?_
            refine r_aloadn C 0 dX5_write_72 rfl ?_
            refine r_iconst C (x := 1) dX5_write_73 (by decide) ?_
            refine r_putZ C (hF.k (by decide) rfl) fl_5_197 rfl (Or.inr rfl) rfl dX5_write_74 ?_
            refine r_aloadn C 0 dX5_write_77 rfl ?_
            refine r_getR C (hF.k (by decide) rfl) fl_5_19 rfl (o := some 27) (hF.mR (by decide) rfl rfl) dX5_write_78 ?_
            refine r_iloadn C 1 dX5_write_81 rfl ?_
            refine r_iald C (hF.k (by decide) rfl) (ixL (n := 8) rfl hi5) dX5_write_82 ?_
            exact ri O ⟨_, rfl, rfl⟩ dX5_write_83 (by decide) (by decide) hF hn h
          · replace h := h.2 hc8
            refine r_bipush C (x := (-4)) dX5_write_59 (by decide) ?_
            exact ri O ⟨_, rfl, rfl⟩ dX5_write_61 (by decide) (by decide) hF hn h
        · replace h := h.2 hc7
          refine r_bipush C (x := (-3)) dX5_write_42 (by decide) ?_
          exact ri O ⟨_, rfl, rfl⟩ dX5_write_44 (by decide) (by decide) hF hn h
    · replace h := h.2 hc4
      refine r_bipush C (x := (-2)) dX5_write_21 (by decide) ?_
      exact ri O ⟨_, rfl, rfl⟩ dX5_write_23 (by decide) (by decide) hF hn h
  · replace h := h.2 hc2
    refine r_iconst C (x := (-1)) dX5_write_7 (by decide) ?_
    exact ri O ⟨_, rfl, rfl⟩ dX5_write_8 (by decide) (by decide) hF hn h
set_option maxHeartbeats 4000000 in
set_option maxRecDepth 100000 in
theorem e5_end {S : Sto} {Q : Int32 → Sto → Prop} (hF : Fx S) {p1 : Int32}  (h : (¬ (if 0 ≤ (p1 : Int32).toInt ∧ (p1 : Int32).toInt < 8 then 1 else 0 : Int32) = 0 → ((0 ≤ (p1 : Int32).toInt ∧ (p1 : Int32).toInt < (8 : Nat)) ∧ ((¬ (gI S 28 p1.toNatClampNeg) = 0 → (Q (-3) S)) ∧ ((gI S 28 p1.toNatClampNeg) = 0 → (((gI S 29 p1.toNatClampNeg) = 0 → (Q 1 (pI (pI S 28 p1.toNatClampNeg 1) 26 4 1))) ∧ (¬ (gI S 29 p1.toNatClampNeg) = 0 → (Q (-3) S))))))) ∧ ((if 0 ≤ (p1 : Int32).toInt ∧ (p1 : Int32).toInt < 8 then 1 else 0 : Int32) = 0 → (Q (-1) S))) : Ci K5_end [vr 26, vi p1] S Q := by
  refine Ci.intro rfl (Nat.le_of_ble_eq_true rfl) (fun X O => ?_)
  have C := O.1
  have hn : sN S ≤ sN S := Nat.le_refl _
  show WP X 0 [(0, vr 26), (1, vi p1)] [] S 0 0
  refine r_iloadn C 1 dX5_end_0 rfl ?_
  refine r_callSi C K5_isStream [vi p1] [] cl_5_201 rm_5_end_5_isStream ⟨rfl, rfl⟩ (by decide) (by decide) rfl (Nat.le_of_ble_eq_true rfl) dX5_end_1 (q5_isStreamH (S := S) hF) (fun x1 _ _ _ hq => ?_)
  obtain ⟨hqa, hqb⟩ := hq; obtain rfl := hqa.symm; obtain rfl := hqb.symm
  refine r_if_ne C dX5_end_4 (tgt := 9) (by decide) (fun hc2 => ?_) (fun hc2 => ?_)
  · replace h := h.1 hc2
    refine r_aloadn C 0 dX5_end_9 rfl ?_
    refine r_getR C (hF.k (by decide) rfl) fl_5_23 rfl (o := some 28) (hF.mR (by decide) rfl rfl) dX5_end_10 ?_
    refine r_iloadn C 1 dX5_end_13 rfl ?_
    obtain ⟨hi3, h⟩ := h
    refine r_zald C (hF.k (by decide) rfl) (ixL (n := 8) rfl hi3) dX5_end_14 ?_
    refine r_if_ne C dX5_end_15 (tgt := 27) (by decide) (fun hc4 => ?_) (fun hc4 => ?_)
    · replace h := h.1 hc4
      refine r_bipush C (x := (-3)) dX5_end_27 (by decide) ?_
      exact ri O ⟨_, rfl, rfl⟩ dX5_end_29 (by decide) (by decide) hF hn h
    · replace h := h.2 hc4
      refine r_aloadn C 0 dX5_end_18 rfl ?_
      refine r_getR C (hF.k (by decide) rfl) fl_5_27 rfl (o := some 29) (hF.mR (by decide) rfl rfl) dX5_end_19 ?_
      refine r_iloadn C 1 dX5_end_22 rfl ?_
      refine r_zald C (hF.k (by decide) rfl) (ixL (n := 8) rfl hi3) dX5_end_23 ?_
      refine r_if_eq C dX5_end_24 (tgt := 30) (by decide) (fun hc5 => ?_) (fun hc5 => ?_)
      · replace h := h.1 hc5
        refine r_aloadn C 0 dX5_end_30 rfl ?_
        refine r_getR C (hF.k (by decide) rfl) fl_5_23 rfl (o := some 28) (hF.mR (by decide) rfl rfl) dX5_end_31 ?_
        refine r_iloadn C 1 dX5_end_34 rfl ?_
        refine r_iconst C (x := 1) dX5_end_35 (by decide) ?_
        refine r_zast C (hF.k (by decide) rfl) (Or.inr rfl) (ixL (n := 8) rfl hi3) dX5_end_36 ?_
        refine r_aloadn C 0 dX5_end_37 rfl ?_
        refine r_iconst C (x := 1) dX5_end_38 (by decide) ?_
        refine r_putZ C (hF.k (by decide) rfl) fl_5_197 rfl (Or.inr rfl) rfl dX5_end_39 ?_
        refine r_iconst C (x := 1) dX5_end_42 (by decide) ?_
        exact ri O ⟨_, rfl, rfl⟩ dX5_end_43 (by decide) (by decide) hF hn h
      · replace h := h.2 hc5
        refine r_bipush C (x := (-3)) dX5_end_27 (by decide) ?_
        exact ri O ⟨_, rfl, rfl⟩ dX5_end_29 (by decide) (by decide) hF hn h
  · replace h := h.2 hc2
    refine r_iconst C (x := (-1)) dX5_end_7 (by decide) ?_
    exact ri O ⟨_, rfl, rfl⟩ dX5_end_8 (by decide) (by decide) hF hn h
set_option maxHeartbeats 4000000 in
set_option maxRecDepth 100000 in
theorem e5_cut {S : Sto} {Q : Int32 → Sto → Prop} (hF : Fx S) {p1 : Int32}  (h : (¬ (if 0 ≤ (p1 : Int32).toInt ∧ (p1 : Int32).toInt < 8 then 1 else 0 : Int32) = 0 → ((0 ≤ (p1 : Int32).toInt ∧ (p1 : Int32).toInt < (8 : Nat)) ∧ (((gI S 29 p1.toNatClampNeg) = 0 → (Q 1 (pI (pI (pI S 29 p1.toNatClampNeg 1) 30 p1.toNatClampNeg 1) 26 4 1))) ∧ (¬ (gI S 29 p1.toNatClampNeg) = 0 → (Q (-3) S))))) ∧ ((if 0 ≤ (p1 : Int32).toInt ∧ (p1 : Int32).toInt < 8 then 1 else 0 : Int32) = 0 → (Q (-1) S))) : Ci K5_cut [vr 26, vi p1] S Q := by
  refine Ci.intro rfl (Nat.le_of_ble_eq_true rfl) (fun X O => ?_)
  have C := O.1
  have hn : sN S ≤ sN S := Nat.le_refl _
  show WP X 0 [(0, vr 26), (1, vi p1)] [] S 0 0
  refine r_iloadn C 1 dX5_cut_0 rfl ?_
  refine r_callSi C K5_isStream [vi p1] [] cl_5_201 rm_5_cut_5_isStream ⟨rfl, rfl⟩ (by decide) (by decide) rfl (Nat.le_of_ble_eq_true rfl) dX5_cut_1 (q5_isStreamH (S := S) hF) (fun x1 _ _ _ hq => ?_)
  obtain ⟨hqa, hqb⟩ := hq; obtain rfl := hqa.symm; obtain rfl := hqb.symm
  refine r_if_ne C dX5_cut_4 (tgt := 9) (by decide) (fun hc2 => ?_) (fun hc2 => ?_)
  · replace h := h.1 hc2
    refine r_aloadn C 0 dX5_cut_9 rfl ?_
    refine r_getR C (hF.k (by decide) rfl) fl_5_27 rfl (o := some 29) (hF.mR (by decide) rfl rfl) dX5_cut_10 ?_
    refine r_iloadn C 1 dX5_cut_13 rfl ?_
    obtain ⟨hi3, h⟩ := h
    refine r_zald C (hF.k (by decide) rfl) (ixL (n := 8) rfl hi3) dX5_cut_14 ?_
    refine r_if_eq C dX5_cut_15 (tgt := 21) (by decide) (fun hc4 => ?_) (fun hc4 => ?_)
    · replace h := h.1 hc4
      refine r_aloadn C 0 dX5_cut_21 rfl ?_
      refine r_getR C (hF.k (by decide) rfl) fl_5_27 rfl (o := some 29) (hF.mR (by decide) rfl rfl) dX5_cut_22 ?_
      refine r_iloadn C 1 dX5_cut_25 rfl ?_
      refine r_iconst C (x := 1) dX5_cut_26 (by decide) ?_
      refine r_zast C (hF.k (by decide) rfl) (Or.inr rfl) (ixL (n := 8) rfl hi3) dX5_cut_27 ?_
      refine r_aloadn C 0 dX5_cut_28 rfl ?_
      refine r_getR C (hF.k (by decide) rfl) fl_5_30 rfl (o := some 30) (hF.mR (by decide) rfl rfl) dX5_cut_29 ?_
      refine r_iloadn C 1 dX5_cut_32 rfl ?_
      refine r_iconst C (x := 1) dX5_cut_33 (by decide) ?_
      refine r_zast C (hF.k (by decide) rfl) (Or.inr rfl) (ixL (n := 8) rfl hi3) dX5_cut_34 ?_
      refine r_aloadn C 0 dX5_cut_35 rfl ?_
      refine r_iconst C (x := 1) dX5_cut_36 (by decide) ?_
      refine r_putZ C (hF.k (by decide) rfl) fl_5_197 rfl (Or.inr rfl) rfl dX5_cut_37 ?_
      refine r_iconst C (x := 1) dX5_cut_40 (by decide) ?_
      exact ri O ⟨_, rfl, rfl⟩ dX5_cut_41 (by decide) (by decide) hF hn h
    · replace h := h.2 hc4
      refine r_bipush C (x := (-3)) dX5_cut_18 (by decide) ?_
      exact ri O ⟨_, rfl, rfl⟩ dX5_cut_20 (by decide) (by decide) hF hn h
  · replace h := h.2 hc2
    refine r_iconst C (x := (-1)) dX5_cut_7 (by decide) ?_
    exact ri O ⟨_, rfl, rfl⟩ dX5_cut_8 (by decide) (by decide) hF hn h
set_option maxHeartbeats 4000000 in
set_option maxRecDepth 100000 in
theorem e5_allRead {S : Sto} {Q : Int32 → Sto → Prop} (hF : Fx S) {p1 : Int32}  (h : ∀ X : Ctx, Oi X K5_allRead S Q → WP X 6 [(0, vr 26), (2, vi 0), (3, vi (1 - p1))] [] S 0 0) : Ci K5_allRead [vr 26, vi p1] S Q := by
  refine Ci.intro rfl (Nat.le_of_ble_eq_true rfl) (fun X O => ?_)
  replace h := h X O
  have C := O.1
  have hn : sN S ≤ sN S := Nat.le_refl _
  show WP X 0 [(0, vr 26), (1, vi p1)] [] S 0 0
  refine r_iconst C (x := 0) dX5_allRead_0 (by decide) ?_
  refine r_istoren C dX5_allRead_1 (by decide) rfl rfl ?_
  refine r_iconst C (x := 1) dX5_allRead_2 (by decide) ?_
  refine r_iloadn C 2 dX5_allRead_3 rfl ?_
  refine r_isub C dX5_allRead_4 ?_
  refine r_istoren C dX5_allRead_5 (by decide) rfl rfl ?_
  refine r_perm [2, 1, 0] rfl ?_
  exact h
set_option maxHeartbeats 4000000 in
set_option maxRecDepth 100000 in
theorem s5_allRead_6 {X : Ctx} {S0 S : Sto} {Q : Int32 → Sto → Prop} (hF : Fx S) (hn : sN S0 ≤ sN S) (O : Oi X K5_allRead S0 Q) {l2 : Int32} {l3 : Int32}   (h : (8 ≤ l3 → (Q l2 S)) ∧ (¬ 8 ≤ l3 → ((0 ≤ (l3 : Int32).toInt ∧ (l3 : Int32).toInt < (8 : Nat)) ∧ (WP X 6 [(0, vr 26), (2, vi (l2 + (gI S 39 l3.toNatClampNeg))), (3, vi (l3 + 2))] [] S 0 0)))) : WP X 6 [(0, vr 26), (2, vi l2), (3, vi l3)] [] S 0 0 := by
  have C := O.1
  refine r_iloadn C 2 dX5_allRead_6 rfl ?_
  refine r_bipush C (x := 8) dX5_allRead_7 (by decide) ?_
  refine r_icmp_ge C dX5_allRead_9 (tgt := 27) (by decide) (fun hc2 => ?_) (fun hc2 => ?_)
  · replace h := h.1 hc2
    refine r_iloadn C 1 dX5_allRead_27 rfl ?_
    exact ri O ⟨_, rfl, rfl⟩ dX5_allRead_28 (by decide) (by decide) hF hn h
  · replace h := h.2 hc2
    refine r_iloadn C 1 dX5_allRead_12 rfl ?_
    refine r_aloadn C 0 dX5_allRead_13 rfl ?_
    refine r_getR C (hF.k (by decide) rfl) fl_5_58 rfl (o := some 39) (hF.mR (by decide) rfl rfl) dX5_allRead_14 ?_
    refine r_iloadn C 2 dX5_allRead_17 rfl ?_
    obtain ⟨hi3, h⟩ := h
    refine r_iald C (hF.k (by decide) rfl) (ixL (n := 8) rfl hi3) dX5_allRead_18 ?_
    refine r_iadd C dX5_allRead_19 ?_
    refine r_istoren C dX5_allRead_20 (by decide) rfl rfl ?_
    refine r_iinc C (y := (l3 + 2)) 2 dX5_allRead_21 rfl rfl (by decide) rfl rfl ?_
    refine r_goto C dX5_allRead_24 (tgt := 6) (by decide) ?_
    refine r_perm [2, 1, 0] rfl ?_
    exact h
set_option maxHeartbeats 4000000 in
set_option maxRecDepth 100000 in
theorem e5_read {S : Sto} {Q : Int32 → Sto → Prop} (hF : Fx S) {p1 : Int32} {p2 : Int32}  (h : (¬ (if 0 ≤ (p1 : Int32).toInt ∧ (p1 : Int32).toInt < 8 then 1 else 0 : Int32) = 0 → ((¬ (if (1 : Int64).toInt ≤ ((p2 : Int32).toInt64 : Int64).toInt ∧ ((p2 : Int32).toInt64 : Int64).toInt ≤ (1000 : Int64).toInt then 1 else 0 : Int32) = 0 → ((0 ≤ (p1 : Int32).toInt ∧ (p1 : Int32).toInt < (8 : Nat)) ∧ (∀ w6 : Int32, w6 = (if ((gI S 38 p1.toNatClampNeg) - (gI S 39 p1.toNatClampNeg)) ≤ p2 then ((gI S 38 p1.toNatClampNeg) - (gI S 39 p1.toNatClampNeg)) else p2 : Int32) → (((((gI (pI S 39 p1.toNatClampNeg ((gI S 39 p1.toNatClampNeg) + w6)) 39 p1.toNatClampNeg) + (gI S 26 1)) - (gI S 40 p1.toNatClampNeg)) < ((gI S 26 1) / 2) → (Ci K5_allRead [vr 26, vi (1 - (p1 - p1 / 2 * 2))] (pI S 39 p1.toNatClampNeg ((gI S 39 p1.toNatClampNeg) + w6)) (fun x10 S10 => (0 ≤ ((1 - (p1 - p1 / 2 * 2)) : Int32).toInt ∧ ((1 - (p1 - p1 / 2 * 2)) : Int32).toInt < (2 : Nat)) ∧ ((((x10 + (gI S10 26 2)) - (gI S10 59 (1 - (p1 - p1 / 2 * 2)).toNatClampNeg)) < ((gI S10 26 2) / 2) → (Q w6 S10)) ∧ (¬ ((x10 + (gI S10 26 2)) - (gI S10 59 (1 - (p1 - p1 / 2 * 2)).toNatClampNeg)) < ((gI S10 26 2) / 2) → (Q w6 (pI S10 58 (1 - (p1 - p1 / 2 * 2)).toNatClampNeg 1))))))) ∧ (¬ (((gI (pI S 39 p1.toNatClampNeg ((gI S 39 p1.toNatClampNeg) + w6)) 39 p1.toNatClampNeg) + (gI S 26 1)) - (gI S 40 p1.toNatClampNeg)) < ((gI S 26 1) / 2) → (Ci K5_allRead [vr 26, vi (1 - (p1 - p1 / 2 * 2))] (pI (pI S 39 p1.toNatClampNeg ((gI S 39 p1.toNatClampNeg) + w6)) 41 p1.toNatClampNeg 1) (fun x13 S13 => (0 ≤ ((1 - (p1 - p1 / 2 * 2)) : Int32).toInt ∧ ((1 - (p1 - p1 / 2 * 2)) : Int32).toInt < (2 : Nat)) ∧ ((((x13 + (gI S13 26 2)) - (gI S13 59 (1 - (p1 - p1 / 2 * 2)).toNatClampNeg)) < ((gI S13 26 2) / 2) → (Q w6 S13)) ∧ (¬ ((x13 + (gI S13 26 2)) - (gI S13 59 (1 - (p1 - p1 / 2 * 2)).toNatClampNeg)) < ((gI S13 26 2) / 2) → (Q w6 (pI S13 58 (1 - (p1 - p1 / 2 * 2)).toNatClampNeg 1))))))))))) ∧ ((if (1 : Int64).toInt ≤ ((p2 : Int32).toInt64 : Int64).toInt ∧ ((p2 : Int32).toInt64 : Int64).toInt ≤ (1000 : Int64).toInt then 1 else 0 : Int32) = 0 → (Q (-2) S)))) ∧ ((if 0 ≤ (p1 : Int32).toInt ∧ (p1 : Int32).toInt < 8 then 1 else 0 : Int32) = 0 → (Q (-1) S))) : Ci K5_read [vr 26, vi p1, vi p2] S Q := by
  refine Ci.intro rfl (Nat.le_of_ble_eq_true rfl) (fun X O => ?_)
  have C := O.1
  have hn : sN S ≤ sN S := Nat.le_refl _
  show WP X 0 [(0, vr 26), (1, vi p1), (2, vi p2)] [] S 0 0
  refine r_iloadn C 1 dX5_read_0 rfl ?_
  refine r_callSi C K5_isStream [vi p1] [] cl_5_201 rm_5_read_5_isStream ⟨rfl, rfl⟩ (by decide) (by decide) rfl (Nat.le_of_ble_eq_true rfl) dX5_read_1 (q5_isStreamH (S := S) hF) (fun x1 _ _ _ hq => ?_)
  obtain ⟨hqa, hqb⟩ := hq; obtain rfl := hqa.symm; obtain rfl := hqb.symm
  refine r_if_ne C dX5_read_4 (tgt := 9) (by decide) (fun hc2 => ?_) (fun hc2 => ?_)
  · replace h := h.1 hc2
    refine r_iloadn C 2 dX5_read_9 rfl ?_
    refine r_i2l C dX5_read_10 ?_
    refine r_lconst C dX5_read_11 (x := 1) (by decide) ?_
    refine r_ldc2 C (x := 1000) (mB 794 (by decide +kernel) rfl) dX5_read_12 ?_
    refine r_callSi C K5_in [vl ((p2 : Int32).toInt64), vl 1, vl 1000] [] cl_5_185 rm_5_read_5_in ⟨rfl, rfl⟩ (by decide) (by decide) rfl (Nat.le_of_ble_eq_true rfl) dX5_read_15 (q5_inH (S := S) hF) (fun x3 _ _ _ hq => ?_)
    obtain ⟨hqa, hqb⟩ := hq; obtain rfl := hqa.symm; obtain rfl := hqb.symm
    refine r_if_ne C dX5_read_18 (tgt := 24) (by decide) (fun hc4 => ?_) (fun hc4 => ?_)
    · replace h := h.1 hc4
      refine r_aloadn C 0 dX5_read_24 rfl ?_
      refine r_getR C (hF.k (by decide) rfl) fl_5_55 rfl (o := some 38) (hF.mR (by decide) rfl rfl) dX5_read_25 ?_
      refine r_iloadn C 1 dX5_read_28 rfl ?_
      obtain ⟨hi5, h⟩ := h
      refine r_iald C (hF.k (by decide) rfl) (ixL (n := 8) rfl hi5) dX5_read_29 ?_
      refine r_aloadn C 0 dX5_read_30 rfl ?_
      refine r_getR C (hF.k (by decide) rfl) fl_5_58 rfl (o := some 39) (hF.mR (by decide) rfl rfl) dX5_read_31 ?_
      refine r_iloadn C 1 dX5_read_34 rfl ?_
      refine r_iald C (hF.k (by decide) rfl) (ixL (n := 8) rfl hi5) dX5_read_35 ?_
      refine r_isub C dX5_read_36 ?_
      refine r_istoren C dX5_read_37 (by decide) rfl rfl ?_
      refine r_iloadn C 3 dX5_read_38 rfl ?_
      refine r_iloadn C 0 dX5_read_39 rfl ?_
      have kJ7 : ∀ (w6 : Int32) (_ : w6 = (if ((gI S 38 p1.toNatClampNeg) - (gI S 39 p1.toNatClampNeg)) ≤ p2 then ((gI S 38 p1.toNatClampNeg) - (gI S 39 p1.toNatClampNeg)) else p2 : Int32)), WP X 48 [(0, vr 26), (1, vi p1)] [vi w6] S 0 0 := by
        intro w6 hw6
        replace h := h w6 hw6
        refine r_istore C dX5_read_48 (by decide) rfl rfl ?_
        refine r_aloadn C 1 dX5_read_50 rfl ?_
        refine r_getR C (hF.k (by decide) rfl) fl_5_58 rfl (o := some 39) (hF.mR (by decide) rfl rfl) dX5_read_51 ?_
        refine r_iloadn C 2 dX5_read_54 rfl ?_
        refine r_dup2 C rfl rfl dX5_read_55 ?_
        refine r_iald C (hF.k (by decide) rfl) (ixL (n := 8) rfl hi5) dX5_read_56 ?_
        refine r_iload C 0 dX5_read_57 rfl ?_
        refine r_iadd C dX5_read_59 ?_
        refine r_iast C (hF.k (by decide) rfl) (ixL (n := 8) rfl hi5) dX5_read_60 ?_
        refine r_iconst C (x := 1) dX5_read_61 (by decide) ?_
        refine r_iloadn C 2 dX5_read_62 rfl ?_
        refine r_iconst C (x := 2) dX5_read_63 (by decide) ?_
        refine r_irem C dX5_read_64 (by decide) ?_
        refine r_isub C dX5_read_65 ?_
        refine r_istore C dX5_read_66 (by decide) rfl rfl ?_
        refine r_aloadn C 2 dX5_read_68 rfl ?_
        refine r_getR C (hF.k (by decide) rfl) fl_5_58 rfl (o := some 39) (hF.mR (by decide) rfl rfl) dX5_read_69 ?_
        refine r_iloadn C 3 dX5_read_72 rfl ?_
        refine r_iald C (hF.k (by decide) rfl) (ixL (n := 8) rfl hi5) dX5_read_73 ?_
        refine r_aloadn C 2 dX5_read_74 rfl ?_
        refine r_getI C (hF.k (by decide) rfl) fl_5_13 rfl dX5_read_75 ?_
        refine r_iadd C dX5_read_78 ?_
        refine r_aloadn C 2 dX5_read_79 rfl ?_
        refine r_getR C (hF.k (by decide) rfl) fl_5_61 rfl (o := some 40) (hF.mR (by decide) rfl rfl) dX5_read_80 ?_
        refine r_iloadn C 3 dX5_read_83 rfl ?_
        refine r_iald C (hF.k (by decide) rfl) (ixL (n := 8) rfl hi5) dX5_read_84 ?_
        refine r_isub C dX5_read_85 ?_
        refine r_aloadn C 2 dX5_read_86 rfl ?_
        refine r_getI C (hF.k (by decide) rfl) fl_5_13 rfl dX5_read_87 ?_
        refine r_iconst C (x := 2) dX5_read_90 (by decide) ?_
        refine r_idiv C dX5_read_91 (by decide) ?_
        refine r_icmp_lt C dX5_read_92 (tgt := 102) (by decide) (fun hc9 => ?_) (fun hc9 => ?_)
        · replace h := h.1 hc9
          refine r_aloadn C 2 dX5_read_102 rfl ?_
          refine r_iload C 0 dX5_read_103 rfl ?_
          refine r_callVi C K5_allRead [vi (1 - (p1 - p1 / 2 * 2))] [] (hF.k (by decide) rfl) (by decide) rfl cl_5_205 rm_5_read_5_allRead ⟨rfl, rfl⟩ (by decide) (by decide) rfl (Nat.le_of_ble_eq_true rfl) dX5_read_105 h (fun x10 S10 hF10 hn10 h => ?_)
          refine r_aloadn C 2 dX5_read_108 rfl ?_
          refine r_getI C (hF10.k (by decide) rfl) fl_5_16 rfl dX5_read_109 ?_
          refine r_iadd C dX5_read_112 ?_
          refine r_aloadn C 2 dX5_read_113 rfl ?_
          refine r_getR C (hF10.k (by decide) rfl) fl_5_118 rfl (o := some 59) (hF10.mR (by decide) rfl rfl) dX5_read_114 ?_
          refine r_iload C 0 dX5_read_117 rfl ?_
          obtain ⟨hi11, h⟩ := h
          refine r_iald C (hF10.k (by decide) rfl) (ixL (n := 2) rfl hi11) dX5_read_119 ?_
          refine r_isub C dX5_read_120 ?_
          refine r_aloadn C 2 dX5_read_121 rfl ?_
          refine r_getI C (hF10.k (by decide) rfl) fl_5_16 rfl dX5_read_122 ?_
          refine r_iconst C (x := 2) dX5_read_125 (by decide) ?_
          refine r_idiv C dX5_read_126 (by decide) ?_
          refine r_icmp_lt C dX5_read_127 (tgt := 138) (by decide) (fun hc12 => ?_) (fun hc12 => ?_)
          · replace h := h.1 hc12
            refine r_iload C 1 dX5_read_138 rfl ?_
            exact ri O ⟨_, rfl, rfl⟩ dX5_read_140 (by decide) (by decide) hF10 (Nat.le_trans hn hn10) h
          · replace h := h.2 hc12
            refine r_aloadn C 2 dX5_read_130 rfl ?_
            refine r_getR C (hF10.k (by decide) rfl) fl_5_115 rfl (o := some 58) (hF10.mR (by decide) rfl rfl) dX5_read_131 ?_
            refine r_iload C 0 dX5_read_134 rfl ?_
            refine r_iconst C (x := 1) dX5_read_136 (by decide) ?_
            refine r_zast C (hF10.k (by decide) rfl) (Or.inr rfl) (ixL (n := 2) rfl hi11) dX5_read_137 ?_
            refine r_iload C 1 dX5_read_138 rfl ?_
            exact ri O ⟨_, rfl, rfl⟩ dX5_read_140 (by decide) (by decide) hF10 (Nat.le_trans hn hn10) h
        · replace h := h.2 hc9
          refine r_aloadn C 2 dX5_read_95 rfl ?_
          refine r_getR C (hF.k (by decide) rfl) fl_5_64 rfl (o := some 41) (hF.mR (by decide) rfl rfl) dX5_read_96 ?_
          refine r_iloadn C 3 dX5_read_99 rfl ?_
          refine r_iconst C (x := 1) dX5_read_100 (by decide) ?_
          refine r_zast C (hF.k (by decide) rfl) (Or.inr rfl) (ixL (n := 8) rfl hi5) dX5_read_101 ?_
          refine r_aloadn C 2 dX5_read_102 rfl ?_
          refine r_iload C 0 dX5_read_103 rfl ?_
          refine r_callVi C K5_allRead [vi (1 - (p1 - p1 / 2 * 2))] [] (hF.k (by decide) rfl) (by decide) rfl cl_5_205 rm_5_read_5_allRead ⟨rfl, rfl⟩ (by decide) (by decide) rfl (Nat.le_of_ble_eq_true rfl) dX5_read_105 h (fun x13 S13 hF13 hn13 h => ?_)
          refine r_aloadn C 2 dX5_read_108 rfl ?_
          refine r_getI C (hF13.k (by decide) rfl) fl_5_16 rfl dX5_read_109 ?_
          refine r_iadd C dX5_read_112 ?_
          refine r_aloadn C 2 dX5_read_113 rfl ?_
          refine r_getR C (hF13.k (by decide) rfl) fl_5_118 rfl (o := some 59) (hF13.mR (by decide) rfl rfl) dX5_read_114 ?_
          refine r_iload C 0 dX5_read_117 rfl ?_
          obtain ⟨hi14, h⟩ := h
          refine r_iald C (hF13.k (by decide) rfl) (ixL (n := 2) rfl hi14) dX5_read_119 ?_
          refine r_isub C dX5_read_120 ?_
          refine r_aloadn C 2 dX5_read_121 rfl ?_
          refine r_getI C (hF13.k (by decide) rfl) fl_5_16 rfl dX5_read_122 ?_
          refine r_iconst C (x := 2) dX5_read_125 (by decide) ?_
          refine r_idiv C dX5_read_126 (by decide) ?_
          refine r_icmp_lt C dX5_read_127 (tgt := 138) (by decide) (fun hc15 => ?_) (fun hc15 => ?_)
          · replace h := h.1 hc15
            refine r_iload C 1 dX5_read_138 rfl ?_
            exact ri O ⟨_, rfl, rfl⟩ dX5_read_140 (by decide) (by decide) hF13 (Nat.le_trans hn hn13) h
          · replace h := h.2 hc15
            refine r_aloadn C 2 dX5_read_130 rfl ?_
            refine r_getR C (hF13.k (by decide) rfl) fl_5_115 rfl (o := some 58) (hF13.mR (by decide) rfl rfl) dX5_read_131 ?_
            refine r_iload C 0 dX5_read_134 rfl ?_
            refine r_iconst C (x := 1) dX5_read_136 (by decide) ?_
            refine r_zast C (hF13.k (by decide) rfl) (Or.inr rfl) (ixL (n := 2) rfl hi14) dX5_read_137 ?_
            refine r_iload C 1 dX5_read_138 rfl ?_
            exact ri O ⟨_, rfl, rfl⟩ dX5_read_140 (by decide) (by decide) hF13 (Nat.le_trans hn hn13) h
      refine r_icmp_ge C dX5_read_40 (tgt := 47) (by decide) (fun hc8 => ?_) (fun hc8 => ?_)
      · refine r_iloadn C 0 dX5_read_47 rfl ?_
        refine r_perm [1, 2] rfl ?_
        exact kJ7 _ (if_pos hc8).symm
      · refine r_iloadn C 3 dX5_read_43 rfl ?_
        refine r_goto C dX5_read_44 (tgt := 48) (by decide) ?_
        refine r_perm [1, 2] rfl ?_
        exact kJ7 _ (if_neg hc8).symm
    · replace h := h.2 hc4
      refine r_bipush C (x := (-2)) dX5_read_21 (by decide) ?_
      exact ri O ⟨_, rfl, rfl⟩ dX5_read_23 (by decide) (by decide) hF hn h
  · replace h := h.2 hc2
    refine r_iconst C (x := (-1)) dX5_read_7 (by decide) ?_
    exact ri O ⟨_, rfl, rfl⟩ dX5_read_8 (by decide) (by decide) hF hn h
set_option maxHeartbeats 4000000 in
set_option maxRecDepth 100000 in
theorem e5_move {S : Sto} {Q : Int32 → Sto → Prop} (hF : Fx S)   (h : (¬ (gI S 26 44) = 50 → (Q ((gI S 26 44) + 1) (pI S 26 44 ((gI S 26 44) + 1)))) ∧ ((gI S 26 44) = 50 → (Q (-4) S))) : Ci K5_move [vr 26] S Q := by
  refine Ci.intro rfl (Nat.le_of_ble_eq_true rfl) (fun X O => ?_)
  have C := O.1
  have hn : sN S ≤ sN S := Nat.le_refl _
  show WP X 0 [(0, vr 26)] [] S 0 0
  refine r_aloadn C 0 dX5_move_0 rfl ?_
  refine r_getI C (hF.k (by decide) rfl) fl_5_209 rfl dX5_move_1 ?_
  refine r_bipush C (x := 50) dX5_move_4 (by decide) ?_
  refine r_icmp_ne C dX5_move_6 (tgt := 12) (by decide) (fun hc1 => ?_) (fun hc1 => ?_)
  · replace h := h.1 hc1
    refine r_aloadn C 0 dX5_move_12 rfl ?_
    refine r_dup C rfl dX5_move_13 ?_
    refine r_getI C (hF.k (by decide) rfl) fl_5_209 rfl dX5_move_14 ?_
    refine r_iconst C (x := 1) dX5_move_17 (by decide) ?_
    refine r_iadd C dX5_move_18 ?_
    refine r_putI C (hF.k (by decide) rfl) fl_5_209 rfl rfl dX5_move_19 ?_
    refine r_aloadn C 0 dX5_move_22 rfl ?_
    refine r_getI C (hF.k (by decide) rfl) fl_5_209 rfl dX5_move_23 ?_
    exact ri O ⟨_, rfl, rfl⟩ dX5_move_26 (by decide) (by decide) hF hn h
  · replace h := h.2 hc1
    refine r_bipush C (x := (-4)) dX5_move_9 (by decide) ?_
    exact ri O ⟨_, rfl, rfl⟩ dX5_move_11 (by decide) (by decide) hF hn h
set_option maxHeartbeats 4000000 in
set_option maxRecDepth 100000 in
theorem e5_put {S : Sto} {Q : Int32 → Sto → Prop} (hF : Fx S) {p1 : Int32} {p2 : Int32} {p3 : Int32} {p4 : Int32} {p5 : Int32}  (h : (0 ≤ ((gI S 26 63) : Int32).toInt ∧ ((gI S 26 63) : Int32).toInt < (600 : Nat)) ∧ (((gI S 26 0) < ((gI S 68 (gI S 26 63).toNatClampNeg) + p2) → (Q 0 S)) ∧ (¬ (gI S 26 0) < ((gI S 68 (gI S 26 63).toNatClampNeg) + p2) → ((¬ (gI S 69 (gI S 26 63).toNatClampNeg) = 24 → ((0 ≤ ((4 * ((24 * (gI S 26 63)) + (gI S 69 (gI S 26 63).toNatClampNeg))) : Int32).toInt ∧ ((4 * ((24 * (gI S 26 63)) + (gI S 69 (gI S 26 63).toNatClampNeg))) : Int32).toInt < (57600 : Nat)) ∧ ((0 ≤ (((4 * ((24 * (gI S 26 63)) + (gI S 69 (gI S 26 63).toNatClampNeg))) + 1) : Int32).toInt ∧ (((4 * ((24 * (gI S 26 63)) + (gI S 69 (gI S 26 63).toNatClampNeg))) + 1) : Int32).toInt < (57600 : Nat)) ∧ ((0 ≤ (((4 * ((24 * (gI S 26 63)) + (gI S 69 (gI S 26 63).toNatClampNeg))) + 2) : Int32).toInt ∧ (((4 * ((24 * (gI S 26 63)) + (gI S 69 (gI S 26 63).toNatClampNeg))) + 2) : Int32).toInt < (57600 : Nat)) ∧ ((0 ≤ (((4 * ((24 * (gI S 26 63)) + (gI S 69 (gI S 26 63).toNatClampNeg))) + 3) : Int32).toInt ∧ (((4 * ((24 * (gI S 26 63)) + (gI S 69 (gI S 26 63).toNatClampNeg))) + 3) : Int32).toInt < (57600 : Nat)) ∧ (∀ w10 : Int32, w10 = (if (gI S 70 (gI S 26 63).toNatClampNeg) = 0 then (if p1 = 1 then 0 else 1 : Int32) else 1 : Int32) → (Q 1 (pI (pI (pI (pI (pI (pI (pI S 74 (4 * ((24 * (gI S 26 63)) + (gI S 69 (gI S 26 63).toNatClampNeg))).toNatClampNeg p1) 74 ((4 * ((24 * (gI S 26 63)) + (gI S 69 (gI S 26 63).toNatClampNeg))) + 1).toNatClampNeg p3) 74 ((4 * ((24 * (gI S 26 63)) + (gI S 69 (gI S 26 63).toNatClampNeg))) + 2).toNatClampNeg p4) 74 ((4 * ((24 * (gI S 26 63)) + (gI S 69 (gI S 26 63).toNatClampNeg))) + 3).toNatClampNeg p5) 69 (gI S 26 63).toNatClampNeg ((gI S 69 (gI S 26 63).toNatClampNeg) + 1)) 68 (gI S 26 63).toNatClampNeg ((gI S 68 (gI S 26 63).toNatClampNeg) + p2)) 70 (gI S 26 63).toNatClampNeg w10)))))))) ∧ ((gI S 69 (gI S 26 63).toNatClampNeg) = 24 → (Q 0 S)))))) : Ci K5_put [vr 26, vi p1, vi p2, vi p3, vi p4, vi p5] S Q := by
  refine Ci.intro rfl (Nat.le_of_ble_eq_true rfl) (fun X O => ?_)
  have C := O.1
  have hn : sN S ≤ sN S := Nat.le_refl _
  show WP X 0 [(0, vr 26), (1, vi p1), (2, vi p2), (3, vi p3), (4, vi p4), (5, vi p5)] [] S 0 0
  refine r_aloadn C 0 dX5_put_0 rfl ?_
  refine r_getR C (hF.k (by decide) rfl) fl_5_145 rfl (o := some 68) (hF.mR (by decide) rfl rfl) dX5_put_1 ?_
  refine r_aloadn C 0 dX5_put_4 rfl ?_
  refine r_getI C (hF.k (by decide) rfl) fl_5_212 rfl dX5_put_5 ?_
  obtain ⟨hi1, h⟩ := h
  refine r_iald C (hF.k (by decide) rfl) (ixL (n := 600) rfl hi1) dX5_put_8 ?_
  refine r_iloadn C 2 dX5_put_9 rfl ?_
  refine r_iadd C dX5_put_10 ?_
  refine r_aloadn C 0 dX5_put_11 rfl ?_
  refine r_getI C (hF.k (by decide) rfl) fl_5_7 rfl dX5_put_12 ?_
  refine r_icmp_gt C dX5_put_15 (tgt := 32) (by decide) (fun hc2 => ?_) (fun hc2 => ?_)
  · replace h := h.1 hc2
    refine r_iconst C (x := 0) dX5_put_32 (by decide) ?_
    exact ri O ⟨_, rfl, nar_z (Or.inl rfl)⟩ dX5_put_33 (by decide) (by decide) hF hn h
  · replace h := h.2 hc2
    refine r_aloadn C 0 dX5_put_18 rfl ?_
    refine r_getR C (hF.k (by decide) rfl) fl_5_148 rfl (o := some 69) (hF.mR (by decide) rfl rfl) dX5_put_19 ?_
    refine r_aloadn C 0 dX5_put_22 rfl ?_
    refine r_getI C (hF.k (by decide) rfl) fl_5_212 rfl dX5_put_23 ?_
    refine r_iald C (hF.k (by decide) rfl) (ixL (n := 600) rfl hi1) dX5_put_26 ?_
    refine r_bipush C (x := 24) dX5_put_27 (by decide) ?_
    refine r_icmp_ne C dX5_put_29 (tgt := 34) (by decide) (fun hc3 => ?_) (fun hc3 => ?_)
    · replace h := h.1 hc3
      refine r_iconst C (x := 4) dX5_put_34 (by decide) ?_
      refine r_bipush C (x := 24) dX5_put_35 (by decide) ?_
      refine r_aloadn C 0 dX5_put_37 rfl ?_
      refine r_getI C (hF.k (by decide) rfl) fl_5_212 rfl dX5_put_38 ?_
      refine r_imul C dX5_put_41 ?_
      refine r_aloadn C 0 dX5_put_42 rfl ?_
      refine r_getR C (hF.k (by decide) rfl) fl_5_148 rfl (o := some 69) (hF.mR (by decide) rfl rfl) dX5_put_43 ?_
      refine r_aloadn C 0 dX5_put_46 rfl ?_
      refine r_getI C (hF.k (by decide) rfl) fl_5_212 rfl dX5_put_47 ?_
      refine r_iald C (hF.k (by decide) rfl) (ixL (n := 600) rfl hi1) dX5_put_50 ?_
      refine r_iadd C dX5_put_51 ?_
      refine r_imul C dX5_put_52 ?_
      refine r_istore C dX5_put_53 (by decide) rfl rfl ?_
      refine r_aloadn C 1 dX5_put_55 rfl ?_
      refine r_getR C (hF.k (by decide) rfl) fl_5_164 rfl (o := some 74) (hF.mR (by decide) rfl rfl) dX5_put_56 ?_
      refine r_iload C 0 dX5_put_59 rfl ?_
      refine r_iloadn C 2 dX5_put_61 rfl ?_
      obtain ⟨hi4, h⟩ := h
      refine r_iast C (hF.k (by decide) rfl) (ixL (n := 57600) rfl hi4) dX5_put_62 ?_
      refine r_aloadn C 1 dX5_put_63 rfl ?_
      refine r_getR C (hF.k (by decide) rfl) fl_5_164 rfl (o := some 74) (hF.mR (by decide) rfl rfl) dX5_put_64 ?_
      refine r_iload C 0 dX5_put_67 rfl ?_
      refine r_iconst C (x := 1) dX5_put_69 (by decide) ?_
      refine r_iadd C dX5_put_70 ?_
      refine r_iloadn C 4 dX5_put_71 rfl ?_
      obtain ⟨hi5, h⟩ := h
      refine r_iast C (hF.k (by decide) rfl) (ixL (n := 57600) rfl hi5) dX5_put_72 ?_
      refine r_aloadn C 1 dX5_put_73 rfl ?_
      refine r_getR C (hF.k (by decide) rfl) fl_5_164 rfl (o := some 74) (hF.mR (by decide) rfl rfl) dX5_put_74 ?_
      refine r_iload C 0 dX5_put_77 rfl ?_
      refine r_iconst C (x := 2) dX5_put_79 (by decide) ?_
      refine r_iadd C dX5_put_80 ?_
      refine r_iload C 5 dX5_put_81 rfl ?_
      obtain ⟨hi6, h⟩ := h
      refine r_iast C (hF.k (by decide) rfl) (ixL (n := 57600) rfl hi6) dX5_put_83 ?_
      refine r_aloadn C 1 dX5_put_84 rfl ?_
      refine r_getR C (hF.k (by decide) rfl) fl_5_164 rfl (o := some 74) (hF.mR (by decide) rfl rfl) dX5_put_85 ?_
      refine r_iload C 0 dX5_put_88 rfl ?_
      refine r_iconst C (x := 3) dX5_put_90 (by decide) ?_
      refine r_iadd C dX5_put_91 ?_
      refine r_iload C 6 dX5_put_92 rfl ?_
      obtain ⟨hi7, h⟩ := h
      refine r_iast C (hF.k (by decide) rfl) (ixL (n := 57600) rfl hi7) dX5_put_94 ?_
      refine r_aloadn C 1 dX5_put_95 rfl ?_
      refine r_getR C (hF.k (by decide) rfl) fl_5_148 rfl (o := some 69) (hF.mR (by decide) rfl rfl) dX5_put_96 ?_
      refine r_aloadn C 1 dX5_put_99 rfl ?_
      refine r_getI C (hF.k (by decide) rfl) fl_5_212 rfl dX5_put_100 ?_
      refine r_dup2 C rfl rfl dX5_put_103 ?_
      refine r_iald C (hF.k (by decide) rfl) (ixL (n := 600) rfl hi1) dX5_put_104 ?_
      refine r_iconst C (x := 1) dX5_put_105 (by decide) ?_
      refine r_iadd C dX5_put_106 ?_
      refine r_iast C (hF.k (by decide) rfl) (ixL (n := 600) rfl hi1) dX5_put_107 ?_
      refine r_aloadn C 1 dX5_put_108 rfl ?_
      refine r_getR C (hF.k (by decide) rfl) fl_5_145 rfl (o := some 68) (hF.mR (by decide) rfl rfl) dX5_put_109 ?_
      refine r_aloadn C 1 dX5_put_112 rfl ?_
      refine r_getI C (hF.k (by decide) rfl) fl_5_212 rfl dX5_put_113 ?_
      refine r_dup2 C rfl rfl dX5_put_116 ?_
      refine r_iald C (hF.k (by decide) rfl) (ixL (n := 600) rfl hi1) dX5_put_117 ?_
      refine r_iloadn C 3 dX5_put_118 rfl ?_
      refine r_iadd C dX5_put_119 ?_
      refine r_iast C (hF.k (by decide) rfl) (ixL (n := 600) rfl hi1) dX5_put_120 ?_
      refine r_aloadn C 1 dX5_put_121 rfl ?_
      refine r_getR C (hF.k (by decide) rfl) fl_5_151 rfl (o := some 70) (hF.mR (by decide) rfl rfl) dX5_put_122 ?_
      refine r_aloadn C 1 dX5_put_125 rfl ?_
      refine r_getI C (hF.k (by decide) rfl) fl_5_212 rfl dX5_put_126 ?_
      refine r_aloadn C 1 dX5_put_129 rfl ?_
      refine r_getR C (hF.k (by decide) rfl) fl_5_151 rfl (o := some 70) (hF.mR (by decide) rfl rfl) dX5_put_130 ?_
      refine r_aloadn C 1 dX5_put_133 rfl ?_
      refine r_getI C (hF.k (by decide) rfl) fl_5_212 rfl dX5_put_134 ?_
      refine r_zald C (hF.k (by decide) rfl) (ixL (n := 600) rfl hi1) dX5_put_137 ?_
      have kJ11 : ∀ (w10 : Int32) (_ : w10 = (if (gI S 70 (gI S 26 63).toNatClampNeg) = 0 then (if p1 = 1 then 0 else 1 : Int32) else 1 : Int32)), WP X 151 [] [vi w10, vi (gI S 26 63), vr 70] (pI (pI (pI (pI (pI (pI S 74 (4 * ((24 * (gI S 26 63)) + (gI S 69 (gI S 26 63).toNatClampNeg))).toNatClampNeg p1) 74 ((4 * ((24 * (gI S 26 63)) + (gI S 69 (gI S 26 63).toNatClampNeg))) + 1).toNatClampNeg p3) 74 ((4 * ((24 * (gI S 26 63)) + (gI S 69 (gI S 26 63).toNatClampNeg))) + 2).toNatClampNeg p4) 74 ((4 * ((24 * (gI S 26 63)) + (gI S 69 (gI S 26 63).toNatClampNeg))) + 3).toNatClampNeg p5) 69 (gI S 26 63).toNatClampNeg ((gI S 69 (gI S 26 63).toNatClampNeg) + 1)) 68 (gI S 26 63).toNatClampNeg ((gI S 68 (gI S 26 63).toNatClampNeg) + p2)) 0 0 := by
        intro w10 hw10
        replace h := h w10 hw10
        have hz_w10 : w10 = 0 ∨ w10 = 1 := by rw [hw10]; repeat (first | exact Or.inl rfl | exact Or.inr rfl | assumption | split)
        refine r_zast C (hF.k (by decide) rfl) hz_w10 (ixL (n := 600) rfl hi1) dX5_put_151 ?_
        refine r_iconst C (x := 1) dX5_put_152 (by decide) ?_
        exact ri O ⟨_, rfl, nar_z (Or.inr rfl)⟩ dX5_put_153 (by decide) (by decide) hF hn h
      refine r_if_ne C dX5_put_138 (tgt := 146) (by decide) (fun hc12 => ?_) (fun hc12 => ?_)
      · refine r_iconst C (x := 1) dX5_put_146 (by decide) ?_
        refine r_goto C dX5_put_147 (tgt := 151) (by decide) ?_
        refine r_perm [] rfl ?_
        exact kJ11 _ (if_neg hc12).symm
      · refine r_iloadn C 2 dX5_put_141 rfl ?_
        refine r_iconst C (x := 1) dX5_put_142 (by decide) ?_
        have kJ13 : WP X 151 [] [vi (if p1 = 1 then 0 else 1 : Int32), vi (gI S 26 63), vr 70] (pI (pI (pI (pI (pI (pI S 74 (4 * ((24 * (gI S 26 63)) + (gI S 69 (gI S 26 63).toNatClampNeg))).toNatClampNeg p1) 74 ((4 * ((24 * (gI S 26 63)) + (gI S 69 (gI S 26 63).toNatClampNeg))) + 1).toNatClampNeg p3) 74 ((4 * ((24 * (gI S 26 63)) + (gI S 69 (gI S 26 63).toNatClampNeg))) + 2).toNatClampNeg p4) 74 ((4 * ((24 * (gI S 26 63)) + (gI S 69 (gI S 26 63).toNatClampNeg))) + 3).toNatClampNeg p5) 69 (gI S 26 63).toNatClampNeg ((gI S 69 (gI S 26 63).toNatClampNeg) + 1)) 68 (gI S 26 63).toNatClampNeg ((gI S 68 (gI S 26 63).toNatClampNeg) + p2)) 0 0 := by
          refine r_perm [] rfl ?_
          exact kJ11 _ (if_pos hc12).symm
        refine r_icmp_eq C dX5_put_143 (tgt := 150) (by decide) (fun hc14 => ?_) (fun hc14 => ?_)
        · refine r_iconst C (x := 0) dX5_put_150 (by decide) ?_
          refine r_perm [] rfl ?_
          rw [show (if p1 = 1 then 0 else 1 : Int32) = 0 from if_pos hc14] at kJ13
          exact kJ13
        · refine r_iconst C (x := 1) dX5_put_146 (by decide) ?_
          refine r_goto C dX5_put_147 (tgt := 151) (by decide) ?_
          refine r_perm [] rfl ?_
          rw [show (if p1 = 1 then 0 else 1 : Int32) = 1 from if_neg hc14] at kJ13
          exact kJ13
    · replace h := h.2 hc3
      refine r_iconst C (x := 0) dX5_put_32 (by decide) ?_
      exact ri O ⟨_, rfl, nar_z (Or.inl rfl)⟩ dX5_put_33 (by decide) (by decide) hF hn h
set_option maxHeartbeats 4000000 in
set_option maxRecDepth 100000 in
theorem e5_putTold {S : Sto} {Q : Sto → Prop} (hF : Fx S) {p1 : Int32}  (h : ∀ X : Ctx, Ov X K5_putTold S Q → (0 ≤ (p1 : Int32).toInt ∧ (p1 : Int32).toInt < (2 : Nat)) ∧ (WP X 9 [(0, vr 26), (1, vi p1), (2, vi 0), (3, vi (gI S 55 p1.toNatClampNeg))] [] S 0 0)) : Cv K5_putTold [vr 26, vi p1] S Q := by
  refine Cv.intro rfl (Nat.le_of_ble_eq_true rfl) (fun X O => ?_)
  replace h := h X O
  have C := O.1
  have hn : sN S ≤ sN S := Nat.le_refl _
  show WP X 0 [(0, vr 26), (1, vi p1)] [] S 0 0
  refine r_iconst C (x := 0) dX5_putTold_0 (by decide) ?_
  refine r_istoren C dX5_putTold_1 (by decide) rfl rfl ?_
  refine r_aloadn C 1 dX5_putTold_2 rfl ?_
  refine r_getR C (hF.k (by decide) rfl) fl_5_106 rfl (o := some 55) (hF.mR (by decide) rfl rfl) dX5_putTold_3 ?_
  refine r_iloadn C 2 dX5_putTold_6 rfl ?_
  obtain ⟨hi1, h⟩ := h
  refine r_iald C (hF.k (by decide) rfl) (ixL (n := 2) rfl hi1) dX5_putTold_7 ?_
  refine r_istoren C dX5_putTold_8 (by decide) rfl rfl ?_
  refine r_perm [2, 3, 1, 0] rfl ?_
  exact h
set_option maxHeartbeats 4000000 in
set_option maxRecDepth 100000 in
theorem s5_putTold_9 {X : Ctx} {S0 S : Sto} {Q : Sto → Prop} (hF : Fx S) (hn : sN S0 ≤ sN S) (O : Ov X K5_putTold S0 Q) {l1 : Int32} {l2 : Int32} {l3 : Int32}   (h : (l3 < 0 → (Ci K5_put [vr 26, vi 1, vi (6 + (4 * (l2 - 1))), vi 0, vi 0, vi l2] S (fun x2 S2 => (x2 = 0 → (Q S2)) ∧ (¬ x2 = 0 → ((0 ≤ (l1 : Int32).toInt ∧ (l1 : Int32).toInt < (2 : Nat)) ∧ (Q (pI S2 56 l1.toNatClampNeg 0))))))) ∧ (¬ l3 < 0 → ((4 ≤ l2 → (Ci K5_put [vr 26, vi 1, vi (6 + (4 * (l2 - 1))), vi 0, vi 0, vi l2] S (fun x6 S6 => (x6 = 0 → (Q S6)) ∧ (¬ x6 = 0 → ((0 ≤ (l1 : Int32).toInt ∧ (l1 : Int32).toInt < (2 : Nat)) ∧ (Q (pI S6 56 l1.toNatClampNeg 0))))))) ∧ (¬ 4 ≤ l2 → (WP X 21 [(0, vr 26), (1, vi l1), (2, vi l2), (3, vi l3), (4, vi l3)] [] S 0 0))))) : WP X 9 [(0, vr 26), (1, vi l1), (2, vi l2), (3, vi l3)] [] S 0 0 := by
  have C := O.1
  refine r_iloadn C 3 dX5_putTold_9 rfl ?_
  refine r_if_lt C dX5_putTold_10 (tgt := 121) (by decide) (fun hc1 => ?_) (fun hc1 => ?_)
  · replace h := h.1 hc1
    refine r_aloadn C 0 dX5_putTold_121 rfl ?_
    refine r_iconst C (x := 1) dX5_putTold_122 (by decide) ?_
    refine r_bipush C (x := 6) dX5_putTold_123 (by decide) ?_
    refine r_iconst C (x := 4) dX5_putTold_125 (by decide) ?_
    refine r_iloadn C 2 dX5_putTold_126 rfl ?_
    refine r_iconst C (x := 1) dX5_putTold_127 (by decide) ?_
    refine r_isub C dX5_putTold_128 ?_
    refine r_imul C dX5_putTold_129 ?_
    refine r_iadd C dX5_putTold_130 ?_
    refine r_iconst C (x := 0) dX5_putTold_131 (by decide) ?_
    refine r_iconst C (x := 0) dX5_putTold_132 (by decide) ?_
    refine r_iloadn C 2 dX5_putTold_133 rfl ?_
    refine r_callVi C K5_put [vi 1, vi (6 + (4 * (l2 - 1))), vi 0, vi 0, vi l2] [] (hF.k (by decide) rfl) (by decide) rfl cl_5_219 rm_5_putTold_5_put ⟨rfl, rfl⟩ (by decide) (by decide) rfl (Nat.le_of_ble_eq_true rfl) dX5_putTold_134 h (fun x2 S2 hF2 hn2 h => ?_)
    refine r_if_eq C dX5_putTold_137 (tgt := 147) (by decide) (fun hc3 => ?_) (fun hc3 => ?_)
    · replace h := h.1 hc3
      exact rv O rfl dX5_putTold_147 (by decide) (by decide) hF2 (Nat.le_trans hn hn2) h
    · replace h := h.2 hc3
      refine r_aloadn C 0 dX5_putTold_140 rfl ?_
      refine r_getR C (hF2.k (by decide) rfl) fl_5_109 rfl (o := some 56) (hF2.mR (by decide) rfl rfl) dX5_putTold_141 ?_
      refine r_iloadn C 1 dX5_putTold_144 rfl ?_
      refine r_iconst C (x := 0) dX5_putTold_145 (by decide) ?_
      obtain ⟨hi4, h⟩ := h
      refine r_zast C (hF2.k (by decide) rfl) (Or.inl rfl) (ixL (n := 2) rfl hi4) dX5_putTold_146 ?_
      exact rv O rfl dX5_putTold_147 (by decide) (by decide) hF2 (Nat.le_trans hn hn2) h
  · replace h := h.2 hc1
    refine r_iloadn C 2 dX5_putTold_13 rfl ?_
    refine r_iconst C (x := 4) dX5_putTold_14 (by decide) ?_
    refine r_icmp_ge C dX5_putTold_15 (tgt := 121) (by decide) (fun hc5 => ?_) (fun hc5 => ?_)
    · replace h := h.1 hc5
      refine r_aloadn C 0 dX5_putTold_121 rfl ?_
      refine r_iconst C (x := 1) dX5_putTold_122 (by decide) ?_
      refine r_bipush C (x := 6) dX5_putTold_123 (by decide) ?_
      refine r_iconst C (x := 4) dX5_putTold_125 (by decide) ?_
      refine r_iloadn C 2 dX5_putTold_126 rfl ?_
      refine r_iconst C (x := 1) dX5_putTold_127 (by decide) ?_
      refine r_isub C dX5_putTold_128 ?_
      refine r_imul C dX5_putTold_129 ?_
      refine r_iadd C dX5_putTold_130 ?_
      refine r_iconst C (x := 0) dX5_putTold_131 (by decide) ?_
      refine r_iconst C (x := 0) dX5_putTold_132 (by decide) ?_
      refine r_iloadn C 2 dX5_putTold_133 rfl ?_
      refine r_callVi C K5_put [vi 1, vi (6 + (4 * (l2 - 1))), vi 0, vi 0, vi l2] [] (hF.k (by decide) rfl) (by decide) rfl cl_5_219 rm_5_putTold_5_put ⟨rfl, rfl⟩ (by decide) (by decide) rfl (Nat.le_of_ble_eq_true rfl) dX5_putTold_134 h (fun x6 S6 hF6 hn6 h => ?_)
      refine r_if_eq C dX5_putTold_137 (tgt := 147) (by decide) (fun hc7 => ?_) (fun hc7 => ?_)
      · replace h := h.1 hc7
        exact rv O rfl dX5_putTold_147 (by decide) (by decide) hF6 (Nat.le_trans hn hn6) h
      · replace h := h.2 hc7
        refine r_aloadn C 0 dX5_putTold_140 rfl ?_
        refine r_getR C (hF6.k (by decide) rfl) fl_5_109 rfl (o := some 56) (hF6.mR (by decide) rfl rfl) dX5_putTold_141 ?_
        refine r_iloadn C 1 dX5_putTold_144 rfl ?_
        refine r_iconst C (x := 0) dX5_putTold_145 (by decide) ?_
        obtain ⟨hi8, h⟩ := h
        refine r_zast C (hF6.k (by decide) rfl) (Or.inl rfl) (ixL (n := 2) rfl hi8) dX5_putTold_146 ?_
        exact rv O rfl dX5_putTold_147 (by decide) (by decide) hF6 (Nat.le_trans hn hn6) h
    · replace h := h.2 hc5
      refine r_iloadn C 3 dX5_putTold_18 rfl ?_
      refine r_istore C dX5_putTold_19 (by decide) rfl rfl ?_
      refine r_perm [1, 2, 3, 4, 0] rfl ?_
      exact h
set_option maxHeartbeats 4000000 in
set_option maxRecDepth 100000 in
theorem s5_putTold_21 {X : Ctx} {S0 S : Sto} {Q : Sto → Prop} (hF : Fx S) (hn : sN S0 ≤ sN S) (O : Ov X K5_putTold S0 Q) {l1 : Int32} {l2 : Int32} {l3 : Int32} {l4 : Int32}   (h : (l3 ≤ 0 → ((0 ≤ (((8 * (gI S 26 63)) + (2 * l2)) : Int32).toInt ∧ (((8 * (gI S 26 63)) + (2 * l2)) : Int32).toInt < (4800 : Nat)) ∧ ((0 ≤ ((((8 * (gI S 26 63)) + (2 * l2)) + 1) : Int32).toInt ∧ ((((8 * (gI S 26 63)) + (2 * l2)) + 1) : Int32).toInt < (4800 : Nat)) ∧ (WP X 92 [(0, vr 26), (1, vi l1), (2, vi (l2 + 1)), (3, vi (l3 + (-1)))] [] (pI (pI S 75 ((8 * (gI S 26 63)) + (2 * l2)).toNatClampNeg l3) 75 (((8 * (gI S 26 63)) + (2 * l2)) + 1).toNatClampNeg l4) 0 0)))) ∧ (¬ l3 ≤ 0 → ((0 ≤ (((300 * (1 - l1)) + (l3 - 1)) : Int32).toInt ∧ (((300 * (1 - l1)) + (l3 - 1)) : Int32).toInt < (600 : Nat)) ∧ (((gI S 73 ((300 * (1 - l1)) + (l3 - 1)).toNatClampNeg) = 0 → ((0 ≤ (((8 * (gI S 26 63)) + (2 * l2)) : Int32).toInt ∧ (((8 * (gI S 26 63)) + (2 * l2)) : Int32).toInt < (4800 : Nat)) ∧ ((0 ≤ ((((8 * (gI S 26 63)) + (2 * l2)) + 1) : Int32).toInt ∧ ((((8 * (gI S 26 63)) + (2 * l2)) + 1) : Int32).toInt < (4800 : Nat)) ∧ (WP X 92 [(0, vr 26), (1, vi l1), (2, vi (l2 + 1)), (3, vi (l3 + (-1)))] [] (pI (pI S 75 ((8 * (gI S 26 63)) + (2 * l2)).toNatClampNeg l3) 75 (((8 * (gI S 26 63)) + (2 * l2)) + 1).toNatClampNeg l4) 0 0)))) ∧ (¬ (gI S 73 ((300 * (1 - l1)) + (l3 - 1)).toNatClampNeg) = 0 → (WP X 21 [(0, vr 26), (1, vi l1), (2, vi l2), (3, vi (l3 + (-1))), (4, vi l4)] [] S 0 0)))))) : WP X 21 [(0, vr 26), (1, vi l1), (2, vi l2), (3, vi l3), (4, vi l4)] [] S 0 0 := by
  have C := O.1
  refine r_iloadn C 3 dX5_putTold_21 rfl ?_
  refine r_if_le C dX5_putTold_22 (tgt := 49) (by decide) (fun hc3 => ?_) (fun hc3 => ?_)
  · replace h := h.1 hc3
    refine r_aloadn C 0 dX5_putTold_49 rfl ?_
    refine r_getR C (hF.k (by decide) rfl) fl_5_167 rfl (o := some 75) (hF.mR (by decide) rfl rfl) dX5_putTold_50 ?_
    refine r_bipush C (x := 8) dX5_putTold_53 (by decide) ?_
    refine r_aloadn C 0 dX5_putTold_55 rfl ?_
    refine r_getI C (hF.k (by decide) rfl) fl_5_212 rfl dX5_putTold_56 ?_
    refine r_imul C dX5_putTold_59 ?_
    refine r_iconst C (x := 2) dX5_putTold_60 (by decide) ?_
    refine r_iloadn C 2 dX5_putTold_61 rfl ?_
    refine r_imul C dX5_putTold_62 ?_
    refine r_iadd C dX5_putTold_63 ?_
    refine r_iloadn C 3 dX5_putTold_64 rfl ?_
    obtain ⟨hi4, h⟩ := h
    refine r_iast C (hF.k (by decide) rfl) (ixL (n := 4800) rfl hi4) dX5_putTold_65 ?_
    refine r_aloadn C 0 dX5_putTold_66 rfl ?_
    refine r_getR C (hF.k (by decide) rfl) fl_5_167 rfl (o := some 75) (hF.mR (by decide) rfl rfl) dX5_putTold_67 ?_
    refine r_bipush C (x := 8) dX5_putTold_70 (by decide) ?_
    refine r_aloadn C 0 dX5_putTold_72 rfl ?_
    refine r_getI C (hF.k (by decide) rfl) fl_5_212 rfl dX5_putTold_73 ?_
    refine r_imul C dX5_putTold_76 ?_
    refine r_iconst C (x := 2) dX5_putTold_77 (by decide) ?_
    refine r_iloadn C 2 dX5_putTold_78 rfl ?_
    refine r_imul C dX5_putTold_79 ?_
    refine r_iadd C dX5_putTold_80 ?_
    refine r_iconst C (x := 1) dX5_putTold_81 (by decide) ?_
    refine r_iadd C dX5_putTold_82 ?_
    refine r_iload C 4 dX5_putTold_83 rfl ?_
    obtain ⟨hi5, h⟩ := h
    refine r_iast C (hF.k (by decide) rfl) (ixL (n := 4800) rfl hi5) dX5_putTold_85 ?_
    refine r_iinc C (y := (l2 + 1)) 2 dX5_putTold_86 rfl rfl (by decide) rfl rfl ?_
    refine r_iinc C (y := (l3 + (-1))) 3 dX5_putTold_89 rfl rfl (by decide) rfl rfl ?_
    refine r_perm [2, 3, 1, 0] rfl ?_
    exact h
  · replace h := h.2 hc3
    refine r_aloadn C 0 dX5_putTold_25 rfl ?_
    refine r_getR C (hF.k (by decide) rfl) fl_5_160 rfl (o := some 73) (hF.mR (by decide) rfl rfl) dX5_putTold_26 ?_
    refine r_aloadn C 0 dX5_putTold_29 rfl ?_
    refine r_iconst C (x := 1) dX5_putTold_30 (by decide) ?_
    refine r_iloadn C 1 dX5_putTold_31 rfl ?_
    refine r_isub C dX5_putTold_32 ?_
    refine r_iloadn C 3 dX5_putTold_33 rfl ?_
    refine r_iconst C (x := 1) dX5_putTold_34 (by decide) ?_
    refine r_isub C dX5_putTold_35 ?_
    refine r_callVi C K5_at [vi (1 - l1), vi (l3 - 1)] [vr 73] (hF.k (by decide) rfl) (by decide) rfl cl_5_215 rm_5_putTold_5_at ⟨rfl, rfl⟩ (by decide) (by decide) rfl (Nat.le_of_ble_eq_true rfl) dX5_putTold_36 (q5_at (S := S) hF) (fun x6 _ _ _ hq => ?_)
    obtain ⟨hqa, hqb⟩ := hq; obtain rfl := hqa.symm; obtain rfl := hqb.symm
    obtain ⟨hi7, h⟩ := h
    refine r_zald C (hF.k (by decide) rfl) (ixL (n := 600) rfl hi7) dX5_putTold_39 ?_
    refine r_if_eq C dX5_putTold_40 (tgt := 49) (by decide) (fun hc8 => ?_) (fun hc8 => ?_)
    · replace h := h.1 hc8
      refine r_aloadn C 0 dX5_putTold_49 rfl ?_
      refine r_getR C (hF.k (by decide) rfl) fl_5_167 rfl (o := some 75) (hF.mR (by decide) rfl rfl) dX5_putTold_50 ?_
      refine r_bipush C (x := 8) dX5_putTold_53 (by decide) ?_
      refine r_aloadn C 0 dX5_putTold_55 rfl ?_
      refine r_getI C (hF.k (by decide) rfl) fl_5_212 rfl dX5_putTold_56 ?_
      refine r_imul C dX5_putTold_59 ?_
      refine r_iconst C (x := 2) dX5_putTold_60 (by decide) ?_
      refine r_iloadn C 2 dX5_putTold_61 rfl ?_
      refine r_imul C dX5_putTold_62 ?_
      refine r_iadd C dX5_putTold_63 ?_
      refine r_iloadn C 3 dX5_putTold_64 rfl ?_
      obtain ⟨hi9, h⟩ := h
      refine r_iast C (hF.k (by decide) rfl) (ixL (n := 4800) rfl hi9) dX5_putTold_65 ?_
      refine r_aloadn C 0 dX5_putTold_66 rfl ?_
      refine r_getR C (hF.k (by decide) rfl) fl_5_167 rfl (o := some 75) (hF.mR (by decide) rfl rfl) dX5_putTold_67 ?_
      refine r_bipush C (x := 8) dX5_putTold_70 (by decide) ?_
      refine r_aloadn C 0 dX5_putTold_72 rfl ?_
      refine r_getI C (hF.k (by decide) rfl) fl_5_212 rfl dX5_putTold_73 ?_
      refine r_imul C dX5_putTold_76 ?_
      refine r_iconst C (x := 2) dX5_putTold_77 (by decide) ?_
      refine r_iloadn C 2 dX5_putTold_78 rfl ?_
      refine r_imul C dX5_putTold_79 ?_
      refine r_iadd C dX5_putTold_80 ?_
      refine r_iconst C (x := 1) dX5_putTold_81 (by decide) ?_
      refine r_iadd C dX5_putTold_82 ?_
      refine r_iload C 4 dX5_putTold_83 rfl ?_
      obtain ⟨hi10, h⟩ := h
      refine r_iast C (hF.k (by decide) rfl) (ixL (n := 4800) rfl hi10) dX5_putTold_85 ?_
      refine r_iinc C (y := (l2 + 1)) 2 dX5_putTold_86 rfl rfl (by decide) rfl rfl ?_
      refine r_iinc C (y := (l3 + (-1))) 3 dX5_putTold_89 rfl rfl (by decide) rfl rfl ?_
      refine r_perm [2, 3, 1, 0] rfl ?_
      exact h
    · replace h := h.2 hc8
      refine r_iinc C (y := (l3 + (-1))) 3 dX5_putTold_43 rfl rfl (by decide) rfl rfl ?_
      refine r_goto C dX5_putTold_46 (tgt := 21) (by decide) ?_
      refine r_perm [1, 2, 3, 0, 4] rfl ?_
      exact h
set_option maxHeartbeats 4000000 in
set_option maxRecDepth 100000 in
theorem s5_putTold_92 {X : Ctx} {S0 S : Sto} {Q : Sto → Prop} (hF : Fx S) (hn : sN S0 ≤ sN S) (O : Ov X K5_putTold S0 Q) {l1 : Int32} {l2 : Int32} {l3 : Int32}   (h : (l3 < 0 → (WP X 9 [(0, vr 26), (1, vi l1), (2, vi l2), (3, vi l3)] [] S 0 0)) ∧ (¬ l3 < 0 → ((0 ≤ (((300 * (1 - l1)) + l3) : Int32).toInt ∧ (((300 * (1 - l1)) + l3) : Int32).toInt < (600 : Nat)) ∧ ((¬ (gI S 73 ((300 * (1 - l1)) + l3).toNatClampNeg) = 0 → (WP X 9 [(0, vr 26), (1, vi l1), (2, vi l2), (3, vi l3)] [] S 0 0)) ∧ ((gI S 73 ((300 * (1 - l1)) + l3).toNatClampNeg) = 0 → (WP X 92 [(0, vr 26), (1, vi l1), (2, vi l2), (3, vi (l3 + (-1)))] [] S 0 0)))))) : WP X 92 [(0, vr 26), (1, vi l1), (2, vi l2), (3, vi l3)] [] S 0 0 := by
  have C := O.1
  refine r_iloadn C 3 dX5_putTold_92 rfl ?_
  refine r_if_lt C dX5_putTold_93 (tgt := 118) (by decide) (fun hc3 => ?_) (fun hc3 => ?_)
  · replace h := h.1 hc3
    refine r_goto C dX5_putTold_118 (tgt := 9) (by decide) ?_
    refine r_perm [0, 1, 2, 3] rfl ?_
    exact h
  · replace h := h.2 hc3
    refine r_aloadn C 0 dX5_putTold_96 rfl ?_
    refine r_getR C (hF.k (by decide) rfl) fl_5_160 rfl (o := some 73) (hF.mR (by decide) rfl rfl) dX5_putTold_97 ?_
    refine r_aloadn C 0 dX5_putTold_100 rfl ?_
    refine r_iconst C (x := 1) dX5_putTold_101 (by decide) ?_
    refine r_iloadn C 1 dX5_putTold_102 rfl ?_
    refine r_isub C dX5_putTold_103 ?_
    refine r_iloadn C 3 dX5_putTold_104 rfl ?_
    refine r_callVi C K5_at [vi (1 - l1), vi l3] [vr 73] (hF.k (by decide) rfl) (by decide) rfl cl_5_215 rm_5_putTold_5_at ⟨rfl, rfl⟩ (by decide) (by decide) rfl (Nat.le_of_ble_eq_true rfl) dX5_putTold_105 (q5_at (S := S) hF) (fun x4 _ _ _ hq => ?_)
    obtain ⟨hqa, hqb⟩ := hq; obtain rfl := hqa.symm; obtain rfl := hqb.symm
    obtain ⟨hi5, h⟩ := h
    refine r_zald C (hF.k (by decide) rfl) (ixL (n := 600) rfl hi5) dX5_putTold_108 ?_
    refine r_if_ne C dX5_putTold_109 (tgt := 118) (by decide) (fun hc6 => ?_) (fun hc6 => ?_)
    · replace h := h.1 hc6
      refine r_goto C dX5_putTold_118 (tgt := 9) (by decide) ?_
      refine r_perm [0, 1, 2, 3] rfl ?_
      exact h
    · replace h := h.2 hc6
      refine r_iinc C (y := (l3 + (-1))) 3 dX5_putTold_112 rfl rfl (by decide) rfl rfl ?_
      refine r_goto C dX5_putTold_115 (tgt := 92) (by decide) ?_
      refine r_perm [1, 2, 3, 0] rfl ?_
      exact h
set_option maxHeartbeats 4000000 in
set_option maxRecDepth 100000 in
theorem e5_putBounds {S : Sto} {Q : Sto → Prop} (hF : Fx S) {p1 : Int32}  (h : ∀ X : Ctx, Ov X K5_putBounds S Q → WP X 4 [(0, vr 26), (1, vi p1), (2, vi (1 - p1))] [] S 0 0) : Cv K5_putBounds [vr 26, vi p1] S Q := by
  refine Cv.intro rfl (Nat.le_of_ble_eq_true rfl) (fun X O => ?_)
  replace h := h X O
  have C := O.1
  have hn : sN S ≤ sN S := Nat.le_refl _
  show WP X 0 [(0, vr 26), (1, vi p1)] [] S 0 0
  refine r_iconst C (x := 1) dX5_putBounds_0 (by decide) ?_
  refine r_iloadn C 1 dX5_putBounds_1 rfl ?_
  refine r_isub C dX5_putBounds_2 ?_
  refine r_istoren C dX5_putBounds_3 (by decide) rfl rfl ?_
  refine r_perm [1, 2, 0] rfl ?_
  exact h
set_option maxHeartbeats 4000000 in
set_option maxRecDepth 100000 in
theorem s5_putBounds_4 {X : Ctx} {S0 S : Sto} {Q : Sto → Prop} (hF : Fx S) (hn : sN S0 ≤ sN S) (O : Ov X K5_putBounds S0 Q) {l1 : Int32} {l2 : Int32}   (h : (8 ≤ l2 → ((0 ≤ (l1 : Int32).toInt ∧ (l1 : Int32).toInt < (2 : Nat)) ∧ (((gI S 58 l1.toNatClampNeg) = 0 → (WP X 126 [(0, vr 26), (2, vi l1)] [] S 0 0)) ∧ (¬ (gI S 58 l1.toNatClampNeg) = 0 → (Ci K5_allRead [vr 26, vi l1] S (fun x5 S5 => Ci K5_put [vr 26, vi 3, vi 5, vi 0, vi (x5 + (gI S5 26 2)), vi 0] S5 (fun x6 S6 => (x6 = 0 → (WP X 126 [(0, vr 26), (2, vi l1)] [] S6 0 0)) ∧ (¬ x6 = 0 → (Ci K5_allRead [vr 26, vi l1] (pI S6 58 l1.toNatClampNeg 0) (fun x8 S8 => WP X 126 [(0, vr 26), (2, vi l1)] [] (pI S8 59 l1.toNatClampNeg (x8 + (gI S8 26 2))) 0 0)))))))))) ∧ (¬ 8 ≤ l2 → ((0 ≤ (l2 : Int32).toInt ∧ (l2 : Int32).toInt < (8 : Nat)) ∧ (((gI S 41 l2.toNatClampNeg) = 0 → (WP X 4 [(0, vr 26), (1, vi l1), (2, vi (l2 + 2))] [] S 0 0)) ∧ (¬ (gI S 41 l2.toNatClampNeg) = 0 → (Ci K5_put [vr 26, vi 2, vi 5, vi l2, vi ((gI S 39 l2.toNatClampNeg) + (gI S 26 1)), vi 0] S (fun x11 S11 => (x11 = 0 → (WP X 4 [(0, vr 26), (1, vi l1), (2, vi (l2 + 2))] [] S11 0 0)) ∧ (¬ x11 = 0 → (WP X 4 [(0, vr 26), (1, vi l1), (2, vi (l2 + 2))] [] (pI (pI S11 41 l2.toNatClampNeg 0) 40 l2.toNatClampNeg ((gI S11 39 l2.toNatClampNeg) + (gI S11 26 1))) 0 0))))))))) : WP X 4 [(0, vr 26), (1, vi l1), (2, vi l2)] [] S 0 0 := by
  have C := O.1
  refine r_iloadn C 2 dX5_putBounds_4 rfl ?_
  refine r_bipush C (x := 8) dX5_putBounds_5 (by decide) ?_
  refine r_icmp_ge C dX5_putBounds_7 (tgt := 71) (by decide) (fun hc2 => ?_) (fun hc2 => ?_)
  · replace h := h.1 hc2
    refine r_aloadn C 0 dX5_putBounds_71 rfl ?_
    refine r_getR C (hF.k (by decide) rfl) fl_5_115 rfl (o := some 58) (hF.mR (by decide) rfl rfl) dX5_putBounds_72 ?_
    refine r_iloadn C 1 dX5_putBounds_75 rfl ?_
    obtain ⟨hi3, h⟩ := h
    refine r_zald C (hF.k (by decide) rfl) (ixL (n := 2) rfl hi3) dX5_putBounds_76 ?_
    refine r_if_eq C dX5_putBounds_77 (tgt := 124) (by decide) (fun hc4 => ?_) (fun hc4 => ?_)
    · replace h := h.1 hc4
      refine r_iloadn C 1 dX5_putBounds_124 rfl ?_
      refine r_istoren C dX5_putBounds_125 (by decide) rfl rfl ?_
      refine r_perm [1, 0] rfl ?_
      exact h
    · replace h := h.2 hc4
      refine r_aloadn C 0 dX5_putBounds_80 rfl ?_
      refine r_iconst C (x := 3) dX5_putBounds_81 (by decide) ?_
      refine r_iconst C (x := 5) dX5_putBounds_82 (by decide) ?_
      refine r_iconst C (x := 0) dX5_putBounds_83 (by decide) ?_
      refine r_aloadn C 0 dX5_putBounds_84 rfl ?_
      refine r_iloadn C 1 dX5_putBounds_85 rfl ?_
      refine r_callVi C K5_allRead [vi l1] [vi 0, vi 5, vi 3, vr 26] (hF.k (by decide) rfl) (by decide) rfl cl_5_205 rm_5_putBounds_5_allRead ⟨rfl, rfl⟩ (by decide) (by decide) rfl (Nat.le_of_ble_eq_true rfl) dX5_putBounds_86 h (fun x5 S5 hF5 hn5 h => ?_)
      refine r_aloadn C 0 dX5_putBounds_89 rfl ?_
      refine r_getI C (hF5.k (by decide) rfl) fl_5_16 rfl dX5_putBounds_90 ?_
      refine r_iadd C dX5_putBounds_93 ?_
      refine r_iconst C (x := 0) dX5_putBounds_94 (by decide) ?_
      refine r_callVi C K5_put [vi 3, vi 5, vi 0, vi (x5 + (gI S5 26 2)), vi 0] [] (hF5.k (by decide) rfl) (by decide) rfl cl_5_219 rm_5_putBounds_5_put ⟨rfl, rfl⟩ (by decide) (by decide) rfl (Nat.le_of_ble_eq_true rfl) dX5_putBounds_95 h (fun x6 S6 hF6 hn6 h => ?_)
      refine r_if_eq C dX5_putBounds_98 (tgt := 124) (by decide) (fun hc7 => ?_) (fun hc7 => ?_)
      · replace h := h.1 hc7
        refine r_iloadn C 1 dX5_putBounds_124 rfl ?_
        refine r_istoren C dX5_putBounds_125 (by decide) rfl rfl ?_
        refine r_perm [1, 0] rfl ?_
        exact h
      · replace h := h.2 hc7
        refine r_aloadn C 0 dX5_putBounds_101 rfl ?_
        refine r_getR C (hF6.k (by decide) rfl) fl_5_115 rfl (o := some 58) (hF6.mR (by decide) rfl rfl) dX5_putBounds_102 ?_
        refine r_iloadn C 1 dX5_putBounds_105 rfl ?_
        refine r_iconst C (x := 0) dX5_putBounds_106 (by decide) ?_
        refine r_zast C (hF6.k (by decide) rfl) (Or.inl rfl) (ixL (n := 2) rfl hi3) dX5_putBounds_107 ?_
        refine r_aloadn C 0 dX5_putBounds_108 rfl ?_
        refine r_getR C (hF6.k (by decide) rfl) fl_5_118 rfl (o := some 59) (hF6.mR (by decide) rfl rfl) dX5_putBounds_109 ?_
        refine r_iloadn C 1 dX5_putBounds_112 rfl ?_
        refine r_aloadn C 0 dX5_putBounds_113 rfl ?_
        refine r_iloadn C 1 dX5_putBounds_114 rfl ?_
        refine r_callVi C K5_allRead [vi l1] [vi l1, vr 59] (hF6.k (by decide) rfl) (by decide) rfl cl_5_205 rm_5_putBounds_5_allRead ⟨rfl, rfl⟩ (by decide) (by decide) rfl (Nat.le_of_ble_eq_true rfl) dX5_putBounds_115 h (fun x8 S8 hF8 hn8 h => ?_)
        refine r_aloadn C 0 dX5_putBounds_118 rfl ?_
        refine r_getI C (hF8.k (by decide) rfl) fl_5_16 rfl dX5_putBounds_119 ?_
        refine r_iadd C dX5_putBounds_122 ?_
        refine r_iast C (hF8.k (by decide) rfl) (ixL (n := 2) rfl hi3) dX5_putBounds_123 ?_
        refine r_iloadn C 1 dX5_putBounds_124 rfl ?_
        refine r_istoren C dX5_putBounds_125 (by decide) rfl rfl ?_
        refine r_perm [1, 0] rfl ?_
        exact h
  · replace h := h.2 hc2
    refine r_aloadn C 0 dX5_putBounds_10 rfl ?_
    refine r_getR C (hF.k (by decide) rfl) fl_5_64 rfl (o := some 41) (hF.mR (by decide) rfl rfl) dX5_putBounds_11 ?_
    refine r_iloadn C 2 dX5_putBounds_14 rfl ?_
    obtain ⟨hi9, h⟩ := h
    refine r_zald C (hF.k (by decide) rfl) (ixL (n := 8) rfl hi9) dX5_putBounds_15 ?_
    refine r_if_eq C dX5_putBounds_16 (tgt := 65) (by decide) (fun hc10 => ?_) (fun hc10 => ?_)
    · replace h := h.1 hc10
      refine r_iinc C (y := (l2 + 2)) 2 dX5_putBounds_65 rfl rfl (by decide) rfl rfl ?_
      refine r_goto C dX5_putBounds_68 (tgt := 4) (by decide) ?_
      refine r_perm [1, 2, 0] rfl ?_
      exact h
    · replace h := h.2 hc10
      refine r_aloadn C 0 dX5_putBounds_19 rfl ?_
      refine r_iconst C (x := 2) dX5_putBounds_20 (by decide) ?_
      refine r_iconst C (x := 5) dX5_putBounds_21 (by decide) ?_
      refine r_iloadn C 2 dX5_putBounds_22 rfl ?_
      refine r_aloadn C 0 dX5_putBounds_23 rfl ?_
      refine r_getR C (hF.k (by decide) rfl) fl_5_58 rfl (o := some 39) (hF.mR (by decide) rfl rfl) dX5_putBounds_24 ?_
      refine r_iloadn C 2 dX5_putBounds_27 rfl ?_
      refine r_iald C (hF.k (by decide) rfl) (ixL (n := 8) rfl hi9) dX5_putBounds_28 ?_
      refine r_aloadn C 0 dX5_putBounds_29 rfl ?_
      refine r_getI C (hF.k (by decide) rfl) fl_5_13 rfl dX5_putBounds_30 ?_
      refine r_iadd C dX5_putBounds_33 ?_
      refine r_iconst C (x := 0) dX5_putBounds_34 (by decide) ?_
      refine r_callVi C K5_put [vi 2, vi 5, vi l2, vi ((gI S 39 l2.toNatClampNeg) + (gI S 26 1)), vi 0] [] (hF.k (by decide) rfl) (by decide) rfl cl_5_219 rm_5_putBounds_5_put ⟨rfl, rfl⟩ (by decide) (by decide) rfl (Nat.le_of_ble_eq_true rfl) dX5_putBounds_35 h (fun x11 S11 hF11 hn11 h => ?_)
      refine r_if_eq C dX5_putBounds_38 (tgt := 65) (by decide) (fun hc12 => ?_) (fun hc12 => ?_)
      · replace h := h.1 hc12
        refine r_iinc C (y := (l2 + 2)) 2 dX5_putBounds_65 rfl rfl (by decide) rfl rfl ?_
        refine r_goto C dX5_putBounds_68 (tgt := 4) (by decide) ?_
        refine r_perm [1, 2, 0] rfl ?_
        exact h
      · replace h := h.2 hc12
        refine r_aloadn C 0 dX5_putBounds_41 rfl ?_
        refine r_getR C (hF11.k (by decide) rfl) fl_5_64 rfl (o := some 41) (hF11.mR (by decide) rfl rfl) dX5_putBounds_42 ?_
        refine r_iloadn C 2 dX5_putBounds_45 rfl ?_
        refine r_iconst C (x := 0) dX5_putBounds_46 (by decide) ?_
        refine r_zast C (hF11.k (by decide) rfl) (Or.inl rfl) (ixL (n := 8) rfl hi9) dX5_putBounds_47 ?_
        refine r_aloadn C 0 dX5_putBounds_48 rfl ?_
        refine r_getR C (hF11.k (by decide) rfl) fl_5_61 rfl (o := some 40) (hF11.mR (by decide) rfl rfl) dX5_putBounds_49 ?_
        refine r_iloadn C 2 dX5_putBounds_52 rfl ?_
        refine r_aloadn C 0 dX5_putBounds_53 rfl ?_
        refine r_getR C (hF11.k (by decide) rfl) fl_5_58 rfl (o := some 39) (hF11.mR (by decide) rfl rfl) dX5_putBounds_54 ?_
        refine r_iloadn C 2 dX5_putBounds_57 rfl ?_
        refine r_iald C (hF11.k (by decide) rfl) (ixL (n := 8) rfl hi9) dX5_putBounds_58 ?_
        refine r_aloadn C 0 dX5_putBounds_59 rfl ?_
        refine r_getI C (hF11.k (by decide) rfl) fl_5_13 rfl dX5_putBounds_60 ?_
        refine r_iadd C dX5_putBounds_63 ?_
        refine r_iast C (hF11.k (by decide) rfl) (ixL (n := 8) rfl hi9) dX5_putBounds_64 ?_
        refine r_iinc C (y := (l2 + 2)) 2 dX5_putBounds_65 rfl rfl (by decide) rfl rfl ?_
        refine r_goto C dX5_putBounds_68 (tgt := 4) (by decide) ?_
        refine r_perm [1, 2, 0] rfl ?_
        exact h
set_option maxHeartbeats 4000000 in
set_option maxRecDepth 100000 in
theorem s5_putBounds_126 {X : Ctx} {S0 S : Sto} {Q : Sto → Prop} (hF : Fx S) (hn : sN S0 ≤ sN S) (O : Ov X K5_putBounds S0 Q) {l2 : Int32}   (h : (8 ≤ l2 → (Q S)) ∧ (¬ 8 ≤ l2 → ((0 ≤ (l2 : Int32).toInt ∧ (l2 : Int32).toInt < (8 : Nat)) ∧ (((gI S 30 l2.toNatClampNeg) = 0 → (WP X 126 [(0, vr 26), (2, vi (l2 + 2))] [] S 0 0)) ∧ (¬ (gI S 30 l2.toNatClampNeg) = 0 → (Ci K5_put [vr 26, vi 5, vi 7, vi l2, vi 0, vi 0] S (fun x5 S5 => (x5 = 0 → (WP X 126 [(0, vr 26), (2, vi (l2 + 2))] [] S5 0 0)) ∧ (¬ x5 = 0 → (WP X 126 [(0, vr 26), (2, vi (l2 + 2))] [] (pI S5 30 l2.toNatClampNeg 0) 0 0))))))))) : WP X 126 [(0, vr 26), (2, vi l2)] [] S 0 0 := by
  have C := O.1
  refine r_iloadn C 1 dX5_putBounds_126 rfl ?_
  refine r_bipush C (x := 8) dX5_putBounds_127 (by decide) ?_
  refine r_icmp_ge C dX5_putBounds_129 (tgt := 167) (by decide) (fun hc2 => ?_) (fun hc2 => ?_)
  · replace h := h.1 hc2
    exact rv O rfl dX5_putBounds_167 (by decide) (by decide) hF hn h
  · replace h := h.2 hc2
    refine r_aloadn C 0 dX5_putBounds_132 rfl ?_
    refine r_getR C (hF.k (by decide) rfl) fl_5_30 rfl (o := some 30) (hF.mR (by decide) rfl rfl) dX5_putBounds_133 ?_
    refine r_iloadn C 1 dX5_putBounds_136 rfl ?_
    obtain ⟨hi3, h⟩ := h
    refine r_zald C (hF.k (by decide) rfl) (ixL (n := 8) rfl hi3) dX5_putBounds_137 ?_
    refine r_if_eq C dX5_putBounds_138 (tgt := 161) (by decide) (fun hc4 => ?_) (fun hc4 => ?_)
    · replace h := h.1 hc4
      refine r_iinc C (y := (l2 + 2)) 1 dX5_putBounds_161 rfl rfl (by decide) rfl rfl ?_
      refine r_goto C dX5_putBounds_164 (tgt := 126) (by decide) ?_
      refine r_perm [1, 0] rfl ?_
      exact h
    · replace h := h.2 hc4
      refine r_aloadn C 0 dX5_putBounds_141 rfl ?_
      refine r_iconst C (x := 5) dX5_putBounds_142 (by decide) ?_
      refine r_bipush C (x := 7) dX5_putBounds_143 (by decide) ?_
      refine r_iloadn C 1 dX5_putBounds_145 rfl ?_
      refine r_iconst C (x := 0) dX5_putBounds_146 (by decide) ?_
      refine r_iconst C (x := 0) dX5_putBounds_147 (by decide) ?_
      refine r_callVi C K5_put [vi 5, vi 7, vi l2, vi 0, vi 0] [] (hF.k (by decide) rfl) (by decide) rfl cl_5_219 rm_5_putBounds_5_put ⟨rfl, rfl⟩ (by decide) (by decide) rfl (Nat.le_of_ble_eq_true rfl) dX5_putBounds_148 h (fun x5 S5 hF5 hn5 h => ?_)
      refine r_if_eq C dX5_putBounds_151 (tgt := 161) (by decide) (fun hc6 => ?_) (fun hc6 => ?_)
      · replace h := h.1 hc6
        refine r_iinc C (y := (l2 + 2)) 1 dX5_putBounds_161 rfl rfl (by decide) rfl rfl ?_
        refine r_goto C dX5_putBounds_164 (tgt := 126) (by decide) ?_
        refine r_perm [1, 0] rfl ?_
        exact h
      · replace h := h.2 hc6
        refine r_aloadn C 0 dX5_putBounds_154 rfl ?_
        refine r_getR C (hF5.k (by decide) rfl) fl_5_30 rfl (o := some 30) (hF5.mR (by decide) rfl rfl) dX5_putBounds_155 ?_
        refine r_iloadn C 1 dX5_putBounds_158 rfl ?_
        refine r_iconst C (x := 0) dX5_putBounds_159 (by decide) ?_
        refine r_zast C (hF5.k (by decide) rfl) (Or.inl rfl) (ixL (n := 8) rfl hi3) dX5_putBounds_160 ?_
        refine r_iinc C (y := (l2 + 2)) 1 dX5_putBounds_161 rfl rfl (by decide) rfl rfl ?_
        refine r_goto C dX5_putBounds_164 (tgt := 126) (by decide) ?_
        refine r_perm [1, 0] rfl ?_
        exact h
set_option maxHeartbeats 4000000 in
set_option maxRecDepth 100000 in
theorem e5_counted {S : Sto} {Q : Int32 → Sto → Prop} (hF : Fx S) {p1 : Int32}  (h : ∀ X : Ctx, Oi X K5_counted S Q → WP X 4 [(0, vr 26), (2, vi 0), (3, vi p1)] [] S 0 0) : Ci K5_counted [vr 26, vi p1] S Q := by
  refine Ci.intro rfl (Nat.le_of_ble_eq_true rfl) (fun X O => ?_)
  replace h := h X O
  have C := O.1
  have hn : sN S ≤ sN S := Nat.le_refl _
  show WP X 0 [(0, vr 26), (1, vi p1)] [] S 0 0
  refine r_iconst C (x := 0) dX5_counted_0 (by decide) ?_
  refine r_istoren C dX5_counted_1 (by decide) rfl rfl ?_
  refine r_iloadn C 2 dX5_counted_2 rfl ?_
  refine r_istoren C dX5_counted_3 (by decide) rfl rfl ?_
  refine r_perm [2, 1, 0] rfl ?_
  exact h
set_option maxHeartbeats 4000000 in
set_option maxRecDepth 100000 in
theorem s5_counted_4 {X : Ctx} {S0 S : Sto} {Q : Int32 → Sto → Prop} (hF : Fx S) (hn : sN S0 ≤ sN S) (O : Oi X K5_counted S0 Q) {l2 : Int32} {l3 : Int32}   (h : (8 ≤ l3 → (Q l2 S)) ∧ (¬ 8 ≤ l3 → ((0 ≤ (l3 : Int32).toInt ∧ (l3 : Int32).toInt < (8 : Nat)) ∧ (WP X 4 [(0, vr 26), (2, vi (l2 + (gI S 31 l3.toNatClampNeg))), (3, vi (l3 + 2))] [] S 0 0)))) : WP X 4 [(0, vr 26), (2, vi l2), (3, vi l3)] [] S 0 0 := by
  have C := O.1
  refine r_iloadn C 2 dX5_counted_4 rfl ?_
  refine r_bipush C (x := 8) dX5_counted_5 (by decide) ?_
  refine r_icmp_ge C dX5_counted_7 (tgt := 25) (by decide) (fun hc2 => ?_) (fun hc2 => ?_)
  · replace h := h.1 hc2
    refine r_iloadn C 1 dX5_counted_25 rfl ?_
    exact ri O ⟨_, rfl, rfl⟩ dX5_counted_26 (by decide) (by decide) hF hn h
  · replace h := h.2 hc2
    refine r_iloadn C 1 dX5_counted_10 rfl ?_
    refine r_aloadn C 0 dX5_counted_11 rfl ?_
    refine r_getR C (hF.k (by decide) rfl) fl_5_33 rfl (o := some 31) (hF.mR (by decide) rfl rfl) dX5_counted_12 ?_
    refine r_iloadn C 2 dX5_counted_15 rfl ?_
    obtain ⟨hi3, h⟩ := h
    refine r_iald C (hF.k (by decide) rfl) (ixL (n := 8) rfl hi3) dX5_counted_16 ?_
    refine r_iadd C dX5_counted_17 ?_
    refine r_istoren C dX5_counted_18 (by decide) rfl rfl ?_
    refine r_iinc C (y := (l3 + 2)) 2 dX5_counted_19 rfl rfl (by decide) rfl rfl ?_
    refine r_goto C dX5_counted_22 (tgt := 4) (by decide) ?_
    refine r_perm [2, 1, 0] rfl ?_
    exact h
set_option maxHeartbeats 4000000 in
set_option maxRecDepth 100000 in
theorem e5_firstAgain {S : Sto} {Q : Int32 → Sto → Prop} (hF : Fx S) {p1 : Int32}  (h : ∀ X : Ctx, Oi X K5_firstAgain S Q → WP X 2 [(0, vr 26), (1, vi p1), (2, vi 0)] [] S 0 0) : Ci K5_firstAgain [vr 26, vi p1] S Q := by
  refine Ci.intro rfl (Nat.le_of_ble_eq_true rfl) (fun X O => ?_)
  replace h := h X O
  have C := O.1
  have hn : sN S ≤ sN S := Nat.le_refl _
  show WP X 0 [(0, vr 26), (1, vi p1)] [] S 0 0
  refine r_iconst C (x := 0) dX5_firstAgain_0 (by decide) ?_
  refine r_istoren C dX5_firstAgain_1 (by decide) rfl rfl ?_
  refine r_perm [1, 2, 0] rfl ?_
  exact h
set_option maxHeartbeats 4000000 in
set_option maxRecDepth 100000 in
theorem s5_firstAgain_2 {X : Ctx} {S0 S : Sto} {Q : Int32 → Sto → Prop} (hF : Fx S) (hn : sN S0 ≤ sN S) (O : Oi X K5_firstAgain S0 Q) {l1 : Int32} {l2 : Int32}   (h : (0 ≤ (l1 : Int32).toInt ∧ (l1 : Int32).toInt < (8 : Nat)) ∧ (((gI S 31 l1.toNatClampNeg) ≤ l2 → (Q (-1) S)) ∧ (¬ (gI S 31 l1.toNatClampNeg) ≤ l2 → ((0 ≤ (((1000 * l1) + l2) : Int32).toInt ∧ (((1000 * l1) + l2) : Int32).toInt < (8000 : Nat)) ∧ ((¬ (gI S 36 ((1000 * l1) + l2).toNatClampNeg) = 2 → (WP X 2 [(0, vr 26), (1, vi l1), (2, vi (l2 + 1))] [] S 0 0)) ∧ ((gI S 36 ((1000 * l1) + l2).toNatClampNeg) = 2 → (Q l2 S))))))) : WP X 2 [(0, vr 26), (1, vi l1), (2, vi l2)] [] S 0 0 := by
  have C := O.1
  refine r_iloadn C 2 dX5_firstAgain_2 rfl ?_
  refine r_aloadn C 0 dX5_firstAgain_3 rfl ?_
  refine r_getR C (hF.k (by decide) rfl) fl_5_33 rfl (o := some 31) (hF.mR (by decide) rfl rfl) dX5_firstAgain_4 ?_
  refine r_iloadn C 1 dX5_firstAgain_7 rfl ?_
  obtain ⟨hi1, h⟩ := h
  refine r_iald C (hF.k (by decide) rfl) (ixL (n := 8) rfl hi1) dX5_firstAgain_8 ?_
  refine r_icmp_ge C dX5_firstAgain_9 (tgt := 36) (by decide) (fun hc2 => ?_) (fun hc2 => ?_)
  · replace h := h.1 hc2
    refine r_iconst C (x := (-1)) dX5_firstAgain_36 (by decide) ?_
    exact ri O ⟨_, rfl, rfl⟩ dX5_firstAgain_37 (by decide) (by decide) hF hn h
  · replace h := h.2 hc2
    refine r_aloadn C 0 dX5_firstAgain_12 rfl ?_
    refine r_getR C (hF.k (by decide) rfl) fl_5_48 rfl (o := some 36) (hF.mR (by decide) rfl rfl) dX5_firstAgain_13 ?_
    refine r_sipush C (x := 1000) dX5_firstAgain_16 (by decide) ?_
    refine r_iloadn C 1 dX5_firstAgain_19 rfl ?_
    refine r_imul C dX5_firstAgain_20 ?_
    refine r_iloadn C 2 dX5_firstAgain_21 rfl ?_
    refine r_iadd C dX5_firstAgain_22 ?_
    obtain ⟨hi3, h⟩ := h
    refine r_bald C (hF.k (by decide) rfl) (ixL (n := 8000) rfl hi3) dX5_firstAgain_23 ?_
    refine r_iconst C (x := 2) dX5_firstAgain_24 (by decide) ?_
    refine r_icmp_ne C dX5_firstAgain_25 (tgt := 30) (by decide) (fun hc4 => ?_) (fun hc4 => ?_)
    · replace h := h.1 hc4
      refine r_iinc C (y := (l2 + 1)) 2 dX5_firstAgain_30 rfl rfl (by decide) rfl rfl ?_
      refine r_goto C dX5_firstAgain_33 (tgt := 2) (by decide) ?_
      refine r_perm [1, 2, 0] rfl ?_
      exact h
    · replace h := h.2 hc4
      refine r_iloadn C 2 dX5_firstAgain_28 rfl ?_
      exact ri O ⟨_, rfl, rfl⟩ dX5_firstAgain_29 (by decide) (by decide) hF hn h
set_option maxHeartbeats 4000000 in
set_option maxRecDepth 100000 in
theorem e5_putBytes {S : Sto} {Q : Sto → Prop} (hF : Fx S) {p1 : Int32} {p2 : Int32}  (h : ∀ X : Ctx, Ov X K5_putBytes S Q → (0 ≤ ((gI S 26 63) : Int32).toInt ∧ ((gI S 26 63) : Int32).toInt < (600 : Nat)) ∧ (Ci K5_firstAgain [vr 26, vi p2] S (fun x2 S2 => (x2 < 0 → ((0 ≤ (p2 : Int32).toInt ∧ (p2 : Int32).toInt < (8 : Nat)) ∧ (∀ w9 : Int32, w9 = (if (gI S2 35 p2.toNatClampNeg) ≤ (gI S2 27 p2.toNatClampNeg) then (gI S2 35 p2.toNatClampNeg) else (gI S2 27 p2.toNatClampNeg) : Int32) → ((0 ≤ (p1 : Int32).toInt ∧ (p1 : Int32).toInt < (2 : Nat)) ∧ (Ci K5_counted [vr 26, vi p1] S2 (fun x13 S13 => ∀ w14 : Int32, w14 = (if ((gI S2 57 p1.toNatClampNeg) - x13) ≤ (w9 - (gI S2 31 p2.toNatClampNeg)) then ((gI S2 57 p1.toNatClampNeg) - x13) else (w9 - (gI S2 31 p2.toNatClampNeg)) : Int32) → (∀ w17 : Int32, w17 = (if 0 ≤ w14 then w14 else 0 : Int32) → (∀ w38 : Int32, w38 = (if (gI S13 28 p2.toNatClampNeg) = 0 then 0 else (if (gI S13 32 p2.toNatClampNeg) = 0 then (if (gI S13 34 p2.toNatClampNeg) = 0 then 1 else 0 : Int32) else (if (gI S13 33 p2.toNatClampNeg) = 0 then 0 else (if (gI S13 34 p2.toNatClampNeg) = 0 then 1 else 0 : Int32) : Int32) : Int32) : Int32) → ((¬ w17 = 0 → ((w17 ≤ 0 → (((((gI S 26 0) - (gI S 68 (gI S 26 63).toNatClampNeg)) - 8) < 0 → (Q S13)) ∧ (¬ (((gI S 26 0) - (gI S 68 (gI S 26 63).toNatClampNeg)) - 8) < 0 → ((0 ≤ ((gI S13 26 63) : Int32).toInt ∧ ((gI S13 26 63) : Int32).toInt < (600 : Nat)) ∧ ((¬ (gI S13 69 (gI S13 26 63).toNatClampNeg) = 24 → (∀ w46 : Int32, w46 = (if (((gI S 26 0) - (gI S 68 (gI S 26 63).toNatClampNeg)) - 8) ≤ w17 then (((gI S 26 0) - (gI S 68 (gI S 26 63).toNatClampNeg)) - 8) else w17 : Int32) → (WP X 277 [(0, vr 26), (1, vi p1), (2, vi p2), (4, vi (gI S2 31 p2.toNatClampNeg)), (5, vi w46), (6, vi w38), (7, vi 0)] [] S13 0 0))) ∧ ((gI S13 69 (gI S13 26 63).toNatClampNeg) = 24 → (Q S13))))))) ∧ (¬ w17 ≤ 0 → (((((gI S 26 0) - (gI S 68 (gI S 26 63).toNatClampNeg)) - 8) < 1 → (Q S13)) ∧ (¬ (((gI S 26 0) - (gI S 68 (gI S 26 63).toNatClampNeg)) - 8) < 1 → (((((gI S 26 0) - (gI S 68 (gI S 26 63).toNatClampNeg)) - 8) < 0 → (Q S13)) ∧ (¬ (((gI S 26 0) - (gI S 68 (gI S 26 63).toNatClampNeg)) - 8) < 0 → ((0 ≤ ((gI S13 26 63) : Int32).toInt ∧ ((gI S13 26 63) : Int32).toInt < (600 : Nat)) ∧ ((¬ (gI S13 69 (gI S13 26 63).toNatClampNeg) = 24 → (∀ w53 : Int32, w53 = (if (((gI S 26 0) - (gI S 68 (gI S 26 63).toNatClampNeg)) - 8) ≤ w17 then (((gI S 26 0) - (gI S 68 (gI S 26 63).toNatClampNeg)) - 8) else w17 : Int32) → (WP X 277 [(0, vr 26), (1, vi p1), (2, vi p2), (4, vi (gI S2 31 p2.toNatClampNeg)), (5, vi w53), (6, vi w38), (7, vi 0)] [] S13 0 0))) ∧ ((gI S13 69 (gI S13 26 63).toNatClampNeg) = 24 → (Q S13))))))))))) ∧ (w17 = 0 → ((w38 = 0 → (Q S13)) ∧ (¬ w38 = 0 → (((gI S13 27 p2.toNatClampNeg) ≤ (gI S13 31 p2.toNatClampNeg) → ((w17 ≤ 0 → (((((gI S 26 0) - (gI S 68 (gI S 26 63).toNatClampNeg)) - 8) < 0 → (Q S13)) ∧ (¬ (((gI S 26 0) - (gI S 68 (gI S 26 63).toNatClampNeg)) - 8) < 0 → ((0 ≤ ((gI S13 26 63) : Int32).toInt ∧ ((gI S13 26 63) : Int32).toInt < (600 : Nat)) ∧ ((¬ (gI S13 69 (gI S13 26 63).toNatClampNeg) = 24 → (∀ w62 : Int32, w62 = (if (((gI S 26 0) - (gI S 68 (gI S 26 63).toNatClampNeg)) - 8) ≤ w17 then (((gI S 26 0) - (gI S 68 (gI S 26 63).toNatClampNeg)) - 8) else w17 : Int32) → (WP X 277 [(0, vr 26), (1, vi p1), (2, vi p2), (4, vi (gI S2 31 p2.toNatClampNeg)), (5, vi w62), (6, vi w38), (7, vi 0)] [] S13 0 0))) ∧ ((gI S13 69 (gI S13 26 63).toNatClampNeg) = 24 → (Q S13))))))) ∧ (¬ w17 ≤ 0 → (((((gI S 26 0) - (gI S 68 (gI S 26 63).toNatClampNeg)) - 8) < 1 → (Q S13)) ∧ (¬ (((gI S 26 0) - (gI S 68 (gI S 26 63).toNatClampNeg)) - 8) < 1 → (((((gI S 26 0) - (gI S 68 (gI S 26 63).toNatClampNeg)) - 8) < 0 → (Q S13)) ∧ (¬ (((gI S 26 0) - (gI S 68 (gI S 26 63).toNatClampNeg)) - 8) < 0 → ((0 ≤ ((gI S13 26 63) : Int32).toInt ∧ ((gI S13 26 63) : Int32).toInt < (600 : Nat)) ∧ ((¬ (gI S13 69 (gI S13 26 63).toNatClampNeg) = 24 → (∀ w69 : Int32, w69 = (if (((gI S 26 0) - (gI S 68 (gI S 26 63).toNatClampNeg)) - 8) ≤ w17 then (((gI S 26 0) - (gI S 68 (gI S 26 63).toNatClampNeg)) - 8) else w17 : Int32) → (WP X 277 [(0, vr 26), (1, vi p1), (2, vi p2), (4, vi (gI S2 31 p2.toNatClampNeg)), (5, vi w69), (6, vi w38), (7, vi 0)] [] S13 0 0))) ∧ ((gI S13 69 (gI S13 26 63).toNatClampNeg) = 24 → (Q S13))))))))))) ∧ (¬ (gI S13 27 p2.toNatClampNeg) ≤ (gI S13 31 p2.toNatClampNeg) → (Q S13))))))))))))))) ∧ (¬ x2 < 0 → (WP X 33 [(0, vr 26), (1, vi p1), (2, vi p2), (3, vi (((gI S 26 0) - (gI S 68 (gI S 26 63).toNatClampNeg)) - 8)), (4, vi x2), (5, vi 0)] [] S2 0 0))))) : Cv K5_putBytes [vr 26, vi p1, vi p2] S Q := by
  refine Cv.intro rfl (Nat.le_of_ble_eq_true rfl) (fun X O => ?_)
  replace h := h X O
  have C := O.1
  have hn : sN S ≤ sN S := Nat.le_refl _
  show WP X 0 [(0, vr 26), (1, vi p1), (2, vi p2)] [] S 0 0
  refine r_aloadn C 0 dX5_putBytes_0 rfl ?_
  refine r_getI C (hF.k (by decide) rfl) fl_5_7 rfl dX5_putBytes_1 ?_
  refine r_aloadn C 0 dX5_putBytes_4 rfl ?_
  refine r_getR C (hF.k (by decide) rfl) fl_5_145 rfl (o := some 68) (hF.mR (by decide) rfl rfl) dX5_putBytes_5 ?_
  refine r_aloadn C 0 dX5_putBytes_8 rfl ?_
  refine r_getI C (hF.k (by decide) rfl) fl_5_212 rfl dX5_putBytes_9 ?_
  obtain ⟨hi1, h⟩ := h
  refine r_iald C (hF.k (by decide) rfl) (ixL (n := 600) rfl hi1) dX5_putBytes_12 ?_
  refine r_isub C dX5_putBytes_13 ?_
  refine r_bipush C (x := 8) dX5_putBytes_14 (by decide) ?_
  refine r_isub C dX5_putBytes_16 ?_
  refine r_istoren C dX5_putBytes_17 (by decide) rfl rfl ?_
  refine r_aloadn C 1 dX5_putBytes_18 rfl ?_
  refine r_iloadn C 3 dX5_putBytes_19 rfl ?_
  refine r_callVi C K5_firstAgain [vi p2] [] (hF.k (by decide) rfl) (by decide) rfl cl_5_223 rm_5_putBytes_5_firstAgain ⟨rfl, rfl⟩ (by decide) (by decide) rfl (Nat.le_of_ble_eq_true rfl) dX5_putBytes_20 h (fun x2 S2 hF2 hn2 h => ?_)
  refine r_istore C dX5_putBytes_23 (by decide) rfl rfl ?_
  refine r_iconst C (x := 0) dX5_putBytes_25 (by decide) ?_
  refine r_istore C dX5_putBytes_26 (by decide) rfl rfl ?_
  refine r_iload C 1 dX5_putBytes_28 rfl ?_
  refine r_if_lt C dX5_putBytes_30 (tgt := 73) (by decide) (fun hc7 => ?_) (fun hc7 => ?_)
  · replace h := h.1 hc7
    refine r_aloadn C 3 dX5_putBytes_73 rfl ?_
    refine r_getR C (hF2.k (by decide) rfl) fl_5_33 rfl (o := some 31) (hF2.mR (by decide) rfl rfl) dX5_putBytes_74 ?_
    refine r_iloadn C 5 dX5_putBytes_77 rfl ?_
    obtain ⟨hi8, h⟩ := h
    refine r_iald C (hF2.k (by decide) rfl) (ixL (n := 8) rfl hi8) dX5_putBytes_78 ?_
    refine r_istore C dX5_putBytes_79 (by decide) rfl rfl ?_
    refine r_aloadn C 3 dX5_putBytes_81 rfl ?_
    refine r_getR C (hF2.k (by decide) rfl) fl_5_19 rfl (o := some 27) (hF2.mR (by decide) rfl rfl) dX5_putBytes_82 ?_
    refine r_iloadn C 5 dX5_putBytes_85 rfl ?_
    refine r_iald C (hF2.k (by decide) rfl) (ixL (n := 8) rfl hi8) dX5_putBytes_86 ?_
    refine r_aloadn C 3 dX5_putBytes_87 rfl ?_
    refine r_getR C (hF2.k (by decide) rfl) fl_5_45 rfl (o := some 35) (hF2.mR (by decide) rfl rfl) dX5_putBytes_88 ?_
    refine r_iloadn C 5 dX5_putBytes_91 rfl ?_
    refine r_iald C (hF2.k (by decide) rfl) (ixL (n := 8) rfl hi8) dX5_putBytes_92 ?_
    have kJ10 : ∀ (w9 : Int32) (_ : w9 = (if (gI S2 35 p2.toNatClampNeg) ≤ (gI S2 27 p2.toNatClampNeg) then (gI S2 35 p2.toNatClampNeg) else (gI S2 27 p2.toNatClampNeg) : Int32)), WP X 111 [(0, vr 26), (1, vi p1), (2, vi p2), (3, vi (((gI S 26 0) - (gI S 68 (gI S 26 63).toNatClampNeg)) - 8)), (4, vi (gI S2 31 p2.toNatClampNeg))] [vi w9] S2 0 0 := by
      intro w9 hw9
      replace h := h w9 hw9
      refine r_istore C dX5_putBytes_111 (by decide) rfl rfl ?_
      refine r_aloadn C 1 dX5_putBytes_113 rfl ?_
      refine r_getR C (hF2.k (by decide) rfl) fl_5_112 rfl (o := some 57) (hF2.mR (by decide) rfl rfl) dX5_putBytes_114 ?_
      refine r_iloadn C 2 dX5_putBytes_117 rfl ?_
      obtain ⟨hi12, h⟩ := h
      refine r_iald C (hF2.k (by decide) rfl) (ixL (n := 2) rfl hi12) dX5_putBytes_118 ?_
      refine r_aloadn C 1 dX5_putBytes_119 rfl ?_
      refine r_iloadn C 2 dX5_putBytes_120 rfl ?_
      refine r_callVi C K5_counted [vi p1] [vi (gI S2 57 p1.toNatClampNeg)] (hF2.k (by decide) rfl) (by decide) rfl cl_5_226 rm_5_putBytes_5_counted ⟨rfl, rfl⟩ (by decide) (by decide) rfl (Nat.le_of_ble_eq_true rfl) dX5_putBytes_121 h (fun x13 S13 hF13 hn13 h => ?_)
      refine r_isub C dX5_putBytes_124 ?_
      refine r_istore C dX5_putBytes_125 (by decide) rfl rfl ?_
      refine r_iload C 1 dX5_putBytes_127 rfl ?_
      refine r_iload C 6 dX5_putBytes_129 rfl ?_
      refine r_isub C dX5_putBytes_131 ?_
      refine r_iload C 0 dX5_putBytes_132 rfl ?_
      have kJ15 : ∀ (w14 : Int32) (_ : w14 = (if ((gI S2 57 p1.toNatClampNeg) - x13) ≤ (w9 - (gI S2 31 p2.toNatClampNeg)) then ((gI S2 57 p1.toNatClampNeg) - x13) else (w9 - (gI S2 31 p2.toNatClampNeg)) : Int32)), WP X 147 [(0, vr 26), (1, vi p1), (2, vi p2), (3, vi (((gI S 26 0) - (gI S 68 (gI S 26 63).toNatClampNeg)) - 8)), (4, vi (gI S2 31 p2.toNatClampNeg))] [vi w14] S13 0 0 := by
        intro w14 hw14
        replace h := h w14 hw14
        refine r_istore C dX5_putBytes_147 (by decide) rfl rfl ?_
        refine r_iload C 0 dX5_putBytes_149 rfl ?_
        have kJ18 : ∀ (w17 : Int32) (_ : w17 = (if 0 ≤ w14 then w14 else 0 : Int32)), WP X 160 [(0, vr 26), (1, vi p1), (2, vi p2), (3, vi (((gI S 26 0) - (gI S 68 (gI S 26 63).toNatClampNeg)) - 8)), (4, vi (gI S2 31 p2.toNatClampNeg))] [vi w17] S13 0 0 := by
          intro w17 hw17
          replace h := h w17 hw17
          refine r_istore C dX5_putBytes_160 (by decide) rfl rfl ?_
          refine r_aloadn C 1 dX5_putBytes_162 rfl ?_
          refine r_getR C (hF13.k (by decide) rfl) fl_5_23 rfl (o := some 28) (hF13.mR (by decide) rfl rfl) dX5_putBytes_163 ?_
          refine r_iloadn C 3 dX5_putBytes_166 rfl ?_
          refine r_zald C (hF13.k (by decide) rfl) (ixL (n := 8) rfl hi8) dX5_putBytes_167 ?_
          have kJ39 : ∀ (w38 : Int32) (_ : w38 = (if (gI S13 28 p2.toNatClampNeg) = 0 then 0 else (if (gI S13 32 p2.toNatClampNeg) = 0 then (if (gI S13 34 p2.toNatClampNeg) = 0 then 1 else 0 : Int32) else (if (gI S13 33 p2.toNatClampNeg) = 0 then 0 else (if (gI S13 34 p2.toNatClampNeg) = 0 then 1 else 0 : Int32) : Int32) : Int32) : Int32)), WP X 203 [(0, vr 26), (1, vi p1), (2, vi p2), (3, vi (((gI S 26 0) - (gI S 68 (gI S 26 63).toNatClampNeg)) - 8)), (4, vi (gI S2 31 p2.toNatClampNeg)), (5, vi w17)] [vi w38] S13 0 0 := by
            intro w38 hw38
            replace h := h w38 hw38
            have hz_w38 : w38 = 0 ∨ w38 = 1 := by rw [hw38]; repeat (first | exact Or.inl rfl | exact Or.inr rfl | assumption | split)
            refine r_istore C dX5_putBytes_203 (by decide) rfl rfl ?_
            refine r_iload C 6 dX5_putBytes_205 rfl ?_
            refine r_if_ne C dX5_putBytes_207 (tgt := 231) (by decide) (fun hc41 => ?_) (fun hc41 => ?_)
            · replace h := h.1 hc41
              refine r_iload C 6 dX5_putBytes_231 rfl ?_
              refine r_if_le C dX5_putBytes_233 (tgt := 241) (by decide) (fun hc42 => ?_) (fun hc42 => ?_)
              · replace h := h.1 hc42
                refine r_iloadn C 4 dX5_putBytes_241 rfl ?_
                refine r_if_lt C dX5_putBytes_242 (tgt := 259) (by decide) (fun hc43 => ?_) (fun hc43 => ?_)
                · replace h := h.1 hc43
                  exact rv O rfl dX5_putBytes_259 (by decide) (by decide) hF13 (Nat.le_trans (Nat.le_trans hn hn2) hn13) h
                · replace h := h.2 hc43
                  refine r_aloadn C 1 dX5_putBytes_245 rfl ?_
                  refine r_getR C (hF13.k (by decide) rfl) fl_5_148 rfl (o := some 69) (hF13.mR (by decide) rfl rfl) dX5_putBytes_246 ?_
                  refine r_aloadn C 1 dX5_putBytes_249 rfl ?_
                  refine r_getI C (hF13.k (by decide) rfl) fl_5_212 rfl dX5_putBytes_250 ?_
                  obtain ⟨hi44, h⟩ := h
                  refine r_iald C (hF13.k (by decide) rfl) (ixL (n := 600) rfl hi44) dX5_putBytes_253 ?_
                  refine r_bipush C (x := 24) dX5_putBytes_254 (by decide) ?_
                  refine r_icmp_ne C dX5_putBytes_256 (tgt := 260) (by decide) (fun hc45 => ?_) (fun hc45 => ?_)
                  · replace h := h.1 hc45
                    refine r_iload C 6 dX5_putBytes_260 rfl ?_
                    refine r_iloadn C 4 dX5_putBytes_262 rfl ?_
                    have kJ47 : ∀ (w46 : Int32) (_ : w46 = (if (((gI S 26 0) - (gI S 68 (gI S 26 63).toNatClampNeg)) - 8) ≤ w17 then (((gI S 26 0) - (gI S 68 (gI S 26 63).toNatClampNeg)) - 8) else w17 : Int32)), WP X 272 [(0, vr 26), (1, vi p1), (2, vi p2), (4, vi (gI S2 31 p2.toNatClampNeg)), (6, vi w38)] [vi w46] S13 0 0 := by
                      intro w46 hw46
                      replace h := h w46 hw46
                      refine r_istore C dX5_putBytes_272 (by decide) rfl rfl ?_
                      refine r_iconst C (x := 0) dX5_putBytes_274 (by decide) ?_
                      refine r_istore C dX5_putBytes_275 (by decide) rfl rfl ?_
                      refine r_perm [2, 3, 4, 5, 1, 6, 0] rfl ?_
                      exact h
                    refine r_icmp_ge C dX5_putBytes_263 (tgt := 271) (by decide) (fun hc48 => ?_) (fun hc48 => ?_)
                    · refine r_iloadn C 4 dX5_putBytes_271 rfl ?_
                      refine r_perm [1, 2, 3, 5, 0] rfl ?_
                      exact kJ47 _ (if_pos hc48).symm
                    · refine r_iload C 6 dX5_putBytes_266 rfl ?_
                      refine r_goto C dX5_putBytes_268 (tgt := 272) (by decide) ?_
                      refine r_perm [1, 2, 3, 5, 0] rfl ?_
                      exact kJ47 _ (if_neg hc48).symm
                  · replace h := h.2 hc45
                    exact rv O rfl dX5_putBytes_259 (by decide) (by decide) hF13 (Nat.le_trans (Nat.le_trans hn hn2) hn13) h
              · replace h := h.2 hc42
                refine r_iloadn C 4 dX5_putBytes_236 rfl ?_
                refine r_iconst C (x := 1) dX5_putBytes_237 (by decide) ?_
                refine r_icmp_lt C dX5_putBytes_238 (tgt := 259) (by decide) (fun hc49 => ?_) (fun hc49 => ?_)
                · replace h := h.1 hc49
                  exact rv O rfl dX5_putBytes_259 (by decide) (by decide) hF13 (Nat.le_trans (Nat.le_trans hn hn2) hn13) h
                · replace h := h.2 hc49
                  refine r_iloadn C 4 dX5_putBytes_241 rfl ?_
                  refine r_if_lt C dX5_putBytes_242 (tgt := 259) (by decide) (fun hc50 => ?_) (fun hc50 => ?_)
                  · replace h := h.1 hc50
                    exact rv O rfl dX5_putBytes_259 (by decide) (by decide) hF13 (Nat.le_trans (Nat.le_trans hn hn2) hn13) h
                  · replace h := h.2 hc50
                    refine r_aloadn C 1 dX5_putBytes_245 rfl ?_
                    refine r_getR C (hF13.k (by decide) rfl) fl_5_148 rfl (o := some 69) (hF13.mR (by decide) rfl rfl) dX5_putBytes_246 ?_
                    refine r_aloadn C 1 dX5_putBytes_249 rfl ?_
                    refine r_getI C (hF13.k (by decide) rfl) fl_5_212 rfl dX5_putBytes_250 ?_
                    obtain ⟨hi51, h⟩ := h
                    refine r_iald C (hF13.k (by decide) rfl) (ixL (n := 600) rfl hi51) dX5_putBytes_253 ?_
                    refine r_bipush C (x := 24) dX5_putBytes_254 (by decide) ?_
                    refine r_icmp_ne C dX5_putBytes_256 (tgt := 260) (by decide) (fun hc52 => ?_) (fun hc52 => ?_)
                    · replace h := h.1 hc52
                      refine r_iload C 6 dX5_putBytes_260 rfl ?_
                      refine r_iloadn C 4 dX5_putBytes_262 rfl ?_
                      have kJ54 : ∀ (w53 : Int32) (_ : w53 = (if (((gI S 26 0) - (gI S 68 (gI S 26 63).toNatClampNeg)) - 8) ≤ w17 then (((gI S 26 0) - (gI S 68 (gI S 26 63).toNatClampNeg)) - 8) else w17 : Int32)), WP X 272 [(0, vr 26), (1, vi p1), (2, vi p2), (4, vi (gI S2 31 p2.toNatClampNeg)), (6, vi w38)] [vi w53] S13 0 0 := by
                        intro w53 hw53
                        replace h := h w53 hw53
                        refine r_istore C dX5_putBytes_272 (by decide) rfl rfl ?_
                        refine r_iconst C (x := 0) dX5_putBytes_274 (by decide) ?_
                        refine r_istore C dX5_putBytes_275 (by decide) rfl rfl ?_
                        refine r_perm [2, 3, 4, 5, 1, 6, 0] rfl ?_
                        exact h
                      refine r_icmp_ge C dX5_putBytes_263 (tgt := 271) (by decide) (fun hc55 => ?_) (fun hc55 => ?_)
                      · refine r_iloadn C 4 dX5_putBytes_271 rfl ?_
                        refine r_perm [1, 2, 3, 5, 0] rfl ?_
                        exact kJ54 _ (if_pos hc55).symm
                      · refine r_iload C 6 dX5_putBytes_266 rfl ?_
                        refine r_goto C dX5_putBytes_268 (tgt := 272) (by decide) ?_
                        refine r_perm [1, 2, 3, 5, 0] rfl ?_
                        exact kJ54 _ (if_neg hc55).symm
                    · replace h := h.2 hc52
                      exact rv O rfl dX5_putBytes_259 (by decide) (by decide) hF13 (Nat.le_trans (Nat.le_trans hn hn2) hn13) h
            · replace h := h.2 hc41
              refine r_iload C 0 dX5_putBytes_210 rfl ?_
              refine r_if_eq C dX5_putBytes_212 (tgt := 230) (by decide) (fun hc56 => ?_) (fun hc56 => ?_)
              · replace h := h.1 hc56
                exact rv O rfl dX5_putBytes_230 (by decide) (by decide) hF13 (Nat.le_trans (Nat.le_trans hn hn2) hn13) h
              · replace h := h.2 hc56
                refine r_aloadn C 1 dX5_putBytes_215 rfl ?_
                refine r_getR C (hF13.k (by decide) rfl) fl_5_33 rfl (o := some 31) (hF13.mR (by decide) rfl rfl) dX5_putBytes_216 ?_
                refine r_iloadn C 3 dX5_putBytes_219 rfl ?_
                refine r_iald C (hF13.k (by decide) rfl) (ixL (n := 8) rfl hi8) dX5_putBytes_220 ?_
                refine r_aloadn C 1 dX5_putBytes_221 rfl ?_
                refine r_getR C (hF13.k (by decide) rfl) fl_5_19 rfl (o := some 27) (hF13.mR (by decide) rfl rfl) dX5_putBytes_222 ?_
                refine r_iloadn C 3 dX5_putBytes_225 rfl ?_
                refine r_iald C (hF13.k (by decide) rfl) (ixL (n := 8) rfl hi8) dX5_putBytes_226 ?_
                refine r_icmp_ge C dX5_putBytes_227 (tgt := 231) (by decide) (fun hc57 => ?_) (fun hc57 => ?_)
                · replace h := h.1 hc57
                  refine r_iload C 6 dX5_putBytes_231 rfl ?_
                  refine r_if_le C dX5_putBytes_233 (tgt := 241) (by decide) (fun hc58 => ?_) (fun hc58 => ?_)
                  · replace h := h.1 hc58
                    refine r_iloadn C 4 dX5_putBytes_241 rfl ?_
                    refine r_if_lt C dX5_putBytes_242 (tgt := 259) (by decide) (fun hc59 => ?_) (fun hc59 => ?_)
                    · replace h := h.1 hc59
                      exact rv O rfl dX5_putBytes_259 (by decide) (by decide) hF13 (Nat.le_trans (Nat.le_trans hn hn2) hn13) h
                    · replace h := h.2 hc59
                      refine r_aloadn C 1 dX5_putBytes_245 rfl ?_
                      refine r_getR C (hF13.k (by decide) rfl) fl_5_148 rfl (o := some 69) (hF13.mR (by decide) rfl rfl) dX5_putBytes_246 ?_
                      refine r_aloadn C 1 dX5_putBytes_249 rfl ?_
                      refine r_getI C (hF13.k (by decide) rfl) fl_5_212 rfl dX5_putBytes_250 ?_
                      obtain ⟨hi60, h⟩ := h
                      refine r_iald C (hF13.k (by decide) rfl) (ixL (n := 600) rfl hi60) dX5_putBytes_253 ?_
                      refine r_bipush C (x := 24) dX5_putBytes_254 (by decide) ?_
                      refine r_icmp_ne C dX5_putBytes_256 (tgt := 260) (by decide) (fun hc61 => ?_) (fun hc61 => ?_)
                      · replace h := h.1 hc61
                        refine r_iload C 6 dX5_putBytes_260 rfl ?_
                        refine r_iloadn C 4 dX5_putBytes_262 rfl ?_
                        have kJ63 : ∀ (w62 : Int32) (_ : w62 = (if (((gI S 26 0) - (gI S 68 (gI S 26 63).toNatClampNeg)) - 8) ≤ w17 then (((gI S 26 0) - (gI S 68 (gI S 26 63).toNatClampNeg)) - 8) else w17 : Int32)), WP X 272 [(0, vr 26), (1, vi p1), (2, vi p2), (4, vi (gI S2 31 p2.toNatClampNeg)), (6, vi w38)] [vi w62] S13 0 0 := by
                          intro w62 hw62
                          replace h := h w62 hw62
                          refine r_istore C dX5_putBytes_272 (by decide) rfl rfl ?_
                          refine r_iconst C (x := 0) dX5_putBytes_274 (by decide) ?_
                          refine r_istore C dX5_putBytes_275 (by decide) rfl rfl ?_
                          refine r_perm [2, 3, 4, 5, 1, 6, 0] rfl ?_
                          exact h
                        refine r_icmp_ge C dX5_putBytes_263 (tgt := 271) (by decide) (fun hc64 => ?_) (fun hc64 => ?_)
                        · refine r_iloadn C 4 dX5_putBytes_271 rfl ?_
                          refine r_perm [1, 2, 3, 5, 0] rfl ?_
                          exact kJ63 _ (if_pos hc64).symm
                        · refine r_iload C 6 dX5_putBytes_266 rfl ?_
                          refine r_goto C dX5_putBytes_268 (tgt := 272) (by decide) ?_
                          refine r_perm [1, 2, 3, 5, 0] rfl ?_
                          exact kJ63 _ (if_neg hc64).symm
                      · replace h := h.2 hc61
                        exact rv O rfl dX5_putBytes_259 (by decide) (by decide) hF13 (Nat.le_trans (Nat.le_trans hn hn2) hn13) h
                  · replace h := h.2 hc58
                    refine r_iloadn C 4 dX5_putBytes_236 rfl ?_
                    refine r_iconst C (x := 1) dX5_putBytes_237 (by decide) ?_
                    refine r_icmp_lt C dX5_putBytes_238 (tgt := 259) (by decide) (fun hc65 => ?_) (fun hc65 => ?_)
                    · replace h := h.1 hc65
                      exact rv O rfl dX5_putBytes_259 (by decide) (by decide) hF13 (Nat.le_trans (Nat.le_trans hn hn2) hn13) h
                    · replace h := h.2 hc65
                      refine r_iloadn C 4 dX5_putBytes_241 rfl ?_
                      refine r_if_lt C dX5_putBytes_242 (tgt := 259) (by decide) (fun hc66 => ?_) (fun hc66 => ?_)
                      · replace h := h.1 hc66
                        exact rv O rfl dX5_putBytes_259 (by decide) (by decide) hF13 (Nat.le_trans (Nat.le_trans hn hn2) hn13) h
                      · replace h := h.2 hc66
                        refine r_aloadn C 1 dX5_putBytes_245 rfl ?_
                        refine r_getR C (hF13.k (by decide) rfl) fl_5_148 rfl (o := some 69) (hF13.mR (by decide) rfl rfl) dX5_putBytes_246 ?_
                        refine r_aloadn C 1 dX5_putBytes_249 rfl ?_
                        refine r_getI C (hF13.k (by decide) rfl) fl_5_212 rfl dX5_putBytes_250 ?_
                        obtain ⟨hi67, h⟩ := h
                        refine r_iald C (hF13.k (by decide) rfl) (ixL (n := 600) rfl hi67) dX5_putBytes_253 ?_
                        refine r_bipush C (x := 24) dX5_putBytes_254 (by decide) ?_
                        refine r_icmp_ne C dX5_putBytes_256 (tgt := 260) (by decide) (fun hc68 => ?_) (fun hc68 => ?_)
                        · replace h := h.1 hc68
                          refine r_iload C 6 dX5_putBytes_260 rfl ?_
                          refine r_iloadn C 4 dX5_putBytes_262 rfl ?_
                          have kJ70 : ∀ (w69 : Int32) (_ : w69 = (if (((gI S 26 0) - (gI S 68 (gI S 26 63).toNatClampNeg)) - 8) ≤ w17 then (((gI S 26 0) - (gI S 68 (gI S 26 63).toNatClampNeg)) - 8) else w17 : Int32)), WP X 272 [(0, vr 26), (1, vi p1), (2, vi p2), (4, vi (gI S2 31 p2.toNatClampNeg)), (6, vi w38)] [vi w69] S13 0 0 := by
                            intro w69 hw69
                            replace h := h w69 hw69
                            refine r_istore C dX5_putBytes_272 (by decide) rfl rfl ?_
                            refine r_iconst C (x := 0) dX5_putBytes_274 (by decide) ?_
                            refine r_istore C dX5_putBytes_275 (by decide) rfl rfl ?_
                            refine r_perm [2, 3, 4, 5, 1, 6, 0] rfl ?_
                            exact h
                          refine r_icmp_ge C dX5_putBytes_263 (tgt := 271) (by decide) (fun hc71 => ?_) (fun hc71 => ?_)
                          · refine r_iloadn C 4 dX5_putBytes_271 rfl ?_
                            refine r_perm [1, 2, 3, 5, 0] rfl ?_
                            exact kJ70 _ (if_pos hc71).symm
                          · refine r_iload C 6 dX5_putBytes_266 rfl ?_
                            refine r_goto C dX5_putBytes_268 (tgt := 272) (by decide) ?_
                            refine r_perm [1, 2, 3, 5, 0] rfl ?_
                            exact kJ70 _ (if_neg hc71).symm
                        · replace h := h.2 hc68
                          exact rv O rfl dX5_putBytes_259 (by decide) (by decide) hF13 (Nat.le_trans (Nat.le_trans hn hn2) hn13) h
                · replace h := h.2 hc57
                  exact rv O rfl dX5_putBytes_230 (by decide) (by decide) hF13 (Nat.le_trans (Nat.le_trans hn hn2) hn13) h
          refine r_if_eq C dX5_putBytes_168 (tgt := 202) (by decide) (fun hc40 => ?_) (fun hc40 => ?_)
          · refine r_iconst C (x := 0) dX5_putBytes_202 (by decide) ?_
            refine r_perm [1, 2, 3, 4, 5, 0] rfl ?_
            exact kJ39 _ (if_pos hc40).symm
          · refine r_aloadn C 1 dX5_putBytes_171 rfl ?_
            refine r_getR C (hF13.k (by decide) rfl) fl_5_36 rfl (o := some 32) (hF13.mR (by decide) rfl rfl) dX5_putBytes_172 ?_
            refine r_iloadn C 3 dX5_putBytes_175 rfl ?_
            refine r_zald C (hF13.k (by decide) rfl) (ixL (n := 8) rfl hi8) dX5_putBytes_176 ?_
            have kJ80 : WP X 203 [(0, vr 26), (1, vi p1), (2, vi p2), (3, vi (((gI S 26 0) - (gI S 68 (gI S 26 63).toNatClampNeg)) - 8)), (4, vi (gI S2 31 p2.toNatClampNeg)), (5, vi w17)] [vi (if (gI S13 32 p2.toNatClampNeg) = 0 then (if (gI S13 34 p2.toNatClampNeg) = 0 then 1 else 0 : Int32) else (if (gI S13 33 p2.toNatClampNeg) = 0 then 0 else (if (gI S13 34 p2.toNatClampNeg) = 0 then 1 else 0 : Int32) : Int32) : Int32)] S13 0 0 := by
              refine r_perm [0, 1, 2, 3, 4, 5] rfl ?_
              exact kJ39 _ (if_neg hc40).symm
            refine r_if_eq C dX5_putBytes_177 (tgt := 189) (by decide) (fun hc81 => ?_) (fun hc81 => ?_)
            · refine r_aloadn C 1 dX5_putBytes_189 rfl ?_
              refine r_getR C (hF13.k (by decide) rfl) fl_5_42 rfl (o := some 34) (hF13.mR (by decide) rfl rfl) dX5_putBytes_190 ?_
              refine r_iloadn C 3 dX5_putBytes_193 rfl ?_
              refine r_zald C (hF13.k (by decide) rfl) (ixL (n := 8) rfl hi8) dX5_putBytes_194 ?_
              have kJ82 : WP X 203 [(0, vr 26), (1, vi p1), (2, vi p2), (3, vi (((gI S 26 0) - (gI S 68 (gI S 26 63).toNatClampNeg)) - 8)), (4, vi (gI S2 31 p2.toNatClampNeg)), (5, vi w17)] [vi (if (gI S13 34 p2.toNatClampNeg) = 0 then 1 else 0 : Int32)] S13 0 0 := by
                refine r_perm [0, 1, 2, 3, 4, 5] rfl ?_
                rw [show (if (gI S13 32 p2.toNatClampNeg) = 0 then (if (gI S13 34 p2.toNatClampNeg) = 0 then 1 else 0 : Int32) else (if (gI S13 33 p2.toNatClampNeg) = 0 then 0 else (if (gI S13 34 p2.toNatClampNeg) = 0 then 1 else 0 : Int32) : Int32) : Int32) = (if (gI S13 34 p2.toNatClampNeg) = 0 then 1 else 0 : Int32) from if_pos hc81] at kJ80
                exact kJ80
              refine r_if_ne C dX5_putBytes_195 (tgt := 202) (by decide) (fun hc83 => ?_) (fun hc83 => ?_)
              · refine r_iconst C (x := 0) dX5_putBytes_202 (by decide) ?_
                refine r_perm [1, 2, 3, 4, 5, 0] rfl ?_
                rw [show (if (gI S13 34 p2.toNatClampNeg) = 0 then 1 else 0 : Int32) = 0 from if_neg hc83] at kJ82
                exact kJ82
              · refine r_iconst C (x := 1) dX5_putBytes_198 (by decide) ?_
                refine r_goto C dX5_putBytes_199 (tgt := 203) (by decide) ?_
                refine r_perm [1, 2, 3, 4, 5, 0] rfl ?_
                rw [show (if (gI S13 34 p2.toNatClampNeg) = 0 then 1 else 0 : Int32) = 1 from if_pos hc83] at kJ82
                exact kJ82
            · refine r_aloadn C 1 dX5_putBytes_180 rfl ?_
              refine r_getR C (hF13.k (by decide) rfl) fl_5_39 rfl (o := some 33) (hF13.mR (by decide) rfl rfl) dX5_putBytes_181 ?_
              refine r_iloadn C 3 dX5_putBytes_184 rfl ?_
              refine r_zald C (hF13.k (by decide) rfl) (ixL (n := 8) rfl hi8) dX5_putBytes_185 ?_
              have kJ86 : WP X 203 [(0, vr 26), (1, vi p1), (2, vi p2), (3, vi (((gI S 26 0) - (gI S 68 (gI S 26 63).toNatClampNeg)) - 8)), (4, vi (gI S2 31 p2.toNatClampNeg)), (5, vi w17)] [vi (if (gI S13 33 p2.toNatClampNeg) = 0 then 0 else (if (gI S13 34 p2.toNatClampNeg) = 0 then 1 else 0 : Int32) : Int32)] S13 0 0 := by
                refine r_perm [0, 1, 2, 3, 4, 5] rfl ?_
                rw [show (if (gI S13 32 p2.toNatClampNeg) = 0 then (if (gI S13 34 p2.toNatClampNeg) = 0 then 1 else 0 : Int32) else (if (gI S13 33 p2.toNatClampNeg) = 0 then 0 else (if (gI S13 34 p2.toNatClampNeg) = 0 then 1 else 0 : Int32) : Int32) : Int32) = (if (gI S13 33 p2.toNatClampNeg) = 0 then 0 else (if (gI S13 34 p2.toNatClampNeg) = 0 then 1 else 0 : Int32) : Int32) from if_neg hc81] at kJ80
                exact kJ80
              refine r_if_eq C dX5_putBytes_186 (tgt := 202) (by decide) (fun hc87 => ?_) (fun hc87 => ?_)
              · refine r_iconst C (x := 0) dX5_putBytes_202 (by decide) ?_
                refine r_perm [1, 2, 3, 4, 5, 0] rfl ?_
                rw [show (if (gI S13 33 p2.toNatClampNeg) = 0 then 0 else (if (gI S13 34 p2.toNatClampNeg) = 0 then 1 else 0 : Int32) : Int32) = 0 from if_pos hc87] at kJ86
                exact kJ86
              · refine r_aloadn C 1 dX5_putBytes_189 rfl ?_
                refine r_getR C (hF13.k (by decide) rfl) fl_5_42 rfl (o := some 34) (hF13.mR (by decide) rfl rfl) dX5_putBytes_190 ?_
                refine r_iloadn C 3 dX5_putBytes_193 rfl ?_
                refine r_zald C (hF13.k (by decide) rfl) (ixL (n := 8) rfl hi8) dX5_putBytes_194 ?_
                have kJ88 : WP X 203 [(0, vr 26), (1, vi p1), (2, vi p2), (3, vi (((gI S 26 0) - (gI S 68 (gI S 26 63).toNatClampNeg)) - 8)), (4, vi (gI S2 31 p2.toNatClampNeg)), (5, vi w17)] [vi (if (gI S13 34 p2.toNatClampNeg) = 0 then 1 else 0 : Int32)] S13 0 0 := by
                  refine r_perm [0, 1, 2, 3, 4, 5] rfl ?_
                  rw [show (if (gI S13 33 p2.toNatClampNeg) = 0 then 0 else (if (gI S13 34 p2.toNatClampNeg) = 0 then 1 else 0 : Int32) : Int32) = (if (gI S13 34 p2.toNatClampNeg) = 0 then 1 else 0 : Int32) from if_neg hc87] at kJ86
                  exact kJ86
                refine r_if_ne C dX5_putBytes_195 (tgt := 202) (by decide) (fun hc89 => ?_) (fun hc89 => ?_)
                · refine r_iconst C (x := 0) dX5_putBytes_202 (by decide) ?_
                  refine r_perm [1, 2, 3, 4, 5, 0] rfl ?_
                  rw [show (if (gI S13 34 p2.toNatClampNeg) = 0 then 1 else 0 : Int32) = 0 from if_neg hc89] at kJ88
                  exact kJ88
                · refine r_iconst C (x := 1) dX5_putBytes_198 (by decide) ?_
                  refine r_goto C dX5_putBytes_199 (tgt := 203) (by decide) ?_
                  refine r_perm [1, 2, 3, 4, 5, 0] rfl ?_
                  rw [show (if (gI S13 34 p2.toNatClampNeg) = 0 then 1 else 0 : Int32) = 1 from if_pos hc89] at kJ88
                  exact kJ88
        refine r_if_ge C dX5_putBytes_151 (tgt := 158) (by decide) (fun hc19 => ?_) (fun hc19 => ?_)
        · refine r_iload C 0 dX5_putBytes_158 rfl ?_
          refine r_perm [1, 2, 3, 4, 5] rfl ?_
          exact kJ18 _ (if_pos hc19).symm
        · refine r_iconst C (x := 0) dX5_putBytes_154 (by decide) ?_
          refine r_goto C dX5_putBytes_155 (tgt := 160) (by decide) ?_
          refine r_perm [1, 2, 3, 4, 5] rfl ?_
          exact kJ18 _ (if_neg hc19).symm
      refine r_icmp_ge C dX5_putBytes_134 (tgt := 145) (by decide) (fun hc16 => ?_) (fun hc16 => ?_)
      · refine r_iload C 0 dX5_putBytes_145 rfl ?_
        refine r_perm [2, 3, 4, 5, 6] rfl ?_
        exact kJ15 _ (if_pos hc16).symm
      · refine r_iload C 1 dX5_putBytes_137 rfl ?_
        refine r_iload C 6 dX5_putBytes_139 rfl ?_
        refine r_isub C dX5_putBytes_141 ?_
        refine r_goto C dX5_putBytes_142 (tgt := 147) (by decide) ?_
        refine r_perm [2, 3, 4, 5, 6] rfl ?_
        exact kJ15 _ (if_neg hc16).symm
    refine r_icmp_ge C dX5_putBytes_93 (tgt := 105) (by decide) (fun hc11 => ?_) (fun hc11 => ?_)
    · refine r_aloadn C 3 dX5_putBytes_105 rfl ?_
      refine r_getR C (hF2.k (by decide) rfl) fl_5_45 rfl (o := some 35) (hF2.mR (by decide) rfl rfl) dX5_putBytes_106 ?_
      refine r_iloadn C 5 dX5_putBytes_109 rfl ?_
      refine r_iald C (hF2.k (by decide) rfl) (ixL (n := 8) rfl hi8) dX5_putBytes_110 ?_
      refine r_perm [3, 4, 5, 2, 0] rfl ?_
      exact kJ10 _ (if_pos hc11).symm
    · refine r_aloadn C 3 dX5_putBytes_96 rfl ?_
      refine r_getR C (hF2.k (by decide) rfl) fl_5_19 rfl (o := some 27) (hF2.mR (by decide) rfl rfl) dX5_putBytes_97 ?_
      refine r_iloadn C 5 dX5_putBytes_100 rfl ?_
      refine r_iald C (hF2.k (by decide) rfl) (ixL (n := 8) rfl hi8) dX5_putBytes_101 ?_
      refine r_goto C dX5_putBytes_102 (tgt := 111) (by decide) ?_
      refine r_perm [3, 4, 5, 2, 0] rfl ?_
      exact kJ10 _ (if_neg hc11).symm
  · replace h := h.2 hc7
    refine r_perm [3, 4, 5, 2, 1, 0] rfl ?_
    exact h
set_option maxHeartbeats 4000000 in
set_option maxRecDepth 100000 in
theorem s5_putBytes_33 {X : Ctx} {S0 S : Sto} {Q : Sto → Prop} (hF : Fx S) (hn : sN S0 ≤ sN S) (O : Ov X K5_putBytes S0 Q) {l1 : Int32} {l2 : Int32} {l3 : Int32} {l4 : Int32} {l5 : Int32}   (h : (0 ≤ (l2 : Int32).toInt ∧ (l2 : Int32).toInt < (8 : Nat)) ∧ (((gI S 31 l2.toNatClampNeg) ≤ (l4 + l5) → (∀ w22 : Int32, w22 = (if (gI S 28 l2.toNatClampNeg) = 0 then 0 else (if (gI S 32 l2.toNatClampNeg) = 0 then (if (gI S 34 l2.toNatClampNeg) = 0 then 1 else 0 : Int32) else (if (gI S 33 l2.toNatClampNeg) = 0 then 0 else (if (gI S 34 l2.toNatClampNeg) = 0 then 1 else 0 : Int32) : Int32) : Int32) : Int32) → ((¬ l5 = 0 → ((l5 ≤ 0 → ((l3 < 0 → (Q S)) ∧ (¬ l3 < 0 → ((0 ≤ ((gI S 26 63) : Int32).toInt ∧ ((gI S 26 63) : Int32).toInt < (600 : Nat)) ∧ ((¬ (gI S 69 (gI S 26 63).toNatClampNeg) = 24 → (∀ w30 : Int32, w30 = (if l3 ≤ l5 then l3 else l5 : Int32) → (WP X 277 [(0, vr 26), (1, vi l1), (2, vi l2), (4, vi l4), (5, vi w30), (6, vi w22), (7, vi 0)] [] S 0 0))) ∧ ((gI S 69 (gI S 26 63).toNatClampNeg) = 24 → (Q S))))))) ∧ (¬ l5 ≤ 0 → ((l3 < 1 → (Q S)) ∧ (¬ l3 < 1 → ((l3 < 0 → (Q S)) ∧ (¬ l3 < 0 → ((0 ≤ ((gI S 26 63) : Int32).toInt ∧ ((gI S 26 63) : Int32).toInt < (600 : Nat)) ∧ ((¬ (gI S 69 (gI S 26 63).toNatClampNeg) = 24 → (∀ w37 : Int32, w37 = (if l3 ≤ l5 then l3 else l5 : Int32) → (WP X 277 [(0, vr 26), (1, vi l1), (2, vi l2), (4, vi l4), (5, vi w37), (6, vi w22), (7, vi 0)] [] S 0 0))) ∧ ((gI S 69 (gI S 26 63).toNatClampNeg) = 24 → (Q S))))))))))) ∧ (l5 = 0 → ((w22 = 0 → (Q S)) ∧ (¬ w22 = 0 → (((gI S 27 l2.toNatClampNeg) ≤ (gI S 31 l2.toNatClampNeg) → ((l5 ≤ 0 → ((l3 < 0 → (Q S)) ∧ (¬ l3 < 0 → ((0 ≤ ((gI S 26 63) : Int32).toInt ∧ ((gI S 26 63) : Int32).toInt < (600 : Nat)) ∧ ((¬ (gI S 69 (gI S 26 63).toNatClampNeg) = 24 → (∀ w46 : Int32, w46 = (if l3 ≤ l5 then l3 else l5 : Int32) → (WP X 277 [(0, vr 26), (1, vi l1), (2, vi l2), (4, vi l4), (5, vi w46), (6, vi w22), (7, vi 0)] [] S 0 0))) ∧ ((gI S 69 (gI S 26 63).toNatClampNeg) = 24 → (Q S))))))) ∧ (¬ l5 ≤ 0 → ((l3 < 1 → (Q S)) ∧ (¬ l3 < 1 → ((l3 < 0 → (Q S)) ∧ (¬ l3 < 0 → ((0 ≤ ((gI S 26 63) : Int32).toInt ∧ ((gI S 26 63) : Int32).toInt < (600 : Nat)) ∧ ((¬ (gI S 69 (gI S 26 63).toNatClampNeg) = 24 → (∀ w53 : Int32, w53 = (if l3 ≤ l5 then l3 else l5 : Int32) → (WP X 277 [(0, vr 26), (1, vi l1), (2, vi l2), (4, vi l4), (5, vi w53), (6, vi w22), (7, vi 0)] [] S 0 0))) ∧ ((gI S 69 (gI S 26 63).toNatClampNeg) = 24 → (Q S))))))))))) ∧ (¬ (gI S 27 l2.toNatClampNeg) ≤ (gI S 31 l2.toNatClampNeg) → (Q S))))))))) ∧ (¬ (gI S 31 l2.toNatClampNeg) ≤ (l4 + l5) → ((0 ≤ ((((1000 * l2) + l4) + l5) : Int32).toInt ∧ ((((1000 * l2) + l4) + l5) : Int32).toInt < (8000 : Nat)) ∧ ((¬ (gI S 36 (((1000 * l2) + l4) + l5).toNatClampNeg) = 2 → (∀ w94 : Int32, w94 = (if (gI S 28 l2.toNatClampNeg) = 0 then 0 else (if (gI S 32 l2.toNatClampNeg) = 0 then (if (gI S 34 l2.toNatClampNeg) = 0 then 1 else 0 : Int32) else (if (gI S 33 l2.toNatClampNeg) = 0 then 0 else (if (gI S 34 l2.toNatClampNeg) = 0 then 1 else 0 : Int32) : Int32) : Int32) : Int32) → ((¬ l5 = 0 → ((l5 ≤ 0 → ((l3 < 0 → (Q S)) ∧ (¬ l3 < 0 → ((0 ≤ ((gI S 26 63) : Int32).toInt ∧ ((gI S 26 63) : Int32).toInt < (600 : Nat)) ∧ ((¬ (gI S 69 (gI S 26 63).toNatClampNeg) = 24 → (∀ w102 : Int32, w102 = (if l3 ≤ l5 then l3 else l5 : Int32) → (WP X 277 [(0, vr 26), (1, vi l1), (2, vi l2), (4, vi l4), (5, vi w102), (6, vi w94), (7, vi 0)] [] S 0 0))) ∧ ((gI S 69 (gI S 26 63).toNatClampNeg) = 24 → (Q S))))))) ∧ (¬ l5 ≤ 0 → ((l3 < 1 → (Q S)) ∧ (¬ l3 < 1 → ((l3 < 0 → (Q S)) ∧ (¬ l3 < 0 → ((0 ≤ ((gI S 26 63) : Int32).toInt ∧ ((gI S 26 63) : Int32).toInt < (600 : Nat)) ∧ ((¬ (gI S 69 (gI S 26 63).toNatClampNeg) = 24 → (∀ w109 : Int32, w109 = (if l3 ≤ l5 then l3 else l5 : Int32) → (WP X 277 [(0, vr 26), (1, vi l1), (2, vi l2), (4, vi l4), (5, vi w109), (6, vi w94), (7, vi 0)] [] S 0 0))) ∧ ((gI S 69 (gI S 26 63).toNatClampNeg) = 24 → (Q S))))))))))) ∧ (l5 = 0 → ((w94 = 0 → (Q S)) ∧ (¬ w94 = 0 → (((gI S 27 l2.toNatClampNeg) ≤ (gI S 31 l2.toNatClampNeg) → ((l5 ≤ 0 → ((l3 < 0 → (Q S)) ∧ (¬ l3 < 0 → ((0 ≤ ((gI S 26 63) : Int32).toInt ∧ ((gI S 26 63) : Int32).toInt < (600 : Nat)) ∧ ((¬ (gI S 69 (gI S 26 63).toNatClampNeg) = 24 → (∀ w118 : Int32, w118 = (if l3 ≤ l5 then l3 else l5 : Int32) → (WP X 277 [(0, vr 26), (1, vi l1), (2, vi l2), (4, vi l4), (5, vi w118), (6, vi w94), (7, vi 0)] [] S 0 0))) ∧ ((gI S 69 (gI S 26 63).toNatClampNeg) = 24 → (Q S))))))) ∧ (¬ l5 ≤ 0 → ((l3 < 1 → (Q S)) ∧ (¬ l3 < 1 → ((l3 < 0 → (Q S)) ∧ (¬ l3 < 0 → ((0 ≤ ((gI S 26 63) : Int32).toInt ∧ ((gI S 26 63) : Int32).toInt < (600 : Nat)) ∧ ((¬ (gI S 69 (gI S 26 63).toNatClampNeg) = 24 → (∀ w125 : Int32, w125 = (if l3 ≤ l5 then l3 else l5 : Int32) → (WP X 277 [(0, vr 26), (1, vi l1), (2, vi l2), (4, vi l4), (5, vi w125), (6, vi w94), (7, vi 0)] [] S 0 0))) ∧ ((gI S 69 (gI S 26 63).toNatClampNeg) = 24 → (Q S))))))))))) ∧ (¬ (gI S 27 l2.toNatClampNeg) ≤ (gI S 31 l2.toNatClampNeg) → (Q S))))))))) ∧ ((gI S 36 (((1000 * l2) + l4) + l5).toNatClampNeg) = 2 → (WP X 33 [(0, vr 26), (1, vi l1), (2, vi l2), (3, vi l3), (4, vi l4), (5, vi (l5 + 1))] [] S 0 0))))))) : WP X 33 [(0, vr 26), (1, vi l1), (2, vi l2), (3, vi l3), (4, vi l4), (5, vi l5)] [] S 0 0 := by
  have C := O.1
  refine r_iload C 4 dX5_putBytes_33 rfl ?_
  refine r_iload C 5 dX5_putBytes_35 rfl ?_
  refine r_iadd C dX5_putBytes_37 ?_
  refine r_aloadn C 0 dX5_putBytes_38 rfl ?_
  refine r_getR C (hF.k (by decide) rfl) fl_5_33 rfl (o := some 31) (hF.mR (by decide) rfl rfl) dX5_putBytes_39 ?_
  refine r_iloadn C 2 dX5_putBytes_42 rfl ?_
  obtain ⟨hi1, h⟩ := h
  refine r_iald C (hF.k (by decide) rfl) (ixL (n := 8) rfl hi1) dX5_putBytes_43 ?_
  refine r_icmp_ge C dX5_putBytes_44 (tgt := 162) (by decide) (fun hc3 => ?_) (fun hc3 => ?_)
  · replace h := h.1 hc3
    refine r_aloadn C 0 dX5_putBytes_162 rfl ?_
    refine r_getR C (hF.k (by decide) rfl) fl_5_23 rfl (o := some 28) (hF.mR (by decide) rfl rfl) dX5_putBytes_163 ?_
    refine r_iloadn C 2 dX5_putBytes_166 rfl ?_
    refine r_zald C (hF.k (by decide) rfl) (ixL (n := 8) rfl hi1) dX5_putBytes_167 ?_
    have kJ23 : ∀ (w22 : Int32) (_ : w22 = (if (gI S 28 l2.toNatClampNeg) = 0 then 0 else (if (gI S 32 l2.toNatClampNeg) = 0 then (if (gI S 34 l2.toNatClampNeg) = 0 then 1 else 0 : Int32) else (if (gI S 33 l2.toNatClampNeg) = 0 then 0 else (if (gI S 34 l2.toNatClampNeg) = 0 then 1 else 0 : Int32) : Int32) : Int32) : Int32)), WP X 203 [(0, vr 26), (1, vi l1), (2, vi l2), (3, vi l3), (4, vi l4), (5, vi l5)] [vi w22] S 0 0 := by
      intro w22 hw22
      replace h := h w22 hw22
      have hz_w22 : w22 = 0 ∨ w22 = 1 := by rw [hw22]; repeat (first | exact Or.inl rfl | exact Or.inr rfl | assumption | split)
      refine r_istore C dX5_putBytes_203 (by decide) rfl rfl ?_
      refine r_iload C 6 dX5_putBytes_205 rfl ?_
      refine r_if_ne C dX5_putBytes_207 (tgt := 231) (by decide) (fun hc25 => ?_) (fun hc25 => ?_)
      · replace h := h.1 hc25
        refine r_iload C 6 dX5_putBytes_231 rfl ?_
        refine r_if_le C dX5_putBytes_233 (tgt := 241) (by decide) (fun hc26 => ?_) (fun hc26 => ?_)
        · replace h := h.1 hc26
          refine r_iloadn C 4 dX5_putBytes_241 rfl ?_
          refine r_if_lt C dX5_putBytes_242 (tgt := 259) (by decide) (fun hc27 => ?_) (fun hc27 => ?_)
          · replace h := h.1 hc27
            exact rv O rfl dX5_putBytes_259 (by decide) (by decide) hF hn h
          · replace h := h.2 hc27
            refine r_aloadn C 1 dX5_putBytes_245 rfl ?_
            refine r_getR C (hF.k (by decide) rfl) fl_5_148 rfl (o := some 69) (hF.mR (by decide) rfl rfl) dX5_putBytes_246 ?_
            refine r_aloadn C 1 dX5_putBytes_249 rfl ?_
            refine r_getI C (hF.k (by decide) rfl) fl_5_212 rfl dX5_putBytes_250 ?_
            obtain ⟨hi28, h⟩ := h
            refine r_iald C (hF.k (by decide) rfl) (ixL (n := 600) rfl hi28) dX5_putBytes_253 ?_
            refine r_bipush C (x := 24) dX5_putBytes_254 (by decide) ?_
            refine r_icmp_ne C dX5_putBytes_256 (tgt := 260) (by decide) (fun hc29 => ?_) (fun hc29 => ?_)
            · replace h := h.1 hc29
              refine r_iload C 6 dX5_putBytes_260 rfl ?_
              refine r_iloadn C 4 dX5_putBytes_262 rfl ?_
              have kJ31 : ∀ (w30 : Int32) (_ : w30 = (if l3 ≤ l5 then l3 else l5 : Int32)), WP X 272 [(0, vr 26), (1, vi l1), (2, vi l2), (4, vi l4), (6, vi w22)] [vi w30] S 0 0 := by
                intro w30 hw30
                replace h := h w30 hw30
                refine r_istore C dX5_putBytes_272 (by decide) rfl rfl ?_
                refine r_iconst C (x := 0) dX5_putBytes_274 (by decide) ?_
                refine r_istore C dX5_putBytes_275 (by decide) rfl rfl ?_
                refine r_perm [2, 3, 4, 5, 1, 6, 0] rfl ?_
                exact h
              refine r_icmp_ge C dX5_putBytes_263 (tgt := 271) (by decide) (fun hc32 => ?_) (fun hc32 => ?_)
              · refine r_iloadn C 4 dX5_putBytes_271 rfl ?_
                refine r_perm [1, 2, 3, 5, 0] rfl ?_
                exact kJ31 _ (if_pos hc32).symm
              · refine r_iload C 6 dX5_putBytes_266 rfl ?_
                refine r_goto C dX5_putBytes_268 (tgt := 272) (by decide) ?_
                refine r_perm [1, 2, 3, 5, 0] rfl ?_
                exact kJ31 _ (if_neg hc32).symm
            · replace h := h.2 hc29
              exact rv O rfl dX5_putBytes_259 (by decide) (by decide) hF hn h
        · replace h := h.2 hc26
          refine r_iloadn C 4 dX5_putBytes_236 rfl ?_
          refine r_iconst C (x := 1) dX5_putBytes_237 (by decide) ?_
          refine r_icmp_lt C dX5_putBytes_238 (tgt := 259) (by decide) (fun hc33 => ?_) (fun hc33 => ?_)
          · replace h := h.1 hc33
            exact rv O rfl dX5_putBytes_259 (by decide) (by decide) hF hn h
          · replace h := h.2 hc33
            refine r_iloadn C 4 dX5_putBytes_241 rfl ?_
            refine r_if_lt C dX5_putBytes_242 (tgt := 259) (by decide) (fun hc34 => ?_) (fun hc34 => ?_)
            · replace h := h.1 hc34
              exact rv O rfl dX5_putBytes_259 (by decide) (by decide) hF hn h
            · replace h := h.2 hc34
              refine r_aloadn C 1 dX5_putBytes_245 rfl ?_
              refine r_getR C (hF.k (by decide) rfl) fl_5_148 rfl (o := some 69) (hF.mR (by decide) rfl rfl) dX5_putBytes_246 ?_
              refine r_aloadn C 1 dX5_putBytes_249 rfl ?_
              refine r_getI C (hF.k (by decide) rfl) fl_5_212 rfl dX5_putBytes_250 ?_
              obtain ⟨hi35, h⟩ := h
              refine r_iald C (hF.k (by decide) rfl) (ixL (n := 600) rfl hi35) dX5_putBytes_253 ?_
              refine r_bipush C (x := 24) dX5_putBytes_254 (by decide) ?_
              refine r_icmp_ne C dX5_putBytes_256 (tgt := 260) (by decide) (fun hc36 => ?_) (fun hc36 => ?_)
              · replace h := h.1 hc36
                refine r_iload C 6 dX5_putBytes_260 rfl ?_
                refine r_iloadn C 4 dX5_putBytes_262 rfl ?_
                have kJ38 : ∀ (w37 : Int32) (_ : w37 = (if l3 ≤ l5 then l3 else l5 : Int32)), WP X 272 [(0, vr 26), (1, vi l1), (2, vi l2), (4, vi l4), (6, vi w22)] [vi w37] S 0 0 := by
                  intro w37 hw37
                  replace h := h w37 hw37
                  refine r_istore C dX5_putBytes_272 (by decide) rfl rfl ?_
                  refine r_iconst C (x := 0) dX5_putBytes_274 (by decide) ?_
                  refine r_istore C dX5_putBytes_275 (by decide) rfl rfl ?_
                  refine r_perm [2, 3, 4, 5, 1, 6, 0] rfl ?_
                  exact h
                refine r_icmp_ge C dX5_putBytes_263 (tgt := 271) (by decide) (fun hc39 => ?_) (fun hc39 => ?_)
                · refine r_iloadn C 4 dX5_putBytes_271 rfl ?_
                  refine r_perm [1, 2, 3, 5, 0] rfl ?_
                  exact kJ38 _ (if_pos hc39).symm
                · refine r_iload C 6 dX5_putBytes_266 rfl ?_
                  refine r_goto C dX5_putBytes_268 (tgt := 272) (by decide) ?_
                  refine r_perm [1, 2, 3, 5, 0] rfl ?_
                  exact kJ38 _ (if_neg hc39).symm
              · replace h := h.2 hc36
                exact rv O rfl dX5_putBytes_259 (by decide) (by decide) hF hn h
      · replace h := h.2 hc25
        refine r_iload C 0 dX5_putBytes_210 rfl ?_
        refine r_if_eq C dX5_putBytes_212 (tgt := 230) (by decide) (fun hc40 => ?_) (fun hc40 => ?_)
        · replace h := h.1 hc40
          exact rv O rfl dX5_putBytes_230 (by decide) (by decide) hF hn h
        · replace h := h.2 hc40
          refine r_aloadn C 1 dX5_putBytes_215 rfl ?_
          refine r_getR C (hF.k (by decide) rfl) fl_5_33 rfl (o := some 31) (hF.mR (by decide) rfl rfl) dX5_putBytes_216 ?_
          refine r_iloadn C 3 dX5_putBytes_219 rfl ?_
          refine r_iald C (hF.k (by decide) rfl) (ixL (n := 8) rfl hi1) dX5_putBytes_220 ?_
          refine r_aloadn C 1 dX5_putBytes_221 rfl ?_
          refine r_getR C (hF.k (by decide) rfl) fl_5_19 rfl (o := some 27) (hF.mR (by decide) rfl rfl) dX5_putBytes_222 ?_
          refine r_iloadn C 3 dX5_putBytes_225 rfl ?_
          refine r_iald C (hF.k (by decide) rfl) (ixL (n := 8) rfl hi1) dX5_putBytes_226 ?_
          refine r_icmp_ge C dX5_putBytes_227 (tgt := 231) (by decide) (fun hc41 => ?_) (fun hc41 => ?_)
          · replace h := h.1 hc41
            refine r_iload C 6 dX5_putBytes_231 rfl ?_
            refine r_if_le C dX5_putBytes_233 (tgt := 241) (by decide) (fun hc42 => ?_) (fun hc42 => ?_)
            · replace h := h.1 hc42
              refine r_iloadn C 4 dX5_putBytes_241 rfl ?_
              refine r_if_lt C dX5_putBytes_242 (tgt := 259) (by decide) (fun hc43 => ?_) (fun hc43 => ?_)
              · replace h := h.1 hc43
                exact rv O rfl dX5_putBytes_259 (by decide) (by decide) hF hn h
              · replace h := h.2 hc43
                refine r_aloadn C 1 dX5_putBytes_245 rfl ?_
                refine r_getR C (hF.k (by decide) rfl) fl_5_148 rfl (o := some 69) (hF.mR (by decide) rfl rfl) dX5_putBytes_246 ?_
                refine r_aloadn C 1 dX5_putBytes_249 rfl ?_
                refine r_getI C (hF.k (by decide) rfl) fl_5_212 rfl dX5_putBytes_250 ?_
                obtain ⟨hi44, h⟩ := h
                refine r_iald C (hF.k (by decide) rfl) (ixL (n := 600) rfl hi44) dX5_putBytes_253 ?_
                refine r_bipush C (x := 24) dX5_putBytes_254 (by decide) ?_
                refine r_icmp_ne C dX5_putBytes_256 (tgt := 260) (by decide) (fun hc45 => ?_) (fun hc45 => ?_)
                · replace h := h.1 hc45
                  refine r_iload C 6 dX5_putBytes_260 rfl ?_
                  refine r_iloadn C 4 dX5_putBytes_262 rfl ?_
                  have kJ47 : ∀ (w46 : Int32) (_ : w46 = (if l3 ≤ l5 then l3 else l5 : Int32)), WP X 272 [(0, vr 26), (1, vi l1), (2, vi l2), (4, vi l4), (6, vi w22)] [vi w46] S 0 0 := by
                    intro w46 hw46
                    replace h := h w46 hw46
                    refine r_istore C dX5_putBytes_272 (by decide) rfl rfl ?_
                    refine r_iconst C (x := 0) dX5_putBytes_274 (by decide) ?_
                    refine r_istore C dX5_putBytes_275 (by decide) rfl rfl ?_
                    refine r_perm [2, 3, 4, 5, 1, 6, 0] rfl ?_
                    exact h
                  refine r_icmp_ge C dX5_putBytes_263 (tgt := 271) (by decide) (fun hc48 => ?_) (fun hc48 => ?_)
                  · refine r_iloadn C 4 dX5_putBytes_271 rfl ?_
                    refine r_perm [1, 2, 3, 5, 0] rfl ?_
                    exact kJ47 _ (if_pos hc48).symm
                  · refine r_iload C 6 dX5_putBytes_266 rfl ?_
                    refine r_goto C dX5_putBytes_268 (tgt := 272) (by decide) ?_
                    refine r_perm [1, 2, 3, 5, 0] rfl ?_
                    exact kJ47 _ (if_neg hc48).symm
                · replace h := h.2 hc45
                  exact rv O rfl dX5_putBytes_259 (by decide) (by decide) hF hn h
            · replace h := h.2 hc42
              refine r_iloadn C 4 dX5_putBytes_236 rfl ?_
              refine r_iconst C (x := 1) dX5_putBytes_237 (by decide) ?_
              refine r_icmp_lt C dX5_putBytes_238 (tgt := 259) (by decide) (fun hc49 => ?_) (fun hc49 => ?_)
              · replace h := h.1 hc49
                exact rv O rfl dX5_putBytes_259 (by decide) (by decide) hF hn h
              · replace h := h.2 hc49
                refine r_iloadn C 4 dX5_putBytes_241 rfl ?_
                refine r_if_lt C dX5_putBytes_242 (tgt := 259) (by decide) (fun hc50 => ?_) (fun hc50 => ?_)
                · replace h := h.1 hc50
                  exact rv O rfl dX5_putBytes_259 (by decide) (by decide) hF hn h
                · replace h := h.2 hc50
                  refine r_aloadn C 1 dX5_putBytes_245 rfl ?_
                  refine r_getR C (hF.k (by decide) rfl) fl_5_148 rfl (o := some 69) (hF.mR (by decide) rfl rfl) dX5_putBytes_246 ?_
                  refine r_aloadn C 1 dX5_putBytes_249 rfl ?_
                  refine r_getI C (hF.k (by decide) rfl) fl_5_212 rfl dX5_putBytes_250 ?_
                  obtain ⟨hi51, h⟩ := h
                  refine r_iald C (hF.k (by decide) rfl) (ixL (n := 600) rfl hi51) dX5_putBytes_253 ?_
                  refine r_bipush C (x := 24) dX5_putBytes_254 (by decide) ?_
                  refine r_icmp_ne C dX5_putBytes_256 (tgt := 260) (by decide) (fun hc52 => ?_) (fun hc52 => ?_)
                  · replace h := h.1 hc52
                    refine r_iload C 6 dX5_putBytes_260 rfl ?_
                    refine r_iloadn C 4 dX5_putBytes_262 rfl ?_
                    have kJ54 : ∀ (w53 : Int32) (_ : w53 = (if l3 ≤ l5 then l3 else l5 : Int32)), WP X 272 [(0, vr 26), (1, vi l1), (2, vi l2), (4, vi l4), (6, vi w22)] [vi w53] S 0 0 := by
                      intro w53 hw53
                      replace h := h w53 hw53
                      refine r_istore C dX5_putBytes_272 (by decide) rfl rfl ?_
                      refine r_iconst C (x := 0) dX5_putBytes_274 (by decide) ?_
                      refine r_istore C dX5_putBytes_275 (by decide) rfl rfl ?_
                      refine r_perm [2, 3, 4, 5, 1, 6, 0] rfl ?_
                      exact h
                    refine r_icmp_ge C dX5_putBytes_263 (tgt := 271) (by decide) (fun hc55 => ?_) (fun hc55 => ?_)
                    · refine r_iloadn C 4 dX5_putBytes_271 rfl ?_
                      refine r_perm [1, 2, 3, 5, 0] rfl ?_
                      exact kJ54 _ (if_pos hc55).symm
                    · refine r_iload C 6 dX5_putBytes_266 rfl ?_
                      refine r_goto C dX5_putBytes_268 (tgt := 272) (by decide) ?_
                      refine r_perm [1, 2, 3, 5, 0] rfl ?_
                      exact kJ54 _ (if_neg hc55).symm
                  · replace h := h.2 hc52
                    exact rv O rfl dX5_putBytes_259 (by decide) (by decide) hF hn h
          · replace h := h.2 hc41
            exact rv O rfl dX5_putBytes_230 (by decide) (by decide) hF hn h
    refine r_if_eq C dX5_putBytes_168 (tgt := 202) (by decide) (fun hc24 => ?_) (fun hc24 => ?_)
    · refine r_iconst C (x := 0) dX5_putBytes_202 (by decide) ?_
      refine r_perm [0, 1, 2, 3, 4, 5] rfl ?_
      exact kJ23 _ (if_pos hc24).symm
    · refine r_aloadn C 0 dX5_putBytes_171 rfl ?_
      refine r_getR C (hF.k (by decide) rfl) fl_5_36 rfl (o := some 32) (hF.mR (by decide) rfl rfl) dX5_putBytes_172 ?_
      refine r_iloadn C 2 dX5_putBytes_175 rfl ?_
      refine r_zald C (hF.k (by decide) rfl) (ixL (n := 8) rfl hi1) dX5_putBytes_176 ?_
      have kJ64 : WP X 203 [(0, vr 26), (1, vi l1), (2, vi l2), (3, vi l3), (4, vi l4), (5, vi l5)] [vi (if (gI S 32 l2.toNatClampNeg) = 0 then (if (gI S 34 l2.toNatClampNeg) = 0 then 1 else 0 : Int32) else (if (gI S 33 l2.toNatClampNeg) = 0 then 0 else (if (gI S 34 l2.toNatClampNeg) = 0 then 1 else 0 : Int32) : Int32) : Int32)] S 0 0 := by
        refine r_perm [0, 1, 2, 3, 4, 5] rfl ?_
        exact kJ23 _ (if_neg hc24).symm
      refine r_if_eq C dX5_putBytes_177 (tgt := 189) (by decide) (fun hc65 => ?_) (fun hc65 => ?_)
      · refine r_aloadn C 0 dX5_putBytes_189 rfl ?_
        refine r_getR C (hF.k (by decide) rfl) fl_5_42 rfl (o := some 34) (hF.mR (by decide) rfl rfl) dX5_putBytes_190 ?_
        refine r_iloadn C 2 dX5_putBytes_193 rfl ?_
        refine r_zald C (hF.k (by decide) rfl) (ixL (n := 8) rfl hi1) dX5_putBytes_194 ?_
        have kJ66 : WP X 203 [(0, vr 26), (1, vi l1), (2, vi l2), (3, vi l3), (4, vi l4), (5, vi l5)] [vi (if (gI S 34 l2.toNatClampNeg) = 0 then 1 else 0 : Int32)] S 0 0 := by
          refine r_perm [0, 1, 2, 3, 4, 5] rfl ?_
          rw [show (if (gI S 32 l2.toNatClampNeg) = 0 then (if (gI S 34 l2.toNatClampNeg) = 0 then 1 else 0 : Int32) else (if (gI S 33 l2.toNatClampNeg) = 0 then 0 else (if (gI S 34 l2.toNatClampNeg) = 0 then 1 else 0 : Int32) : Int32) : Int32) = (if (gI S 34 l2.toNatClampNeg) = 0 then 1 else 0 : Int32) from if_pos hc65] at kJ64
          exact kJ64
        refine r_if_ne C dX5_putBytes_195 (tgt := 202) (by decide) (fun hc67 => ?_) (fun hc67 => ?_)
        · refine r_iconst C (x := 0) dX5_putBytes_202 (by decide) ?_
          refine r_perm [0, 1, 2, 3, 4, 5] rfl ?_
          rw [show (if (gI S 34 l2.toNatClampNeg) = 0 then 1 else 0 : Int32) = 0 from if_neg hc67] at kJ66
          exact kJ66
        · refine r_iconst C (x := 1) dX5_putBytes_198 (by decide) ?_
          refine r_goto C dX5_putBytes_199 (tgt := 203) (by decide) ?_
          refine r_perm [0, 1, 2, 3, 4, 5] rfl ?_
          rw [show (if (gI S 34 l2.toNatClampNeg) = 0 then 1 else 0 : Int32) = 1 from if_pos hc67] at kJ66
          exact kJ66
      · refine r_aloadn C 0 dX5_putBytes_180 rfl ?_
        refine r_getR C (hF.k (by decide) rfl) fl_5_39 rfl (o := some 33) (hF.mR (by decide) rfl rfl) dX5_putBytes_181 ?_
        refine r_iloadn C 2 dX5_putBytes_184 rfl ?_
        refine r_zald C (hF.k (by decide) rfl) (ixL (n := 8) rfl hi1) dX5_putBytes_185 ?_
        have kJ70 : WP X 203 [(0, vr 26), (1, vi l1), (2, vi l2), (3, vi l3), (4, vi l4), (5, vi l5)] [vi (if (gI S 33 l2.toNatClampNeg) = 0 then 0 else (if (gI S 34 l2.toNatClampNeg) = 0 then 1 else 0 : Int32) : Int32)] S 0 0 := by
          refine r_perm [0, 1, 2, 3, 4, 5] rfl ?_
          rw [show (if (gI S 32 l2.toNatClampNeg) = 0 then (if (gI S 34 l2.toNatClampNeg) = 0 then 1 else 0 : Int32) else (if (gI S 33 l2.toNatClampNeg) = 0 then 0 else (if (gI S 34 l2.toNatClampNeg) = 0 then 1 else 0 : Int32) : Int32) : Int32) = (if (gI S 33 l2.toNatClampNeg) = 0 then 0 else (if (gI S 34 l2.toNatClampNeg) = 0 then 1 else 0 : Int32) : Int32) from if_neg hc65] at kJ64
          exact kJ64
        refine r_if_eq C dX5_putBytes_186 (tgt := 202) (by decide) (fun hc71 => ?_) (fun hc71 => ?_)
        · refine r_iconst C (x := 0) dX5_putBytes_202 (by decide) ?_
          refine r_perm [0, 1, 2, 3, 4, 5] rfl ?_
          rw [show (if (gI S 33 l2.toNatClampNeg) = 0 then 0 else (if (gI S 34 l2.toNatClampNeg) = 0 then 1 else 0 : Int32) : Int32) = 0 from if_pos hc71] at kJ70
          exact kJ70
        · refine r_aloadn C 0 dX5_putBytes_189 rfl ?_
          refine r_getR C (hF.k (by decide) rfl) fl_5_42 rfl (o := some 34) (hF.mR (by decide) rfl rfl) dX5_putBytes_190 ?_
          refine r_iloadn C 2 dX5_putBytes_193 rfl ?_
          refine r_zald C (hF.k (by decide) rfl) (ixL (n := 8) rfl hi1) dX5_putBytes_194 ?_
          have kJ72 : WP X 203 [(0, vr 26), (1, vi l1), (2, vi l2), (3, vi l3), (4, vi l4), (5, vi l5)] [vi (if (gI S 34 l2.toNatClampNeg) = 0 then 1 else 0 : Int32)] S 0 0 := by
            refine r_perm [0, 1, 2, 3, 4, 5] rfl ?_
            rw [show (if (gI S 33 l2.toNatClampNeg) = 0 then 0 else (if (gI S 34 l2.toNatClampNeg) = 0 then 1 else 0 : Int32) : Int32) = (if (gI S 34 l2.toNatClampNeg) = 0 then 1 else 0 : Int32) from if_neg hc71] at kJ70
            exact kJ70
          refine r_if_ne C dX5_putBytes_195 (tgt := 202) (by decide) (fun hc73 => ?_) (fun hc73 => ?_)
          · refine r_iconst C (x := 0) dX5_putBytes_202 (by decide) ?_
            refine r_perm [0, 1, 2, 3, 4, 5] rfl ?_
            rw [show (if (gI S 34 l2.toNatClampNeg) = 0 then 1 else 0 : Int32) = 0 from if_neg hc73] at kJ72
            exact kJ72
          · refine r_iconst C (x := 1) dX5_putBytes_198 (by decide) ?_
            refine r_goto C dX5_putBytes_199 (tgt := 203) (by decide) ?_
            refine r_perm [0, 1, 2, 3, 4, 5] rfl ?_
            rw [show (if (gI S 34 l2.toNatClampNeg) = 0 then 1 else 0 : Int32) = 1 from if_pos hc73] at kJ72
            exact kJ72
  · replace h := h.2 hc3
    refine r_aloadn C 0 dX5_putBytes_47 rfl ?_
    refine r_getR C (hF.k (by decide) rfl) fl_5_48 rfl (o := some 36) (hF.mR (by decide) rfl rfl) dX5_putBytes_48 ?_
    refine r_sipush C (x := 1000) dX5_putBytes_51 (by decide) ?_
    refine r_iloadn C 2 dX5_putBytes_54 rfl ?_
    refine r_imul C dX5_putBytes_55 ?_
    refine r_iload C 4 dX5_putBytes_56 rfl ?_
    refine r_iadd C dX5_putBytes_58 ?_
    refine r_iload C 5 dX5_putBytes_59 rfl ?_
    refine r_iadd C dX5_putBytes_61 ?_
    obtain ⟨hi74, h⟩ := h
    refine r_bald C (hF.k (by decide) rfl) (ixL (n := 8000) rfl hi74) dX5_putBytes_62 ?_
    refine r_iconst C (x := 2) dX5_putBytes_63 (by decide) ?_
    refine r_icmp_ne C dX5_putBytes_64 (tgt := 162) (by decide) (fun hc75 => ?_) (fun hc75 => ?_)
    · replace h := h.1 hc75
      refine r_aloadn C 0 dX5_putBytes_162 rfl ?_
      refine r_getR C (hF.k (by decide) rfl) fl_5_23 rfl (o := some 28) (hF.mR (by decide) rfl rfl) dX5_putBytes_163 ?_
      refine r_iloadn C 2 dX5_putBytes_166 rfl ?_
      refine r_zald C (hF.k (by decide) rfl) (ixL (n := 8) rfl hi1) dX5_putBytes_167 ?_
      have kJ95 : ∀ (w94 : Int32) (_ : w94 = (if (gI S 28 l2.toNatClampNeg) = 0 then 0 else (if (gI S 32 l2.toNatClampNeg) = 0 then (if (gI S 34 l2.toNatClampNeg) = 0 then 1 else 0 : Int32) else (if (gI S 33 l2.toNatClampNeg) = 0 then 0 else (if (gI S 34 l2.toNatClampNeg) = 0 then 1 else 0 : Int32) : Int32) : Int32) : Int32)), WP X 203 [(0, vr 26), (1, vi l1), (2, vi l2), (3, vi l3), (4, vi l4), (5, vi l5)] [vi w94] S 0 0 := by
        intro w94 hw94
        replace h := h w94 hw94
        have hz_w94 : w94 = 0 ∨ w94 = 1 := by rw [hw94]; repeat (first | exact Or.inl rfl | exact Or.inr rfl | assumption | split)
        refine r_istore C dX5_putBytes_203 (by decide) rfl rfl ?_
        refine r_iload C 6 dX5_putBytes_205 rfl ?_
        refine r_if_ne C dX5_putBytes_207 (tgt := 231) (by decide) (fun hc97 => ?_) (fun hc97 => ?_)
        · replace h := h.1 hc97
          refine r_iload C 6 dX5_putBytes_231 rfl ?_
          refine r_if_le C dX5_putBytes_233 (tgt := 241) (by decide) (fun hc98 => ?_) (fun hc98 => ?_)
          · replace h := h.1 hc98
            refine r_iloadn C 4 dX5_putBytes_241 rfl ?_
            refine r_if_lt C dX5_putBytes_242 (tgt := 259) (by decide) (fun hc99 => ?_) (fun hc99 => ?_)
            · replace h := h.1 hc99
              exact rv O rfl dX5_putBytes_259 (by decide) (by decide) hF hn h
            · replace h := h.2 hc99
              refine r_aloadn C 1 dX5_putBytes_245 rfl ?_
              refine r_getR C (hF.k (by decide) rfl) fl_5_148 rfl (o := some 69) (hF.mR (by decide) rfl rfl) dX5_putBytes_246 ?_
              refine r_aloadn C 1 dX5_putBytes_249 rfl ?_
              refine r_getI C (hF.k (by decide) rfl) fl_5_212 rfl dX5_putBytes_250 ?_
              obtain ⟨hi100, h⟩ := h
              refine r_iald C (hF.k (by decide) rfl) (ixL (n := 600) rfl hi100) dX5_putBytes_253 ?_
              refine r_bipush C (x := 24) dX5_putBytes_254 (by decide) ?_
              refine r_icmp_ne C dX5_putBytes_256 (tgt := 260) (by decide) (fun hc101 => ?_) (fun hc101 => ?_)
              · replace h := h.1 hc101
                refine r_iload C 6 dX5_putBytes_260 rfl ?_
                refine r_iloadn C 4 dX5_putBytes_262 rfl ?_
                have kJ103 : ∀ (w102 : Int32) (_ : w102 = (if l3 ≤ l5 then l3 else l5 : Int32)), WP X 272 [(0, vr 26), (1, vi l1), (2, vi l2), (4, vi l4), (6, vi w94)] [vi w102] S 0 0 := by
                  intro w102 hw102
                  replace h := h w102 hw102
                  refine r_istore C dX5_putBytes_272 (by decide) rfl rfl ?_
                  refine r_iconst C (x := 0) dX5_putBytes_274 (by decide) ?_
                  refine r_istore C dX5_putBytes_275 (by decide) rfl rfl ?_
                  refine r_perm [2, 3, 4, 5, 1, 6, 0] rfl ?_
                  exact h
                refine r_icmp_ge C dX5_putBytes_263 (tgt := 271) (by decide) (fun hc104 => ?_) (fun hc104 => ?_)
                · refine r_iloadn C 4 dX5_putBytes_271 rfl ?_
                  refine r_perm [1, 2, 3, 5, 0] rfl ?_
                  exact kJ103 _ (if_pos hc104).symm
                · refine r_iload C 6 dX5_putBytes_266 rfl ?_
                  refine r_goto C dX5_putBytes_268 (tgt := 272) (by decide) ?_
                  refine r_perm [1, 2, 3, 5, 0] rfl ?_
                  exact kJ103 _ (if_neg hc104).symm
              · replace h := h.2 hc101
                exact rv O rfl dX5_putBytes_259 (by decide) (by decide) hF hn h
          · replace h := h.2 hc98
            refine r_iloadn C 4 dX5_putBytes_236 rfl ?_
            refine r_iconst C (x := 1) dX5_putBytes_237 (by decide) ?_
            refine r_icmp_lt C dX5_putBytes_238 (tgt := 259) (by decide) (fun hc105 => ?_) (fun hc105 => ?_)
            · replace h := h.1 hc105
              exact rv O rfl dX5_putBytes_259 (by decide) (by decide) hF hn h
            · replace h := h.2 hc105
              refine r_iloadn C 4 dX5_putBytes_241 rfl ?_
              refine r_if_lt C dX5_putBytes_242 (tgt := 259) (by decide) (fun hc106 => ?_) (fun hc106 => ?_)
              · replace h := h.1 hc106
                exact rv O rfl dX5_putBytes_259 (by decide) (by decide) hF hn h
              · replace h := h.2 hc106
                refine r_aloadn C 1 dX5_putBytes_245 rfl ?_
                refine r_getR C (hF.k (by decide) rfl) fl_5_148 rfl (o := some 69) (hF.mR (by decide) rfl rfl) dX5_putBytes_246 ?_
                refine r_aloadn C 1 dX5_putBytes_249 rfl ?_
                refine r_getI C (hF.k (by decide) rfl) fl_5_212 rfl dX5_putBytes_250 ?_
                obtain ⟨hi107, h⟩ := h
                refine r_iald C (hF.k (by decide) rfl) (ixL (n := 600) rfl hi107) dX5_putBytes_253 ?_
                refine r_bipush C (x := 24) dX5_putBytes_254 (by decide) ?_
                refine r_icmp_ne C dX5_putBytes_256 (tgt := 260) (by decide) (fun hc108 => ?_) (fun hc108 => ?_)
                · replace h := h.1 hc108
                  refine r_iload C 6 dX5_putBytes_260 rfl ?_
                  refine r_iloadn C 4 dX5_putBytes_262 rfl ?_
                  have kJ110 : ∀ (w109 : Int32) (_ : w109 = (if l3 ≤ l5 then l3 else l5 : Int32)), WP X 272 [(0, vr 26), (1, vi l1), (2, vi l2), (4, vi l4), (6, vi w94)] [vi w109] S 0 0 := by
                    intro w109 hw109
                    replace h := h w109 hw109
                    refine r_istore C dX5_putBytes_272 (by decide) rfl rfl ?_
                    refine r_iconst C (x := 0) dX5_putBytes_274 (by decide) ?_
                    refine r_istore C dX5_putBytes_275 (by decide) rfl rfl ?_
                    refine r_perm [2, 3, 4, 5, 1, 6, 0] rfl ?_
                    exact h
                  refine r_icmp_ge C dX5_putBytes_263 (tgt := 271) (by decide) (fun hc111 => ?_) (fun hc111 => ?_)
                  · refine r_iloadn C 4 dX5_putBytes_271 rfl ?_
                    refine r_perm [1, 2, 3, 5, 0] rfl ?_
                    exact kJ110 _ (if_pos hc111).symm
                  · refine r_iload C 6 dX5_putBytes_266 rfl ?_
                    refine r_goto C dX5_putBytes_268 (tgt := 272) (by decide) ?_
                    refine r_perm [1, 2, 3, 5, 0] rfl ?_
                    exact kJ110 _ (if_neg hc111).symm
                · replace h := h.2 hc108
                  exact rv O rfl dX5_putBytes_259 (by decide) (by decide) hF hn h
        · replace h := h.2 hc97
          refine r_iload C 0 dX5_putBytes_210 rfl ?_
          refine r_if_eq C dX5_putBytes_212 (tgt := 230) (by decide) (fun hc112 => ?_) (fun hc112 => ?_)
          · replace h := h.1 hc112
            exact rv O rfl dX5_putBytes_230 (by decide) (by decide) hF hn h
          · replace h := h.2 hc112
            refine r_aloadn C 1 dX5_putBytes_215 rfl ?_
            refine r_getR C (hF.k (by decide) rfl) fl_5_33 rfl (o := some 31) (hF.mR (by decide) rfl rfl) dX5_putBytes_216 ?_
            refine r_iloadn C 3 dX5_putBytes_219 rfl ?_
            refine r_iald C (hF.k (by decide) rfl) (ixL (n := 8) rfl hi1) dX5_putBytes_220 ?_
            refine r_aloadn C 1 dX5_putBytes_221 rfl ?_
            refine r_getR C (hF.k (by decide) rfl) fl_5_19 rfl (o := some 27) (hF.mR (by decide) rfl rfl) dX5_putBytes_222 ?_
            refine r_iloadn C 3 dX5_putBytes_225 rfl ?_
            refine r_iald C (hF.k (by decide) rfl) (ixL (n := 8) rfl hi1) dX5_putBytes_226 ?_
            refine r_icmp_ge C dX5_putBytes_227 (tgt := 231) (by decide) (fun hc113 => ?_) (fun hc113 => ?_)
            · replace h := h.1 hc113
              refine r_iload C 6 dX5_putBytes_231 rfl ?_
              refine r_if_le C dX5_putBytes_233 (tgt := 241) (by decide) (fun hc114 => ?_) (fun hc114 => ?_)
              · replace h := h.1 hc114
                refine r_iloadn C 4 dX5_putBytes_241 rfl ?_
                refine r_if_lt C dX5_putBytes_242 (tgt := 259) (by decide) (fun hc115 => ?_) (fun hc115 => ?_)
                · replace h := h.1 hc115
                  exact rv O rfl dX5_putBytes_259 (by decide) (by decide) hF hn h
                · replace h := h.2 hc115
                  refine r_aloadn C 1 dX5_putBytes_245 rfl ?_
                  refine r_getR C (hF.k (by decide) rfl) fl_5_148 rfl (o := some 69) (hF.mR (by decide) rfl rfl) dX5_putBytes_246 ?_
                  refine r_aloadn C 1 dX5_putBytes_249 rfl ?_
                  refine r_getI C (hF.k (by decide) rfl) fl_5_212 rfl dX5_putBytes_250 ?_
                  obtain ⟨hi116, h⟩ := h
                  refine r_iald C (hF.k (by decide) rfl) (ixL (n := 600) rfl hi116) dX5_putBytes_253 ?_
                  refine r_bipush C (x := 24) dX5_putBytes_254 (by decide) ?_
                  refine r_icmp_ne C dX5_putBytes_256 (tgt := 260) (by decide) (fun hc117 => ?_) (fun hc117 => ?_)
                  · replace h := h.1 hc117
                    refine r_iload C 6 dX5_putBytes_260 rfl ?_
                    refine r_iloadn C 4 dX5_putBytes_262 rfl ?_
                    have kJ119 : ∀ (w118 : Int32) (_ : w118 = (if l3 ≤ l5 then l3 else l5 : Int32)), WP X 272 [(0, vr 26), (1, vi l1), (2, vi l2), (4, vi l4), (6, vi w94)] [vi w118] S 0 0 := by
                      intro w118 hw118
                      replace h := h w118 hw118
                      refine r_istore C dX5_putBytes_272 (by decide) rfl rfl ?_
                      refine r_iconst C (x := 0) dX5_putBytes_274 (by decide) ?_
                      refine r_istore C dX5_putBytes_275 (by decide) rfl rfl ?_
                      refine r_perm [2, 3, 4, 5, 1, 6, 0] rfl ?_
                      exact h
                    refine r_icmp_ge C dX5_putBytes_263 (tgt := 271) (by decide) (fun hc120 => ?_) (fun hc120 => ?_)
                    · refine r_iloadn C 4 dX5_putBytes_271 rfl ?_
                      refine r_perm [1, 2, 3, 5, 0] rfl ?_
                      exact kJ119 _ (if_pos hc120).symm
                    · refine r_iload C 6 dX5_putBytes_266 rfl ?_
                      refine r_goto C dX5_putBytes_268 (tgt := 272) (by decide) ?_
                      refine r_perm [1, 2, 3, 5, 0] rfl ?_
                      exact kJ119 _ (if_neg hc120).symm
                  · replace h := h.2 hc117
                    exact rv O rfl dX5_putBytes_259 (by decide) (by decide) hF hn h
              · replace h := h.2 hc114
                refine r_iloadn C 4 dX5_putBytes_236 rfl ?_
                refine r_iconst C (x := 1) dX5_putBytes_237 (by decide) ?_
                refine r_icmp_lt C dX5_putBytes_238 (tgt := 259) (by decide) (fun hc121 => ?_) (fun hc121 => ?_)
                · replace h := h.1 hc121
                  exact rv O rfl dX5_putBytes_259 (by decide) (by decide) hF hn h
                · replace h := h.2 hc121
                  refine r_iloadn C 4 dX5_putBytes_241 rfl ?_
                  refine r_if_lt C dX5_putBytes_242 (tgt := 259) (by decide) (fun hc122 => ?_) (fun hc122 => ?_)
                  · replace h := h.1 hc122
                    exact rv O rfl dX5_putBytes_259 (by decide) (by decide) hF hn h
                  · replace h := h.2 hc122
                    refine r_aloadn C 1 dX5_putBytes_245 rfl ?_
                    refine r_getR C (hF.k (by decide) rfl) fl_5_148 rfl (o := some 69) (hF.mR (by decide) rfl rfl) dX5_putBytes_246 ?_
                    refine r_aloadn C 1 dX5_putBytes_249 rfl ?_
                    refine r_getI C (hF.k (by decide) rfl) fl_5_212 rfl dX5_putBytes_250 ?_
                    obtain ⟨hi123, h⟩ := h
                    refine r_iald C (hF.k (by decide) rfl) (ixL (n := 600) rfl hi123) dX5_putBytes_253 ?_
                    refine r_bipush C (x := 24) dX5_putBytes_254 (by decide) ?_
                    refine r_icmp_ne C dX5_putBytes_256 (tgt := 260) (by decide) (fun hc124 => ?_) (fun hc124 => ?_)
                    · replace h := h.1 hc124
                      refine r_iload C 6 dX5_putBytes_260 rfl ?_
                      refine r_iloadn C 4 dX5_putBytes_262 rfl ?_
                      have kJ126 : ∀ (w125 : Int32) (_ : w125 = (if l3 ≤ l5 then l3 else l5 : Int32)), WP X 272 [(0, vr 26), (1, vi l1), (2, vi l2), (4, vi l4), (6, vi w94)] [vi w125] S 0 0 := by
                        intro w125 hw125
                        replace h := h w125 hw125
                        refine r_istore C dX5_putBytes_272 (by decide) rfl rfl ?_
                        refine r_iconst C (x := 0) dX5_putBytes_274 (by decide) ?_
                        refine r_istore C dX5_putBytes_275 (by decide) rfl rfl ?_
                        refine r_perm [2, 3, 4, 5, 1, 6, 0] rfl ?_
                        exact h
                      refine r_icmp_ge C dX5_putBytes_263 (tgt := 271) (by decide) (fun hc127 => ?_) (fun hc127 => ?_)
                      · refine r_iloadn C 4 dX5_putBytes_271 rfl ?_
                        refine r_perm [1, 2, 3, 5, 0] rfl ?_
                        exact kJ126 _ (if_pos hc127).symm
                      · refine r_iload C 6 dX5_putBytes_266 rfl ?_
                        refine r_goto C dX5_putBytes_268 (tgt := 272) (by decide) ?_
                        refine r_perm [1, 2, 3, 5, 0] rfl ?_
                        exact kJ126 _ (if_neg hc127).symm
                    · replace h := h.2 hc124
                      exact rv O rfl dX5_putBytes_259 (by decide) (by decide) hF hn h
            · replace h := h.2 hc113
              exact rv O rfl dX5_putBytes_230 (by decide) (by decide) hF hn h
      refine r_if_eq C dX5_putBytes_168 (tgt := 202) (by decide) (fun hc96 => ?_) (fun hc96 => ?_)
      · refine r_iconst C (x := 0) dX5_putBytes_202 (by decide) ?_
        refine r_perm [0, 1, 2, 3, 4, 5] rfl ?_
        exact kJ95 _ (if_pos hc96).symm
      · refine r_aloadn C 0 dX5_putBytes_171 rfl ?_
        refine r_getR C (hF.k (by decide) rfl) fl_5_36 rfl (o := some 32) (hF.mR (by decide) rfl rfl) dX5_putBytes_172 ?_
        refine r_iloadn C 2 dX5_putBytes_175 rfl ?_
        refine r_zald C (hF.k (by decide) rfl) (ixL (n := 8) rfl hi1) dX5_putBytes_176 ?_
        have kJ136 : WP X 203 [(0, vr 26), (1, vi l1), (2, vi l2), (3, vi l3), (4, vi l4), (5, vi l5)] [vi (if (gI S 32 l2.toNatClampNeg) = 0 then (if (gI S 34 l2.toNatClampNeg) = 0 then 1 else 0 : Int32) else (if (gI S 33 l2.toNatClampNeg) = 0 then 0 else (if (gI S 34 l2.toNatClampNeg) = 0 then 1 else 0 : Int32) : Int32) : Int32)] S 0 0 := by
          refine r_perm [0, 1, 2, 3, 4, 5] rfl ?_
          exact kJ95 _ (if_neg hc96).symm
        refine r_if_eq C dX5_putBytes_177 (tgt := 189) (by decide) (fun hc137 => ?_) (fun hc137 => ?_)
        · refine r_aloadn C 0 dX5_putBytes_189 rfl ?_
          refine r_getR C (hF.k (by decide) rfl) fl_5_42 rfl (o := some 34) (hF.mR (by decide) rfl rfl) dX5_putBytes_190 ?_
          refine r_iloadn C 2 dX5_putBytes_193 rfl ?_
          refine r_zald C (hF.k (by decide) rfl) (ixL (n := 8) rfl hi1) dX5_putBytes_194 ?_
          have kJ138 : WP X 203 [(0, vr 26), (1, vi l1), (2, vi l2), (3, vi l3), (4, vi l4), (5, vi l5)] [vi (if (gI S 34 l2.toNatClampNeg) = 0 then 1 else 0 : Int32)] S 0 0 := by
            refine r_perm [0, 1, 2, 3, 4, 5] rfl ?_
            rw [show (if (gI S 32 l2.toNatClampNeg) = 0 then (if (gI S 34 l2.toNatClampNeg) = 0 then 1 else 0 : Int32) else (if (gI S 33 l2.toNatClampNeg) = 0 then 0 else (if (gI S 34 l2.toNatClampNeg) = 0 then 1 else 0 : Int32) : Int32) : Int32) = (if (gI S 34 l2.toNatClampNeg) = 0 then 1 else 0 : Int32) from if_pos hc137] at kJ136
            exact kJ136
          refine r_if_ne C dX5_putBytes_195 (tgt := 202) (by decide) (fun hc139 => ?_) (fun hc139 => ?_)
          · refine r_iconst C (x := 0) dX5_putBytes_202 (by decide) ?_
            refine r_perm [0, 1, 2, 3, 4, 5] rfl ?_
            rw [show (if (gI S 34 l2.toNatClampNeg) = 0 then 1 else 0 : Int32) = 0 from if_neg hc139] at kJ138
            exact kJ138
          · refine r_iconst C (x := 1) dX5_putBytes_198 (by decide) ?_
            refine r_goto C dX5_putBytes_199 (tgt := 203) (by decide) ?_
            refine r_perm [0, 1, 2, 3, 4, 5] rfl ?_
            rw [show (if (gI S 34 l2.toNatClampNeg) = 0 then 1 else 0 : Int32) = 1 from if_pos hc139] at kJ138
            exact kJ138
        · refine r_aloadn C 0 dX5_putBytes_180 rfl ?_
          refine r_getR C (hF.k (by decide) rfl) fl_5_39 rfl (o := some 33) (hF.mR (by decide) rfl rfl) dX5_putBytes_181 ?_
          refine r_iloadn C 2 dX5_putBytes_184 rfl ?_
          refine r_zald C (hF.k (by decide) rfl) (ixL (n := 8) rfl hi1) dX5_putBytes_185 ?_
          have kJ142 : WP X 203 [(0, vr 26), (1, vi l1), (2, vi l2), (3, vi l3), (4, vi l4), (5, vi l5)] [vi (if (gI S 33 l2.toNatClampNeg) = 0 then 0 else (if (gI S 34 l2.toNatClampNeg) = 0 then 1 else 0 : Int32) : Int32)] S 0 0 := by
            refine r_perm [0, 1, 2, 3, 4, 5] rfl ?_
            rw [show (if (gI S 32 l2.toNatClampNeg) = 0 then (if (gI S 34 l2.toNatClampNeg) = 0 then 1 else 0 : Int32) else (if (gI S 33 l2.toNatClampNeg) = 0 then 0 else (if (gI S 34 l2.toNatClampNeg) = 0 then 1 else 0 : Int32) : Int32) : Int32) = (if (gI S 33 l2.toNatClampNeg) = 0 then 0 else (if (gI S 34 l2.toNatClampNeg) = 0 then 1 else 0 : Int32) : Int32) from if_neg hc137] at kJ136
            exact kJ136
          refine r_if_eq C dX5_putBytes_186 (tgt := 202) (by decide) (fun hc143 => ?_) (fun hc143 => ?_)
          · refine r_iconst C (x := 0) dX5_putBytes_202 (by decide) ?_
            refine r_perm [0, 1, 2, 3, 4, 5] rfl ?_
            rw [show (if (gI S 33 l2.toNatClampNeg) = 0 then 0 else (if (gI S 34 l2.toNatClampNeg) = 0 then 1 else 0 : Int32) : Int32) = 0 from if_pos hc143] at kJ142
            exact kJ142
          · refine r_aloadn C 0 dX5_putBytes_189 rfl ?_
            refine r_getR C (hF.k (by decide) rfl) fl_5_42 rfl (o := some 34) (hF.mR (by decide) rfl rfl) dX5_putBytes_190 ?_
            refine r_iloadn C 2 dX5_putBytes_193 rfl ?_
            refine r_zald C (hF.k (by decide) rfl) (ixL (n := 8) rfl hi1) dX5_putBytes_194 ?_
            have kJ144 : WP X 203 [(0, vr 26), (1, vi l1), (2, vi l2), (3, vi l3), (4, vi l4), (5, vi l5)] [vi (if (gI S 34 l2.toNatClampNeg) = 0 then 1 else 0 : Int32)] S 0 0 := by
              refine r_perm [0, 1, 2, 3, 4, 5] rfl ?_
              rw [show (if (gI S 33 l2.toNatClampNeg) = 0 then 0 else (if (gI S 34 l2.toNatClampNeg) = 0 then 1 else 0 : Int32) : Int32) = (if (gI S 34 l2.toNatClampNeg) = 0 then 1 else 0 : Int32) from if_neg hc143] at kJ142
              exact kJ142
            refine r_if_ne C dX5_putBytes_195 (tgt := 202) (by decide) (fun hc145 => ?_) (fun hc145 => ?_)
            · refine r_iconst C (x := 0) dX5_putBytes_202 (by decide) ?_
              refine r_perm [0, 1, 2, 3, 4, 5] rfl ?_
              rw [show (if (gI S 34 l2.toNatClampNeg) = 0 then 1 else 0 : Int32) = 0 from if_neg hc145] at kJ144
              exact kJ144
            · refine r_iconst C (x := 1) dX5_putBytes_198 (by decide) ?_
              refine r_goto C dX5_putBytes_199 (tgt := 203) (by decide) ?_
              refine r_perm [0, 1, 2, 3, 4, 5] rfl ?_
              rw [show (if (gI S 34 l2.toNatClampNeg) = 0 then 1 else 0 : Int32) = 1 from if_pos hc145] at kJ144
              exact kJ144
    · replace h := h.2 hc75
      refine r_iinc C (y := (l5 + 1)) 5 dX5_putBytes_67 rfl rfl (by decide) rfl rfl ?_
      refine r_goto C dX5_putBytes_70 (tgt := 33) (by decide) ?_
      refine r_perm [1, 2, 3, 4, 5, 0] rfl ?_
      exact h
set_option maxHeartbeats 4000000 in
set_option maxRecDepth 100000 in
theorem s5_putBytes_277 {X : Ctx} {S0 S : Sto} {Q : Sto → Prop} (hF : Fx S) (hn : sN S0 ≤ sN S) (O : Ov X K5_putBytes S0 Q) {l1 : Int32} {l2 : Int32} {l4 : Int32} {l5 : Int32} {l6 : Int32} {l7 : Int32}   (h : (l5 ≤ l7 → ((0 ≤ (l2 : Int32).toInt ∧ (l2 : Int32).toInt < (8 : Nat)) ∧ (∀ w3 : Int32, w3 = (if (l4 + l5) ≤ (gI S 31 l2.toNatClampNeg) then (gI S 31 l2.toNatClampNeg) else (l4 + l5) : Int32) → (∀ w8 : Int32, w8 = (if l6 = 0 then 0 else (if (gI (pI S 31 l2.toNatClampNeg w3) 31 l2.toNatClampNeg) = (gI S 27 l2.toNatClampNeg) then 1 else 0 : Int32) : Int32) → ((w8 = 0 → (∀ w12 : Int32, w12 = (if w8 = 0 then 0 else 10000 : Int32) → (Ci K5_put [vr 26, vi 4, vi (8 + l5), vi l2, vi l4, vi (l5 + w12)] (pI S 31 l2.toNatClampNeg w3) (fun x15 S15 => (0 ≤ (l1 : Int32).toInt ∧ (l1 : Int32).toInt < (2 : Nat)) ∧ (∀ w18 : Int32, w18 = (if x15 = 0 then (gI S15 61 l1.toNatClampNeg) else l2 : Int32) → (Q (pI S15 61 l1.toNatClampNeg w18))))))) ∧ (¬ w8 = 0 → (∀ w21 : Int32, w21 = (if w8 = 0 then 0 else 10000 : Int32) → (Ci K5_put [vr 26, vi 4, vi (8 + l5), vi l2, vi l4, vi (l5 + w21)] (pI (pI (pI S 31 l2.toNatClampNeg w3) 32 l2.toNatClampNeg 1) 33 l2.toNatClampNeg 0) (fun x24 S24 => (0 ≤ (l1 : Int32).toInt ∧ (l1 : Int32).toInt < (2 : Nat)) ∧ (∀ w27 : Int32, w27 = (if x24 = 0 then (gI S24 61 l1.toNatClampNeg) else l2 : Int32) → (Q (pI S24 61 l1.toNatClampNeg w27)))))))))))) ∧ (¬ l5 ≤ l7 → ((0 ≤ ((((1000 * l2) + l4) + l7) : Int32).toInt ∧ ((((1000 * l2) + l4) + l7) : Int32).toInt < (8000 : Nat)) ∧ (WP X 277 [(0, vr 26), (1, vi l1), (2, vi l2), (4, vi l4), (5, vi l5), (6, vi l6), (7, vi (l7 + 1))] [] (pI S 36 (((1000 * l2) + l4) + l7).toNatClampNeg ((1 : Int32).toInt8.toInt32)) 0 0)))) : WP X 277 [(0, vr 26), (1, vi l1), (2, vi l2), (4, vi l4), (5, vi l5), (6, vi l6), (7, vi l7)] [] S 0 0 := by
  have C := O.1
  refine r_iload C 6 dX5_putBytes_277 rfl ?_
  refine r_iload C 4 dX5_putBytes_279 rfl ?_
  refine r_icmp_ge C dX5_putBytes_281 (tgt := 307) (by decide) (fun hc1 => ?_) (fun hc1 => ?_)
  · replace h := h.1 hc1
    refine r_aloadn C 0 dX5_putBytes_307 rfl ?_
    refine r_getR C (hF.k (by decide) rfl) fl_5_33 rfl (o := some 31) (hF.mR (by decide) rfl rfl) dX5_putBytes_308 ?_
    refine r_iloadn C 2 dX5_putBytes_311 rfl ?_
    refine r_iload C 3 dX5_putBytes_312 rfl ?_
    refine r_iload C 4 dX5_putBytes_314 rfl ?_
    refine r_iadd C dX5_putBytes_316 ?_
    refine r_aloadn C 0 dX5_putBytes_317 rfl ?_
    refine r_getR C (hF.k (by decide) rfl) fl_5_33 rfl (o := some 31) (hF.mR (by decide) rfl rfl) dX5_putBytes_318 ?_
    refine r_iloadn C 2 dX5_putBytes_321 rfl ?_
    obtain ⟨hi2, h⟩ := h
    refine r_iald C (hF.k (by decide) rfl) (ixL (n := 8) rfl hi2) dX5_putBytes_322 ?_
    have kJ4 : ∀ (w3 : Int32) (_ : w3 = (if (l4 + l5) ≤ (gI S 31 l2.toNatClampNeg) then (gI S 31 l2.toNatClampNeg) else (l4 + l5) : Int32)), WP X 340 [(0, vr 26), (1, vi l1), (2, vi l2), (4, vi l4), (5, vi l5), (6, vi l6)] [vi w3, vi l2, vr 31] S 0 0 := by
      intro w3 hw3
      replace h := h w3 hw3
      refine r_iast C (hF.k (by decide) rfl) (ixL (n := 8) rfl hi2) dX5_putBytes_340 ?_
      refine r_iload C 5 dX5_putBytes_341 rfl ?_
      have kJ9 : ∀ (w8 : Int32) (_ : w8 = (if l6 = 0 then 0 else (if (gI (pI S 31 l2.toNatClampNeg w3) 31 l2.toNatClampNeg) = (gI S 27 l2.toNatClampNeg) then 1 else 0 : Int32) : Int32)), WP X 366 [(0, vr 26), (1, vi l1), (2, vi l2), (4, vi l4), (5, vi l5)] [vi w8] (pI S 31 l2.toNatClampNeg w3) 0 0 := by
        intro w8 hw8
        replace h := h w8 hw8
        have hz_w8 : w8 = 0 ∨ w8 = 1 := by rw [hw8]; repeat (first | exact Or.inl rfl | exact Or.inr rfl | assumption | split)
        refine r_istore C dX5_putBytes_366 (by decide) rfl rfl ?_
        refine r_iload C 0 dX5_putBytes_368 rfl ?_
        refine r_if_eq C dX5_putBytes_370 (tgt := 387) (by decide) (fun hc11 => ?_) (fun hc11 => ?_)
        · replace h := h.1 hc11
          refine r_aloadn C 1 dX5_putBytes_387 rfl ?_
          refine r_iconst C (x := 4) dX5_putBytes_388 (by decide) ?_
          refine r_bipush C (x := 8) dX5_putBytes_389 (by decide) ?_
          refine r_iload C 5 dX5_putBytes_391 rfl ?_
          refine r_iadd C dX5_putBytes_393 ?_
          refine r_iloadn C 3 dX5_putBytes_394 rfl ?_
          refine r_iload C 4 dX5_putBytes_395 rfl ?_
          refine r_iload C 5 dX5_putBytes_397 rfl ?_
          refine r_iload C 0 dX5_putBytes_399 rfl ?_
          have kJ13 : ∀ (w12 : Int32) (_ : w12 = (if w8 = 0 then 0 else 10000 : Int32)), WP X 411 [(0, vr 26), (1, vi l1), (2, vi l2)] [vi w12, vi l5, vi l4, vi l2, vi (8 + l5), vi 4, vr 26] (pI S 31 l2.toNatClampNeg w3) 0 0 := by
            intro w12 hw12
            replace h := h w12 hw12
            refine r_iadd C dX5_putBytes_411 ?_
            refine r_callVi C K5_put [vi 4, vi (8 + l5), vi l2, vi l4, vi (l5 + w12)] [] (hF.k (by decide) rfl) (by decide) rfl cl_5_219 rm_5_putBytes_5_put ⟨rfl, rfl⟩ (by decide) (by decide) rfl (Nat.le_of_ble_eq_true rfl) dX5_putBytes_412 h (fun x15 S15 hF15 hn15 h => ?_)
            refine r_istore C dX5_putBytes_415 (by decide) rfl rfl ?_
            refine r_aloadn C 1 dX5_putBytes_417 rfl ?_
            refine r_getR C (hF15.k (by decide) rfl) fl_5_124 rfl (o := some 61) (hF15.mR (by decide) rfl rfl) dX5_putBytes_418 ?_
            refine r_iloadn C 2 dX5_putBytes_421 rfl ?_
            refine r_iload C 0 dX5_putBytes_422 rfl ?_
            obtain ⟨hi17, h⟩ := h
            have kJ19 : ∀ (w18 : Int32) (_ : w18 = (if x15 = 0 then (gI S15 61 l1.toNatClampNeg) else l2 : Int32)), WP X 437 [] [vi w18, vi l1, vr 61] S15 0 0 := by
              intro w18 hw18
              replace h := h w18 hw18
              refine r_iast C (hF15.k (by decide) rfl) (ixL (n := 2) rfl hi17) dX5_putBytes_437 ?_
              exact rv O rfl dX5_putBytes_438 (by decide) (by decide) hF15 (Nat.le_trans hn hn15) h
            refine r_if_eq C dX5_putBytes_424 (tgt := 431) (by decide) (fun hc20 => ?_) (fun hc20 => ?_)
            · refine r_aloadn C 1 dX5_putBytes_431 rfl ?_
              refine r_getR C (hF15.k (by decide) rfl) fl_5_124 rfl (o := some 61) (hF15.mR (by decide) rfl rfl) dX5_putBytes_432 ?_
              refine r_iloadn C 2 dX5_putBytes_435 rfl ?_
              refine r_iald C (hF15.k (by decide) rfl) (ixL (n := 2) rfl hi17) dX5_putBytes_436 ?_
              refine r_perm [] rfl ?_
              exact kJ19 _ (if_pos hc20).symm
            · refine r_iloadn C 3 dX5_putBytes_427 rfl ?_
              refine r_goto C dX5_putBytes_428 (tgt := 437) (by decide) ?_
              refine r_perm [] rfl ?_
              exact kJ19 _ (if_neg hc20).symm
          refine r_if_eq C dX5_putBytes_401 (tgt := 410) (by decide) (fun hc14 => ?_) (fun hc14 => ?_)
          · refine r_iconst C (x := 0) dX5_putBytes_410 (by decide) ?_
            refine r_perm [1, 2, 3] rfl ?_
            exact kJ13 _ (if_pos hc14).symm
          · refine r_sipush C (x := 10000) dX5_putBytes_404 (by decide) ?_
            refine r_goto C dX5_putBytes_407 (tgt := 411) (by decide) ?_
            refine r_perm [1, 2, 3] rfl ?_
            exact kJ13 _ (if_neg hc14).symm
        · replace h := h.2 hc11
          refine r_aloadn C 1 dX5_putBytes_373 rfl ?_
          refine r_getR C (hF.k (by decide) rfl) fl_5_36 rfl (o := some 32) (hF.mR (by decide) rfl rfl) dX5_putBytes_374 ?_
          refine r_iloadn C 3 dX5_putBytes_377 rfl ?_
          refine r_iconst C (x := 1) dX5_putBytes_378 (by decide) ?_
          refine r_zast C (hF.k (by decide) rfl) (Or.inr rfl) (ixL (n := 8) rfl hi2) dX5_putBytes_379 ?_
          refine r_aloadn C 1 dX5_putBytes_380 rfl ?_
          refine r_getR C (hF.k (by decide) rfl) fl_5_39 rfl (o := some 33) (hF.mR (by decide) rfl rfl) dX5_putBytes_381 ?_
          refine r_iloadn C 3 dX5_putBytes_384 rfl ?_
          refine r_iconst C (x := 0) dX5_putBytes_385 (by decide) ?_
          refine r_zast C (hF.k (by decide) rfl) (Or.inl rfl) (ixL (n := 8) rfl hi2) dX5_putBytes_386 ?_
          refine r_aloadn C 1 dX5_putBytes_387 rfl ?_
          refine r_iconst C (x := 4) dX5_putBytes_388 (by decide) ?_
          refine r_bipush C (x := 8) dX5_putBytes_389 (by decide) ?_
          refine r_iload C 5 dX5_putBytes_391 rfl ?_
          refine r_iadd C dX5_putBytes_393 ?_
          refine r_iloadn C 3 dX5_putBytes_394 rfl ?_
          refine r_iload C 4 dX5_putBytes_395 rfl ?_
          refine r_iload C 5 dX5_putBytes_397 rfl ?_
          refine r_iload C 0 dX5_putBytes_399 rfl ?_
          have kJ22 : ∀ (w21 : Int32) (_ : w21 = (if w8 = 0 then 0 else 10000 : Int32)), WP X 411 [(0, vr 26), (1, vi l1), (2, vi l2)] [vi w21, vi l5, vi l4, vi l2, vi (8 + l5), vi 4, vr 26] (pI (pI (pI S 31 l2.toNatClampNeg w3) 32 l2.toNatClampNeg 1) 33 l2.toNatClampNeg 0) 0 0 := by
            intro w21 hw21
            replace h := h w21 hw21
            refine r_iadd C dX5_putBytes_411 ?_
            refine r_callVi C K5_put [vi 4, vi (8 + l5), vi l2, vi l4, vi (l5 + w21)] [] (hF.k (by decide) rfl) (by decide) rfl cl_5_219 rm_5_putBytes_5_put ⟨rfl, rfl⟩ (by decide) (by decide) rfl (Nat.le_of_ble_eq_true rfl) dX5_putBytes_412 h (fun x24 S24 hF24 hn24 h => ?_)
            refine r_istore C dX5_putBytes_415 (by decide) rfl rfl ?_
            refine r_aloadn C 1 dX5_putBytes_417 rfl ?_
            refine r_getR C (hF24.k (by decide) rfl) fl_5_124 rfl (o := some 61) (hF24.mR (by decide) rfl rfl) dX5_putBytes_418 ?_
            refine r_iloadn C 2 dX5_putBytes_421 rfl ?_
            refine r_iload C 0 dX5_putBytes_422 rfl ?_
            obtain ⟨hi26, h⟩ := h
            have kJ28 : ∀ (w27 : Int32) (_ : w27 = (if x24 = 0 then (gI S24 61 l1.toNatClampNeg) else l2 : Int32)), WP X 437 [] [vi w27, vi l1, vr 61] S24 0 0 := by
              intro w27 hw27
              replace h := h w27 hw27
              refine r_iast C (hF24.k (by decide) rfl) (ixL (n := 2) rfl hi26) dX5_putBytes_437 ?_
              exact rv O rfl dX5_putBytes_438 (by decide) (by decide) hF24 (Nat.le_trans hn hn24) h
            refine r_if_eq C dX5_putBytes_424 (tgt := 431) (by decide) (fun hc29 => ?_) (fun hc29 => ?_)
            · refine r_aloadn C 1 dX5_putBytes_431 rfl ?_
              refine r_getR C (hF24.k (by decide) rfl) fl_5_124 rfl (o := some 61) (hF24.mR (by decide) rfl rfl) dX5_putBytes_432 ?_
              refine r_iloadn C 2 dX5_putBytes_435 rfl ?_
              refine r_iald C (hF24.k (by decide) rfl) (ixL (n := 2) rfl hi26) dX5_putBytes_436 ?_
              refine r_perm [] rfl ?_
              exact kJ28 _ (if_pos hc29).symm
            · refine r_iloadn C 3 dX5_putBytes_427 rfl ?_
              refine r_goto C dX5_putBytes_428 (tgt := 437) (by decide) ?_
              refine r_perm [] rfl ?_
              exact kJ28 _ (if_neg hc29).symm
          refine r_if_eq C dX5_putBytes_401 (tgt := 410) (by decide) (fun hc23 => ?_) (fun hc23 => ?_)
          · refine r_iconst C (x := 0) dX5_putBytes_410 (by decide) ?_
            refine r_perm [1, 2, 3] rfl ?_
            exact kJ22 _ (if_pos hc23).symm
          · refine r_sipush C (x := 10000) dX5_putBytes_404 (by decide) ?_
            refine r_goto C dX5_putBytes_407 (tgt := 411) (by decide) ?_
            refine r_perm [1, 2, 3] rfl ?_
            exact kJ22 _ (if_neg hc23).symm
      refine r_if_eq C dX5_putBytes_343 (tgt := 365) (by decide) (fun hc10 => ?_) (fun hc10 => ?_)
      · refine r_iconst C (x := 0) dX5_putBytes_365 (by decide) ?_
        refine r_perm [0, 1, 2, 3, 4] rfl ?_
        exact kJ9 _ (if_pos hc10).symm
      · refine r_aloadn C 0 dX5_putBytes_346 rfl ?_
        refine r_getR C (hF.k (by decide) rfl) fl_5_33 rfl (o := some 31) (hF.mR (by decide) rfl rfl) dX5_putBytes_347 ?_
        refine r_iloadn C 2 dX5_putBytes_350 rfl ?_
        refine r_iald C (hF.k (by decide) rfl) (ixL (n := 8) rfl hi2) dX5_putBytes_351 ?_
        refine r_aloadn C 0 dX5_putBytes_352 rfl ?_
        refine r_getR C (hF.k (by decide) rfl) fl_5_19 rfl (o := some 27) (hF.mR (by decide) rfl rfl) dX5_putBytes_353 ?_
        refine r_iloadn C 2 dX5_putBytes_356 rfl ?_
        refine r_iald C (hF.k (by decide) rfl) (ixL (n := 8) rfl hi2) dX5_putBytes_357 ?_
        have kJ30 : WP X 366 [(0, vr 26), (1, vi l1), (2, vi l2), (4, vi l4), (5, vi l5)] [vi (if (gI (pI S 31 l2.toNatClampNeg w3) 31 l2.toNatClampNeg) = (gI S 27 l2.toNatClampNeg) then 1 else 0 : Int32)] (pI S 31 l2.toNatClampNeg w3) 0 0 := by
          refine r_perm [0, 1, 2, 3, 4] rfl ?_
          exact kJ9 _ (if_neg hc10).symm
        refine r_icmp_ne C dX5_putBytes_358 (tgt := 365) (by decide) (fun hc31 => ?_) (fun hc31 => ?_)
        · refine r_iconst C (x := 0) dX5_putBytes_365 (by decide) ?_
          refine r_perm [0, 1, 2, 3, 4] rfl ?_
          rw [show (if (gI (pI S 31 l2.toNatClampNeg w3) 31 l2.toNatClampNeg) = (gI S 27 l2.toNatClampNeg) then 1 else 0 : Int32) = 0 from if_neg hc31] at kJ30
          exact kJ30
        · refine r_iconst C (x := 1) dX5_putBytes_361 (by decide) ?_
          refine r_goto C dX5_putBytes_362 (tgt := 366) (by decide) ?_
          refine r_perm [0, 1, 2, 3, 4] rfl ?_
          rw [show (if (gI (pI S 31 l2.toNatClampNeg w3) 31 l2.toNatClampNeg) = (gI S 27 l2.toNatClampNeg) then 1 else 0 : Int32) = 1 from if_pos hc31] at kJ30
          exact kJ30
    refine r_icmp_le C dX5_putBytes_323 (tgt := 334) (by decide) (fun hc5 => ?_) (fun hc5 => ?_)
    · refine r_aloadn C 0 dX5_putBytes_334 rfl ?_
      refine r_getR C (hF.k (by decide) rfl) fl_5_33 rfl (o := some 31) (hF.mR (by decide) rfl rfl) dX5_putBytes_335 ?_
      refine r_iloadn C 2 dX5_putBytes_338 rfl ?_
      refine r_iald C (hF.k (by decide) rfl) (ixL (n := 8) rfl hi2) dX5_putBytes_339 ?_
      refine r_perm [0, 1, 2, 3, 4, 5] rfl ?_
      exact kJ4 _ (if_pos hc5).symm
    · refine r_iload C 3 dX5_putBytes_326 rfl ?_
      refine r_iload C 4 dX5_putBytes_328 rfl ?_
      refine r_iadd C dX5_putBytes_330 ?_
      refine r_goto C dX5_putBytes_331 (tgt := 340) (by decide) ?_
      refine r_perm [0, 1, 2, 3, 4, 5] rfl ?_
      exact kJ4 _ (if_neg hc5).symm
  · replace h := h.2 hc1
    refine r_aloadn C 0 dX5_putBytes_284 rfl ?_
    refine r_getR C (hF.k (by decide) rfl) fl_5_48 rfl (o := some 36) (hF.mR (by decide) rfl rfl) dX5_putBytes_285 ?_
    refine r_sipush C (x := 1000) dX5_putBytes_288 (by decide) ?_
    refine r_iloadn C 2 dX5_putBytes_291 rfl ?_
    refine r_imul C dX5_putBytes_292 ?_
    refine r_iload C 3 dX5_putBytes_293 rfl ?_
    refine r_iadd C dX5_putBytes_295 ?_
    refine r_iload C 6 dX5_putBytes_296 rfl ?_
    refine r_iadd C dX5_putBytes_298 ?_
    refine r_iconst C (x := 1) dX5_putBytes_299 (by decide) ?_
    obtain ⟨hi32, h⟩ := h
    refine r_bast C (hF.k (by decide) rfl) (ixL (n := 8000) rfl hi32) dX5_putBytes_300 ?_
    refine r_iinc C (y := (l7 + 1)) 6 dX5_putBytes_301 rfl rfl (by decide) rfl rfl ?_
    refine r_goto C dX5_putBytes_304 (tgt := 277) (by decide) ?_
    refine r_perm [1, 2, 3, 4, 5, 6, 0] rfl ?_
    exact h
set_option maxHeartbeats 4000000 in
set_option maxRecDepth 100000 in
theorem e5_send {S : Sto} {Q : Int32 → Sto → Prop} (hF : Fx S) {p1 : Int32}  (h : ∀ X : Ctx, Oi X K5_send S Q → (¬ (if 0 ≤ (p1 : Int32).toInt ∧ (p1 : Int32).toInt < 2 then 1 else 0 : Int32) = 0 → ((0 ≤ (p1 : Int32).toInt ∧ (p1 : Int32).toInt < (2 : Nat)) ∧ (((gI S 44 p1.toNatClampNeg) = 300 → (Q (-4) S)) ∧ (¬ (gI S 44 p1.toNatClampNeg) = 300 → ((¬ (gI S 26 62) = 400 → ((¬ p1 = 1 → (WP X 67 [(0, vr 26), (1, vi p1)] [] S 0 0)) ∧ (p1 = 1 → (((gI S 26 46) = 0 → (WP X 67 [(0, vr 26), (1, vi p1)] [] S 0 0)) ∧ (¬ (gI S 26 46) = 0 → ((((gI S 26 48) + (gI S 26 0)) ≤ (3 * (gI S 26 47)) → (WP X 67 [(0, vr 26), (1, vi p1)] [] S 0 0)) ∧ (¬ ((gI S 26 48) + (gI S 26 0)) ≤ (3 * (gI S 26 47)) → (Q (-5) S)))))))) ∧ ((gI S 26 62) = 400 → (Q (-4) S))))))) ∧ ((if 0 ≤ (p1 : Int32).toInt ∧ (p1 : Int32).toInt < 2 then 1 else 0 : Int32) = 0 → (Q (-1) S))) : Ci K5_send [vr 26, vi p1] S Q := by
  refine Ci.intro rfl (Nat.le_of_ble_eq_true rfl) (fun X O => ?_)
  replace h := h X O
  have C := O.1
  have hn : sN S ≤ sN S := Nat.le_refl _
  show WP X 0 [(0, vr 26), (1, vi p1)] [] S 0 0
  refine r_iloadn C 1 dX5_send_0 rfl ?_
  refine r_callSi C K5_isSide [vi p1] [] cl_5_229 rm_5_send_5_isSide ⟨rfl, rfl⟩ (by decide) (by decide) rfl (Nat.le_of_ble_eq_true rfl) dX5_send_1 (q5_isSideH (S := S) hF) (fun x1 _ _ _ hq => ?_)
  obtain ⟨hqa, hqb⟩ := hq; obtain rfl := hqa.symm; obtain rfl := hqb.symm
  refine r_if_ne C dX5_send_4 (tgt := 9) (by decide) (fun hc2 => ?_) (fun hc2 => ?_)
  · replace h := h.1 hc2
    refine r_aloadn C 0 dX5_send_9 rfl ?_
    refine r_getR C (hF.k (by decide) rfl) fl_5_73 rfl (o := some 44) (hF.mR (by decide) rfl rfl) dX5_send_10 ?_
    refine r_iloadn C 1 dX5_send_13 rfl ?_
    obtain ⟨hi3, h⟩ := h
    refine r_iald C (hF.k (by decide) rfl) (ixL (n := 2) rfl hi3) dX5_send_14 ?_
    refine r_sipush C (x := 300) dX5_send_15 (by decide) ?_
    refine r_icmp_eq C dX5_send_18 (tgt := 31) (by decide) (fun hc4 => ?_) (fun hc4 => ?_)
    · replace h := h.1 hc4
      refine r_bipush C (x := (-4)) dX5_send_31 (by decide) ?_
      exact ri O ⟨_, rfl, rfl⟩ dX5_send_33 (by decide) (by decide) hF hn h
    · replace h := h.2 hc4
      refine r_aloadn C 0 dX5_send_21 rfl ?_
      refine r_getI C (hF.k (by decide) rfl) fl_5_232 rfl dX5_send_22 ?_
      refine r_sipush C (x := 400) dX5_send_25 (by decide) ?_
      refine r_icmp_ne C dX5_send_28 (tgt := 34) (by decide) (fun hc5 => ?_) (fun hc5 => ?_)
      · replace h := h.1 hc5
        refine r_iloadn C 1 dX5_send_34 rfl ?_
        refine r_iconst C (x := 1) dX5_send_35 (by decide) ?_
        refine r_icmp_ne C dX5_send_36 (tgt := 67) (by decide) (fun hc6 => ?_) (fun hc6 => ?_)
        · replace h := h.1 hc6
          refine r_perm [0, 1] rfl ?_
          exact h
        · replace h := h.2 hc6
          refine r_aloadn C 0 dX5_send_39 rfl ?_
          refine r_getI C (hF.k (by decide) rfl) fl_5_235 rfl dX5_send_40 ?_
          refine r_if_eq C dX5_send_43 (tgt := 67) (by decide) (fun hc7 => ?_) (fun hc7 => ?_)
          · replace h := h.1 hc7
            refine r_perm [0, 1] rfl ?_
            exact h
          · replace h := h.2 hc7
            refine r_aloadn C 0 dX5_send_46 rfl ?_
            refine r_getI C (hF.k (by decide) rfl) fl_5_238 rfl dX5_send_47 ?_
            refine r_aloadn C 0 dX5_send_50 rfl ?_
            refine r_getI C (hF.k (by decide) rfl) fl_5_7 rfl dX5_send_51 ?_
            refine r_iadd C dX5_send_54 ?_
            refine r_iconst C (x := 3) dX5_send_55 (by decide) ?_
            refine r_aloadn C 0 dX5_send_56 rfl ?_
            refine r_getI C (hF.k (by decide) rfl) fl_5_241 rfl dX5_send_57 ?_
            refine r_imul C dX5_send_60 ?_
            refine r_icmp_le C dX5_send_61 (tgt := 67) (by decide) (fun hc8 => ?_) (fun hc8 => ?_)
            · replace h := h.1 hc8
              refine r_perm [0, 1] rfl ?_
              exact h
            · replace h := h.2 hc8
              refine r_bipush C (x := (-5)) dX5_send_64 (by decide) ?_
              exact ri O ⟨_, rfl, rfl⟩ dX5_send_66 (by decide) (by decide) hF hn h
      · replace h := h.2 hc5
        refine r_bipush C (x := (-4)) dX5_send_31 (by decide) ?_
        exact ri O ⟨_, rfl, rfl⟩ dX5_send_33 (by decide) (by decide) hF hn h
  · replace h := h.2 hc2
    refine r_iconst C (x := (-1)) dX5_send_7 (by decide) ?_
    exact ri O ⟨_, rfl, rfl⟩ dX5_send_8 (by decide) (by decide) hF hn h
set_option maxHeartbeats 4000000 in
set_option maxRecDepth 100000 in
theorem s5_send_67 {X : Ctx} {S0 S : Sto} {Q : Int32 → Sto → Prop} (hF : Fx S) (hn : sN S0 ≤ sN S) (O : Oi X K5_send S0 Q) {l1 : Int32}   (h : (0 ≤ (l1 : Int32).toInt ∧ (l1 : Int32).toInt < (2 : Nat)) ∧ ((0 ≤ (((300 * l1) + (gI S 44 l1.toNatClampNeg)) : Int32).toInt ∧ (((300 * l1) + (gI S 44 l1.toNatClampNeg)) : Int32).toInt < (600 : Nat)) ∧ (((gI S 56 l1.toNatClampNeg) = 0 → (WP X 127 [(0, vr 26), (1, vi l1)] [] (pI (pI (pI (pI S 26 63 ((300 * l1) + (gI S 44 l1.toNatClampNeg))) 68 ((300 * l1) + (gI S 44 l1.toNatClampNeg)).toNatClampNeg 10) 69 ((300 * l1) + (gI S 44 l1.toNatClampNeg)).toNatClampNeg 0) 70 ((300 * l1) + (gI S 44 l1.toNatClampNeg)).toNatClampNeg 0) 0 0)) ∧ (¬ (gI S 56 l1.toNatClampNeg) = 0 → (Cv K5_putTold [vr 26, vi l1] (pI (pI (pI (pI S 26 63 ((300 * l1) + (gI S 44 l1.toNatClampNeg))) 68 ((300 * l1) + (gI S 44 l1.toNatClampNeg)).toNatClampNeg 10) 69 ((300 * l1) + (gI S 44 l1.toNatClampNeg)).toNatClampNeg 0) 70 ((300 * l1) + (gI S 44 l1.toNatClampNeg)).toNatClampNeg 0) (fun S5 => WP X 127 [(0, vr 26), (1, vi l1)] [] S5 0 0)))))) : WP X 67 [(0, vr 26), (1, vi l1)] [] S 0 0 := by
  have C := O.1
  refine r_aloadn C 0 dX5_send_67 rfl ?_
  refine r_aloadn C 0 dX5_send_68 rfl ?_
  refine r_iloadn C 1 dX5_send_69 rfl ?_
  refine r_aloadn C 0 dX5_send_70 rfl ?_
  refine r_getR C (hF.k (by decide) rfl) fl_5_73 rfl (o := some 44) (hF.mR (by decide) rfl rfl) dX5_send_71 ?_
  refine r_iloadn C 1 dX5_send_74 rfl ?_
  obtain ⟨hi1, h⟩ := h
  refine r_iald C (hF.k (by decide) rfl) (ixL (n := 2) rfl hi1) dX5_send_75 ?_
  refine r_callVi C K5_at [vi l1, vi (gI S 44 l1.toNatClampNeg)] [vr 26] (hF.k (by decide) rfl) (by decide) rfl cl_5_215 rm_5_send_5_at ⟨rfl, rfl⟩ (by decide) (by decide) rfl (Nat.le_of_ble_eq_true rfl) dX5_send_76 (q5_at (S := S) hF) (fun x2 _ _ _ hq => ?_)
  obtain ⟨hqa, hqb⟩ := hq; obtain rfl := hqa.symm; obtain rfl := hqb.symm
  refine r_putI C (hF.k (by decide) rfl) fl_5_212 rfl rfl dX5_send_79 ?_
  refine r_aloadn C 0 dX5_send_82 rfl ?_
  refine r_getR C (hF.k (by decide) rfl) fl_5_145 rfl (o := some 68) (hF.mR (by decide) rfl rfl) dX5_send_83 ?_
  refine r_aloadn C 0 dX5_send_86 rfl ?_
  refine r_getI C (hF.k (by decide) rfl) fl_5_212 rfl dX5_send_87 ?_
  refine r_bipush C (x := 10) dX5_send_90 (by decide) ?_
  obtain ⟨hi3, h⟩ := h
  refine r_iast C (hF.k (by decide) rfl) (ixL (n := 600) rfl hi3) dX5_send_92 ?_
  refine r_aloadn C 0 dX5_send_93 rfl ?_
  refine r_getR C (hF.k (by decide) rfl) fl_5_148 rfl (o := some 69) (hF.mR (by decide) rfl rfl) dX5_send_94 ?_
  refine r_aloadn C 0 dX5_send_97 rfl ?_
  refine r_getI C (hF.k (by decide) rfl) fl_5_212 rfl dX5_send_98 ?_
  refine r_iconst C (x := 0) dX5_send_101 (by decide) ?_
  refine r_iast C (hF.k (by decide) rfl) (ixL (n := 600) rfl hi3) dX5_send_102 ?_
  refine r_aloadn C 0 dX5_send_103 rfl ?_
  refine r_getR C (hF.k (by decide) rfl) fl_5_151 rfl (o := some 70) (hF.mR (by decide) rfl rfl) dX5_send_104 ?_
  refine r_aloadn C 0 dX5_send_107 rfl ?_
  refine r_getI C (hF.k (by decide) rfl) fl_5_212 rfl dX5_send_108 ?_
  refine r_iconst C (x := 0) dX5_send_111 (by decide) ?_
  refine r_zast C (hF.k (by decide) rfl) (Or.inl rfl) (ixL (n := 600) rfl hi3) dX5_send_112 ?_
  refine r_aloadn C 0 dX5_send_113 rfl ?_
  refine r_getR C (hF.k (by decide) rfl) fl_5_109 rfl (o := some 56) (hF.mR (by decide) rfl rfl) dX5_send_114 ?_
  refine r_iloadn C 1 dX5_send_117 rfl ?_
  refine r_zald C (hF.k (by decide) rfl) (ixL (n := 2) rfl hi1) dX5_send_118 ?_
  refine r_if_eq C dX5_send_119 (tgt := 127) (by decide) (fun hc4 => ?_) (fun hc4 => ?_)
  · replace h := h.1 hc4
    refine r_perm [0, 1] rfl ?_
    exact h
  · replace h := h.2 hc4
    refine r_aloadn C 0 dX5_send_122 rfl ?_
    refine r_iloadn C 1 dX5_send_123 rfl ?_
    refine r_callVv C K5_putTold [vi l1] [] (hF.k (by decide) rfl) (by decide) rfl cl_5_244 rm_5_send_5_putTold ⟨rfl, rfl⟩ (by decide) (by decide) rfl (Nat.le_of_ble_eq_true rfl) dX5_send_124 h (fun S5 hF5 hn5 h => ?_)
    refine r_perm [0, 1] rfl ?_
    exact h
set_option maxHeartbeats 4000000 in
set_option maxRecDepth 100000 in
theorem s5_send_127 {X : Ctx} {S0 S : Sto} {Q : Int32 → Sto → Prop} (hF : Fx S) (hn : sN S0 ≤ sN S) (O : Oi X K5_send S0 Q) {l1 : Int32}   (h : (0 ≤ (l1 : Int32).toInt ∧ (l1 : Int32).toInt < (2 : Nat)) ∧ ((((gI S 45 l1.toNatClampNeg) + (gI S 26 0)) ≤ (gI S 46 l1.toNatClampNeg) → (Cv K5_putRest [vr 26, vi l1] S (fun S3 => WP X 161 [(0, vr 26), (1, vi l1)] [] S3 0 0))) ∧ (¬ ((gI S 45 l1.toNatClampNeg) + (gI S 26 0)) ≤ (gI S 46 l1.toNatClampNeg) → (((gI S 53 l1.toNatClampNeg) = 0 → (WP X 161 [(0, vr 26), (1, vi l1)] [] S 0 0)) ∧ (¬ (gI S 53 l1.toNatClampNeg) = 0 → (Cv K5_putRest [vr 26, vi l1] S (fun S5 => WP X 161 [(0, vr 26), (1, vi l1)] [] S5 0 0))))))) : WP X 127 [(0, vr 26), (1, vi l1)] [] S 0 0 := by
  have C := O.1
  refine r_aloadn C 0 dX5_send_127 rfl ?_
  refine r_getR C (hF.k (by decide) rfl) fl_5_76 rfl (o := some 45) (hF.mR (by decide) rfl rfl) dX5_send_128 ?_
  refine r_iloadn C 1 dX5_send_131 rfl ?_
  obtain ⟨hi1, h⟩ := h
  refine r_iald C (hF.k (by decide) rfl) (ixL (n := 2) rfl hi1) dX5_send_132 ?_
  refine r_aloadn C 0 dX5_send_133 rfl ?_
  refine r_getI C (hF.k (by decide) rfl) fl_5_7 rfl dX5_send_134 ?_
  refine r_iadd C dX5_send_137 ?_
  refine r_aloadn C 0 dX5_send_138 rfl ?_
  refine r_getR C (hF.k (by decide) rfl) fl_5_79 rfl (o := some 46) (hF.mR (by decide) rfl rfl) dX5_send_139 ?_
  refine r_iloadn C 1 dX5_send_142 rfl ?_
  refine r_iald C (hF.k (by decide) rfl) (ixL (n := 2) rfl hi1) dX5_send_143 ?_
  refine r_icmp_le C dX5_send_144 (tgt := 156) (by decide) (fun hc2 => ?_) (fun hc2 => ?_)
  · replace h := h.1 hc2
    refine r_aloadn C 0 dX5_send_156 rfl ?_
    refine r_iloadn C 1 dX5_send_157 rfl ?_
    refine r_callVv C K5_putRest [vi l1] [] (hF.k (by decide) rfl) (by decide) rfl cl_5_248 rm_5_send_5_putRest ⟨rfl, rfl⟩ (by decide) (by decide) rfl (Nat.le_of_ble_eq_true rfl) dX5_send_158 h (fun S3 hF3 hn3 h => ?_)
    refine r_perm [0, 1] rfl ?_
    exact h
  · replace h := h.2 hc2
    refine r_aloadn C 0 dX5_send_147 rfl ?_
    refine r_getR C (hF.k (by decide) rfl) fl_5_100 rfl (o := some 53) (hF.mR (by decide) rfl rfl) dX5_send_148 ?_
    refine r_iloadn C 1 dX5_send_151 rfl ?_
    refine r_zald C (hF.k (by decide) rfl) (ixL (n := 2) rfl hi1) dX5_send_152 ?_
    refine r_if_eq C dX5_send_153 (tgt := 161) (by decide) (fun hc4 => ?_) (fun hc4 => ?_)
    · replace h := h.1 hc4
      refine r_perm [0, 1] rfl ?_
      exact h
    · replace h := h.2 hc4
      refine r_aloadn C 0 dX5_send_156 rfl ?_
      refine r_iloadn C 1 dX5_send_157 rfl ?_
      refine r_callVv C K5_putRest [vi l1] [] (hF.k (by decide) rfl) (by decide) rfl cl_5_248 rm_5_send_5_putRest ⟨rfl, rfl⟩ (by decide) (by decide) rfl (Nat.le_of_ble_eq_true rfl) dX5_send_158 h (fun S5 hF5 hn5 h => ?_)
      refine r_perm [0, 1] rfl ?_
      exact h
set_option maxHeartbeats 4000000 in
set_option maxRecDepth 100000 in
theorem s5_send_161 {X : Ctx} {S0 S : Sto} {Q : Int32 → Sto → Prop} (hF : Fx S) (hn : sN S0 ≤ sN S) (O : Oi X K5_send S0 Q) {l1 : Int32}   (h : (0 ≤ ((gI S 26 63) : Int32).toInt ∧ ((gI S 26 63) : Int32).toInt < (600 : Nat)) ∧ ((¬ (gI S 69 (gI S 26 63).toNatClampNeg) = 0 → (∀ w3 : Int32, w3 = (if l1 = 0 then (gI S 26 44) else (gI S 26 45) : Int32) → (((gI S 70 (gI S 26 63).toNatClampNeg) = 0 → (WP X 260 [(0, vr 26), (1, vi l1)] [] (pI (pI S 66 (gI S 26 63).toNatClampNeg (gI S 26 3)) 67 (gI S 26 63).toNatClampNeg w3) 0 0)) ∧ (¬ (gI S 70 (gI S 26 63).toNatClampNeg) = 0 → ((0 ≤ (l1 : Int32).toInt ∧ (l1 : Int32).toInt < (2 : Nat)) ∧ (WP X 260 [(0, vr 26), (1, vi l1)] [] (pI (pI (pI (pI (pI S 66 (gI S 26 63).toNatClampNeg (gI S 26 3)) 67 (gI S 26 63).toNatClampNeg w3) 45 l1.toNatClampNeg ((gI S 45 l1.toNatClampNeg) + (gI S 68 (gI S 26 63).toNatClampNeg))) 53 l1.toNatClampNeg 0) 60 l1.toNatClampNeg (gI S 26 3)) 0 0)))))) ∧ ((gI S 69 (gI S 26 63).toNatClampNeg) = 0 → (Q (-5) S)))) : WP X 161 [(0, vr 26), (1, vi l1)] [] S 0 0 := by
  have C := O.1
  refine r_aloadn C 0 dX5_send_161 rfl ?_
  refine r_getR C (hF.k (by decide) rfl) fl_5_148 rfl (o := some 69) (hF.mR (by decide) rfl rfl) dX5_send_162 ?_
  refine r_aloadn C 0 dX5_send_165 rfl ?_
  refine r_getI C (hF.k (by decide) rfl) fl_5_212 rfl dX5_send_166 ?_
  obtain ⟨hi1, h⟩ := h
  refine r_iald C (hF.k (by decide) rfl) (ixL (n := 600) rfl hi1) dX5_send_169 ?_
  refine r_if_ne C dX5_send_170 (tgt := 176) (by decide) (fun hc2 => ?_) (fun hc2 => ?_)
  · replace h := h.1 hc2
    refine r_aloadn C 0 dX5_send_176 rfl ?_
    refine r_getR C (hF.k (by decide) rfl) fl_5_139 rfl (o := some 66) (hF.mR (by decide) rfl rfl) dX5_send_177 ?_
    refine r_aloadn C 0 dX5_send_180 rfl ?_
    refine r_getI C (hF.k (by decide) rfl) fl_5_212 rfl dX5_send_181 ?_
    refine r_aloadn C 0 dX5_send_184 rfl ?_
    refine r_getI C (hF.k (by decide) rfl) fl_5_251 rfl dX5_send_185 ?_
    refine r_iast C (hF.k (by decide) rfl) (ixL (n := 600) rfl hi1) dX5_send_188 ?_
    refine r_aloadn C 0 dX5_send_189 rfl ?_
    refine r_getR C (hF.k (by decide) rfl) fl_5_142 rfl (o := some 67) (hF.mR (by decide) rfl rfl) dX5_send_190 ?_
    refine r_aloadn C 0 dX5_send_193 rfl ?_
    refine r_getI C (hF.k (by decide) rfl) fl_5_212 rfl dX5_send_194 ?_
    refine r_iloadn C 1 dX5_send_197 rfl ?_
    have kJ4 : ∀ (w3 : Int32) (_ : w3 = (if l1 = 0 then (gI S 26 44) else (gI S 26 45) : Int32)), WP X 212 [(0, vr 26), (1, vi l1)] [vi w3, vi (gI S 26 63), vr 67] (pI S 66 (gI S 26 63).toNatClampNeg (gI S 26 3)) 0 0 := by
      intro w3 hw3
      replace h := h w3 hw3
      refine r_iast C (hF.k (by decide) rfl) (ixL (n := 600) rfl hi1) dX5_send_212 ?_
      refine r_aloadn C 0 dX5_send_213 rfl ?_
      refine r_getR C (hF.k (by decide) rfl) fl_5_151 rfl (o := some 70) (hF.mR (by decide) rfl rfl) dX5_send_214 ?_
      refine r_aloadn C 0 dX5_send_217 rfl ?_
      refine r_getI C (hF.k (by decide) rfl) fl_5_212 rfl dX5_send_218 ?_
      refine r_zald C (hF.k (by decide) rfl) (ixL (n := 600) rfl hi1) dX5_send_221 ?_
      refine r_if_eq C dX5_send_222 (tgt := 260) (by decide) (fun hc6 => ?_) (fun hc6 => ?_)
      · replace h := h.1 hc6
        refine r_perm [0, 1] rfl ?_
        exact h
      · replace h := h.2 hc6
        refine r_aloadn C 0 dX5_send_225 rfl ?_
        refine r_getR C (hF.k (by decide) rfl) fl_5_76 rfl (o := some 45) (hF.mR (by decide) rfl rfl) dX5_send_226 ?_
        refine r_iloadn C 1 dX5_send_229 rfl ?_
        refine r_dup2 C rfl rfl dX5_send_230 ?_
        obtain ⟨hi7, h⟩ := h
        refine r_iald C (hF.k (by decide) rfl) (ixL (n := 2) rfl hi7) dX5_send_231 ?_
        refine r_aloadn C 0 dX5_send_232 rfl ?_
        refine r_getR C (hF.k (by decide) rfl) fl_5_145 rfl (o := some 68) (hF.mR (by decide) rfl rfl) dX5_send_233 ?_
        refine r_aloadn C 0 dX5_send_236 rfl ?_
        refine r_getI C (hF.k (by decide) rfl) fl_5_212 rfl dX5_send_237 ?_
        refine r_iald C (hF.k (by decide) rfl) (ixL (n := 600) rfl hi1) dX5_send_240 ?_
        refine r_iadd C dX5_send_241 ?_
        refine r_iast C (hF.k (by decide) rfl) (ixL (n := 2) rfl hi7) dX5_send_242 ?_
        refine r_aloadn C 0 dX5_send_243 rfl ?_
        refine r_getR C (hF.k (by decide) rfl) fl_5_100 rfl (o := some 53) (hF.mR (by decide) rfl rfl) dX5_send_244 ?_
        refine r_iloadn C 1 dX5_send_247 rfl ?_
        refine r_iconst C (x := 0) dX5_send_248 (by decide) ?_
        refine r_zast C (hF.k (by decide) rfl) (Or.inl rfl) (ixL (n := 2) rfl hi7) dX5_send_249 ?_
        refine r_aloadn C 0 dX5_send_250 rfl ?_
        refine r_getR C (hF.k (by decide) rfl) fl_5_121 rfl (o := some 60) (hF.mR (by decide) rfl rfl) dX5_send_251 ?_
        refine r_iloadn C 1 dX5_send_254 rfl ?_
        refine r_aloadn C 0 dX5_send_255 rfl ?_
        refine r_getI C (hF.k (by decide) rfl) fl_5_251 rfl dX5_send_256 ?_
        refine r_iast C (hF.k (by decide) rfl) (ixL (n := 2) rfl hi7) dX5_send_259 ?_
        refine r_perm [0, 1] rfl ?_
        exact h
    refine r_if_ne C dX5_send_198 (tgt := 208) (by decide) (fun hc5 => ?_) (fun hc5 => ?_)
    · refine r_aloadn C 0 dX5_send_208 rfl ?_
      refine r_getI C (hF.k (by decide) rfl) fl_5_254 rfl dX5_send_209 ?_
      refine r_perm [0, 1] rfl ?_
      exact kJ4 _ (if_neg hc5).symm
    · refine r_aloadn C 0 dX5_send_201 rfl ?_
      refine r_getI C (hF.k (by decide) rfl) fl_5_209 rfl dX5_send_202 ?_
      refine r_goto C dX5_send_205 (tgt := 212) (by decide) ?_
      refine r_perm [0, 1] rfl ?_
      exact kJ4 _ (if_pos hc5).symm
  · replace h := h.2 hc2
    refine r_bipush C (x := (-5)) dX5_send_173 (by decide) ?_
    exact ri O ⟨_, rfl, rfl⟩ dX5_send_175 (by decide) (by decide) hF hn h
set_option maxHeartbeats 4000000 in
set_option maxRecDepth 100000 in
theorem s5_send_260 {X : Ctx} {S0 S : Sto} {Q : Int32 → Sto → Prop} (hF : Fx S) (hn : sN S0 ≤ sN S) (O : Oi X K5_send S0 Q) {l1 : Int32}   (h : (0 ≤ ((gI S 26 63) : Int32).toInt ∧ ((gI S 26 63) : Int32).toInt < (600 : Nat)) ∧ (∀ w6 : Int32, w6 = (if l1 = 1 then (if (gI S 26 46) = 0 then 0 else (gI S 68 (gI S 26 63).toNatClampNeg) : Int32) else 0 : Int32) → ((0 ≤ ((gI S 26 62) : Int32).toInt ∧ ((gI S 26 62) : Int32).toInt < (400 : Nat)) ∧ ((0 ≤ (l1 : Int32).toInt ∧ (l1 : Int32).toInt < (2 : Nat)) ∧ (Q ((gI (pI (pI (pI (pI (pI S 26 48 ((gI S 26 48) + w6)) 76 (gI S 26 62).toNatClampNeg l1) 77 (gI S 26 62).toNatClampNeg (gI S 44 l1.toNatClampNeg)) 26 62 ((gI S 26 62) + 1)) 44 l1.toNatClampNeg ((gI S 44 l1.toNatClampNeg) + 1)) 44 l1.toNatClampNeg) - 1) (pI (pI (pI (pI (pI (pI S 26 48 ((gI S 26 48) + w6)) 76 (gI S 26 62).toNatClampNeg l1) 77 (gI S 26 62).toNatClampNeg (gI S 44 l1.toNatClampNeg)) 26 62 ((gI S 26 62) + 1)) 44 l1.toNatClampNeg ((gI S 44 l1.toNatClampNeg) + 1)) 26 4 1)))))) : WP X 260 [(0, vr 26), (1, vi l1)] [] S 0 0 := by
  have C := O.1
  refine r_aloadn C 0 dX5_send_260 rfl ?_
  refine r_dup C rfl dX5_send_261 ?_
  refine r_getI C (hF.k (by decide) rfl) fl_5_238 rfl dX5_send_262 ?_
  refine r_iloadn C 1 dX5_send_265 rfl ?_
  refine r_iconst C (x := 1) dX5_send_266 (by decide) ?_
  obtain ⟨hi5, h⟩ := h
  have kJ7 : ∀ (w6 : Int32) (_ : w6 = (if l1 = 1 then (if (gI S 26 46) = 0 then 0 else (gI S 68 (gI S 26 63).toNatClampNeg) : Int32) else 0 : Int32)), WP X 290 [(0, vr 26), (1, vi l1)] [vi w6, vi (gI S 26 48), vr 26] S 0 0 := by
    intro w6 hw6
    replace h := h w6 hw6
    refine r_iadd C dX5_send_290 ?_
    refine r_putI C (hF.k (by decide) rfl) fl_5_238 rfl rfl dX5_send_291 ?_
    refine r_aloadn C 0 dX5_send_294 rfl ?_
    refine r_getR C (hF.k (by decide) rfl) fl_5_170 rfl (o := some 76) (hF.mR (by decide) rfl rfl) dX5_send_295 ?_
    refine r_aloadn C 0 dX5_send_298 rfl ?_
    refine r_getI C (hF.k (by decide) rfl) fl_5_232 rfl dX5_send_299 ?_
    refine r_iloadn C 1 dX5_send_302 rfl ?_
    obtain ⟨hi9, h⟩ := h
    refine r_iast C (hF.k (by decide) rfl) (ixL (n := 400) rfl hi9) dX5_send_303 ?_
    refine r_aloadn C 0 dX5_send_304 rfl ?_
    refine r_getR C (hF.k (by decide) rfl) fl_5_173 rfl (o := some 77) (hF.mR (by decide) rfl rfl) dX5_send_305 ?_
    refine r_aloadn C 0 dX5_send_308 rfl ?_
    refine r_getI C (hF.k (by decide) rfl) fl_5_232 rfl dX5_send_309 ?_
    refine r_aloadn C 0 dX5_send_312 rfl ?_
    refine r_getR C (hF.k (by decide) rfl) fl_5_73 rfl (o := some 44) (hF.mR (by decide) rfl rfl) dX5_send_313 ?_
    refine r_iloadn C 1 dX5_send_316 rfl ?_
    obtain ⟨hi10, h⟩ := h
    refine r_iald C (hF.k (by decide) rfl) (ixL (n := 2) rfl hi10) dX5_send_317 ?_
    refine r_iast C (hF.k (by decide) rfl) (ixL (n := 400) rfl hi9) dX5_send_318 ?_
    refine r_aloadn C 0 dX5_send_319 rfl ?_
    refine r_dup C rfl dX5_send_320 ?_
    refine r_getI C (hF.k (by decide) rfl) fl_5_232 rfl dX5_send_321 ?_
    refine r_iconst C (x := 1) dX5_send_324 (by decide) ?_
    refine r_iadd C dX5_send_325 ?_
    refine r_putI C (hF.k (by decide) rfl) fl_5_232 rfl rfl dX5_send_326 ?_
    refine r_aloadn C 0 dX5_send_329 rfl ?_
    refine r_getR C (hF.k (by decide) rfl) fl_5_73 rfl (o := some 44) (hF.mR (by decide) rfl rfl) dX5_send_330 ?_
    refine r_iloadn C 1 dX5_send_333 rfl ?_
    refine r_dup2 C rfl rfl dX5_send_334 ?_
    refine r_iald C (hF.k (by decide) rfl) (ixL (n := 2) rfl hi10) dX5_send_335 ?_
    refine r_iconst C (x := 1) dX5_send_336 (by decide) ?_
    refine r_iadd C dX5_send_337 ?_
    refine r_iast C (hF.k (by decide) rfl) (ixL (n := 2) rfl hi10) dX5_send_338 ?_
    refine r_aloadn C 0 dX5_send_339 rfl ?_
    refine r_iconst C (x := 1) dX5_send_340 (by decide) ?_
    refine r_putZ C (hF.k (by decide) rfl) fl_5_197 rfl (Or.inr rfl) rfl dX5_send_341 ?_
    refine r_aloadn C 0 dX5_send_344 rfl ?_
    refine r_getR C (hF.k (by decide) rfl) fl_5_73 rfl (o := some 44) (hF.mR (by decide) rfl rfl) dX5_send_345 ?_
    refine r_iloadn C 1 dX5_send_348 rfl ?_
    refine r_iald C (hF.k (by decide) rfl) (ixL (n := 2) rfl hi10) dX5_send_349 ?_
    refine r_iconst C (x := 1) dX5_send_350 (by decide) ?_
    refine r_isub C dX5_send_351 ?_
    exact ri O ⟨_, rfl, rfl⟩ dX5_send_352 (by decide) (by decide) hF hn h
  refine r_icmp_ne C dX5_send_267 (tgt := 289) (by decide) (fun hc8 => ?_) (fun hc8 => ?_)
  · refine r_iconst C (x := 0) dX5_send_289 (by decide) ?_
    refine r_perm [0, 1] rfl ?_
    exact kJ7 _ (if_neg hc8).symm
  · refine r_aloadn C 0 dX5_send_270 rfl ?_
    refine r_getI C (hF.k (by decide) rfl) fl_5_235 rfl dX5_send_271 ?_
    have kJ11 : WP X 290 [(0, vr 26), (1, vi l1)] [vi (if (gI S 26 46) = 0 then 0 else (gI S 68 (gI S 26 63).toNatClampNeg) : Int32), vi (gI S 26 48), vr 26] S 0 0 := by
      refine r_perm [0, 1] rfl ?_
      exact kJ7 _ (if_pos hc8).symm
    refine r_if_eq C dX5_send_274 (tgt := 289) (by decide) (fun hc12 => ?_) (fun hc12 => ?_)
    · refine r_iconst C (x := 0) dX5_send_289 (by decide) ?_
      refine r_perm [0, 1] rfl ?_
      rw [show (if (gI S 26 46) = 0 then 0 else (gI S 68 (gI S 26 63).toNatClampNeg) : Int32) = 0 from if_pos hc12] at kJ11
      exact kJ11
    · refine r_aloadn C 0 dX5_send_277 rfl ?_
      refine r_getR C (hF.k (by decide) rfl) fl_5_145 rfl (o := some 68) (hF.mR (by decide) rfl rfl) dX5_send_278 ?_
      refine r_aloadn C 0 dX5_send_281 rfl ?_
      refine r_getI C (hF.k (by decide) rfl) fl_5_212 rfl dX5_send_282 ?_
      refine r_iald C (hF.k (by decide) rfl) (ixL (n := 600) rfl hi5) dX5_send_285 ?_
      refine r_goto C dX5_send_286 (tgt := 290) (by decide) ?_
      refine r_perm [0, 1] rfl ?_
      rw [show (if (gI S 26 46) = 0 then 0 else (gI S 68 (gI S 26 63).toNatClampNeg) : Int32) = (gI S 68 (gI S 26 63).toNatClampNeg) from if_neg hc12] at kJ11
      exact kJ11
set_option maxHeartbeats 4000000 in
set_option maxRecDepth 100000 in
theorem e5_putRest {S : Sto} {Q : Sto → Prop} (hF : Fx S) {p1 : Int32}  (h : ∀ X : Ctx, Ov X K5_putRest S Q → (0 ≤ (p1 : Int32).toInt ∧ (p1 : Int32).toInt < (2 : Nat)) ∧ (((gI S 64 p1.toNatClampNeg) = 0 → (((gI S 62 p1.toNatClampNeg) = 0 → (Cv K5_putBounds [vr 26, vi p1] S (fun S4 => WP X 84 [(0, vr 26), (1, vi p1), (2, vi (gI S4 61 p1.toNatClampNeg)), (3, vi 1)] [] S4 0 0))) ∧ (¬ (gI S 62 p1.toNatClampNeg) = 0 → (Ci K5_put [vr 26, vi 6, vi 9, vi 0, vi (gI S 63 p1.toNatClampNeg), vi 0] S (fun x5 S5 => (x5 = 0 → (Cv K5_putBounds [vr 26, vi p1] S5 (fun S7 => WP X 84 [(0, vr 26), (1, vi p1), (2, vi (gI S7 61 p1.toNatClampNeg)), (3, vi 1)] [] S7 0 0))) ∧ (¬ x5 = 0 → (Cv K5_putBounds [vr 26, vi p1] (pI S5 62 p1.toNatClampNeg 0) (fun S8 => WP X 84 [(0, vr 26), (1, vi p1), (2, vi (gI S8 61 p1.toNatClampNeg)), (3, vi 1)] [] S8 0 0)))))))) ∧ (¬ (gI S 64 p1.toNatClampNeg) = 0 → (Ci K5_put [vr 26, vi 7, vi 9, vi 0, vi (gI S 65 p1.toNatClampNeg), vi 0] S (fun x9 S9 => (x9 = 0 → (((gI S9 62 p1.toNatClampNeg) = 0 → (Cv K5_putBounds [vr 26, vi p1] S9 (fun S12 => WP X 84 [(0, vr 26), (1, vi p1), (2, vi (gI S12 61 p1.toNatClampNeg)), (3, vi 1)] [] S12 0 0))) ∧ (¬ (gI S9 62 p1.toNatClampNeg) = 0 → (Ci K5_put [vr 26, vi 6, vi 9, vi 0, vi (gI S9 63 p1.toNatClampNeg), vi 0] S9 (fun x13 S13 => (x13 = 0 → (Cv K5_putBounds [vr 26, vi p1] S13 (fun S15 => WP X 84 [(0, vr 26), (1, vi p1), (2, vi (gI S15 61 p1.toNatClampNeg)), (3, vi 1)] [] S15 0 0))) ∧ (¬ x13 = 0 → (Cv K5_putBounds [vr 26, vi p1] (pI S13 62 p1.toNatClampNeg 0) (fun S16 => WP X 84 [(0, vr 26), (1, vi p1), (2, vi (gI S16 61 p1.toNatClampNeg)), (3, vi 1)] [] S16 0 0)))))))) ∧ (¬ x9 = 0 → (((gI S9 62 p1.toNatClampNeg) = 0 → (Cv K5_putBounds [vr 26, vi p1] (pI S9 64 p1.toNatClampNeg 0) (fun S18 => WP X 84 [(0, vr 26), (1, vi p1), (2, vi (gI S18 61 p1.toNatClampNeg)), (3, vi 1)] [] S18 0 0))) ∧ (¬ (gI S9 62 p1.toNatClampNeg) = 0 → (Ci K5_put [vr 26, vi 6, vi 9, vi 0, vi (gI S9 63 p1.toNatClampNeg), vi 0] (pI S9 64 p1.toNatClampNeg 0) (fun x19 S19 => (x19 = 0 → (Cv K5_putBounds [vr 26, vi p1] S19 (fun S21 => WP X 84 [(0, vr 26), (1, vi p1), (2, vi (gI S21 61 p1.toNatClampNeg)), (3, vi 1)] [] S21 0 0))) ∧ (¬ x19 = 0 → (Cv K5_putBounds [vr 26, vi p1] (pI S19 62 p1.toNatClampNeg 0) (fun S22 => WP X 84 [(0, vr 26), (1, vi p1), (2, vi (gI S22 61 p1.toNatClampNeg)), (3, vi 1)] [] S22 0 0))))))))))))) : Cv K5_putRest [vr 26, vi p1] S Q := by
  refine Cv.intro rfl (Nat.le_of_ble_eq_true rfl) (fun X O => ?_)
  replace h := h X O
  have C := O.1
  have hn : sN S ≤ sN S := Nat.le_refl _
  show WP X 0 [(0, vr 26), (1, vi p1)] [] S 0 0
  refine r_aloadn C 0 dX5_putRest_0 rfl ?_
  refine r_getR C (hF.k (by decide) rfl) fl_5_133 rfl (o := some 64) (hF.mR (by decide) rfl rfl) dX5_putRest_1 ?_
  refine r_iloadn C 1 dX5_putRest_4 rfl ?_
  obtain ⟨hi1, h⟩ := h
  refine r_zald C (hF.k (by decide) rfl) (ixL (n := 2) rfl hi1) dX5_putRest_5 ?_
  refine r_if_eq C dX5_putRest_6 (tgt := 35) (by decide) (fun hc2 => ?_) (fun hc2 => ?_)
  · replace h := h.1 hc2
    refine r_aloadn C 0 dX5_putRest_35 rfl ?_
    refine r_getR C (hF.k (by decide) rfl) fl_5_127 rfl (o := some 62) (hF.mR (by decide) rfl rfl) dX5_putRest_36 ?_
    refine r_iloadn C 1 dX5_putRest_39 rfl ?_
    refine r_zald C (hF.k (by decide) rfl) (ixL (n := 2) rfl hi1) dX5_putRest_40 ?_
    refine r_if_eq C dX5_putRest_41 (tgt := 70) (by decide) (fun hc3 => ?_) (fun hc3 => ?_)
    · replace h := h.1 hc3
      refine r_aloadn C 0 dX5_putRest_70 rfl ?_
      refine r_iloadn C 1 dX5_putRest_71 rfl ?_
      refine r_callVv C K5_putBounds [vi p1] [] (hF.k (by decide) rfl) (by decide) rfl cl_5_257 rm_5_putRest_5_putBounds ⟨rfl, rfl⟩ (by decide) (by decide) rfl (Nat.le_of_ble_eq_true rfl) dX5_putRest_72 h (fun S4 hF4 hn4 h => ?_)
      refine r_aloadn C 0 dX5_putRest_75 rfl ?_
      refine r_getR C (hF4.k (by decide) rfl) fl_5_124 rfl (o := some 61) (hF4.mR (by decide) rfl rfl) dX5_putRest_76 ?_
      refine r_iloadn C 1 dX5_putRest_79 rfl ?_
      refine r_iald C (hF4.k (by decide) rfl) (ixL (n := 2) rfl hi1) dX5_putRest_80 ?_
      refine r_istoren C dX5_putRest_81 (by decide) rfl rfl ?_
      refine r_iconst C (x := 1) dX5_putRest_82 (by decide) ?_
      refine r_istoren C dX5_putRest_83 (by decide) rfl rfl ?_
      refine r_perm [2, 3, 1, 0] rfl ?_
      exact h
    · replace h := h.2 hc3
      refine r_aloadn C 0 dX5_putRest_44 rfl ?_
      refine r_bipush C (x := 6) dX5_putRest_45 (by decide) ?_
      refine r_bipush C (x := 9) dX5_putRest_47 (by decide) ?_
      refine r_iconst C (x := 0) dX5_putRest_49 (by decide) ?_
      refine r_aloadn C 0 dX5_putRest_50 rfl ?_
      refine r_getR C (hF.k (by decide) rfl) fl_5_130 rfl (o := some 63) (hF.mR (by decide) rfl rfl) dX5_putRest_51 ?_
      refine r_iloadn C 1 dX5_putRest_54 rfl ?_
      refine r_iald C (hF.k (by decide) rfl) (ixL (n := 2) rfl hi1) dX5_putRest_55 ?_
      refine r_iconst C (x := 0) dX5_putRest_56 (by decide) ?_
      refine r_callVi C K5_put [vi 6, vi 9, vi 0, vi (gI S 63 p1.toNatClampNeg), vi 0] [] (hF.k (by decide) rfl) (by decide) rfl cl_5_219 rm_5_putRest_5_put ⟨rfl, rfl⟩ (by decide) (by decide) rfl (Nat.le_of_ble_eq_true rfl) dX5_putRest_57 h (fun x5 S5 hF5 hn5 h => ?_)
      refine r_if_eq C dX5_putRest_60 (tgt := 70) (by decide) (fun hc6 => ?_) (fun hc6 => ?_)
      · replace h := h.1 hc6
        refine r_aloadn C 0 dX5_putRest_70 rfl ?_
        refine r_iloadn C 1 dX5_putRest_71 rfl ?_
        refine r_callVv C K5_putBounds [vi p1] [] (hF5.k (by decide) rfl) (by decide) rfl cl_5_257 rm_5_putRest_5_putBounds ⟨rfl, rfl⟩ (by decide) (by decide) rfl (Nat.le_of_ble_eq_true rfl) dX5_putRest_72 h (fun S7 hF7 hn7 h => ?_)
        refine r_aloadn C 0 dX5_putRest_75 rfl ?_
        refine r_getR C (hF7.k (by decide) rfl) fl_5_124 rfl (o := some 61) (hF7.mR (by decide) rfl rfl) dX5_putRest_76 ?_
        refine r_iloadn C 1 dX5_putRest_79 rfl ?_
        refine r_iald C (hF7.k (by decide) rfl) (ixL (n := 2) rfl hi1) dX5_putRest_80 ?_
        refine r_istoren C dX5_putRest_81 (by decide) rfl rfl ?_
        refine r_iconst C (x := 1) dX5_putRest_82 (by decide) ?_
        refine r_istoren C dX5_putRest_83 (by decide) rfl rfl ?_
        refine r_perm [2, 3, 1, 0] rfl ?_
        exact h
      · replace h := h.2 hc6
        refine r_aloadn C 0 dX5_putRest_63 rfl ?_
        refine r_getR C (hF5.k (by decide) rfl) fl_5_127 rfl (o := some 62) (hF5.mR (by decide) rfl rfl) dX5_putRest_64 ?_
        refine r_iloadn C 1 dX5_putRest_67 rfl ?_
        refine r_iconst C (x := 0) dX5_putRest_68 (by decide) ?_
        refine r_zast C (hF5.k (by decide) rfl) (Or.inl rfl) (ixL (n := 2) rfl hi1) dX5_putRest_69 ?_
        refine r_aloadn C 0 dX5_putRest_70 rfl ?_
        refine r_iloadn C 1 dX5_putRest_71 rfl ?_
        refine r_callVv C K5_putBounds [vi p1] [] (hF5.k (by decide) rfl) (by decide) rfl cl_5_257 rm_5_putRest_5_putBounds ⟨rfl, rfl⟩ (by decide) (by decide) rfl (Nat.le_of_ble_eq_true rfl) dX5_putRest_72 h (fun S8 hF8 hn8 h => ?_)
        refine r_aloadn C 0 dX5_putRest_75 rfl ?_
        refine r_getR C (hF8.k (by decide) rfl) fl_5_124 rfl (o := some 61) (hF8.mR (by decide) rfl rfl) dX5_putRest_76 ?_
        refine r_iloadn C 1 dX5_putRest_79 rfl ?_
        refine r_iald C (hF8.k (by decide) rfl) (ixL (n := 2) rfl hi1) dX5_putRest_80 ?_
        refine r_istoren C dX5_putRest_81 (by decide) rfl rfl ?_
        refine r_iconst C (x := 1) dX5_putRest_82 (by decide) ?_
        refine r_istoren C dX5_putRest_83 (by decide) rfl rfl ?_
        refine r_perm [2, 3, 1, 0] rfl ?_
        exact h
  · replace h := h.2 hc2
    refine r_aloadn C 0 dX5_putRest_9 rfl ?_
    refine r_bipush C (x := 7) dX5_putRest_10 (by decide) ?_
    refine r_bipush C (x := 9) dX5_putRest_12 (by decide) ?_
    refine r_iconst C (x := 0) dX5_putRest_14 (by decide) ?_
    refine r_aloadn C 0 dX5_putRest_15 rfl ?_
    refine r_getR C (hF.k (by decide) rfl) fl_5_136 rfl (o := some 65) (hF.mR (by decide) rfl rfl) dX5_putRest_16 ?_
    refine r_iloadn C 1 dX5_putRest_19 rfl ?_
    refine r_iald C (hF.k (by decide) rfl) (ixL (n := 2) rfl hi1) dX5_putRest_20 ?_
    refine r_iconst C (x := 0) dX5_putRest_21 (by decide) ?_
    refine r_callVi C K5_put [vi 7, vi 9, vi 0, vi (gI S 65 p1.toNatClampNeg), vi 0] [] (hF.k (by decide) rfl) (by decide) rfl cl_5_219 rm_5_putRest_5_put ⟨rfl, rfl⟩ (by decide) (by decide) rfl (Nat.le_of_ble_eq_true rfl) dX5_putRest_22 h (fun x9 S9 hF9 hn9 h => ?_)
    refine r_if_eq C dX5_putRest_25 (tgt := 35) (by decide) (fun hc10 => ?_) (fun hc10 => ?_)
    · replace h := h.1 hc10
      refine r_aloadn C 0 dX5_putRest_35 rfl ?_
      refine r_getR C (hF9.k (by decide) rfl) fl_5_127 rfl (o := some 62) (hF9.mR (by decide) rfl rfl) dX5_putRest_36 ?_
      refine r_iloadn C 1 dX5_putRest_39 rfl ?_
      refine r_zald C (hF9.k (by decide) rfl) (ixL (n := 2) rfl hi1) dX5_putRest_40 ?_
      refine r_if_eq C dX5_putRest_41 (tgt := 70) (by decide) (fun hc11 => ?_) (fun hc11 => ?_)
      · replace h := h.1 hc11
        refine r_aloadn C 0 dX5_putRest_70 rfl ?_
        refine r_iloadn C 1 dX5_putRest_71 rfl ?_
        refine r_callVv C K5_putBounds [vi p1] [] (hF9.k (by decide) rfl) (by decide) rfl cl_5_257 rm_5_putRest_5_putBounds ⟨rfl, rfl⟩ (by decide) (by decide) rfl (Nat.le_of_ble_eq_true rfl) dX5_putRest_72 h (fun S12 hF12 hn12 h => ?_)
        refine r_aloadn C 0 dX5_putRest_75 rfl ?_
        refine r_getR C (hF12.k (by decide) rfl) fl_5_124 rfl (o := some 61) (hF12.mR (by decide) rfl rfl) dX5_putRest_76 ?_
        refine r_iloadn C 1 dX5_putRest_79 rfl ?_
        refine r_iald C (hF12.k (by decide) rfl) (ixL (n := 2) rfl hi1) dX5_putRest_80 ?_
        refine r_istoren C dX5_putRest_81 (by decide) rfl rfl ?_
        refine r_iconst C (x := 1) dX5_putRest_82 (by decide) ?_
        refine r_istoren C dX5_putRest_83 (by decide) rfl rfl ?_
        refine r_perm [2, 3, 1, 0] rfl ?_
        exact h
      · replace h := h.2 hc11
        refine r_aloadn C 0 dX5_putRest_44 rfl ?_
        refine r_bipush C (x := 6) dX5_putRest_45 (by decide) ?_
        refine r_bipush C (x := 9) dX5_putRest_47 (by decide) ?_
        refine r_iconst C (x := 0) dX5_putRest_49 (by decide) ?_
        refine r_aloadn C 0 dX5_putRest_50 rfl ?_
        refine r_getR C (hF9.k (by decide) rfl) fl_5_130 rfl (o := some 63) (hF9.mR (by decide) rfl rfl) dX5_putRest_51 ?_
        refine r_iloadn C 1 dX5_putRest_54 rfl ?_
        refine r_iald C (hF9.k (by decide) rfl) (ixL (n := 2) rfl hi1) dX5_putRest_55 ?_
        refine r_iconst C (x := 0) dX5_putRest_56 (by decide) ?_
        refine r_callVi C K5_put [vi 6, vi 9, vi 0, vi (gI S9 63 p1.toNatClampNeg), vi 0] [] (hF9.k (by decide) rfl) (by decide) rfl cl_5_219 rm_5_putRest_5_put ⟨rfl, rfl⟩ (by decide) (by decide) rfl (Nat.le_of_ble_eq_true rfl) dX5_putRest_57 h (fun x13 S13 hF13 hn13 h => ?_)
        refine r_if_eq C dX5_putRest_60 (tgt := 70) (by decide) (fun hc14 => ?_) (fun hc14 => ?_)
        · replace h := h.1 hc14
          refine r_aloadn C 0 dX5_putRest_70 rfl ?_
          refine r_iloadn C 1 dX5_putRest_71 rfl ?_
          refine r_callVv C K5_putBounds [vi p1] [] (hF13.k (by decide) rfl) (by decide) rfl cl_5_257 rm_5_putRest_5_putBounds ⟨rfl, rfl⟩ (by decide) (by decide) rfl (Nat.le_of_ble_eq_true rfl) dX5_putRest_72 h (fun S15 hF15 hn15 h => ?_)
          refine r_aloadn C 0 dX5_putRest_75 rfl ?_
          refine r_getR C (hF15.k (by decide) rfl) fl_5_124 rfl (o := some 61) (hF15.mR (by decide) rfl rfl) dX5_putRest_76 ?_
          refine r_iloadn C 1 dX5_putRest_79 rfl ?_
          refine r_iald C (hF15.k (by decide) rfl) (ixL (n := 2) rfl hi1) dX5_putRest_80 ?_
          refine r_istoren C dX5_putRest_81 (by decide) rfl rfl ?_
          refine r_iconst C (x := 1) dX5_putRest_82 (by decide) ?_
          refine r_istoren C dX5_putRest_83 (by decide) rfl rfl ?_
          refine r_perm [2, 3, 1, 0] rfl ?_
          exact h
        · replace h := h.2 hc14
          refine r_aloadn C 0 dX5_putRest_63 rfl ?_
          refine r_getR C (hF13.k (by decide) rfl) fl_5_127 rfl (o := some 62) (hF13.mR (by decide) rfl rfl) dX5_putRest_64 ?_
          refine r_iloadn C 1 dX5_putRest_67 rfl ?_
          refine r_iconst C (x := 0) dX5_putRest_68 (by decide) ?_
          refine r_zast C (hF13.k (by decide) rfl) (Or.inl rfl) (ixL (n := 2) rfl hi1) dX5_putRest_69 ?_
          refine r_aloadn C 0 dX5_putRest_70 rfl ?_
          refine r_iloadn C 1 dX5_putRest_71 rfl ?_
          refine r_callVv C K5_putBounds [vi p1] [] (hF13.k (by decide) rfl) (by decide) rfl cl_5_257 rm_5_putRest_5_putBounds ⟨rfl, rfl⟩ (by decide) (by decide) rfl (Nat.le_of_ble_eq_true rfl) dX5_putRest_72 h (fun S16 hF16 hn16 h => ?_)
          refine r_aloadn C 0 dX5_putRest_75 rfl ?_
          refine r_getR C (hF16.k (by decide) rfl) fl_5_124 rfl (o := some 61) (hF16.mR (by decide) rfl rfl) dX5_putRest_76 ?_
          refine r_iloadn C 1 dX5_putRest_79 rfl ?_
          refine r_iald C (hF16.k (by decide) rfl) (ixL (n := 2) rfl hi1) dX5_putRest_80 ?_
          refine r_istoren C dX5_putRest_81 (by decide) rfl rfl ?_
          refine r_iconst C (x := 1) dX5_putRest_82 (by decide) ?_
          refine r_istoren C dX5_putRest_83 (by decide) rfl rfl ?_
          refine r_perm [2, 3, 1, 0] rfl ?_
          exact h
    · replace h := h.2 hc10
      refine r_aloadn C 0 dX5_putRest_28 rfl ?_
      refine r_getR C (hF9.k (by decide) rfl) fl_5_133 rfl (o := some 64) (hF9.mR (by decide) rfl rfl) dX5_putRest_29 ?_
      refine r_iloadn C 1 dX5_putRest_32 rfl ?_
      refine r_iconst C (x := 0) dX5_putRest_33 (by decide) ?_
      refine r_zast C (hF9.k (by decide) rfl) (Or.inl rfl) (ixL (n := 2) rfl hi1) dX5_putRest_34 ?_
      refine r_aloadn C 0 dX5_putRest_35 rfl ?_
      refine r_getR C (hF9.k (by decide) rfl) fl_5_127 rfl (o := some 62) (hF9.mR (by decide) rfl rfl) dX5_putRest_36 ?_
      refine r_iloadn C 1 dX5_putRest_39 rfl ?_
      refine r_zald C (hF9.k (by decide) rfl) (ixL (n := 2) rfl hi1) dX5_putRest_40 ?_
      refine r_if_eq C dX5_putRest_41 (tgt := 70) (by decide) (fun hc17 => ?_) (fun hc17 => ?_)
      · replace h := h.1 hc17
        refine r_aloadn C 0 dX5_putRest_70 rfl ?_
        refine r_iloadn C 1 dX5_putRest_71 rfl ?_
        refine r_callVv C K5_putBounds [vi p1] [] (hF9.k (by decide) rfl) (by decide) rfl cl_5_257 rm_5_putRest_5_putBounds ⟨rfl, rfl⟩ (by decide) (by decide) rfl (Nat.le_of_ble_eq_true rfl) dX5_putRest_72 h (fun S18 hF18 hn18 h => ?_)
        refine r_aloadn C 0 dX5_putRest_75 rfl ?_
        refine r_getR C (hF18.k (by decide) rfl) fl_5_124 rfl (o := some 61) (hF18.mR (by decide) rfl rfl) dX5_putRest_76 ?_
        refine r_iloadn C 1 dX5_putRest_79 rfl ?_
        refine r_iald C (hF18.k (by decide) rfl) (ixL (n := 2) rfl hi1) dX5_putRest_80 ?_
        refine r_istoren C dX5_putRest_81 (by decide) rfl rfl ?_
        refine r_iconst C (x := 1) dX5_putRest_82 (by decide) ?_
        refine r_istoren C dX5_putRest_83 (by decide) rfl rfl ?_
        refine r_perm [2, 3, 1, 0] rfl ?_
        exact h
      · replace h := h.2 hc17
        refine r_aloadn C 0 dX5_putRest_44 rfl ?_
        refine r_bipush C (x := 6) dX5_putRest_45 (by decide) ?_
        refine r_bipush C (x := 9) dX5_putRest_47 (by decide) ?_
        refine r_iconst C (x := 0) dX5_putRest_49 (by decide) ?_
        refine r_aloadn C 0 dX5_putRest_50 rfl ?_
        refine r_getR C (hF9.k (by decide) rfl) fl_5_130 rfl (o := some 63) (hF9.mR (by decide) rfl rfl) dX5_putRest_51 ?_
        refine r_iloadn C 1 dX5_putRest_54 rfl ?_
        refine r_iald C (hF9.k (by decide) rfl) (ixL (n := 2) rfl hi1) dX5_putRest_55 ?_
        refine r_iconst C (x := 0) dX5_putRest_56 (by decide) ?_
        refine r_callVi C K5_put [vi 6, vi 9, vi 0, vi (gI S9 63 p1.toNatClampNeg), vi 0] [] (hF9.k (by decide) rfl) (by decide) rfl cl_5_219 rm_5_putRest_5_put ⟨rfl, rfl⟩ (by decide) (by decide) rfl (Nat.le_of_ble_eq_true rfl) dX5_putRest_57 h (fun x19 S19 hF19 hn19 h => ?_)
        refine r_if_eq C dX5_putRest_60 (tgt := 70) (by decide) (fun hc20 => ?_) (fun hc20 => ?_)
        · replace h := h.1 hc20
          refine r_aloadn C 0 dX5_putRest_70 rfl ?_
          refine r_iloadn C 1 dX5_putRest_71 rfl ?_
          refine r_callVv C K5_putBounds [vi p1] [] (hF19.k (by decide) rfl) (by decide) rfl cl_5_257 rm_5_putRest_5_putBounds ⟨rfl, rfl⟩ (by decide) (by decide) rfl (Nat.le_of_ble_eq_true rfl) dX5_putRest_72 h (fun S21 hF21 hn21 h => ?_)
          refine r_aloadn C 0 dX5_putRest_75 rfl ?_
          refine r_getR C (hF21.k (by decide) rfl) fl_5_124 rfl (o := some 61) (hF21.mR (by decide) rfl rfl) dX5_putRest_76 ?_
          refine r_iloadn C 1 dX5_putRest_79 rfl ?_
          refine r_iald C (hF21.k (by decide) rfl) (ixL (n := 2) rfl hi1) dX5_putRest_80 ?_
          refine r_istoren C dX5_putRest_81 (by decide) rfl rfl ?_
          refine r_iconst C (x := 1) dX5_putRest_82 (by decide) ?_
          refine r_istoren C dX5_putRest_83 (by decide) rfl rfl ?_
          refine r_perm [2, 3, 1, 0] rfl ?_
          exact h
        · replace h := h.2 hc20
          refine r_aloadn C 0 dX5_putRest_63 rfl ?_
          refine r_getR C (hF19.k (by decide) rfl) fl_5_127 rfl (o := some 62) (hF19.mR (by decide) rfl rfl) dX5_putRest_64 ?_
          refine r_iloadn C 1 dX5_putRest_67 rfl ?_
          refine r_iconst C (x := 0) dX5_putRest_68 (by decide) ?_
          refine r_zast C (hF19.k (by decide) rfl) (Or.inl rfl) (ixL (n := 2) rfl hi1) dX5_putRest_69 ?_
          refine r_aloadn C 0 dX5_putRest_70 rfl ?_
          refine r_iloadn C 1 dX5_putRest_71 rfl ?_
          refine r_callVv C K5_putBounds [vi p1] [] (hF19.k (by decide) rfl) (by decide) rfl cl_5_257 rm_5_putRest_5_putBounds ⟨rfl, rfl⟩ (by decide) (by decide) rfl (Nat.le_of_ble_eq_true rfl) dX5_putRest_72 h (fun S22 hF22 hn22 h => ?_)
          refine r_aloadn C 0 dX5_putRest_75 rfl ?_
          refine r_getR C (hF22.k (by decide) rfl) fl_5_124 rfl (o := some 61) (hF22.mR (by decide) rfl rfl) dX5_putRest_76 ?_
          refine r_iloadn C 1 dX5_putRest_79 rfl ?_
          refine r_iald C (hF22.k (by decide) rfl) (ixL (n := 2) rfl hi1) dX5_putRest_80 ?_
          refine r_istoren C dX5_putRest_81 (by decide) rfl rfl ?_
          refine r_iconst C (x := 1) dX5_putRest_82 (by decide) ?_
          refine r_istoren C dX5_putRest_83 (by decide) rfl rfl ?_
          refine r_perm [2, 3, 1, 0] rfl ?_
          exact h
set_option maxHeartbeats 4000000 in
set_option maxRecDepth 100000 in
theorem s5_putRest_84 {X : Ctx} {S0 S : Sto} {Q : Sto → Prop} (hF : Fx S) (hn : sN S0 ≤ sN S) (O : Ov X K5_putRest S0 Q) {l1 : Int32} {l2 : Int32} {l3 : Int32}   (h : (4 < l3 → ((0 ≤ (l1 : Int32).toInt ∧ (l1 : Int32).toInt < (2 : Nat)) ∧ (((gI S 53 l1.toNatClampNeg) = 0 → (Q S)) ∧ (¬ (gI S 53 l1.toNatClampNeg) = 0 → ((0 ≤ ((gI S 26 63) : Int32).toInt ∧ ((gI S 26 63) : Int32).toInt < (600 : Nat)) ∧ ((¬ (gI S 70 (gI S 26 63).toNatClampNeg) = 0 → (Q S)) ∧ ((gI S 70 (gI S 26 63).toNatClampNeg) = 0 → (Ci K5_put [vr 26, vi 8, vi 1, vi 0, vi 0, vi 0] S (fun x8 S8 => Q S8))))))))) ∧ (¬ 4 < l3 → ((0 ≤ (((l2 + (2 * l3)) - (l2 + (2 * l3)) / 8 * 8) : Int32).toInt ∧ (((l2 + (2 * l3)) - (l2 + (2 * l3)) / 8 * 8) : Int32).toInt < (8 : Nat)) ∧ ((¬ (gI S 29 ((l2 + (2 * l3)) - (l2 + (2 * l3)) / 8 * 8).toNatClampNeg) = 0 → (WP X 84 [(0, vr 26), (1, vi l1), (2, vi l2), (3, vi (l3 + 1))] [] S 0 0)) ∧ ((gI S 29 ((l2 + (2 * l3)) - (l2 + (2 * l3)) / 8 * 8).toNatClampNeg) = 0 → (Cv K5_putBytes [vr 26, vi l1, vi ((l2 + (2 * l3)) - (l2 + (2 * l3)) / 8 * 8)] S (fun S11 => WP X 84 [(0, vr 26), (1, vi l1), (2, vi l2), (3, vi (l3 + 1))] [] S11 0 0))))))) : WP X 84 [(0, vr 26), (1, vi l1), (2, vi l2), (3, vi l3)] [] S 0 0 := by
  have C := O.1
  refine r_iloadn C 3 dX5_putRest_84 rfl ?_
  refine r_iconst C (x := 4) dX5_putRest_85 (by decide) ?_
  refine r_icmp_gt C dX5_putRest_86 (tgt := 122) (by decide) (fun hc2 => ?_) (fun hc2 => ?_)
  · replace h := h.1 hc2
    refine r_aloadn C 0 dX5_putRest_122 rfl ?_
    refine r_getR C (hF.k (by decide) rfl) fl_5_100 rfl (o := some 53) (hF.mR (by decide) rfl rfl) dX5_putRest_123 ?_
    refine r_iloadn C 1 dX5_putRest_126 rfl ?_
    obtain ⟨hi3, h⟩ := h
    refine r_zald C (hF.k (by decide) rfl) (ixL (n := 2) rfl hi3) dX5_putRest_127 ?_
    refine r_if_eq C dX5_putRest_128 (tgt := 154) (by decide) (fun hc5 => ?_) (fun hc5 => ?_)
    · replace h := h.1 hc5
      exact rv O rfl dX5_putRest_154 (by decide) (by decide) hF hn h
    · replace h := h.2 hc5
      refine r_aloadn C 0 dX5_putRest_131 rfl ?_
      refine r_getR C (hF.k (by decide) rfl) fl_5_151 rfl (o := some 70) (hF.mR (by decide) rfl rfl) dX5_putRest_132 ?_
      refine r_aloadn C 0 dX5_putRest_135 rfl ?_
      refine r_getI C (hF.k (by decide) rfl) fl_5_212 rfl dX5_putRest_136 ?_
      obtain ⟨hi6, h⟩ := h
      refine r_zald C (hF.k (by decide) rfl) (ixL (n := 600) rfl hi6) dX5_putRest_139 ?_
      refine r_if_ne C dX5_putRest_140 (tgt := 154) (by decide) (fun hc7 => ?_) (fun hc7 => ?_)
      · replace h := h.1 hc7
        exact rv O rfl dX5_putRest_154 (by decide) (by decide) hF hn h
      · replace h := h.2 hc7
        refine r_aloadn C 0 dX5_putRest_143 rfl ?_
        refine r_bipush C (x := 8) dX5_putRest_144 (by decide) ?_
        refine r_iconst C (x := 1) dX5_putRest_146 (by decide) ?_
        refine r_iconst C (x := 0) dX5_putRest_147 (by decide) ?_
        refine r_iconst C (x := 0) dX5_putRest_148 (by decide) ?_
        refine r_iconst C (x := 0) dX5_putRest_149 (by decide) ?_
        refine r_callVi C K5_put [vi 8, vi 1, vi 0, vi 0, vi 0] [] (hF.k (by decide) rfl) (by decide) rfl cl_5_219 rm_5_putRest_5_put ⟨rfl, rfl⟩ (by decide) (by decide) rfl (Nat.le_of_ble_eq_true rfl) dX5_putRest_150 h (fun x8 S8 hF8 hn8 h => ?_)
        refine r_pop C rfl dX5_putRest_153 ?_
        exact rv O rfl dX5_putRest_154 (by decide) (by decide) hF8 (Nat.le_trans hn hn8) h
  · replace h := h.2 hc2
    refine r_iloadn C 2 dX5_putRest_89 rfl ?_
    refine r_iconst C (x := 2) dX5_putRest_90 (by decide) ?_
    refine r_iloadn C 3 dX5_putRest_91 rfl ?_
    refine r_imul C dX5_putRest_92 ?_
    refine r_iadd C dX5_putRest_93 ?_
    refine r_bipush C (x := 8) dX5_putRest_94 (by decide) ?_
    refine r_irem C dX5_putRest_96 (by decide) ?_
    refine r_istore C dX5_putRest_97 (by decide) rfl rfl ?_
    refine r_aloadn C 1 dX5_putRest_99 rfl ?_
    refine r_getR C (hF.k (by decide) rfl) fl_5_27 rfl (o := some 29) (hF.mR (by decide) rfl rfl) dX5_putRest_100 ?_
    refine r_iload C 0 dX5_putRest_103 rfl ?_
    obtain ⟨hi9, h⟩ := h
    refine r_zald C (hF.k (by decide) rfl) (ixL (n := 8) rfl hi9) dX5_putRest_105 ?_
    refine r_if_ne C dX5_putRest_106 (tgt := 116) (by decide) (fun hc10 => ?_) (fun hc10 => ?_)
    · replace h := h.1 hc10
      refine r_iinc C (y := (l3 + 1)) 4 dX5_putRest_116 rfl rfl (by decide) rfl rfl ?_
      refine r_goto C dX5_putRest_119 (tgt := 84) (by decide) ?_
      refine r_perm [2, 3, 4, 0] rfl ?_
      exact h
    · replace h := h.2 hc10
      refine r_aloadn C 1 dX5_putRest_109 rfl ?_
      refine r_iloadn C 2 dX5_putRest_110 rfl ?_
      refine r_iload C 0 dX5_putRest_111 rfl ?_
      refine r_callVv C K5_putBytes [vi l1, vi ((l2 + (2 * l3)) - (l2 + (2 * l3)) / 8 * 8)] [] (hF.k (by decide) rfl) (by decide) rfl cl_5_260 rm_5_putRest_5_putBytes ⟨rfl, rfl⟩ (by decide) (by decide) rfl (Nat.le_of_ble_eq_true rfl) dX5_putRest_113 h (fun S11 hF11 hn11 h => ?_)
      refine r_iinc C (y := (l3 + 1)) 4 dX5_putRest_116 rfl rfl (by decide) rfl rfl ?_
      refine r_goto C dX5_putRest_119 (tgt := 84) (by decide) ?_
      refine r_perm [2, 3, 4, 0] rfl ?_
      exact h
set_option maxHeartbeats 4000000 in
set_option maxRecDepth 100000 in
theorem e5_takeOut {S : Sto} {Q : Sto → Prop} (hF : Fx S) {p1 : Int32}  (h : ∀ X : Ctx, Ov X K5_takeOut S Q → WP X 12 [(0, vr 26), (2, vi p1)] [] (pI S 26 62 ((gI S 26 62) - 1)) 0 0) : Cv K5_takeOut [vr 26, vi p1] S Q := by
  refine Cv.intro rfl (Nat.le_of_ble_eq_true rfl) (fun X O => ?_)
  replace h := h X O
  have C := O.1
  have hn : sN S ≤ sN S := Nat.le_refl _
  show WP X 0 [(0, vr 26), (1, vi p1)] [] S 0 0
  refine r_aloadn C 0 dX5_takeOut_0 rfl ?_
  refine r_dup C rfl dX5_takeOut_1 ?_
  refine r_getI C (hF.k (by decide) rfl) fl_5_232 rfl dX5_takeOut_2 ?_
  refine r_iconst C (x := 1) dX5_takeOut_5 (by decide) ?_
  refine r_isub C dX5_takeOut_6 ?_
  refine r_putI C (hF.k (by decide) rfl) fl_5_232 rfl rfl dX5_takeOut_7 ?_
  refine r_iloadn C 1 dX5_takeOut_10 rfl ?_
  refine r_istoren C dX5_takeOut_11 (by decide) rfl rfl ?_
  refine r_perm [1, 0] rfl ?_
  exact h
set_option maxHeartbeats 4000000 in
set_option maxRecDepth 100000 in
theorem s5_takeOut_12 {X : Ctx} {S0 S : Sto} {Q : Sto → Prop} (hF : Fx S) (hn : sN S0 ≤ sN S) (O : Ov X K5_takeOut S0 Q) {l2 : Int32}   (h : ((gI S 26 62) ≤ l2 → (Q S)) ∧ (¬ (gI S 26 62) ≤ l2 → ((0 ≤ ((l2 + 1) : Int32).toInt ∧ ((l2 + 1) : Int32).toInt < (400 : Nat)) ∧ ((0 ≤ (l2 : Int32).toInt ∧ (l2 : Int32).toInt < (400 : Nat)) ∧ (WP X 12 [(0, vr 26), (2, vi (l2 + 1))] [] (pI (pI S 76 l2.toNatClampNeg (gI S 76 (l2 + 1).toNatClampNeg)) 77 l2.toNatClampNeg (gI S 77 (l2 + 1).toNatClampNeg)) 0 0))))) : WP X 12 [(0, vr 26), (2, vi l2)] [] S 0 0 := by
  have C := O.1
  refine r_iloadn C 1 dX5_takeOut_12 rfl ?_
  refine r_aloadn C 0 dX5_takeOut_13 rfl ?_
  refine r_getI C (hF.k (by decide) rfl) fl_5_232 rfl dX5_takeOut_14 ?_
  refine r_icmp_ge C dX5_takeOut_17 (tgt := 54) (by decide) (fun hc2 => ?_) (fun hc2 => ?_)
  · replace h := h.1 hc2
    exact rv O rfl dX5_takeOut_54 (by decide) (by decide) hF hn h
  · replace h := h.2 hc2
    refine r_aloadn C 0 dX5_takeOut_20 rfl ?_
    refine r_getR C (hF.k (by decide) rfl) fl_5_170 rfl (o := some 76) (hF.mR (by decide) rfl rfl) dX5_takeOut_21 ?_
    refine r_iloadn C 1 dX5_takeOut_24 rfl ?_
    refine r_aloadn C 0 dX5_takeOut_25 rfl ?_
    refine r_getR C (hF.k (by decide) rfl) fl_5_170 rfl (o := some 76) (hF.mR (by decide) rfl rfl) dX5_takeOut_26 ?_
    refine r_iloadn C 1 dX5_takeOut_29 rfl ?_
    refine r_iconst C (x := 1) dX5_takeOut_30 (by decide) ?_
    refine r_iadd C dX5_takeOut_31 ?_
    obtain ⟨hi3, h⟩ := h
    refine r_iald C (hF.k (by decide) rfl) (ixL (n := 400) rfl hi3) dX5_takeOut_32 ?_
    obtain ⟨hi4, h⟩ := h
    refine r_iast C (hF.k (by decide) rfl) (ixL (n := 400) rfl hi4) dX5_takeOut_33 ?_
    refine r_aloadn C 0 dX5_takeOut_34 rfl ?_
    refine r_getR C (hF.k (by decide) rfl) fl_5_173 rfl (o := some 77) (hF.mR (by decide) rfl rfl) dX5_takeOut_35 ?_
    refine r_iloadn C 1 dX5_takeOut_38 rfl ?_
    refine r_aloadn C 0 dX5_takeOut_39 rfl ?_
    refine r_getR C (hF.k (by decide) rfl) fl_5_173 rfl (o := some 77) (hF.mR (by decide) rfl rfl) dX5_takeOut_40 ?_
    refine r_iloadn C 1 dX5_takeOut_43 rfl ?_
    refine r_iconst C (x := 1) dX5_takeOut_44 (by decide) ?_
    refine r_iadd C dX5_takeOut_45 ?_
    refine r_iald C (hF.k (by decide) rfl) (ixL (n := 400) rfl hi3) dX5_takeOut_46 ?_
    refine r_iast C (hF.k (by decide) rfl) (ixL (n := 400) rfl hi4) dX5_takeOut_47 ?_
    refine r_iinc C (y := (l2 + 1)) 1 dX5_takeOut_48 rfl rfl (by decide) rfl rfl ?_
    refine r_goto C dX5_takeOut_51 (tgt := 12) (by decide) ?_
    refine r_perm [1, 0] rfl ?_
    exact h
