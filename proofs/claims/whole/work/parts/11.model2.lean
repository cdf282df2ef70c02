theorem r_lstore2 {X : Ctx} {K : Mt} {pc : Nat} {loc : List (Nat × AV)} {st : List AV} {S : Sto} {u v : Nat} (C : Cx X K) {n : Nat} {x : Int64} {loc' : List (Nat × AV)} (hd : decode (kc K) pc = .ok (.lstore n, 2)) (hn : n + 1 < kL K) (ho : loc.all (fun q => !(q.1 == n) && (!(q.1 == n + 1) && !(q.1 + 1 == n && isL q.2))) = true) (hl' : (n, vl x) :: loc = loc') (k : WP X (pc + 2) loc' st S u v) : WP X pc loc (vl x :: st) S u v := by
  intro H locs ls hR hS hl
  refine lv_lstore C.ex C.co hd hl (by rw [C.ml]; exact hn) (lv' := mz (xz X) ((n, vl x) :: loc)) ?_ (fun ls' h' => k H locs ls' hR hS (hl' ▸ h'))
  simp only [mz, List.map_cons, List.filter_map]
  congr 2
  apply List.filter_eq_self.mpr
  intro q hq
  have h1 := List.all_eq_true.mp ho q hq
  have h2 := vz_cat (xz X) q.2
  simp only [Function.comp]
  rw [h2]
  cases hL : isL q.2 <;> simp [hL] at h1 ⊢ <;> simp [h1]
set_option maxHeartbeats 4000000 in
set_option maxRecDepth 100000 in
theorem e5_come {S : Sto} {Q : Int32 → Sto → Prop} (hF : Fx S) {p1 : Int32}  (h : ∀ X : Ctx, Oi X K5_come S Q → (¬ (if (0 : Int64).toInt ≤ ((p1 : Int32).toInt64 : Int64).toInt ∧ ((p1 : Int32).toInt64 : Int64).toInt ≤ ((((gI S 26 62) - 1) : Int32).toInt64 : Int64).toInt then 1 else 0 : Int32) = 0 → ((0 ≤ (p1 : Int32).toInt ∧ (p1 : Int32).toInt < (400 : Nat)) ∧ (Cv K5_takeOut [vr 26, vi p1] S (fun S4 => (¬ (gI S 76 p1.toNatClampNeg) = 1 → (WP X 81 [(0, vr 26), (2, vi (gI S 76 p1.toNatClampNeg)), (3, vi (gI S 77 p1.toNatClampNeg)), (4, vi (1 - (gI S 76 p1.toNatClampNeg))), (5, vi ((300 * (gI S 76 p1.toNatClampNeg)) + (gI S 77 p1.toNatClampNeg)))] [] S4 0 0)) ∧ ((gI S 76 p1.toNatClampNeg) = 1 → ((0 ≤ (((300 * (gI S 76 p1.toNatClampNeg)) + (gI S 77 p1.toNatClampNeg)) : Int32).toInt ∧ (((300 * (gI S 76 p1.toNatClampNeg)) + (gI S 77 p1.toNatClampNeg)) : Int32).toInt < (600 : Nat)) ∧ (((gI S4 67 ((300 * (gI S 76 p1.toNatClampNeg)) + (gI S 77 p1.toNatClampNeg)).toNatClampNeg) = (gI S4 26 44) → (WP X 81 [(0, vr 26), (2, vi (gI S 76 p1.toNatClampNeg)), (3, vi (gI S 77 p1.toNatClampNeg)), (4, vi (1 - (gI S 76 p1.toNatClampNeg))), (5, vi ((300 * (gI S 76 p1.toNatClampNeg)) + (gI S 77 p1.toNatClampNeg)))] [] S4 0 0)) ∧ (¬ (gI S4 67 ((300 * (gI S 76 p1.toNatClampNeg)) + (gI S 77 p1.toNatClampNeg)).toNatClampNeg) = (gI S4 26 44) → (Q 2 (pI S4 26 49 ((gI S4 26 49) + 1))))))))))) ∧ ((if (0 : Int64).toInt ≤ ((p1 : Int32).toInt64 : Int64).toInt ∧ ((p1 : Int32).toInt64 : Int64).toInt ≤ ((((gI S 26 62) - 1) : Int32).toInt64 : Int64).toInt then 1 else 0 : Int32) = 0 → (Q (-1) S))) : Ci K5_come [vr 26, vi p1] S Q := by
  refine Ci.intro rfl (Nat.le_of_ble_eq_true rfl) (fun X O => ?_)
  replace h := h X O
  have C := O.1
  have hn : sN S ≤ sN S := Nat.le_refl _
  show WP X 0 [(0, vr 26), (1, vi p1)] [] S 0 0
  refine r_iloadn C 1 dX5_come_0 rfl ?_
  refine r_i2l C dX5_come_1 ?_
  refine r_lconst C dX5_come_2 (x := 0) (by decide) ?_
  refine r_aloadn C 0 dX5_come_3 rfl ?_
  refine r_getI C (hF.k (by decide) rfl) fl_5_232 rfl dX5_come_4 ?_
  refine r_iconst C (x := 1) dX5_come_7 (by decide) ?_
  refine r_isub C dX5_come_8 ?_
  refine r_i2l C dX5_come_9 ?_
  refine r_callSi C K5_in [vl ((p1 : Int32).toInt64), vl 0, vl ((((gI S 26 62) - 1) : Int32).toInt64)] [] cl_5_185 rm_5_come_5_in ⟨rfl, rfl⟩ (by decide) (by decide) rfl (Nat.le_of_ble_eq_true rfl) dX5_come_10 (q5_inH (S := S) hF) (fun x1 _ _ _ hq => ?_)
  obtain ⟨hqa, hqb⟩ := hq; obtain rfl := hqa.symm; obtain rfl := hqb.symm
  refine r_if_ne C dX5_come_13 (tgt := 18) (by decide) (fun hc2 => ?_) (fun hc2 => ?_)
  · replace h := h.1 hc2
    refine r_aloadn C 0 dX5_come_18 rfl ?_
    refine r_getR C (hF.k (by decide) rfl) fl_5_170 rfl (o := some 76) (hF.mR (by decide) rfl rfl) dX5_come_19 ?_
    refine r_iloadn C 1 dX5_come_22 rfl ?_
    obtain ⟨hi3, h⟩ := h
    refine r_iald C (hF.k (by decide) rfl) (ixL (n := 400) rfl hi3) dX5_come_23 ?_
    refine r_istoren C dX5_come_24 (by decide) rfl rfl ?_
    refine r_aloadn C 1 dX5_come_25 rfl ?_
    refine r_getR C (hF.k (by decide) rfl) fl_5_173 rfl (o := some 77) (hF.mR (by decide) rfl rfl) dX5_come_26 ?_
    refine r_iloadn C 2 dX5_come_29 rfl ?_
    refine r_iald C (hF.k (by decide) rfl) (ixL (n := 400) rfl hi3) dX5_come_30 ?_
    refine r_istoren C dX5_come_31 (by decide) rfl rfl ?_
    refine r_aloadn C 2 dX5_come_32 rfl ?_
    refine r_iloadn C 3 dX5_come_33 rfl ?_
    refine r_callVv C K5_takeOut [vi p1] [] (hF.k (by decide) rfl) (by decide) rfl cl_5_264 rm_5_come_5_takeOut ⟨rfl, rfl⟩ (by decide) (by decide) rfl (Nat.le_of_ble_eq_true rfl) dX5_come_34 h (fun S4 hF4 hn4 h => ?_)
    refine r_iconst C (x := 1) dX5_come_37 (by decide) ?_
    refine r_iloadn C 1 dX5_come_38 rfl ?_
    refine r_isub C dX5_come_39 ?_
    refine r_istore C dX5_come_40 (by decide) rfl rfl ?_
    refine r_aloadn C 3 dX5_come_42 rfl ?_
    refine r_iloadn C 2 dX5_come_43 rfl ?_
    refine r_iloadn C 1 dX5_come_44 rfl ?_
    refine r_callVi C K5_at [vi (gI S 76 p1.toNatClampNeg), vi (gI S 77 p1.toNatClampNeg)] [] (hF4.k (by decide) rfl) (by decide) rfl cl_5_215 rm_5_come_5_at ⟨rfl, rfl⟩ (by decide) (by decide) rfl (Nat.le_of_ble_eq_true rfl) dX5_come_45 (q5_at (S := S4) hF4) (fun x5 _ _ _ hq => ?_)
    obtain ⟨hqa, hqb⟩ := hq; obtain rfl := hqa.symm; obtain rfl := hqb.symm
    refine r_istore C dX5_come_48 (by decide) rfl rfl ?_
    refine r_iloadn C 3 dX5_come_50 rfl ?_
    refine r_iconst C (x := 1) dX5_come_51 (by decide) ?_
    refine r_icmp_ne C dX5_come_52 (tgt := 81) (by decide) (fun hc6 => ?_) (fun hc6 => ?_)
    · replace h := h.1 hc6
      refine r_perm [4, 3, 2, 1, 0] rfl ?_
      exact h
    · replace h := h.2 hc6
      refine r_aloadn C 4 dX5_come_55 rfl ?_
      refine r_getR C (hF4.k (by decide) rfl) fl_5_142 rfl (o := some 67) (hF4.mR (by decide) rfl rfl) dX5_come_56 ?_
      refine r_iload C 0 dX5_come_59 rfl ?_
      obtain ⟨hi7, h⟩ := h
      refine r_iald C (hF4.k (by decide) rfl) (ixL (n := 600) rfl hi7) dX5_come_61 ?_
      refine r_aloadn C 4 dX5_come_62 rfl ?_
      refine r_getI C (hF4.k (by decide) rfl) fl_5_209 rfl dX5_come_63 ?_
      refine r_icmp_eq C dX5_come_66 (tgt := 81) (by decide) (fun hc8 => ?_) (fun hc8 => ?_)
      · replace h := h.1 hc8
        refine r_perm [4, 3, 2, 1, 0] rfl ?_
        exact h
      · replace h := h.2 hc8
        refine r_aloadn C 4 dX5_come_69 rfl ?_
        refine r_dup C rfl dX5_come_70 ?_
        refine r_getI C (hF4.k (by decide) rfl) fl_5_267 rfl dX5_come_71 ?_
        refine r_iconst C (x := 1) dX5_come_74 (by decide) ?_
        refine r_iadd C dX5_come_75 ?_
        refine r_putI C (hF4.k (by decide) rfl) fl_5_267 rfl rfl dX5_come_76 ?_
        refine r_iconst C (x := 2) dX5_come_79 (by decide) ?_
        exact ri O ⟨_, rfl, rfl⟩ dX5_come_80 (by decide) (by decide) hF4 (Nat.le_trans hn hn4) h
  · replace h := h.2 hc2
    refine r_iconst C (x := (-1)) dX5_come_16 (by decide) ?_
    exact ri O ⟨_, rfl, rfl⟩ dX5_come_17 (by decide) (by decide) hF hn h
set_option maxHeartbeats 4000000 in
set_option maxRecDepth 100000 in
theorem s5_come_81 {X : Ctx} {S0 S : Sto} {Q : Int32 → Sto → Prop} (hF : Fx S) (hn : sN S0 ≤ sN S) (O : Oi X K5_come S0 Q) {l2 : Int32} {l3 : Int32} {l4 : Int32} {l5 : Int32}   (h : (0 ≤ (l5 : Int32).toInt ∧ (l5 : Int32).toInt < (600 : Nat)) ∧ (((gI S 70 l5.toNatClampNeg) = 0 → (WP X 99 [(0, vr 26), (2, vi l2), (3, vi l3), (4, vi l4), (5, vi l5)] [] S 0 0)) ∧ (¬ (gI S 70 l5.toNatClampNeg) = 0 → ((0 ≤ (l4 : Int32).toInt ∧ (l4 : Int32).toInt < (2 : Nat)) ∧ (WP X 99 [(0, vr 26), (2, vi l2), (3, vi l3), (4, vi l4), (5, vi l5)] [] (pI S 56 l4.toNatClampNeg 1) 0 0))))) : WP X 81 [(0, vr 26), (2, vi l2), (3, vi l3), (4, vi l4), (5, vi l5)] [] S 0 0 := by
  have C := O.1
  refine r_aloadn C 0 dX5_come_81 rfl ?_
  refine r_getR C (hF.k (by decide) rfl) fl_5_151 rfl (o := some 70) (hF.mR (by decide) rfl rfl) dX5_come_82 ?_
  refine r_iload C 4 dX5_come_85 rfl ?_
  obtain ⟨hi1, h⟩ := h
  refine r_zald C (hF.k (by decide) rfl) (ixL (n := 600) rfl hi1) dX5_come_87 ?_
  refine r_if_eq C dX5_come_88 (tgt := 99) (by decide) (fun hc2 => ?_) (fun hc2 => ?_)
  · replace h := h.1 hc2
    refine r_perm [0, 1, 2, 3, 4] rfl ?_
    exact h
  · replace h := h.2 hc2
    refine r_aloadn C 0 dX5_come_91 rfl ?_
    refine r_getR C (hF.k (by decide) rfl) fl_5_109 rfl (o := some 56) (hF.mR (by decide) rfl rfl) dX5_come_92 ?_
    refine r_iload C 3 dX5_come_95 rfl ?_
    refine r_iconst C (x := 1) dX5_come_97 (by decide) ?_
    obtain ⟨hi3, h⟩ := h
    refine r_zast C (hF.k (by decide) rfl) (Or.inr rfl) (ixL (n := 2) rfl hi3) dX5_come_98 ?_
    refine r_perm [0, 1, 2, 3, 4] rfl ?_
    exact h
set_option maxHeartbeats 4000000 in
set_option maxRecDepth 100000 in
theorem s5_come_99 {X : Ctx} {S0 S : Sto} {Q : Int32 → Sto → Prop} (hF : Fx S) (hn : sN S0 ≤ sN S) (O : Oi X K5_come S0 Q) {l2 : Int32} {l3 : Int32} {l4 : Int32} {l5 : Int32}   (h : (¬ l2 = 0 → (WP X 110 [(0, vr 26), (3, vi l3), (4, vi l4), (5, vi l5)] [] S 0 0)) ∧ (l2 = 0 → (Cv K5_lookAtPath [vr 26, vi l5, vi l3] S (fun S2 => WP X 110 [(0, vr 26), (3, vi l3), (4, vi l4), (5, vi l5)] [] S2 0 0)))) : WP X 99 [(0, vr 26), (2, vi l2), (3, vi l3), (4, vi l4), (5, vi l5)] [] S 0 0 := by
  have C := O.1
  refine r_iloadn C 1 dX5_come_99 rfl ?_
  refine r_if_ne C dX5_come_100 (tgt := 110) (by decide) (fun hc1 => ?_) (fun hc1 => ?_)
  · replace h := h.1 hc1
    refine r_perm [0, 2, 3, 4] rfl ?_
    exact h
  · replace h := h.2 hc1
    refine r_aloadn C 0 dX5_come_103 rfl ?_
    refine r_iload C 4 dX5_come_104 rfl ?_
    refine r_iloadn C 2 dX5_come_106 rfl ?_
    refine r_callVv C K5_lookAtPath [vi l5, vi l3] [] (hF.k (by decide) rfl) (by decide) rfl cl_5_270 rm_5_come_5_lookAtPath ⟨rfl, rfl⟩ (by decide) (by decide) rfl (Nat.le_of_ble_eq_true rfl) dX5_come_107 h (fun S2 hF2 hn2 h => ?_)
    refine r_perm [0, 2, 3, 4] rfl ?_
    exact h
set_option maxHeartbeats 4000000 in
set_option maxRecDepth 100000 in
theorem s5_come_110 {X : Ctx} {S0 S : Sto} {Q : Int32 → Sto → Prop} (hF : Fx S) (hn : sN S0 ≤ sN S) (O : Oi X K5_come S0 Q) {l3 : Int32} {l4 : Int32} {l5 : Int32}   (h : (0 ≤ (l5 : Int32).toInt ∧ (l5 : Int32).toInt < (600 : Nat)) ∧ (((gI S 73 l5.toNatClampNeg) = 0 → ((0 ≤ (l4 : Int32).toInt ∧ (l4 : Int32).toInt < (2 : Nat)) ∧ (∀ w4 : Int32, w4 = (if l3 ≤ (gI S 55 l4.toNatClampNeg) then (gI S 55 l4.toNatClampNeg) else l3 : Int32) → (WP X 162 [(0, vr 26), (4, vi l4), (5, vi l5), (6, vi 0)] [] (pI (pI S 73 l5.toNatClampNeg 1) 55 l4.toNatClampNeg w4) 0 0)))) ∧ (¬ (gI S 73 l5.toNatClampNeg) = 0 → (Q 0 S)))) : WP X 110 [(0, vr 26), (3, vi l3), (4, vi l4), (5, vi l5)] [] S 0 0 := by
  have C := O.1
  refine r_aloadn C 0 dX5_come_110 rfl ?_
  refine r_getR C (hF.k (by decide) rfl) fl_5_160 rfl (o := some 73) (hF.mR (by decide) rfl rfl) dX5_come_111 ?_
  refine r_iload C 3 dX5_come_114 rfl ?_
  obtain ⟨hi1, h⟩ := h
  refine r_zald C (hF.k (by decide) rfl) (ixL (n := 600) rfl hi1) dX5_come_116 ?_
  refine r_if_eq C dX5_come_117 (tgt := 122) (by decide) (fun hc2 => ?_) (fun hc2 => ?_)
  · replace h := h.1 hc2
    refine r_aloadn C 0 dX5_come_122 rfl ?_
    refine r_getR C (hF.k (by decide) rfl) fl_5_160 rfl (o := some 73) (hF.mR (by decide) rfl rfl) dX5_come_123 ?_
    refine r_iload C 3 dX5_come_126 rfl ?_
    refine r_iconst C (x := 1) dX5_come_128 (by decide) ?_
    refine r_zast C (hF.k (by decide) rfl) (Or.inr rfl) (ixL (n := 600) rfl hi1) dX5_come_129 ?_
    refine r_aloadn C 0 dX5_come_130 rfl ?_
    refine r_getR C (hF.k (by decide) rfl) fl_5_106 rfl (o := some 55) (hF.mR (by decide) rfl rfl) dX5_come_131 ?_
    refine r_iload C 2 dX5_come_134 rfl ?_
    refine r_iloadn C 1 dX5_come_136 rfl ?_
    refine r_aloadn C 0 dX5_come_137 rfl ?_
    refine r_getR C (hF.k (by decide) rfl) fl_5_106 rfl (o := some 55) (hF.mR (by decide) rfl rfl) dX5_come_138 ?_
    refine r_iload C 2 dX5_come_141 rfl ?_
    obtain ⟨hi3, h⟩ := h
    refine r_iald C (hF.k (by decide) rfl) (ixL (n := 2) rfl hi3) dX5_come_143 ?_
    have kJ5 : ∀ (w4 : Int32) (_ : w4 = (if l3 ≤ (gI S 55 l4.toNatClampNeg) then (gI S 55 l4.toNatClampNeg) else l3 : Int32)), WP X 158 [(0, vr 26), (4, vi l4), (5, vi l5)] [vi w4, vi l4, vr 55] (pI S 73 l5.toNatClampNeg 1) 0 0 := by
      intro w4 hw4
      replace h := h w4 hw4
      refine r_iast C (hF.k (by decide) rfl) (ixL (n := 2) rfl hi3) dX5_come_158 ?_
      refine r_iconst C (x := 0) dX5_come_159 (by decide) ?_
      refine r_istore C dX5_come_160 (by decide) rfl rfl ?_
      refine r_perm [1, 2, 3, 0] rfl ?_
      exact h
    refine r_icmp_le C dX5_come_144 (tgt := 151) (by decide) (fun hc6 => ?_) (fun hc6 => ?_)
    · refine r_aloadn C 0 dX5_come_151 rfl ?_
      refine r_getR C (hF.k (by decide) rfl) fl_5_106 rfl (o := some 55) (hF.mR (by decide) rfl rfl) dX5_come_152 ?_
      refine r_iload C 2 dX5_come_155 rfl ?_
      refine r_iald C (hF.k (by decide) rfl) (ixL (n := 2) rfl hi3) dX5_come_157 ?_
      refine r_perm [0, 2, 3] rfl ?_
      exact kJ5 _ (if_pos hc6).symm
    · refine r_iloadn C 1 dX5_come_147 rfl ?_
      refine r_goto C dX5_come_148 (tgt := 158) (by decide) ?_
      refine r_perm [0, 2, 3] rfl ?_
      exact kJ5 _ (if_neg hc6).symm
  · replace h := h.2 hc2
    refine r_iconst C (x := 0) dX5_come_120 (by decide) ?_
    exact ri O ⟨_, rfl, rfl⟩ dX5_come_121 (by decide) (by decide) hF hn h
set_option maxHeartbeats 4000000 in
set_option maxRecDepth 100000 in
theorem s5_come_162 {X : Ctx} {S0 S : Sto} {Q : Int32 → Sto → Prop} (hF : Fx S) (hn : sN S0 ≤ sN S) (O : Oi X K5_come S0 Q) {l4 : Int32} {l5 : Int32} {l6 : Int32}   (h : (0 ≤ (l5 : Int32).toInt ∧ (l5 : Int32).toInt < (600 : Nat)) ∧ (((gI S 69 l5.toNatClampNeg) ≤ l6 → (Q 1 S)) ∧ (¬ (gI S 69 l5.toNatClampNeg) ≤ l6 → ((0 ≤ ((4 * ((24 * l5) + l6)) : Int32).toInt ∧ ((4 * ((24 * l5) + l6)) : Int32).toInt < (57600 : Nat)) ∧ ((0 ≤ (((4 * ((24 * l5) + l6)) + 1) : Int32).toInt ∧ (((4 * ((24 * l5) + l6)) + 1) : Int32).toInt < (57600 : Nat)) ∧ ((0 ≤ (((4 * ((24 * l5) + l6)) + 2) : Int32).toInt ∧ (((4 * ((24 * l5) + l6)) + 2) : Int32).toInt < (57600 : Nat)) ∧ ((0 ≤ (((4 * ((24 * l5) + l6)) + 3) : Int32).toInt ∧ (((4 * ((24 * l5) + l6)) + 3) : Int32).toInt < (57600 : Nat)) ∧ (Cv K5_partComes [vr 26, vi l4, vi l5, vi (gI S 74 (4 * ((24 * l5) + l6)).toNatClampNeg), vi (gI S 74 ((4 * ((24 * l5) + l6)) + 1).toNatClampNeg), vi (gI S 74 ((4 * ((24 * l5) + l6)) + 2).toNatClampNeg), vi (gI S 74 ((4 * ((24 * l5) + l6)) + 3).toNatClampNeg)] S (fun S11 => WP X 162 [(0, vr 26), (4, vi l4), (5, vi l5), (6, vi (l6 + 1))] [] S11 0 0))))))))) : WP X 162 [(0, vr 26), (4, vi l4), (5, vi l5), (6, vi l6)] [] S 0 0 := by
  have C := O.1
  refine r_iload C 3 dX5_come_162 rfl ?_
  refine r_aloadn C 0 dX5_come_164 rfl ?_
  refine r_getR C (hF.k (by decide) rfl) fl_5_148 rfl (o := some 69) (hF.mR (by decide) rfl rfl) dX5_come_165 ?_
  refine r_iload C 2 dX5_come_168 rfl ?_
  obtain ⟨hi1, h⟩ := h
  refine r_iald C (hF.k (by decide) rfl) (ixL (n := 600) rfl hi1) dX5_come_170 ?_
  refine r_icmp_ge C dX5_come_171 (tgt := 234) (by decide) (fun hc6 => ?_) (fun hc6 => ?_)
  · replace h := h.1 hc6
    refine r_iconst C (x := 1) dX5_come_234 (by decide) ?_
    exact ri O ⟨_, rfl, rfl⟩ dX5_come_235 (by decide) (by decide) hF hn h
  · replace h := h.2 hc6
    refine r_iconst C (x := 4) dX5_come_174 (by decide) ?_
    refine r_bipush C (x := 24) dX5_come_175 (by decide) ?_
    refine r_iload C 2 dX5_come_177 rfl ?_
    refine r_imul C dX5_come_179 ?_
    refine r_iload C 3 dX5_come_180 rfl ?_
    refine r_iadd C dX5_come_182 ?_
    refine r_imul C dX5_come_183 ?_
    refine r_istore C dX5_come_184 (by decide) rfl rfl ?_
    refine r_aloadn C 1 dX5_come_186 rfl ?_
    refine r_iload C 2 dX5_come_187 rfl ?_
    refine r_iload C 3 dX5_come_189 rfl ?_
    refine r_aloadn C 1 dX5_come_191 rfl ?_
    refine r_getR C (hF.k (by decide) rfl) fl_5_164 rfl (o := some 74) (hF.mR (by decide) rfl rfl) dX5_come_192 ?_
    refine r_iload C 0 dX5_come_195 rfl ?_
    obtain ⟨hi7, h⟩ := h
    refine r_iald C (hF.k (by decide) rfl) (ixL (n := 57600) rfl hi7) dX5_come_197 ?_
    refine r_aloadn C 1 dX5_come_198 rfl ?_
    refine r_getR C (hF.k (by decide) rfl) fl_5_164 rfl (o := some 74) (hF.mR (by decide) rfl rfl) dX5_come_199 ?_
    refine r_iload C 0 dX5_come_202 rfl ?_
    refine r_iconst C (x := 1) dX5_come_204 (by decide) ?_
    refine r_iadd C dX5_come_205 ?_
    obtain ⟨hi8, h⟩ := h
    refine r_iald C (hF.k (by decide) rfl) (ixL (n := 57600) rfl hi8) dX5_come_206 ?_
    refine r_aloadn C 1 dX5_come_207 rfl ?_
    refine r_getR C (hF.k (by decide) rfl) fl_5_164 rfl (o := some 74) (hF.mR (by decide) rfl rfl) dX5_come_208 ?_
    refine r_iload C 0 dX5_come_211 rfl ?_
    refine r_iconst C (x := 2) dX5_come_213 (by decide) ?_
    refine r_iadd C dX5_come_214 ?_
    obtain ⟨hi9, h⟩ := h
    refine r_iald C (hF.k (by decide) rfl) (ixL (n := 57600) rfl hi9) dX5_come_215 ?_
    refine r_aloadn C 1 dX5_come_216 rfl ?_
    refine r_getR C (hF.k (by decide) rfl) fl_5_164 rfl (o := some 74) (hF.mR (by decide) rfl rfl) dX5_come_217 ?_
    refine r_iload C 0 dX5_come_220 rfl ?_
    refine r_iconst C (x := 3) dX5_come_222 (by decide) ?_
    refine r_iadd C dX5_come_223 ?_
    obtain ⟨hi10, h⟩ := h
    refine r_iald C (hF.k (by decide) rfl) (ixL (n := 57600) rfl hi10) dX5_come_224 ?_
    refine r_callVv C K5_partComes [vi l4, vi l5, vi (gI S 74 (4 * ((24 * l5) + l6)).toNatClampNeg), vi (gI S 74 ((4 * ((24 * l5) + l6)) + 1).toNatClampNeg), vi (gI S 74 ((4 * ((24 * l5) + l6)) + 2).toNatClampNeg), vi (gI S 74 ((4 * ((24 * l5) + l6)) + 3).toNatClampNeg)] [] (hF.k (by decide) rfl) (by decide) rfl cl_5_273 rm_5_come_5_partComes ⟨rfl, rfl⟩ (by decide) (by decide) rfl (Nat.le_of_ble_eq_true rfl) dX5_come_225 h (fun S11 hF11 hn11 h => ?_)
    refine r_iinc C (y := (l6 + 1)) 4 dX5_come_228 rfl rfl (by decide) rfl rfl ?_
    refine r_goto C dX5_come_231 (tgt := 162) (by decide) ?_
    refine r_perm [2, 3, 4, 0] rfl ?_
    exact h
set_option maxHeartbeats 4000000 in
set_option maxRecDepth 100000 in
theorem e5_lookAtPath {S : Sto} {Q : Sto → Prop} (hF : Fx S) {p1 : Int32} {p2 : Int32}  (h : ∀ X : Ctx, Ov X K5_lookAtPath S Q → (0 ≤ (p1 : Int32).toInt ∧ (p1 : Int32).toInt < (600 : Nat)) ∧ (((gI S 70 p1.toNatClampNeg) = 0 → (WP X 138 [(0, vr 26), (1, vi p1)] [] S 0 0)) ∧ (¬ (gI S 70 p1.toNatClampNeg) = 0 → ((¬ (gI S 73 p1.toNatClampNeg) = 0 → (WP X 138 [(0, vr 26), (1, vi p1)] [] S 0 0)) ∧ ((gI S 73 p1.toNatClampNeg) = 0 → ((p2 ≤ (gI S 55 1) → (WP X 138 [(0, vr 26), (1, vi p1)] [] S 0 0)) ∧ (¬ p2 ≤ (gI S 55 1) → (((gI S 67 p1.toNatClampNeg) = (gI S 26 45) → (WP X 138 [(0, vr 26), (1, vi p1)] [] S 0 0)) ∧ (¬ (gI S 67 p1.toNatClampNeg) = (gI S 26 45) → (WP X 138 [(0, vr 26), (1, vi p1)] [] (pI (pI (pI (pI (pI (pI (pI (pI (pI (pI (pI (pI S 26 45 (gI S 67 p1.toNatClampNeg)) 26 46 1) 62 1 1) 63 1 (gI S 67 p1.toNatClampNeg)) 46 1 (10 * (gI S 26 0))) 47 1 1000000) 48 1 (gI S 26 3)) 49 1 (-6)) 50 1 (-6)) 51 1 (-6)) 26 47 0) 26 48 0) 0 0)))))))))) : Cv K5_lookAtPath [vr 26, vi p1, vi p2] S Q := by
  refine Cv.intro rfl (Nat.le_of_ble_eq_true rfl) (fun X O => ?_)
  replace h := h X O
  have C := O.1
  have hn : sN S ≤ sN S := Nat.le_refl _
  show WP X 0 [(0, vr 26), (1, vi p1), (2, vi p2)] [] S 0 0
  refine r_aloadn C 0 dX5_lookAtPath_0 rfl ?_
  refine r_getR C (hF.k (by decide) rfl) fl_5_151 rfl (o := some 70) (hF.mR (by decide) rfl rfl) dX5_lookAtPath_1 ?_
  refine r_iloadn C 1 dX5_lookAtPath_4 rfl ?_
  obtain ⟨hi1, h⟩ := h
  refine r_zald C (hF.k (by decide) rfl) (ixL (n := 600) rfl hi1) dX5_lookAtPath_5 ?_
  refine r_if_eq C dX5_lookAtPath_6 (tgt := 138) (by decide) (fun hc2 => ?_) (fun hc2 => ?_)
  · replace h := h.1 hc2
    refine r_perm [0, 1] rfl ?_
    exact h
  · replace h := h.2 hc2
    refine r_aloadn C 0 dX5_lookAtPath_9 rfl ?_
    refine r_getR C (hF.k (by decide) rfl) fl_5_160 rfl (o := some 73) (hF.mR (by decide) rfl rfl) dX5_lookAtPath_10 ?_
    refine r_iloadn C 1 dX5_lookAtPath_13 rfl ?_
    refine r_zald C (hF.k (by decide) rfl) (ixL (n := 600) rfl hi1) dX5_lookAtPath_14 ?_
    refine r_if_ne C dX5_lookAtPath_15 (tgt := 138) (by decide) (fun hc3 => ?_) (fun hc3 => ?_)
    · replace h := h.1 hc3
      refine r_perm [0, 1] rfl ?_
      exact h
    · replace h := h.2 hc3
      refine r_iloadn C 2 dX5_lookAtPath_18 rfl ?_
      refine r_aloadn C 0 dX5_lookAtPath_19 rfl ?_
      refine r_getR C (hF.k (by decide) rfl) fl_5_106 rfl (o := some 55) (hF.mR (by decide) rfl rfl) dX5_lookAtPath_20 ?_
      refine r_iconst C (x := 1) dX5_lookAtPath_23 (by decide) ?_
      refine r_iald C (hF.k (by decide) rfl) (ixL (n := 2) rfl (ix_const (x := 1) (n := 2) (k := 1) (by decide) (by decide))) dX5_lookAtPath_24 ?_
      refine r_icmp_le C dX5_lookAtPath_25 (tgt := 138) (by decide) (fun hc4 => ?_) (fun hc4 => ?_)
      · replace h := h.1 hc4
        refine r_perm [0, 1] rfl ?_
        exact h
      · replace h := h.2 hc4
        refine r_aloadn C 0 dX5_lookAtPath_28 rfl ?_
        refine r_getR C (hF.k (by decide) rfl) fl_5_142 rfl (o := some 67) (hF.mR (by decide) rfl rfl) dX5_lookAtPath_29 ?_
        refine r_iloadn C 1 dX5_lookAtPath_32 rfl ?_
        refine r_iald C (hF.k (by decide) rfl) (ixL (n := 600) rfl hi1) dX5_lookAtPath_33 ?_
        refine r_aloadn C 0 dX5_lookAtPath_34 rfl ?_
        refine r_getI C (hF.k (by decide) rfl) fl_5_254 rfl dX5_lookAtPath_35 ?_
        refine r_icmp_eq C dX5_lookAtPath_38 (tgt := 138) (by decide) (fun hc5 => ?_) (fun hc5 => ?_)
        · replace h := h.1 hc5
          refine r_perm [0, 1] rfl ?_
          exact h
        · replace h := h.2 hc5
          refine r_aloadn C 0 dX5_lookAtPath_41 rfl ?_
          refine r_aloadn C 0 dX5_lookAtPath_42 rfl ?_
          refine r_getR C (hF.k (by decide) rfl) fl_5_142 rfl (o := some 67) (hF.mR (by decide) rfl rfl) dX5_lookAtPath_43 ?_
          refine r_iloadn C 1 dX5_lookAtPath_46 rfl ?_
          refine r_iald C (hF.k (by decide) rfl) (ixL (n := 600) rfl hi1) dX5_lookAtPath_47 ?_
          refine r_putI C (hF.k (by decide) rfl) fl_5_254 rfl rfl dX5_lookAtPath_48 ?_
          refine r_aloadn C 0 dX5_lookAtPath_51 rfl ?_
          refine r_iconst C (x := 1) dX5_lookAtPath_52 (by decide) ?_
          refine r_putZ C (hF.k (by decide) rfl) fl_5_235 rfl (Or.inr rfl) rfl dX5_lookAtPath_53 ?_
          refine r_aloadn C 0 dX5_lookAtPath_56 rfl ?_
          refine r_getR C (hF.k (by decide) rfl) fl_5_127 rfl (o := some 62) (hF.mR (by decide) rfl rfl) dX5_lookAtPath_57 ?_
          refine r_iconst C (x := 1) dX5_lookAtPath_60 (by decide) ?_
          refine r_iconst C (x := 1) dX5_lookAtPath_61 (by decide) ?_
          refine r_zast C (hF.k (by decide) rfl) (Or.inr rfl) (ixL (n := 2) rfl (ix_const (x := 1) (n := 2) (k := 1) (by decide) (by decide))) dX5_lookAtPath_62 ?_
          refine r_aloadn C 0 dX5_lookAtPath_63 rfl ?_
          refine r_getR C (hF.k (by decide) rfl) fl_5_130 rfl (o := some 63) (hF.mR (by decide) rfl rfl) dX5_lookAtPath_64 ?_
          refine r_iconst C (x := 1) dX5_lookAtPath_67 (by decide) ?_
          refine r_aloadn C 0 dX5_lookAtPath_68 rfl ?_
          refine r_getI C (hF.k (by decide) rfl) fl_5_254 rfl dX5_lookAtPath_69 ?_
          refine r_iast C (hF.k (by decide) rfl) (ixL (n := 2) rfl (ix_const (x := 1) (n := 2) (k := 1) (by decide) (by decide))) dX5_lookAtPath_72 ?_
          refine r_aloadn C 0 dX5_lookAtPath_73 rfl ?_
          refine r_getR C (hF.k (by decide) rfl) fl_5_79 rfl (o := some 46) (hF.mR (by decide) rfl rfl) dX5_lookAtPath_74 ?_
          refine r_iconst C (x := 1) dX5_lookAtPath_77 (by decide) ?_
          refine r_bipush C (x := 10) dX5_lookAtPath_78 (by decide) ?_
          refine r_aloadn C 0 dX5_lookAtPath_80 rfl ?_
          refine r_getI C (hF.k (by decide) rfl) fl_5_7 rfl dX5_lookAtPath_81 ?_
          refine r_imul C dX5_lookAtPath_84 ?_
          refine r_iast C (hF.k (by decide) rfl) (ixL (n := 2) rfl (ix_const (x := 1) (n := 2) (k := 1) (by decide) (by decide))) dX5_lookAtPath_85 ?_
          refine r_aloadn C 0 dX5_lookAtPath_86 rfl ?_
          refine r_getR C (hF.k (by decide) rfl) fl_5_82 rfl (o := some 47) (hF.mR (by decide) rfl rfl) dX5_lookAtPath_87 ?_
          refine r_iconst C (x := 1) dX5_lookAtPath_90 (by decide) ?_
          refine r_ldc C (x := 1000000) (mB 591 (by decide +kernel) rfl) dX5_lookAtPath_91 ?_
          refine r_iast C (hF.k (by decide) rfl) (ixL (n := 2) rfl (ix_const (x := 1) (n := 2) (k := 1) (by decide) (by decide))) dX5_lookAtPath_93 ?_
          refine r_aloadn C 0 dX5_lookAtPath_94 rfl ?_
          refine r_getR C (hF.k (by decide) rfl) fl_5_85 rfl (o := some 48) (hF.mR (by decide) rfl rfl) dX5_lookAtPath_95 ?_
          refine r_iconst C (x := 1) dX5_lookAtPath_98 (by decide) ?_
          refine r_aloadn C 0 dX5_lookAtPath_99 rfl ?_
          refine r_getI C (hF.k (by decide) rfl) fl_5_251 rfl dX5_lookAtPath_100 ?_
          refine r_iast C (hF.k (by decide) rfl) (ixL (n := 2) rfl (ix_const (x := 1) (n := 2) (k := 1) (by decide) (by decide))) dX5_lookAtPath_103 ?_
          refine r_aloadn C 0 dX5_lookAtPath_104 rfl ?_
          refine r_getR C (hF.k (by decide) rfl) fl_5_88 rfl (o := some 49) (hF.mR (by decide) rfl rfl) dX5_lookAtPath_105 ?_
          refine r_iconst C (x := 1) dX5_lookAtPath_108 (by decide) ?_
          refine r_bipush C (x := (-6)) dX5_lookAtPath_109 (by decide) ?_
          refine r_iast C (hF.k (by decide) rfl) (ixL (n := 2) rfl (ix_const (x := 1) (n := 2) (k := 1) (by decide) (by decide))) dX5_lookAtPath_111 ?_
          refine r_aloadn C 0 dX5_lookAtPath_112 rfl ?_
          refine r_getR C (hF.k (by decide) rfl) fl_5_91 rfl (o := some 50) (hF.mR (by decide) rfl rfl) dX5_lookAtPath_113 ?_
          refine r_iconst C (x := 1) dX5_lookAtPath_116 (by decide) ?_
          refine r_bipush C (x := (-6)) dX5_lookAtPath_117 (by decide) ?_
          refine r_iast C (hF.k (by decide) rfl) (ixL (n := 2) rfl (ix_const (x := 1) (n := 2) (k := 1) (by decide) (by decide))) dX5_lookAtPath_119 ?_
          refine r_aloadn C 0 dX5_lookAtPath_120 rfl ?_
          refine r_getR C (hF.k (by decide) rfl) fl_5_94 rfl (o := some 51) (hF.mR (by decide) rfl rfl) dX5_lookAtPath_121 ?_
          refine r_iconst C (x := 1) dX5_lookAtPath_124 (by decide) ?_
          refine r_bipush C (x := (-6)) dX5_lookAtPath_125 (by decide) ?_
          refine r_iast C (hF.k (by decide) rfl) (ixL (n := 2) rfl (ix_const (x := 1) (n := 2) (k := 1) (by decide) (by decide))) dX5_lookAtPath_127 ?_
          refine r_aloadn C 0 dX5_lookAtPath_128 rfl ?_
          refine r_iconst C (x := 0) dX5_lookAtPath_129 (by decide) ?_
          refine r_putI C (hF.k (by decide) rfl) fl_5_241 rfl rfl dX5_lookAtPath_130 ?_
          refine r_aloadn C 0 dX5_lookAtPath_133 rfl ?_
          refine r_iconst C (x := 0) dX5_lookAtPath_134 (by decide) ?_
          refine r_putI C (hF.k (by decide) rfl) fl_5_238 rfl rfl dX5_lookAtPath_135 ?_
          refine r_perm [0, 1] rfl ?_
          exact h
set_option maxHeartbeats 4000000 in
set_option maxRecDepth 100000 in
theorem s5_lookAtPath_138 {X : Ctx} {S0 S : Sto} {Q : Sto → Prop} (hF : Fx S) (hn : sN S0 ≤ sN S) (O : Ov X K5_lookAtPath S0 Q) {l1 : Int32}   (h : (0 ≤ (l1 : Int32).toInt ∧ (l1 : Int32).toInt < (600 : Nat)) ∧ (∀ w9 : Int32, w9 = (if (gI S 26 46) = 0 then 0 else (if (gI S 73 l1.toNatClampNeg) = 0 then (if (gI S 67 l1.toNatClampNeg) = (gI S 26 45) then (gI S 68 l1.toNatClampNeg) else 0 : Int32) else 0 : Int32) : Int32) → (Q (pI S 26 47 ((gI S 26 47) + w9))))) : WP X 138 [(0, vr 26), (1, vi l1)] [] S 0 0 := by
  have C := O.1
  refine r_aloadn C 0 dX5_lookAtPath_138 rfl ?_
  refine r_dup C rfl dX5_lookAtPath_139 ?_
  refine r_getI C (hF.k (by decide) rfl) fl_5_241 rfl dX5_lookAtPath_140 ?_
  refine r_aloadn C 0 dX5_lookAtPath_143 rfl ?_
  refine r_getI C (hF.k (by decide) rfl) fl_5_235 rfl dX5_lookAtPath_144 ?_
  obtain ⟨hi8, h⟩ := h
  have kJ10 : ∀ (w9 : Int32) (_ : w9 = (if (gI S 26 46) = 0 then 0 else (if (gI S 73 l1.toNatClampNeg) = 0 then (if (gI S 67 l1.toNatClampNeg) = (gI S 26 45) then (gI S 68 l1.toNatClampNeg) else 0 : Int32) else 0 : Int32) : Int32)), WP X 182 [] [vi w9, vi (gI S 26 47), vr 26] S 0 0 := by
    intro w9 hw9
    replace h := h w9 hw9
    refine r_iadd C dX5_lookAtPath_182 ?_
    refine r_putI C (hF.k (by decide) rfl) fl_5_241 rfl rfl dX5_lookAtPath_183 ?_
    exact rv O rfl dX5_lookAtPath_186 (by decide) (by decide) hF hn h
  refine r_if_eq C dX5_lookAtPath_147 (tgt := 181) (by decide) (fun hc11 => ?_) (fun hc11 => ?_)
  · refine r_iconst C (x := 0) dX5_lookAtPath_181 (by decide) ?_
    refine r_perm [] rfl ?_
    exact kJ10 _ (if_pos hc11).symm
  · refine r_aloadn C 0 dX5_lookAtPath_150 rfl ?_
    refine r_getR C (hF.k (by decide) rfl) fl_5_160 rfl (o := some 73) (hF.mR (by decide) rfl rfl) dX5_lookAtPath_151 ?_
    refine r_iloadn C 1 dX5_lookAtPath_154 rfl ?_
    refine r_zald C (hF.k (by decide) rfl) (ixL (n := 600) rfl hi8) dX5_lookAtPath_155 ?_
    have kJ14 : WP X 182 [] [vi (if (gI S 73 l1.toNatClampNeg) = 0 then (if (gI S 67 l1.toNatClampNeg) = (gI S 26 45) then (gI S 68 l1.toNatClampNeg) else 0 : Int32) else 0 : Int32), vi (gI S 26 47), vr 26] S 0 0 := by
      refine r_perm [] rfl ?_
      exact kJ10 _ (if_neg hc11).symm
    refine r_if_ne C dX5_lookAtPath_156 (tgt := 181) (by decide) (fun hc15 => ?_) (fun hc15 => ?_)
    · refine r_iconst C (x := 0) dX5_lookAtPath_181 (by decide) ?_
      refine r_perm [] rfl ?_
      rw [show (if (gI S 73 l1.toNatClampNeg) = 0 then (if (gI S 67 l1.toNatClampNeg) = (gI S 26 45) then (gI S 68 l1.toNatClampNeg) else 0 : Int32) else 0 : Int32) = 0 from if_neg hc15] at kJ14
      exact kJ14
    · refine r_aloadn C 0 dX5_lookAtPath_159 rfl ?_
      refine r_getR C (hF.k (by decide) rfl) fl_5_142 rfl (o := some 67) (hF.mR (by decide) rfl rfl) dX5_lookAtPath_160 ?_
      refine r_iloadn C 1 dX5_lookAtPath_163 rfl ?_
      refine r_iald C (hF.k (by decide) rfl) (ixL (n := 600) rfl hi8) dX5_lookAtPath_164 ?_
      refine r_aloadn C 0 dX5_lookAtPath_165 rfl ?_
      refine r_getI C (hF.k (by decide) rfl) fl_5_254 rfl dX5_lookAtPath_166 ?_
      have kJ16 : WP X 182 [] [vi (if (gI S 67 l1.toNatClampNeg) = (gI S 26 45) then (gI S 68 l1.toNatClampNeg) else 0 : Int32), vi (gI S 26 47), vr 26] S 0 0 := by
        refine r_perm [] rfl ?_
        rw [show (if (gI S 73 l1.toNatClampNeg) = 0 then (if (gI S 67 l1.toNatClampNeg) = (gI S 26 45) then (gI S 68 l1.toNatClampNeg) else 0 : Int32) else 0 : Int32) = (if (gI S 67 l1.toNatClampNeg) = (gI S 26 45) then (gI S 68 l1.toNatClampNeg) else 0 : Int32) from if_pos hc15] at kJ14
        exact kJ14
      refine r_icmp_ne C dX5_lookAtPath_169 (tgt := 181) (by decide) (fun hc17 => ?_) (fun hc17 => ?_)
      · refine r_iconst C (x := 0) dX5_lookAtPath_181 (by decide) ?_
        refine r_perm [] rfl ?_
        rw [show (if (gI S 67 l1.toNatClampNeg) = (gI S 26 45) then (gI S 68 l1.toNatClampNeg) else 0 : Int32) = 0 from if_neg hc17] at kJ16
        exact kJ16
      · refine r_aloadn C 0 dX5_lookAtPath_172 rfl ?_
        refine r_getR C (hF.k (by decide) rfl) fl_5_145 rfl (o := some 68) (hF.mR (by decide) rfl rfl) dX5_lookAtPath_173 ?_
        refine r_iloadn C 1 dX5_lookAtPath_176 rfl ?_
        refine r_iald C (hF.k (by decide) rfl) (ixL (n := 600) rfl hi8) dX5_lookAtPath_177 ?_
        refine r_goto C dX5_lookAtPath_178 (tgt := 182) (by decide) ?_
        refine r_perm [] rfl ?_
        rw [show (if (gI S 67 l1.toNatClampNeg) = (gI S 26 45) then (gI S 68 l1.toNatClampNeg) else 0 : Int32) = (gI S 68 l1.toNatClampNeg) from if_pos hc17] at kJ16
        exact kJ16
set_option maxHeartbeats 4000000 in
set_option maxRecDepth 100000 in
theorem e5_partComes {S : Sto} {Q : Sto → Prop} (hF : Fx S) {p1 : Int32} {p2 : Int32} {p3 : Int32} {p4 : Int32} {p5 : Int32} {p6 : Int32}  (h : (p3 = 1 → (Cv K5_toldComes [vr 26, vi p1, vi p2, vi p6] S (fun S2 => Q S2))) ∧ (p3 = 2 → ((0 ≤ (p4 : Int32).toInt ∧ (p4 : Int32).toInt < (8 : Nat)) ∧ (∀ w4 : Int32, w4 = (if p5 ≤ (gI S 35 p4.toNatClampNeg) then (gI S 35 p4.toNatClampNeg) else p5 : Int32) → (Q (pI S 35 p4.toNatClampNeg w4))))) ∧ (p3 = 3 → ((0 ≤ (p1 : Int32).toInt ∧ (p1 : Int32).toInt < (2 : Nat)) ∧ (∀ w8 : Int32, w8 = (if p5 ≤ (gI S 57 p1.toNatClampNeg) then (gI S 57 p1.toNatClampNeg) else p5 : Int32) → (Q (pI S 57 p1.toNatClampNeg w8))))) ∧ (p3 = 4 → (∀ w11 : Int32, w11 = (if p6 < 10000 then 0 else 1 : Int32) → (Cv K5_bytesCome [vr 26, vi p4, vi p5, vi (p6 - p6 / 10000 * 10000), vi w11] S (fun S14 => Q S14)))) ∧ (p3 = 5 → ((0 ≤ (p4 : Int32).toInt ∧ (p4 : Int32).toInt < (8 : Nat)) ∧ (Q (pI S 43 p4.toNatClampNeg 1)))) ∧ (p3 = 6 → ((0 ≤ (p1 : Int32).toInt ∧ (p1 : Int32).toInt < (2 : Nat)) ∧ (Q (pI (pI S 64 p1.toNatClampNeg 1) 65 p1.toNatClampNeg p5)))) ∧ (p3 = 7 → (∀ w23 : Int32, w23 = (if (gI S 26 46) = 0 then 0 else (if p1 = 0 then 1 else (if p5 = (gI S 26 45) then 0 else 1 : Int32) : Int32) : Int32) → (Q (pI S 26 46 w23)))) ∧ (¬ p3 = 1 → ¬ p3 = 2 → ¬ p3 = 3 → ¬ p3 = 4 → ¬ p3 = 5 → ¬ p3 = 6 → ¬ p3 = 7 → (Q S))) : Cv K5_partComes [vr 26, vi p1, vi p2, vi p3, vi p4, vi p5, vi p6] S Q := by
  refine Cv.intro rfl (Nat.le_of_ble_eq_true rfl) (fun X O => ?_)
  have C := O.1
  have hn : sN S ≤ sN S := Nat.le_refl _
  show WP X 0 [(0, vr 26), (1, vi p1), (2, vi p2), (3, vi p3), (4, vi p4), (5, vi p5), (6, vi p6)] [] S 0 0
  refine r_iloadn C 3 dX5_partComes_0 rfl ?_
  refine r_table C dX5_partComes_1 rfl (by decide) (fun i off hi hx1 => ?_) (fun hx1 => ?_)
  · have hlt : i < 7 := (Array.getElem?_eq_some_iff.mp hi).1
    obtain rfl | rfl | rfl | rfl | rfl | rfl | rfl : i = 0 ∨ i = 1 ∨ i = 2 ∨ i = 3 ∨ i = 4 ∨ i = 5 ∨ i = 6 := by omega
    · obtain rfl := Option.some.inj hi
      replace h := h.1 (hx1.trans (by decide))
      refine ⟨44, by decide, ?_⟩
      refine r_aloadn C 0 dX5_partComes_44 rfl ?_
      refine r_iloadn C 1 dX5_partComes_45 rfl ?_
      refine r_iloadn C 2 dX5_partComes_46 rfl ?_
      refine r_iload C 6 dX5_partComes_47 rfl ?_
      refine r_callVv C K5_toldComes [vi p1, vi p2, vi p6] [] (hF.k (by decide) rfl) (by decide) rfl cl_5_277 rm_5_partComes_5_toldComes ⟨rfl, rfl⟩ (by decide) (by decide) rfl (Nat.le_of_ble_eq_true rfl) dX5_partComes_49 h (fun S2 hF2 hn2 h => ?_)
      refine r_goto C dX5_partComes_52 (tgt := 211) (by decide) ?_
      exact rv O rfl dX5_partComes_211 (by decide) (by decide) hF2 (Nat.le_trans hn hn2) h
    · obtain rfl := Option.some.inj hi
      replace h := h.2.1 (hx1.trans (by decide))
      refine ⟨55, by decide, ?_⟩
      refine r_aloadn C 0 dX5_partComes_55 rfl ?_
      refine r_getR C (hF.k (by decide) rfl) fl_5_45 rfl (o := some 35) (hF.mR (by decide) rfl rfl) dX5_partComes_56 ?_
      refine r_iload C 4 dX5_partComes_59 rfl ?_
      refine r_iload C 5 dX5_partComes_61 rfl ?_
      refine r_aloadn C 0 dX5_partComes_63 rfl ?_
      refine r_getR C (hF.k (by decide) rfl) fl_5_45 rfl (o := some 35) (hF.mR (by decide) rfl rfl) dX5_partComes_64 ?_
      refine r_iload C 4 dX5_partComes_67 rfl ?_
      obtain ⟨hi3, h⟩ := h
      refine r_iald C (hF.k (by decide) rfl) (ixL (n := 8) rfl hi3) dX5_partComes_69 ?_
      have kJ5 : ∀ (w4 : Int32) (_ : w4 = (if p5 ≤ (gI S 35 p4.toNatClampNeg) then (gI S 35 p4.toNatClampNeg) else p5 : Int32)), WP X 85 [] [vi w4, vi p4, vr 35] S 0 0 := by
        intro w4 hw4
        replace h := h w4 hw4
        refine r_iast C (hF.k (by decide) rfl) (ixL (n := 8) rfl hi3) dX5_partComes_85 ?_
        refine r_goto C dX5_partComes_86 (tgt := 211) (by decide) ?_
        exact rv O rfl dX5_partComes_211 (by decide) (by decide) hF hn h
      refine r_icmp_le C dX5_partComes_70 (tgt := 78) (by decide) (fun hc6 => ?_) (fun hc6 => ?_)
      · refine r_aloadn C 0 dX5_partComes_78 rfl ?_
        refine r_getR C (hF.k (by decide) rfl) fl_5_45 rfl (o := some 35) (hF.mR (by decide) rfl rfl) dX5_partComes_79 ?_
        refine r_iload C 4 dX5_partComes_82 rfl ?_
        refine r_iald C (hF.k (by decide) rfl) (ixL (n := 8) rfl hi3) dX5_partComes_84 ?_
        refine r_perm [] rfl ?_
        exact kJ5 _ (if_pos hc6).symm
      · refine r_iload C 5 dX5_partComes_73 rfl ?_
        refine r_goto C dX5_partComes_75 (tgt := 85) (by decide) ?_
        refine r_perm [] rfl ?_
        exact kJ5 _ (if_neg hc6).symm
    · obtain rfl := Option.some.inj hi
      replace h := h.2.2.1 (hx1.trans (by decide))
      refine ⟨89, by decide, ?_⟩
      refine r_aloadn C 0 dX5_partComes_89 rfl ?_
      refine r_getR C (hF.k (by decide) rfl) fl_5_112 rfl (o := some 57) (hF.mR (by decide) rfl rfl) dX5_partComes_90 ?_
      refine r_iloadn C 1 dX5_partComes_93 rfl ?_
      refine r_iload C 5 dX5_partComes_94 rfl ?_
      refine r_aloadn C 0 dX5_partComes_96 rfl ?_
      refine r_getR C (hF.k (by decide) rfl) fl_5_112 rfl (o := some 57) (hF.mR (by decide) rfl rfl) dX5_partComes_97 ?_
      refine r_iloadn C 1 dX5_partComes_100 rfl ?_
      obtain ⟨hi7, h⟩ := h
      refine r_iald C (hF.k (by decide) rfl) (ixL (n := 2) rfl hi7) dX5_partComes_101 ?_
      have kJ9 : ∀ (w8 : Int32) (_ : w8 = (if p5 ≤ (gI S 57 p1.toNatClampNeg) then (gI S 57 p1.toNatClampNeg) else p5 : Int32)), WP X 116 [] [vi w8, vi p1, vr 57] S 0 0 := by
        intro w8 hw8
        replace h := h w8 hw8
        refine r_iast C (hF.k (by decide) rfl) (ixL (n := 2) rfl hi7) dX5_partComes_116 ?_
        refine r_goto C dX5_partComes_117 (tgt := 211) (by decide) ?_
        exact rv O rfl dX5_partComes_211 (by decide) (by decide) hF hn h
      refine r_icmp_le C dX5_partComes_102 (tgt := 110) (by decide) (fun hc10 => ?_) (fun hc10 => ?_)
      · refine r_aloadn C 0 dX5_partComes_110 rfl ?_
        refine r_getR C (hF.k (by decide) rfl) fl_5_112 rfl (o := some 57) (hF.mR (by decide) rfl rfl) dX5_partComes_111 ?_
        refine r_iloadn C 1 dX5_partComes_114 rfl ?_
        refine r_iald C (hF.k (by decide) rfl) (ixL (n := 2) rfl hi7) dX5_partComes_115 ?_
        refine r_perm [] rfl ?_
        exact kJ9 _ (if_pos hc10).symm
      · refine r_iload C 5 dX5_partComes_105 rfl ?_
        refine r_goto C dX5_partComes_107 (tgt := 116) (by decide) ?_
        refine r_perm [] rfl ?_
        exact kJ9 _ (if_neg hc10).symm
    · obtain rfl := Option.some.inj hi
      replace h := h.2.2.2.1 (hx1.trans (by decide))
      refine ⟨120, by decide, ?_⟩
      refine r_aloadn C 0 dX5_partComes_120 rfl ?_
      refine r_iload C 4 dX5_partComes_121 rfl ?_
      refine r_iload C 5 dX5_partComes_123 rfl ?_
      refine r_iload C 6 dX5_partComes_125 rfl ?_
      refine r_sipush C (x := 10000) dX5_partComes_127 (by decide) ?_
      refine r_irem C dX5_partComes_130 (by decide) ?_
      refine r_iload C 6 dX5_partComes_131 rfl ?_
      refine r_sipush C (x := 10000) dX5_partComes_133 (by decide) ?_
      have kJ12 : ∀ (w11 : Int32) (_ : w11 = (if p6 < 10000 then 0 else 1 : Int32)), WP X 144 [] [vi w11, vi (p6 - p6 / 10000 * 10000), vi p5, vi p4, vr 26] S 0 0 := by
        intro w11 hw11
        replace h := h w11 hw11
        have hz_w11 : w11 = 0 ∨ w11 = 1 := by rw [hw11]; repeat (first | exact Or.inl rfl | exact Or.inr rfl | assumption | split)
        refine r_callVv C K5_bytesCome [vi p4, vi p5, vi (p6 - p6 / 10000 * 10000), vi w11] [] (hF.k (by decide) rfl) (by decide) rfl cl_5_281 rm_5_partComes_5_bytesCome ⟨rfl, rfl⟩ (by decide) (by decide) rfl (Nat.le_of_ble_eq_true rfl) dX5_partComes_144 h (fun S14 hF14 hn14 h => ?_)
        refine r_goto C dX5_partComes_147 (tgt := 211) (by decide) ?_
        exact rv O rfl dX5_partComes_211 (by decide) (by decide) hF14 (Nat.le_trans hn hn14) h
      refine r_icmp_lt C dX5_partComes_136 (tgt := 143) (by decide) (fun hc13 => ?_) (fun hc13 => ?_)
      · refine r_iconst C (x := 0) dX5_partComes_143 (by decide) ?_
        refine r_perm [] rfl ?_
        exact kJ12 _ (if_pos hc13).symm
      · refine r_iconst C (x := 1) dX5_partComes_139 (by decide) ?_
        refine r_goto C dX5_partComes_140 (tgt := 144) (by decide) ?_
        refine r_perm [] rfl ?_
        exact kJ12 _ (if_neg hc13).symm
    · obtain rfl := Option.some.inj hi
      replace h := h.2.2.2.2.1 (hx1.trans (by decide))
      refine ⟨150, by decide, ?_⟩
      refine r_aloadn C 0 dX5_partComes_150 rfl ?_
      refine r_getR C (hF.k (by decide) rfl) fl_5_70 rfl (o := some 43) (hF.mR (by decide) rfl rfl) dX5_partComes_151 ?_
      refine r_iload C 4 dX5_partComes_154 rfl ?_
      refine r_iconst C (x := 1) dX5_partComes_156 (by decide) ?_
      obtain ⟨hi15, h⟩ := h
      refine r_zast C (hF.k (by decide) rfl) (Or.inr rfl) (ixL (n := 8) rfl hi15) dX5_partComes_157 ?_
      refine r_goto C dX5_partComes_158 (tgt := 211) (by decide) ?_
      exact rv O rfl dX5_partComes_211 (by decide) (by decide) hF hn h
    · obtain rfl := Option.some.inj hi
      replace h := h.2.2.2.2.2.1 (hx1.trans (by decide))
      refine ⟨161, by decide, ?_⟩
      refine r_aloadn C 0 dX5_partComes_161 rfl ?_
      refine r_getR C (hF.k (by decide) rfl) fl_5_133 rfl (o := some 64) (hF.mR (by decide) rfl rfl) dX5_partComes_162 ?_
      refine r_iloadn C 1 dX5_partComes_165 rfl ?_
      refine r_iconst C (x := 1) dX5_partComes_166 (by decide) ?_
      obtain ⟨hi16, h⟩ := h
      refine r_zast C (hF.k (by decide) rfl) (Or.inr rfl) (ixL (n := 2) rfl hi16) dX5_partComes_167 ?_
      refine r_aloadn C 0 dX5_partComes_168 rfl ?_
      refine r_getR C (hF.k (by decide) rfl) fl_5_136 rfl (o := some 65) (hF.mR (by decide) rfl rfl) dX5_partComes_169 ?_
      refine r_iloadn C 1 dX5_partComes_172 rfl ?_
      refine r_iload C 5 dX5_partComes_173 rfl ?_
      refine r_iast C (hF.k (by decide) rfl) (ixL (n := 2) rfl hi16) dX5_partComes_175 ?_
      refine r_goto C dX5_partComes_176 (tgt := 211) (by decide) ?_
      exact rv O rfl dX5_partComes_211 (by decide) (by decide) hF hn h
    · obtain rfl := Option.some.inj hi
      replace h := h.2.2.2.2.2.2.1 (hx1.trans (by decide))
      refine ⟨179, by decide, ?_⟩
      refine r_aloadn C 0 dX5_partComes_179 rfl ?_
      refine r_aloadn C 0 dX5_partComes_180 rfl ?_
      refine r_getI C (hF.k (by decide) rfl) fl_5_235 rfl dX5_partComes_181 ?_
      have kJ24 : ∀ (w23 : Int32) (_ : w23 = (if (gI S 26 46) = 0 then 0 else (if p1 = 0 then 1 else (if p5 = (gI S 26 45) then 0 else 1 : Int32) : Int32) : Int32)), WP X 205 [] [vi w23, vr 26] S 0 0 := by
        intro w23 hw23
        replace h := h w23 hw23
        have hz_w23 : w23 = 0 ∨ w23 = 1 := by rw [hw23]; repeat (first | exact Or.inl rfl | exact Or.inr rfl | assumption | split)
        refine r_putZ C (hF.k (by decide) rfl) fl_5_235 rfl hz_w23 rfl dX5_partComes_205 ?_
        refine r_goto C dX5_partComes_208 (tgt := 211) (by decide) ?_
        exact rv O rfl dX5_partComes_211 (by decide) (by decide) hF hn h
      refine r_if_eq C dX5_partComes_184 (tgt := 204) (by decide) (fun hc25 => ?_) (fun hc25 => ?_)
      · refine r_iconst C (x := 0) dX5_partComes_204 (by decide) ?_
        refine r_perm [] rfl ?_
        exact kJ24 _ (if_pos hc25).symm
      · refine r_iloadn C 1 dX5_partComes_187 rfl ?_
        have kJ28 : WP X 205 [] [vi (if p1 = 0 then 1 else (if p5 = (gI S 26 45) then 0 else 1 : Int32) : Int32), vr 26] S 0 0 := by
          refine r_perm [] rfl ?_
          exact kJ24 _ (if_neg hc25).symm
        refine r_if_eq C dX5_partComes_188 (tgt := 200) (by decide) (fun hc29 => ?_) (fun hc29 => ?_)
        · refine r_iconst C (x := 1) dX5_partComes_200 (by decide) ?_
          refine r_goto C dX5_partComes_201 (tgt := 205) (by decide) ?_
          refine r_perm [] rfl ?_
          rw [show (if p1 = 0 then 1 else (if p5 = (gI S 26 45) then 0 else 1 : Int32) : Int32) = 1 from if_pos hc29] at kJ28
          exact kJ28
        · refine r_iload C 5 dX5_partComes_191 rfl ?_
          refine r_aloadn C 0 dX5_partComes_193 rfl ?_
          refine r_getI C (hF.k (by decide) rfl) fl_5_254 rfl dX5_partComes_194 ?_
          have kJ30 : WP X 205 [] [vi (if p5 = (gI S 26 45) then 0 else 1 : Int32), vr 26] S 0 0 := by
            refine r_perm [] rfl ?_
            rw [show (if p1 = 0 then 1 else (if p5 = (gI S 26 45) then 0 else 1 : Int32) : Int32) = (if p5 = (gI S 26 45) then 0 else 1 : Int32) from if_neg hc29] at kJ28
            exact kJ28
          refine r_icmp_eq C dX5_partComes_197 (tgt := 204) (by decide) (fun hc31 => ?_) (fun hc31 => ?_)
          · refine r_iconst C (x := 0) dX5_partComes_204 (by decide) ?_
            refine r_perm [] rfl ?_
            rw [show (if p5 = (gI S 26 45) then 0 else 1 : Int32) = 0 from if_pos hc31] at kJ30
            exact kJ30
          · refine r_iconst C (x := 1) dX5_partComes_200 (by decide) ?_
            refine r_goto C dX5_partComes_201 (tgt := 205) (by decide) ?_
            refine r_perm [] rfl ?_
            rw [show (if p5 = (gI S 26 45) then 0 else 1 : Int32) = 1 from if_neg hc31] at kJ30
            exact kJ30
  · replace h := h.2.2.2.2.2.2.2 (fun e => hx1 0 (by decide) (e.trans (by decide))) (fun e => hx1 1 (by decide) (e.trans (by decide))) (fun e => hx1 2 (by decide) (e.trans (by decide))) (fun e => hx1 3 (by decide) (e.trans (by decide))) (fun e => hx1 4 (by decide) (e.trans (by decide))) (fun e => hx1 5 (by decide) (e.trans (by decide))) (fun e => hx1 6 (by decide) (e.trans (by decide)))
    refine ⟨211, by decide, ?_⟩
    exact rv O rfl dX5_partComes_211 (by decide) (by decide) hF hn h
set_option maxHeartbeats 4000000 in
set_option maxRecDepth 100000 in
theorem e5_bytesCome {S : Sto} {Q : Sto → Prop} (hF : Fx S) {p1 : Int32} {p2 : Int32} {p3 : Int32} {p4 : Int32}  (h : ∀ X : Ctx, Ov X K5_bytesCome S Q → WP X 3 [(0, vr 26), (1, vi p1), (2, vi p2), (3, vi p3), (4, vi p4), (5, vi 0)] [] S 0 0) : Cv K5_bytesCome [vr 26, vi p1, vi p2, vi p3, vi p4] S Q := by
  refine Cv.intro rfl (Nat.le_of_ble_eq_true rfl) (fun X O => ?_)
  replace h := h X O
  have C := O.1
  have hn : sN S ≤ sN S := Nat.le_refl _
  show WP X 0 [(0, vr 26), (1, vi p1), (2, vi p2), (3, vi p3), (4, vi p4)] [] S 0 0
  refine r_iconst C (x := 0) dX5_bytesCome_0 (by decide) ?_
  refine r_istore C dX5_bytesCome_1 (by decide) rfl rfl ?_
  refine r_perm [1, 2, 3, 4, 5, 0] rfl ?_
  exact h
set_option maxHeartbeats 4000000 in
set_option maxRecDepth 100000 in
theorem s5_bytesCome_3 {X : Ctx} {S0 S : Sto} {Q : Sto → Prop} (hF : Fx S) (hn : sN S0 ≤ sN S) (O : Ov X K5_bytesCome S0 Q) {l1 : Int32} {l2 : Int32} {l3 : Int32} {l4 : Int32} {l5 : Int32}   (h : (l3 ≤ l5 → (WP X 31 [(0, vr 26), (1, vi l1), (2, vi l2), (3, vi l3), (4, vi l4)] [] S 0 0)) ∧ (¬ l3 ≤ l5 → ((0 ≤ ((((1000 * l1) + l2) + l5) : Int32).toInt ∧ ((((1000 * l1) + l2) + l5) : Int32).toInt < (8000 : Nat)) ∧ (WP X 3 [(0, vr 26), (1, vi l1), (2, vi l2), (3, vi l3), (4, vi l4), (5, vi (l5 + 1))] [] (pI S 37 (((1000 * l1) + l2) + l5).toNatClampNeg 1) 0 0)))) : WP X 3 [(0, vr 26), (1, vi l1), (2, vi l2), (3, vi l3), (4, vi l4), (5, vi l5)] [] S 0 0 := by
  have C := O.1
  refine r_iload C 5 dX5_bytesCome_3 rfl ?_
  refine r_iloadn C 3 dX5_bytesCome_5 rfl ?_
  refine r_icmp_ge C dX5_bytesCome_6 (tgt := 31) (by decide) (fun hc1 => ?_) (fun hc1 => ?_)
  · replace h := h.1 hc1
    refine r_perm [0, 1, 2, 3, 4] rfl ?_
    exact h
  · replace h := h.2 hc1
    refine r_aloadn C 0 dX5_bytesCome_9 rfl ?_
    refine r_getR C (hF.k (by decide) rfl) fl_5_52 rfl (o := some 37) (hF.mR (by decide) rfl rfl) dX5_bytesCome_10 ?_
    refine r_sipush C (x := 1000) dX5_bytesCome_13 (by decide) ?_
    refine r_iloadn C 1 dX5_bytesCome_16 rfl ?_
    refine r_imul C dX5_bytesCome_17 ?_
    refine r_iloadn C 2 dX5_bytesCome_18 rfl ?_
    refine r_iadd C dX5_bytesCome_19 ?_
    refine r_iload C 5 dX5_bytesCome_20 rfl ?_
    refine r_iadd C dX5_bytesCome_22 ?_
    refine r_iconst C (x := 1) dX5_bytesCome_23 (by decide) ?_
    obtain ⟨hi2, h⟩ := h
    refine r_zast C (hF.k (by decide) rfl) (Or.inr rfl) (ixL (n := 8000) rfl hi2) dX5_bytesCome_24 ?_
    refine r_iinc C (y := (l5 + 1)) 5 dX5_bytesCome_25 rfl rfl (by decide) rfl rfl ?_
    refine r_goto C dX5_bytesCome_28 (tgt := 3) (by decide) ?_
    refine r_perm [1, 2, 3, 4, 5, 0] rfl ?_
    exact h
set_option maxHeartbeats 4000000 in
set_option maxRecDepth 100000 in
theorem s5_bytesCome_31 {X : Ctx} {S0 S : Sto} {Q : Sto → Prop} (hF : Fx S) (hn : sN S0 ≤ sN S) (O : Ov X K5_bytesCome S0 Q) {l1 : Int32} {l2 : Int32} {l3 : Int32} {l4 : Int32}   (h : (0 ≤ (l1 : Int32).toInt ∧ (l1 : Int32).toInt < (8 : Nat)) ∧ ((1000 ≤ (gI S 38 l1.toNatClampNeg) → (∀ w4 : Int32, w4 = (if l4 = 0 then (gI S 42 l1.toNatClampNeg) else (l2 + l3) : Int32) → (Q (pI S 42 l1.toNatClampNeg w4)))) ∧ (¬ 1000 ≤ (gI S 38 l1.toNatClampNeg) → ((0 ≤ (((1000 * l1) + (gI S 38 l1.toNatClampNeg)) : Int32).toInt ∧ (((1000 * l1) + (gI S 38 l1.toNatClampNeg)) : Int32).toInt < (8000 : Nat)) ∧ (((gI S 37 ((1000 * l1) + (gI S 38 l1.toNatClampNeg)).toNatClampNeg) = 0 → (∀ w9 : Int32, w9 = (if l4 = 0 then (gI S 42 l1.toNatClampNeg) else (l2 + l3) : Int32) → (Q (pI S 42 l1.toNatClampNeg w9)))) ∧ (¬ (gI S 37 ((1000 * l1) + (gI S 38 l1.toNatClampNeg)).toNatClampNeg) = 0 → (WP X 31 [(0, vr 26), (1, vi l1), (2, vi l2), (3, vi l3), (4, vi l4)] [] (pI S 38 l1.toNatClampNeg ((gI S 38 l1.toNatClampNeg) + 1)) 0 0))))))) : WP X 31 [(0, vr 26), (1, vi l1), (2, vi l2), (3, vi l3), (4, vi l4)] [] S 0 0 := by
  have C := O.1
  refine r_aloadn C 0 dX5_bytesCome_31 rfl ?_
  refine r_getR C (hF.k (by decide) rfl) fl_5_55 rfl (o := some 38) (hF.mR (by decide) rfl rfl) dX5_bytesCome_32 ?_
  refine r_iloadn C 1 dX5_bytesCome_35 rfl ?_
  obtain ⟨hi1, h⟩ := h
  refine r_iald C (hF.k (by decide) rfl) (ixL (n := 8) rfl hi1) dX5_bytesCome_36 ?_
  refine r_sipush C (x := 1000) dX5_bytesCome_37 (by decide) ?_
  refine r_icmp_ge C dX5_bytesCome_40 (tgt := 76) (by decide) (fun hc3 => ?_) (fun hc3 => ?_)
  · replace h := h.1 hc3
    refine r_aloadn C 0 dX5_bytesCome_76 rfl ?_
    refine r_getR C (hF.k (by decide) rfl) fl_5_67 rfl (o := some 42) (hF.mR (by decide) rfl rfl) dX5_bytesCome_77 ?_
    refine r_iloadn C 1 dX5_bytesCome_80 rfl ?_
    refine r_iload C 4 dX5_bytesCome_81 rfl ?_
    have kJ5 : ∀ (w4 : Int32) (_ : w4 = (if l4 = 0 then (gI S 42 l1.toNatClampNeg) else (l2 + l3) : Int32)), WP X 98 [] [vi w4, vi l1, vr 42] S 0 0 := by
      intro w4 hw4
      replace h := h w4 hw4
      refine r_iast C (hF.k (by decide) rfl) (ixL (n := 8) rfl hi1) dX5_bytesCome_98 ?_
      exact rv O rfl dX5_bytesCome_99 (by decide) (by decide) hF hn h
    refine r_if_eq C dX5_bytesCome_83 (tgt := 92) (by decide) (fun hc6 => ?_) (fun hc6 => ?_)
    · refine r_aloadn C 0 dX5_bytesCome_92 rfl ?_
      refine r_getR C (hF.k (by decide) rfl) fl_5_67 rfl (o := some 42) (hF.mR (by decide) rfl rfl) dX5_bytesCome_93 ?_
      refine r_iloadn C 1 dX5_bytesCome_96 rfl ?_
      refine r_iald C (hF.k (by decide) rfl) (ixL (n := 8) rfl hi1) dX5_bytesCome_97 ?_
      refine r_perm [] rfl ?_
      exact kJ5 _ (if_pos hc6).symm
    · refine r_iloadn C 2 dX5_bytesCome_86 rfl ?_
      refine r_iloadn C 3 dX5_bytesCome_87 rfl ?_
      refine r_iadd C dX5_bytesCome_88 ?_
      refine r_goto C dX5_bytesCome_89 (tgt := 98) (by decide) ?_
      refine r_perm [] rfl ?_
      exact kJ5 _ (if_neg hc6).symm
  · replace h := h.2 hc3
    refine r_aloadn C 0 dX5_bytesCome_43 rfl ?_
    refine r_getR C (hF.k (by decide) rfl) fl_5_52 rfl (o := some 37) (hF.mR (by decide) rfl rfl) dX5_bytesCome_44 ?_
    refine r_sipush C (x := 1000) dX5_bytesCome_47 (by decide) ?_
    refine r_iloadn C 1 dX5_bytesCome_50 rfl ?_
    refine r_imul C dX5_bytesCome_51 ?_
    refine r_aloadn C 0 dX5_bytesCome_52 rfl ?_
    refine r_getR C (hF.k (by decide) rfl) fl_5_55 rfl (o := some 38) (hF.mR (by decide) rfl rfl) dX5_bytesCome_53 ?_
    refine r_iloadn C 1 dX5_bytesCome_56 rfl ?_
    refine r_iald C (hF.k (by decide) rfl) (ixL (n := 8) rfl hi1) dX5_bytesCome_57 ?_
    refine r_iadd C dX5_bytesCome_58 ?_
    obtain ⟨hi7, h⟩ := h
    refine r_zald C (hF.k (by decide) rfl) (ixL (n := 8000) rfl hi7) dX5_bytesCome_59 ?_
    refine r_if_eq C dX5_bytesCome_60 (tgt := 76) (by decide) (fun hc8 => ?_) (fun hc8 => ?_)
    · replace h := h.1 hc8
      refine r_aloadn C 0 dX5_bytesCome_76 rfl ?_
      refine r_getR C (hF.k (by decide) rfl) fl_5_67 rfl (o := some 42) (hF.mR (by decide) rfl rfl) dX5_bytesCome_77 ?_
      refine r_iloadn C 1 dX5_bytesCome_80 rfl ?_
      refine r_iload C 4 dX5_bytesCome_81 rfl ?_
      have kJ10 : ∀ (w9 : Int32) (_ : w9 = (if l4 = 0 then (gI S 42 l1.toNatClampNeg) else (l2 + l3) : Int32)), WP X 98 [] [vi w9, vi l1, vr 42] S 0 0 := by
        intro w9 hw9
        replace h := h w9 hw9
        refine r_iast C (hF.k (by decide) rfl) (ixL (n := 8) rfl hi1) dX5_bytesCome_98 ?_
        exact rv O rfl dX5_bytesCome_99 (by decide) (by decide) hF hn h
      refine r_if_eq C dX5_bytesCome_83 (tgt := 92) (by decide) (fun hc11 => ?_) (fun hc11 => ?_)
      · refine r_aloadn C 0 dX5_bytesCome_92 rfl ?_
        refine r_getR C (hF.k (by decide) rfl) fl_5_67 rfl (o := some 42) (hF.mR (by decide) rfl rfl) dX5_bytesCome_93 ?_
        refine r_iloadn C 1 dX5_bytesCome_96 rfl ?_
        refine r_iald C (hF.k (by decide) rfl) (ixL (n := 8) rfl hi1) dX5_bytesCome_97 ?_
        refine r_perm [] rfl ?_
        exact kJ10 _ (if_pos hc11).symm
      · refine r_iloadn C 2 dX5_bytesCome_86 rfl ?_
        refine r_iloadn C 3 dX5_bytesCome_87 rfl ?_
        refine r_iadd C dX5_bytesCome_88 ?_
        refine r_goto C dX5_bytesCome_89 (tgt := 98) (by decide) ?_
        refine r_perm [] rfl ?_
        exact kJ10 _ (if_neg hc11).symm
    · replace h := h.2 hc8
      refine r_aloadn C 0 dX5_bytesCome_63 rfl ?_
      refine r_getR C (hF.k (by decide) rfl) fl_5_55 rfl (o := some 38) (hF.mR (by decide) rfl rfl) dX5_bytesCome_64 ?_
      refine r_iloadn C 1 dX5_bytesCome_67 rfl ?_
      refine r_dup2 C rfl rfl dX5_bytesCome_68 ?_
      refine r_iald C (hF.k (by decide) rfl) (ixL (n := 8) rfl hi1) dX5_bytesCome_69 ?_
      refine r_iconst C (x := 1) dX5_bytesCome_70 (by decide) ?_
      refine r_iadd C dX5_bytesCome_71 ?_
      refine r_iast C (hF.k (by decide) rfl) (ixL (n := 8) rfl hi1) dX5_bytesCome_72 ?_
      refine r_goto C dX5_bytesCome_73 (tgt := 31) (by decide) ?_
      refine r_perm [0, 1, 2, 3, 4] rfl ?_
      exact h
set_option maxHeartbeats 4000000 in
set_option maxRecDepth 100000 in
theorem e5_toldComes {S : Sto} {Q : Sto → Prop} (hF : Fx S) {p1 : Int32} {p2 : Int32} {p3 : Int32}  (h : ∀ X : Ctx, Ov X K5_toldComes S Q → WP X 3 [(0, vr 26), (1, vi p1), (2, vi p2), (3, vi p3), (4, vi 0)] [] S 0 0) : Cv K5_toldComes [vr 26, vi p1, vi p2, vi p3] S Q := by
  refine Cv.intro rfl (Nat.le_of_ble_eq_true rfl) (fun X O => ?_)
  replace h := h X O
  have C := O.1
  have hn : sN S ≤ sN S := Nat.le_refl _
  show WP X 0 [(0, vr 26), (1, vi p1), (2, vi p2), (3, vi p3)] [] S 0 0
  refine r_iconst C (x := 0) dX5_toldComes_0 (by decide) ?_
  refine r_istore C dX5_toldComes_1 (by decide) rfl rfl ?_
  refine r_perm [1, 2, 3, 4, 0] rfl ?_
  exact h
set_option maxHeartbeats 4000000 in
set_option maxRecDepth 100000 in
theorem s5_toldComes_3 {X : Ctx} {S0 S : Sto} {Q : Sto → Prop} (hF : Fx S) (hn : sN S0 ≤ sN S) (O : Ov X K5_toldComes S0 Q) {l1 : Int32} {l2 : Int32} {l3 : Int32} {l4 : Int32}   (h : (300 ≤ l4 → (WP X 28 [(0, vr 26), (1, vi l1), (2, vi l2), (3, vi l3), (4, vi 0)] [] S 0 0)) ∧ (¬ 300 ≤ l4 → ((0 ≤ (l4 : Int32).toInt ∧ (l4 : Int32).toInt < (300 : Nat)) ∧ (WP X 3 [(0, vr 26), (1, vi l1), (2, vi l2), (3, vi l3), (4, vi (l4 + 1))] [] (pI S 78 l4.toNatClampNeg 0) 0 0)))) : WP X 3 [(0, vr 26), (1, vi l1), (2, vi l2), (3, vi l3), (4, vi l4)] [] S 0 0 := by
  have C := O.1
  refine r_iload C 4 dX5_toldComes_3 rfl ?_
  refine r_sipush C (x := 300) dX5_toldComes_5 (by decide) ?_
  refine r_icmp_ge C dX5_toldComes_8 (tgt := 25) (by decide) (fun hc1 => ?_) (fun hc1 => ?_)
  · replace h := h.1 hc1
    refine r_iconst C (x := 0) dX5_toldComes_25 (by decide) ?_
    refine r_istore C dX5_toldComes_26 (by decide) rfl rfl ?_
    refine r_perm [1, 2, 3, 4, 0] rfl ?_
    exact h
  · replace h := h.2 hc1
    refine r_aloadn C 0 dX5_toldComes_11 rfl ?_
    refine r_getR C (hF.k (by decide) rfl) fl_5_176 rfl (o := some 78) (hF.mR (by decide) rfl rfl) dX5_toldComes_12 ?_
    refine r_iload C 4 dX5_toldComes_15 rfl ?_
    refine r_iconst C (x := 0) dX5_toldComes_17 (by decide) ?_
    obtain ⟨hi2, h⟩ := h
    refine r_zast C (hF.k (by decide) rfl) (Or.inl rfl) (ixL (n := 300) rfl hi2) dX5_toldComes_18 ?_
    refine r_iinc C (y := (l4 + 1)) 4 dX5_toldComes_19 rfl rfl (by decide) rfl rfl ?_
    refine r_goto C dX5_toldComes_22 (tgt := 3) (by decide) ?_
    refine r_perm [1, 2, 3, 4, 0] rfl ?_
    exact h
set_option maxHeartbeats 4000000 in
set_option maxRecDepth 100000 in
theorem s5_toldComes_28 {X : Ctx} {S0 S : Sto} {Q : Sto → Prop} (hF : Fx S) (hn : sN S0 ≤ sN S) (O : Ov X K5_toldComes S0 Q) {l1 : Int32} {l2 : Int32} {l3 : Int32} {l4 : Int32}   (h : (l3 ≤ l4 → ((0 ≤ (((8 * l2) + 1) : Int32).toInt ∧ (((8 * l2) + 1) : Int32).toInt < (4800 : Nat)) ∧ (WP X 129 [(0, vr 26), (1, vi l1), (4, vi 0), (5, vi (gI S 75 ((8 * l2) + 1).toNatClampNeg)), (6, vi 0)] [] S 0 0))) ∧ (¬ l3 ≤ l4 → ((0 ≤ (((8 * l2) + (2 * l4)) : Int32).toInt ∧ (((8 * l2) + (2 * l4)) : Int32).toInt < (4800 : Nat)) ∧ (WP X 50 [(0, vr 26), (1, vi l1), (2, vi l2), (3, vi l3), (4, vi l4), (5, vi (gI S 75 ((8 * l2) + (2 * l4)).toNatClampNeg))] [] S 0 0)))) : WP X 28 [(0, vr 26), (1, vi l1), (2, vi l2), (3, vi l3), (4, vi l4)] [] S 0 0 := by
  have C := O.1
  refine r_iload C 4 dX5_toldComes_28 rfl ?_
  refine r_iloadn C 3 dX5_toldComes_30 rfl ?_
  refine r_icmp_ge C dX5_toldComes_31 (tgt := 110) (by decide) (fun hc2 => ?_) (fun hc2 => ?_)
  · replace h := h.1 hc2
    refine r_iconst C (x := 0) dX5_toldComes_110 (by decide) ?_
    refine r_istore C dX5_toldComes_111 (by decide) rfl rfl ?_
    refine r_aloadn C 1 dX5_toldComes_113 rfl ?_
    refine r_getR C (hF.k (by decide) rfl) fl_5_167 rfl (o := some 75) (hF.mR (by decide) rfl rfl) dX5_toldComes_114 ?_
    refine r_bipush C (x := 8) dX5_toldComes_117 (by decide) ?_
    refine r_iloadn C 3 dX5_toldComes_119 rfl ?_
    refine r_imul C dX5_toldComes_120 ?_
    refine r_iconst C (x := 1) dX5_toldComes_121 (by decide) ?_
    refine r_iadd C dX5_toldComes_122 ?_
    obtain ⟨hi3, h⟩ := h
    refine r_iald C (hF.k (by decide) rfl) (ixL (n := 4800) rfl hi3) dX5_toldComes_123 ?_
    refine r_istore C dX5_toldComes_124 (by decide) rfl rfl ?_
    refine r_iconst C (x := 0) dX5_toldComes_126 (by decide) ?_
    refine r_istore C dX5_toldComes_127 (by decide) rfl rfl ?_
    refine r_perm [3, 4, 2, 1, 0] rfl ?_
    exact h
  · replace h := h.2 hc2
    refine r_aloadn C 0 dX5_toldComes_34 rfl ?_
    refine r_getR C (hF.k (by decide) rfl) fl_5_167 rfl (o := some 75) (hF.mR (by decide) rfl rfl) dX5_toldComes_35 ?_
    refine r_bipush C (x := 8) dX5_toldComes_38 (by decide) ?_
    refine r_iloadn C 2 dX5_toldComes_40 rfl ?_
    refine r_imul C dX5_toldComes_41 ?_
    refine r_iconst C (x := 2) dX5_toldComes_42 (by decide) ?_
    refine r_iload C 4 dX5_toldComes_43 rfl ?_
    refine r_imul C dX5_toldComes_45 ?_
    refine r_iadd C dX5_toldComes_46 ?_
    obtain ⟨hi4, h⟩ := h
    refine r_iald C (hF.k (by decide) rfl) (ixL (n := 4800) rfl hi4) dX5_toldComes_47 ?_
    refine r_istore C dX5_toldComes_48 (by decide) rfl rfl ?_
    refine r_perm [1, 2, 3, 4, 5, 0] rfl ?_
    exact h
set_option maxHeartbeats 4000000 in
set_option maxRecDepth 100000 in
theorem s5_toldComes_50 {X : Ctx} {S0 S : Sto} {Q : Sto → Prop} (hF : Fx S) (hn : sN S0 ≤ sN S) (O : Ov X K5_toldComes S0 Q) {l1 : Int32} {l2 : Int32} {l3 : Int32} {l4 : Int32} {l5 : Int32}   (h : (0 ≤ ((((8 * l2) + (2 * l4)) + 1) : Int32).toInt ∧ ((((8 * l2) + (2 * l4)) + 1) : Int32).toInt < (4800 : Nat)) ∧ (((gI S 75 (((8 * l2) + (2 * l4)) + 1).toNatClampNeg) < l5 → (WP X 28 [(0, vr 26), (1, vi l1), (2, vi l2), (3, vi l3), (4, vi (l4 + 1))] [] S 0 0)) ∧ (¬ (gI S 75 (((8 * l2) + (2 * l4)) + 1).toNatClampNeg) < l5 → ((0 ≤ (((300 * l1) + l5) : Int32).toInt ∧ (((300 * l1) + l5) : Int32).toInt < (600 : Nat)) ∧ (∀ w9 : Int32, w9 = (if (gI S 71 ((300 * l1) + l5).toNatClampNeg) = 0 then 1 else 0 : Int32) → ((0 ≤ (l5 : Int32).toInt ∧ (l5 : Int32).toInt < (300 : Nat)) ∧ (WP X 50 [(0, vr 26), (1, vi l1), (2, vi l2), (3, vi l3), (4, vi l4), (5, vi (l5 + 1))] [] (pI S 78 l5.toNatClampNeg w9) 0 0))))))) : WP X 50 [(0, vr 26), (1, vi l1), (2, vi l2), (3, vi l3), (4, vi l4), (5, vi l5)] [] S 0 0 := by
  have C := O.1
  refine r_iload C 5 dX5_toldComes_50 rfl ?_
  refine r_aloadn C 0 dX5_toldComes_52 rfl ?_
  refine r_getR C (hF.k (by decide) rfl) fl_5_167 rfl (o := some 75) (hF.mR (by decide) rfl rfl) dX5_toldComes_53 ?_
  refine r_bipush C (x := 8) dX5_toldComes_56 (by decide) ?_
  refine r_iloadn C 2 dX5_toldComes_58 rfl ?_
  refine r_imul C dX5_toldComes_59 ?_
  refine r_iconst C (x := 2) dX5_toldComes_60 (by decide) ?_
  refine r_iload C 4 dX5_toldComes_61 rfl ?_
  refine r_imul C dX5_toldComes_63 ?_
  refine r_iadd C dX5_toldComes_64 ?_
  refine r_iconst C (x := 1) dX5_toldComes_65 (by decide) ?_
  refine r_iadd C dX5_toldComes_66 ?_
  obtain ⟨hi1, h⟩ := h
  refine r_iald C (hF.k (by decide) rfl) (ixL (n := 4800) rfl hi1) dX5_toldComes_67 ?_
  refine r_icmp_gt C dX5_toldComes_68 (tgt := 104) (by decide) (fun hc6 => ?_) (fun hc6 => ?_)
  · replace h := h.1 hc6
    refine r_iinc C (y := (l4 + 1)) 4 dX5_toldComes_104 rfl rfl (by decide) rfl rfl ?_
    refine r_goto C dX5_toldComes_107 (tgt := 28) (by decide) ?_
    refine r_perm [1, 2, 3, 4, 0] rfl ?_
    exact h
  · replace h := h.2 hc6
    refine r_aloadn C 0 dX5_toldComes_71 rfl ?_
    refine r_getR C (hF.k (by decide) rfl) fl_5_176 rfl (o := some 78) (hF.mR (by decide) rfl rfl) dX5_toldComes_72 ?_
    refine r_iload C 5 dX5_toldComes_75 rfl ?_
    refine r_aloadn C 0 dX5_toldComes_77 rfl ?_
    refine r_getR C (hF.k (by decide) rfl) fl_5_154 rfl (o := some 71) (hF.mR (by decide) rfl rfl) dX5_toldComes_78 ?_
    refine r_aloadn C 0 dX5_toldComes_81 rfl ?_
    refine r_iloadn C 1 dX5_toldComes_82 rfl ?_
    refine r_iload C 5 dX5_toldComes_83 rfl ?_
    refine r_callVi C K5_at [vi l1, vi l5] [vr 71, vi l5, vr 78] (hF.k (by decide) rfl) (by decide) rfl cl_5_215 rm_5_toldComes_5_at ⟨rfl, rfl⟩ (by decide) (by decide) rfl (Nat.le_of_ble_eq_true rfl) dX5_toldComes_85 (q5_at (S := S) hF) (fun x7 _ _ _ hq => ?_)
    obtain ⟨hqa, hqb⟩ := hq; obtain rfl := hqa.symm; obtain rfl := hqb.symm
    obtain ⟨hi8, h⟩ := h
    refine r_zald C (hF.k (by decide) rfl) (ixL (n := 600) rfl hi8) dX5_toldComes_88 ?_
    have kJ10 : ∀ (w9 : Int32) (_ : w9 = (if (gI S 71 ((300 * l1) + l5).toNatClampNeg) = 0 then 1 else 0 : Int32)), WP X 97 [(0, vr 26), (1, vi l1), (2, vi l2), (3, vi l3), (4, vi l4), (5, vi l5)] [vi w9, vi l5, vr 78] S 0 0 := by
      intro w9 hw9
      replace h := h w9 hw9
      have hz_w9 : w9 = 0 ∨ w9 = 1 := by rw [hw9]; repeat (first | exact Or.inl rfl | exact Or.inr rfl | assumption | split)
      obtain ⟨hi12, h⟩ := h
      refine r_zast C (hF.k (by decide) rfl) hz_w9 (ixL (n := 300) rfl hi12) dX5_toldComes_97 ?_
      refine r_iinc C (y := (l5 + 1)) 5 dX5_toldComes_98 rfl rfl (by decide) rfl rfl ?_
      refine r_goto C dX5_toldComes_101 (tgt := 50) (by decide) ?_
      refine r_perm [1, 2, 3, 4, 5, 0] rfl ?_
      exact h
    refine r_if_ne C dX5_toldComes_89 (tgt := 96) (by decide) (fun hc11 => ?_) (fun hc11 => ?_)
    · refine r_iconst C (x := 0) dX5_toldComes_96 (by decide) ?_
      refine r_perm [0, 1, 2, 3, 4, 5] rfl ?_
      exact kJ10 _ (if_neg hc11).symm
    · refine r_iconst C (x := 1) dX5_toldComes_92 (by decide) ?_
      refine r_goto C dX5_toldComes_93 (tgt := 97) (by decide) ?_
      refine r_perm [0, 1, 2, 3, 4, 5] rfl ?_
      exact kJ10 _ (if_pos hc11).symm
set_option maxHeartbeats 4000000 in
set_option maxRecDepth 100000 in
theorem s5_toldComes_129 {X : Ctx} {S0 S : Sto} {Q : Sto → Prop} (hF : Fx S) (hn : sN S0 ≤ sN S) (O : Ov X K5_toldComes S0 Q) {l1 : Int32} {l4 : Int32} {l5 : Int32} {l6 : Int32}   (h : (0 ≤ (l1 : Int32).toInt ∧ (l1 : Int32).toInt < (2 : Nat)) ∧ (((gI S 44 l1.toNatClampNeg) ≤ l6 → (∀ w5 : Int32, w5 = (if l5 ≤ (gI S 54 l1.toNatClampNeg) then (gI S 54 l1.toNatClampNeg) else l5 : Int32) → ((0 ≤ (l5 : Int32).toInt ∧ (l5 : Int32).toInt < (300 : Nat)) ∧ (((gI S 78 l5.toNatClampNeg) = 0 → (WP X 319 [(0, vr 26), (1, vi l1), (4, vi l4), (6, vi 0)] [] (pI S 54 l1.toNatClampNeg w5) 0 0)) ∧ (¬ (gI S 78 l5.toNatClampNeg) = 0 → ((0 ≤ (((300 * l1) + l5) : Int32).toInt ∧ (((300 * l1) + l5) : Int32).toInt < (600 : Nat)) ∧ (((gI S 70 ((300 * l1) + l5).toNatClampNeg) = 0 → (WP X 319 [(0, vr 26), (1, vi l1), (4, vi l4), (6, vi 0)] [] (pI S 54 l1.toNatClampNeg w5) 0 0)) ∧ (¬ (gI S 70 ((300 * l1) + l5).toNatClampNeg) = 0 → (Cv K5_measure [vr 26, vi l1, vi ((gI S 26 3) - (gI S 66 ((300 * l1) + l5).toNatClampNeg))] (pI S 54 l1.toNatClampNeg w5) (fun S18 => WP X 319 [(0, vr 26), (1, vi l1), (4, vi l4), (6, vi 0)] [] S18 0 0)))))))))) ∧ (¬ (gI S 44 l1.toNatClampNeg) ≤ l6 → ((0 ≤ (l6 : Int32).toInt ∧ (l6 : Int32).toInt < (300 : Nat)) ∧ (((gI S 78 l6.toNatClampNeg) = 0 → (WP X 129 [(0, vr 26), (1, vi l1), (4, vi l4), (5, vi l5), (6, vi (l6 + 1))] [] S 0 0)) ∧ (¬ (gI S 78 l6.toNatClampNeg) = 0 → ((0 ≤ (((300 * l1) + l6) : Int32).toInt ∧ (((300 * l1) + l6) : Int32).toInt < (600 : Nat)) ∧ (Cv K5_arrives [vr 26, vi ((300 * l1) + l6)] (pI S 71 ((300 * l1) + l6).toNatClampNeg 1) (fun S24 => ∀ w27 : Int32, w27 = (if l4 = 0 then (if (gI S24 70 ((300 * l1) + l6).toNatClampNeg) = 0 then 0 else 1 : Int32) else 1 : Int32) → (∀ w32 : Int32, w32 = (if (gI S24 70 ((300 * l1) + l6).toNatClampNeg) = 0 then 0 else (if (gI S24 72 ((300 * l1) + l6).toNatClampNeg) = 0 then (gI S24 68 ((300 * l1) + l6).toNatClampNeg) else 0 : Int32) : Int32) → (WP X 129 [(0, vr 26), (1, vi l1), (4, vi w27), (5, vi l5), (6, vi (l6 + 1))] [] (pI S24 45 l1.toNatClampNeg ((gI S24 45 l1.toNatClampNeg) - w32)) 0 0))))))))))) : WP X 129 [(0, vr 26), (1, vi l1), (4, vi l4), (5, vi l5), (6, vi l6)] [] S 0 0 := by
  have C := O.1
  refine r_iload C 4 dX5_toldComes_129 rfl ?_
  refine r_aloadn C 0 dX5_toldComes_131 rfl ?_
  refine r_getR C (hF.k (by decide) rfl) fl_5_73 rfl (o := some 44) (hF.mR (by decide) rfl rfl) dX5_toldComes_132 ?_
  refine r_iloadn C 1 dX5_toldComes_135 rfl ?_
  obtain ⟨hi1, h⟩ := h
  refine r_iald C (hF.k (by decide) rfl) (ixL (n := 2) rfl hi1) dX5_toldComes_136 ?_
  refine r_icmp_ge C dX5_toldComes_137 (tgt := 241) (by decide) (fun hc4 => ?_) (fun hc4 => ?_)
  · replace h := h.1 hc4
    refine r_aloadn C 0 dX5_toldComes_241 rfl ?_
    refine r_getR C (hF.k (by decide) rfl) fl_5_103 rfl (o := some 54) (hF.mR (by decide) rfl rfl) dX5_toldComes_242 ?_
    refine r_iloadn C 1 dX5_toldComes_245 rfl ?_
    refine r_iload C 3 dX5_toldComes_246 rfl ?_
    refine r_aloadn C 0 dX5_toldComes_248 rfl ?_
    refine r_getR C (hF.k (by decide) rfl) fl_5_103 rfl (o := some 54) (hF.mR (by decide) rfl rfl) dX5_toldComes_249 ?_
    refine r_iloadn C 1 dX5_toldComes_252 rfl ?_
    refine r_iald C (hF.k (by decide) rfl) (ixL (n := 2) rfl hi1) dX5_toldComes_253 ?_
    have kJ6 : ∀ (w5 : Int32) (_ : w5 = (if l5 ≤ (gI S 54 l1.toNatClampNeg) then (gI S 54 l1.toNatClampNeg) else l5 : Int32)), WP X 268 [(0, vr 26), (1, vi l1), (4, vi l4), (5, vi l5)] [vi w5, vi l1, vr 54] S 0 0 := by
      intro w5 hw5
      replace h := h w5 hw5
      refine r_iast C (hF.k (by decide) rfl) (ixL (n := 2) rfl hi1) dX5_toldComes_268 ?_
      refine r_aloadn C 0 dX5_toldComes_269 rfl ?_
      refine r_getR C (hF.k (by decide) rfl) fl_5_176 rfl (o := some 78) (hF.mR (by decide) rfl rfl) dX5_toldComes_270 ?_
      refine r_iload C 3 dX5_toldComes_273 rfl ?_
      obtain ⟨hi8, h⟩ := h
      refine r_zald C (hF.k (by decide) rfl) (ixL (n := 300) rfl hi8) dX5_toldComes_275 ?_
      refine r_if_eq C dX5_toldComes_276 (tgt := 316) (by decide) (fun hc12 => ?_) (fun hc12 => ?_)
      · replace h := h.1 hc12
        refine r_iconst C (x := 0) dX5_toldComes_316 (by decide) ?_
        refine r_istore C dX5_toldComes_317 (by decide) rfl rfl ?_
        refine r_perm [1, 2, 3, 0] rfl ?_
        exact h
      · replace h := h.2 hc12
        refine r_aloadn C 0 dX5_toldComes_279 rfl ?_
        refine r_getR C (hF.k (by decide) rfl) fl_5_151 rfl (o := some 70) (hF.mR (by decide) rfl rfl) dX5_toldComes_280 ?_
        refine r_aloadn C 0 dX5_toldComes_283 rfl ?_
        refine r_iloadn C 1 dX5_toldComes_284 rfl ?_
        refine r_iload C 3 dX5_toldComes_285 rfl ?_
        refine r_callVi C K5_at [vi l1, vi l5] [vr 70] (hF.k (by decide) rfl) (by decide) rfl cl_5_215 rm_5_toldComes_5_at ⟨rfl, rfl⟩ (by decide) (by decide) rfl (Nat.le_of_ble_eq_true rfl) dX5_toldComes_287 (q5_at (S := (pI S 54 l1.toNatClampNeg w5)) hF) (fun x13 _ _ _ hq => ?_)
        obtain ⟨hqa, hqb⟩ := hq; obtain rfl := hqa.symm; obtain rfl := hqb.symm
        obtain ⟨hi14, h⟩ := h
        refine r_zald C (hF.k (by decide) rfl) (ixL (n := 600) rfl hi14) dX5_toldComes_290 ?_
        refine r_if_eq C dX5_toldComes_291 (tgt := 316) (by decide) (fun hc16 => ?_) (fun hc16 => ?_)
        · replace h := h.1 hc16
          refine r_iconst C (x := 0) dX5_toldComes_316 (by decide) ?_
          refine r_istore C dX5_toldComes_317 (by decide) rfl rfl ?_
          refine r_perm [1, 2, 3, 0] rfl ?_
          exact h
        · replace h := h.2 hc16
          refine r_aloadn C 0 dX5_toldComes_294 rfl ?_
          refine r_iloadn C 1 dX5_toldComes_295 rfl ?_
          refine r_aloadn C 0 dX5_toldComes_296 rfl ?_
          refine r_getI C (hF.k (by decide) rfl) fl_5_251 rfl dX5_toldComes_297 ?_
          refine r_aloadn C 0 dX5_toldComes_300 rfl ?_
          refine r_getR C (hF.k (by decide) rfl) fl_5_139 rfl (o := some 66) (hF.mR (by decide) rfl rfl) dX5_toldComes_301 ?_
          refine r_aloadn C 0 dX5_toldComes_304 rfl ?_
          refine r_iloadn C 1 dX5_toldComes_305 rfl ?_
          refine r_iload C 3 dX5_toldComes_306 rfl ?_
          refine r_callVi C K5_at [vi l1, vi l5] [vr 66, vi (gI S 26 3), vi l1, vr 26] (hF.k (by decide) rfl) (by decide) rfl cl_5_215 rm_5_toldComes_5_at ⟨rfl, rfl⟩ (by decide) (by decide) rfl (Nat.le_of_ble_eq_true rfl) dX5_toldComes_308 (q5_at (S := (pI S 54 l1.toNatClampNeg w5)) hF) (fun x17 _ _ _ hq => ?_)
          obtain ⟨hqa, hqb⟩ := hq; obtain rfl := hqa.symm; obtain rfl := hqb.symm
          refine r_iald C (hF.k (by decide) rfl) (ixL (n := 600) rfl hi14) dX5_toldComes_311 ?_
          refine r_isub C dX5_toldComes_312 ?_
          refine r_callVv C K5_measure [vi l1, vi ((gI S 26 3) - (gI S 66 ((300 * l1) + l5).toNatClampNeg))] [] (hF.k (by decide) rfl) (by decide) rfl cl_5_288 rm_5_toldComes_5_measure ⟨rfl, rfl⟩ (by decide) (by decide) rfl (Nat.le_of_ble_eq_true rfl) dX5_toldComes_313 h (fun S18 hF18 hn18 h => ?_)
          refine r_iconst C (x := 0) dX5_toldComes_316 (by decide) ?_
          refine r_istore C dX5_toldComes_317 (by decide) rfl rfl ?_
          refine r_perm [1, 2, 3, 0] rfl ?_
          exact h
    refine r_icmp_le C dX5_toldComes_254 (tgt := 262) (by decide) (fun hc7 => ?_) (fun hc7 => ?_)
    · refine r_aloadn C 0 dX5_toldComes_262 rfl ?_
      refine r_getR C (hF.k (by decide) rfl) fl_5_103 rfl (o := some 54) (hF.mR (by decide) rfl rfl) dX5_toldComes_263 ?_
      refine r_iloadn C 1 dX5_toldComes_266 rfl ?_
      refine r_iald C (hF.k (by decide) rfl) (ixL (n := 2) rfl hi1) dX5_toldComes_267 ?_
      refine r_perm [0, 1, 2, 3] rfl ?_
      exact kJ6 _ (if_pos hc7).symm
    · refine r_iload C 3 dX5_toldComes_257 rfl ?_
      refine r_goto C dX5_toldComes_259 (tgt := 268) (by decide) ?_
      refine r_perm [0, 1, 2, 3] rfl ?_
      exact kJ6 _ (if_neg hc7).symm
  · replace h := h.2 hc4
    refine r_aloadn C 0 dX5_toldComes_140 rfl ?_
    refine r_getR C (hF.k (by decide) rfl) fl_5_176 rfl (o := some 78) (hF.mR (by decide) rfl rfl) dX5_toldComes_141 ?_
    refine r_iload C 4 dX5_toldComes_144 rfl ?_
    obtain ⟨hi19, h⟩ := h
    refine r_zald C (hF.k (by decide) rfl) (ixL (n := 300) rfl hi19) dX5_toldComes_146 ?_
    refine r_if_eq C dX5_toldComes_147 (tgt := 235) (by decide) (fun hc21 => ?_) (fun hc21 => ?_)
    · replace h := h.1 hc21
      refine r_iinc C (y := (l6 + 1)) 4 dX5_toldComes_235 rfl rfl (by decide) rfl rfl ?_
      refine r_goto C dX5_toldComes_238 (tgt := 129) (by decide) ?_
      refine r_perm [1, 2, 3, 4, 0] rfl ?_
      exact h
    · replace h := h.2 hc21
      refine r_aloadn C 0 dX5_toldComes_150 rfl ?_
      refine r_iloadn C 1 dX5_toldComes_151 rfl ?_
      refine r_iload C 4 dX5_toldComes_152 rfl ?_
      refine r_callVi C K5_at [vi l1, vi l6] [] (hF.k (by decide) rfl) (by decide) rfl cl_5_215 rm_5_toldComes_5_at ⟨rfl, rfl⟩ (by decide) (by decide) rfl (Nat.le_of_ble_eq_true rfl) dX5_toldComes_154 (q5_at (S := S) hF) (fun x22 _ _ _ hq => ?_)
      obtain ⟨hqa, hqb⟩ := hq; obtain rfl := hqa.symm; obtain rfl := hqb.symm
      refine r_istore C dX5_toldComes_157 (by decide) rfl rfl ?_
      refine r_aloadn C 1 dX5_toldComes_159 rfl ?_
      refine r_getR C (hF.k (by decide) rfl) fl_5_154 rfl (o := some 71) (hF.mR (by decide) rfl rfl) dX5_toldComes_160 ?_
      refine r_iload C 0 dX5_toldComes_163 rfl ?_
      refine r_iconst C (x := 1) dX5_toldComes_165 (by decide) ?_
      obtain ⟨hi23, h⟩ := h
      refine r_zast C (hF.k (by decide) rfl) (Or.inr rfl) (ixL (n := 600) rfl hi23) dX5_toldComes_166 ?_
      refine r_aloadn C 1 dX5_toldComes_167 rfl ?_
      refine r_iload C 0 dX5_toldComes_168 rfl ?_
      refine r_callVv C K5_arrives [vi ((300 * l1) + l6)] [] (hF.k (by decide) rfl) (by decide) rfl cl_5_285 rm_5_toldComes_5_arrives ⟨rfl, rfl⟩ (by decide) (by decide) rfl (Nat.le_of_ble_eq_true rfl) dX5_toldComes_170 h (fun S24 hF24 hn24 h => ?_)
      refine r_iload C 3 dX5_toldComes_173 rfl ?_
      have kJ28 : ∀ (w27 : Int32) (_ : w27 = (if l4 = 0 then (if (gI S24 70 ((300 * l1) + l6).toNatClampNeg) = 0 then 0 else 1 : Int32) else 1 : Int32)), WP X 193 [(0, vr 26), (1, vi l1), (5, vi l5), (6, vi l6), (7, vi ((300 * l1) + l6))] [vi w27] S24 0 0 := by
        intro w27 hw27
        replace h := h w27 hw27
        have hz_w27 : w27 = 0 ∨ w27 = 1 := by rw [hw27]; repeat (first | exact Or.inl rfl | exact Or.inr rfl | assumption | split)
        refine r_istore C dX5_toldComes_193 (by decide) rfl rfl ?_
        refine r_aloadn C 1 dX5_toldComes_195 rfl ?_
        refine r_getR C (hF24.k (by decide) rfl) fl_5_76 rfl (o := some 45) (hF24.mR (by decide) rfl rfl) dX5_toldComes_196 ?_
        refine r_iloadn C 2 dX5_toldComes_199 rfl ?_
        refine r_dup2 C rfl rfl dX5_toldComes_200 ?_
        refine r_iald C (hF24.k (by decide) rfl) (ixL (n := 2) rfl hi1) dX5_toldComes_201 ?_
        refine r_aloadn C 1 dX5_toldComes_202 rfl ?_
        refine r_getR C (hF24.k (by decide) rfl) fl_5_151 rfl (o := some 70) (hF24.mR (by decide) rfl rfl) dX5_toldComes_203 ?_
        refine r_iload C 5 dX5_toldComes_206 rfl ?_
        refine r_zald C (hF24.k (by decide) rfl) (ixL (n := 600) rfl hi23) dX5_toldComes_208 ?_
        have kJ33 : ∀ (w32 : Int32) (_ : w32 = (if (gI S24 70 ((300 * l1) + l6).toNatClampNeg) = 0 then 0 else (if (gI S24 72 ((300 * l1) + l6).toNatClampNeg) = 0 then (gI S24 68 ((300 * l1) + l6).toNatClampNeg) else 0 : Int32) : Int32)), WP X 233 [(0, vr 26), (1, vi l1), (4, vi w27), (5, vi l5), (6, vi l6)] [vi w32, vi (gI S24 45 l1.toNatClampNeg), vi l1, vr 45] S24 0 0 := by
          intro w32 hw32
          replace h := h w32 hw32
          refine r_isub C dX5_toldComes_233 ?_
          refine r_iast C (hF24.k (by decide) rfl) (ixL (n := 2) rfl hi1) dX5_toldComes_234 ?_
          refine r_iinc C (y := (l6 + 1)) 4 dX5_toldComes_235 rfl rfl (by decide) rfl rfl ?_
          refine r_goto C dX5_toldComes_238 (tgt := 129) (by decide) ?_
          refine r_perm [1, 2, 3, 4, 0] rfl ?_
          exact h
        refine r_if_eq C dX5_toldComes_209 (tgt := 232) (by decide) (fun hc34 => ?_) (fun hc34 => ?_)
        · refine r_iconst C (x := 0) dX5_toldComes_232 (by decide) ?_
          refine r_perm [1, 2, 0, 3, 4] rfl ?_
          exact kJ33 _ (if_pos hc34).symm
        · refine r_aloadn C 1 dX5_toldComes_212 rfl ?_
          refine r_getR C (hF24.k (by decide) rfl) fl_5_157 rfl (o := some 72) (hF24.mR (by decide) rfl rfl) dX5_toldComes_213 ?_
          refine r_iload C 5 dX5_toldComes_216 rfl ?_
          refine r_zald C (hF24.k (by decide) rfl) (ixL (n := 600) rfl hi23) dX5_toldComes_218 ?_
          have kJ35 : WP X 233 [(0, vr 26), (1, vi l1), (4, vi w27), (5, vi l5), (6, vi l6)] [vi (if (gI S24 72 ((300 * l1) + l6).toNatClampNeg) = 0 then (gI S24 68 ((300 * l1) + l6).toNatClampNeg) else 0 : Int32), vi (gI S24 45 l1.toNatClampNeg), vi l1, vr 45] S24 0 0 := by
            refine r_perm [0, 1, 2, 3, 4] rfl ?_
            exact kJ33 _ (if_neg hc34).symm
          refine r_if_ne C dX5_toldComes_219 (tgt := 232) (by decide) (fun hc36 => ?_) (fun hc36 => ?_)
          · refine r_iconst C (x := 0) dX5_toldComes_232 (by decide) ?_
            refine r_perm [1, 2, 0, 3, 4] rfl ?_
            rw [show (if (gI S24 72 ((300 * l1) + l6).toNatClampNeg) = 0 then (gI S24 68 ((300 * l1) + l6).toNatClampNeg) else 0 : Int32) = 0 from if_neg hc36] at kJ35
            exact kJ35
          · refine r_aloadn C 1 dX5_toldComes_222 rfl ?_
            refine r_getR C (hF24.k (by decide) rfl) fl_5_145 rfl (o := some 68) (hF24.mR (by decide) rfl rfl) dX5_toldComes_223 ?_
            refine r_iload C 5 dX5_toldComes_226 rfl ?_
            refine r_iald C (hF24.k (by decide) rfl) (ixL (n := 600) rfl hi23) dX5_toldComes_228 ?_
            refine r_goto C dX5_toldComes_229 (tgt := 233) (by decide) ?_
            refine r_perm [1, 2, 0, 3, 4] rfl ?_
            rw [show (if (gI S24 72 ((300 * l1) + l6).toNatClampNeg) = 0 then (gI S24 68 ((300 * l1) + l6).toNatClampNeg) else 0 : Int32) = (gI S24 68 ((300 * l1) + l6).toNatClampNeg) from if_pos hc36] at kJ35
            exact kJ35
      refine r_if_ne C dX5_toldComes_175 (tgt := 188) (by decide) (fun hc29 => ?_) (fun hc29 => ?_)
      · refine r_iconst C (x := 1) dX5_toldComes_188 (by decide) ?_
        refine r_goto C dX5_toldComes_189 (tgt := 193) (by decide) ?_
        refine r_perm [1, 2, 4, 5, 0] rfl ?_
        exact kJ28 _ (if_neg hc29).symm
      · refine r_aloadn C 1 dX5_toldComes_178 rfl ?_
        refine r_getR C (hF24.k (by decide) rfl) fl_5_151 rfl (o := some 70) (hF24.mR (by decide) rfl rfl) dX5_toldComes_179 ?_
        refine r_iload C 0 dX5_toldComes_182 rfl ?_
        refine r_zald C (hF24.k (by decide) rfl) (ixL (n := 600) rfl hi23) dX5_toldComes_184 ?_
        have kJ37 : WP X 193 [(0, vr 26), (1, vi l1), (5, vi l5), (6, vi l6), (7, vi ((300 * l1) + l6))] [vi (if (gI S24 70 ((300 * l1) + l6).toNatClampNeg) = 0 then 0 else 1 : Int32)] S24 0 0 := by
          refine r_perm [0, 1, 2, 3, 4] rfl ?_
          exact kJ28 _ (if_pos hc29).symm
        refine r_if_eq C dX5_toldComes_185 (tgt := 192) (by decide) (fun hc38 => ?_) (fun hc38 => ?_)
        · refine r_iconst C (x := 0) dX5_toldComes_192 (by decide) ?_
          refine r_perm [1, 2, 4, 5, 0] rfl ?_
          rw [show (if (gI S24 70 ((300 * l1) + l6).toNatClampNeg) = 0 then 0 else 1 : Int32) = 0 from if_pos hc38] at kJ37
          exact kJ37
        · refine r_iconst C (x := 1) dX5_toldComes_188 (by decide) ?_
          refine r_goto C dX5_toldComes_189 (tgt := 193) (by decide) ?_
          refine r_perm [1, 2, 4, 5, 0] rfl ?_
          rw [show (if (gI S24 70 ((300 * l1) + l6).toNatClampNeg) = 0 then 0 else 1 : Int32) = 1 from if_neg hc38] at kJ37
          exact kJ37
set_option maxHeartbeats 4000000 in
set_option maxRecDepth 100000 in
theorem s5_toldComes_319 {X : Ctx} {S0 S : Sto} {Q : Sto → Prop} (hF : Fx S) (hn : sN S0 ≤ sN S) (O : Ov X K5_toldComes S0 Q) {l1 : Int32} {l4 : Int32} {l6 : Int32}   (h : (0 ≤ (l1 : Int32).toInt ∧ (l1 : Int32).toInt < (2 : Nat)) ∧ (((gI S 44 l1.toNatClampNeg) ≤ l6 → (∀ w7 : Int32, w7 = (if l4 = 0 then (gI S 52 l1.toNatClampNeg) else 0 : Int32) → (Cv K5_lookForLost [vr 26, vi l1] (pI S 52 l1.toNatClampNeg w7) (fun S10 => Q S10)))) ∧ (¬ (gI S 44 l1.toNatClampNeg) ≤ l6 → ((0 ≤ (l6 : Int32).toInt ∧ (l6 : Int32).toInt < (300 : Nat)) ∧ (((gI S 78 l6.toNatClampNeg) = 0 → (WP X 319 [(0, vr 26), (1, vi l1), (4, vi l4), (6, vi (l6 + 1))] [] S 0 0)) ∧ (¬ (gI S 78 l6.toNatClampNeg) = 0 → ((0 ≤ (((300 * l1) + l6) : Int32).toInt ∧ (((300 * l1) + l6) : Int32).toInt < (600 : Nat)) ∧ (((gI S 70 ((300 * l1) + l6).toNatClampNeg) = 0 → (WP X 319 [(0, vr 26), (1, vi l1), (4, vi l4), (6, vi (l6 + 1))] [] S 0 0)) ∧ (¬ (gI S 70 ((300 * l1) + l6).toNatClampNeg) = 0 → ((¬ (gI S 72 ((300 * l1) + l6).toNatClampNeg) = 0 → (WP X 319 [(0, vr 26), (1, vi l1), (4, vi l4), (6, vi (l6 + 1))] [] S 0 0)) ∧ ((gI S 72 ((300 * l1) + l6).toNatClampNeg) = 0 → (((gI S 66 ((300 * l1) + l6).toNatClampNeg) ≤ (gI S 48 l1.toNatClampNeg) → (WP X 319 [(0, vr 26), (1, vi l1), (4, vi l4), (6, vi (l6 + 1))] [] S 0 0)) ∧ (¬ (gI S 66 ((300 * l1) + l6).toNatClampNeg) ≤ (gI S 48 l1.toNatClampNeg) → (((gI S 47 l1.toNatClampNeg) ≤ (gI S 46 l1.toNatClampNeg) → ((¬ (gI S 46 l1.toNatClampNeg) = 0) ∧ (WP X 319 [(0, vr 26), (1, vi l1), (4, vi l4), (6, vi (l6 + 1))] [] (pI S 46 l1.toNatClampNeg ((gI S 46 l1.toNatClampNeg) + (((gI S 26 0) * (gI S 68 ((300 * l1) + l6).toNatClampNeg)) / (gI S 46 l1.toNatClampNeg)))) 0 0))) ∧ (¬ (gI S 47 l1.toNatClampNeg) ≤ (gI S 46 l1.toNatClampNeg) → (WP X 319 [(0, vr 26), (1, vi l1), (4, vi l4), (6, vi (l6 + 1))] [] (pI S 46 l1.toNatClampNeg ((gI S 46 l1.toNatClampNeg) + (gI S 68 ((300 * l1) + l6).toNatClampNeg))) 0 0)))))))))))))))) : WP X 319 [(0, vr 26), (1, vi l1), (4, vi l4), (6, vi l6)] [] S 0 0 := by
  have C := O.1
  refine r_iload C 3 dX5_toldComes_319 rfl ?_
  refine r_aloadn C 0 dX5_toldComes_321 rfl ?_
  refine r_getR C (hF.k (by decide) rfl) fl_5_73 rfl (o := some 44) (hF.mR (by decide) rfl rfl) dX5_toldComes_322 ?_
  refine r_iloadn C 1 dX5_toldComes_325 rfl ?_
  obtain ⟨hi1, h⟩ := h
  refine r_iald C (hF.k (by decide) rfl) (ixL (n := 2) rfl hi1) dX5_toldComes_326 ?_
  refine r_icmp_ge C dX5_toldComes_327 (tgt := 444) (by decide) (fun hc6 => ?_) (fun hc6 => ?_)
  · replace h := h.1 hc6
    refine r_aloadn C 0 dX5_toldComes_444 rfl ?_
    refine r_getR C (hF.k (by decide) rfl) fl_5_97 rfl (o := some 52) (hF.mR (by decide) rfl rfl) dX5_toldComes_445 ?_
    refine r_iloadn C 1 dX5_toldComes_448 rfl ?_
    refine r_iload C 2 dX5_toldComes_449 rfl ?_
    have kJ8 : ∀ (w7 : Int32) (_ : w7 = (if l4 = 0 then (gI S 52 l1.toNatClampNeg) else 0 : Int32)), WP X 464 [(0, vr 26), (1, vi l1)] [vi w7, vi l1, vr 52] S 0 0 := by
      intro w7 hw7
      replace h := h w7 hw7
      refine r_iast C (hF.k (by decide) rfl) (ixL (n := 2) rfl hi1) dX5_toldComes_464 ?_
      refine r_aloadn C 0 dX5_toldComes_465 rfl ?_
      refine r_iloadn C 1 dX5_toldComes_466 rfl ?_
      refine r_callVv C K5_lookForLost [vi l1] [] (hF.k (by decide) rfl) (by decide) rfl cl_5_291 rm_5_toldComes_5_lookForLost ⟨rfl, rfl⟩ (by decide) (by decide) rfl (Nat.le_of_ble_eq_true rfl) dX5_toldComes_467 h (fun S10 hF10 hn10 h => ?_)
      exact rv O rfl dX5_toldComes_470 (by decide) (by decide) hF10 (Nat.le_trans hn hn10) h
    refine r_if_eq C dX5_toldComes_451 (tgt := 458) (by decide) (fun hc9 => ?_) (fun hc9 => ?_)
    · refine r_aloadn C 0 dX5_toldComes_458 rfl ?_
      refine r_getR C (hF.k (by decide) rfl) fl_5_97 rfl (o := some 52) (hF.mR (by decide) rfl rfl) dX5_toldComes_459 ?_
      refine r_iloadn C 1 dX5_toldComes_462 rfl ?_
      refine r_iald C (hF.k (by decide) rfl) (ixL (n := 2) rfl hi1) dX5_toldComes_463 ?_
      refine r_perm [0, 1] rfl ?_
      exact kJ8 _ (if_pos hc9).symm
    · refine r_iconst C (x := 0) dX5_toldComes_454 (by decide) ?_
      refine r_goto C dX5_toldComes_455 (tgt := 464) (by decide) ?_
      refine r_perm [0, 1] rfl ?_
      exact kJ8 _ (if_neg hc9).symm
  · replace h := h.2 hc6
    refine r_aloadn C 0 dX5_toldComes_330 rfl ?_
    refine r_iloadn C 1 dX5_toldComes_331 rfl ?_
    refine r_iload C 3 dX5_toldComes_332 rfl ?_
    refine r_callVi C K5_at [vi l1, vi l6] [] (hF.k (by decide) rfl) (by decide) rfl cl_5_215 rm_5_toldComes_5_at ⟨rfl, rfl⟩ (by decide) (by decide) rfl (Nat.le_of_ble_eq_true rfl) dX5_toldComes_334 (q5_at (S := S) hF) (fun x11 _ _ _ hq => ?_)
    obtain ⟨hqa, hqb⟩ := hq; obtain rfl := hqa.symm; obtain rfl := hqb.symm
    refine r_istore C dX5_toldComes_337 (by decide) rfl rfl ?_
    refine r_aloadn C 1 dX5_toldComes_339 rfl ?_
    refine r_getR C (hF.k (by decide) rfl) fl_5_176 rfl (o := some 78) (hF.mR (by decide) rfl rfl) dX5_toldComes_340 ?_
    refine r_iload C 4 dX5_toldComes_343 rfl ?_
    obtain ⟨hi12, h⟩ := h
    refine r_zald C (hF.k (by decide) rfl) (ixL (n := 300) rfl hi12) dX5_toldComes_345 ?_
    refine r_if_eq C dX5_toldComes_346 (tgt := 438) (by decide) (fun hc15 => ?_) (fun hc15 => ?_)
    · replace h := h.1 hc15
      refine r_iinc C (y := (l6 + 1)) 4 dX5_toldComes_438 rfl rfl (by decide) rfl rfl ?_
      refine r_goto C dX5_toldComes_441 (tgt := 319) (by decide) ?_
      refine r_perm [2, 3, 4, 0] rfl ?_
      exact h
    · replace h := h.2 hc15
      refine r_aloadn C 1 dX5_toldComes_349 rfl ?_
      refine r_getR C (hF.k (by decide) rfl) fl_5_151 rfl (o := some 70) (hF.mR (by decide) rfl rfl) dX5_toldComes_350 ?_
      refine r_iload C 0 dX5_toldComes_353 rfl ?_
      obtain ⟨hi16, h⟩ := h
      refine r_zald C (hF.k (by decide) rfl) (ixL (n := 600) rfl hi16) dX5_toldComes_355 ?_
      refine r_if_eq C dX5_toldComes_356 (tgt := 438) (by decide) (fun hc18 => ?_) (fun hc18 => ?_)
      · replace h := h.1 hc18
        refine r_iinc C (y := (l6 + 1)) 4 dX5_toldComes_438 rfl rfl (by decide) rfl rfl ?_
        refine r_goto C dX5_toldComes_441 (tgt := 319) (by decide) ?_
        refine r_perm [2, 3, 4, 0] rfl ?_
        exact h
      · replace h := h.2 hc18
        refine r_aloadn C 1 dX5_toldComes_359 rfl ?_
        refine r_getR C (hF.k (by decide) rfl) fl_5_157 rfl (o := some 72) (hF.mR (by decide) rfl rfl) dX5_toldComes_360 ?_
        refine r_iload C 0 dX5_toldComes_363 rfl ?_
        refine r_zald C (hF.k (by decide) rfl) (ixL (n := 600) rfl hi16) dX5_toldComes_365 ?_
        refine r_if_ne C dX5_toldComes_366 (tgt := 438) (by decide) (fun hc20 => ?_) (fun hc20 => ?_)
        · replace h := h.1 hc20
          refine r_iinc C (y := (l6 + 1)) 4 dX5_toldComes_438 rfl rfl (by decide) rfl rfl ?_
          refine r_goto C dX5_toldComes_441 (tgt := 319) (by decide) ?_
          refine r_perm [2, 3, 4, 0] rfl ?_
          exact h
        · replace h := h.2 hc20
          refine r_aloadn C 1 dX5_toldComes_369 rfl ?_
          refine r_getR C (hF.k (by decide) rfl) fl_5_139 rfl (o := some 66) (hF.mR (by decide) rfl rfl) dX5_toldComes_370 ?_
          refine r_iload C 0 dX5_toldComes_373 rfl ?_
          refine r_iald C (hF.k (by decide) rfl) (ixL (n := 600) rfl hi16) dX5_toldComes_375 ?_
          refine r_aloadn C 1 dX5_toldComes_376 rfl ?_
          refine r_getR C (hF.k (by decide) rfl) fl_5_85 rfl (o := some 48) (hF.mR (by decide) rfl rfl) dX5_toldComes_377 ?_
          refine r_iloadn C 2 dX5_toldComes_380 rfl ?_
          refine r_iald C (hF.k (by decide) rfl) (ixL (n := 2) rfl hi1) dX5_toldComes_381 ?_
          refine r_icmp_le C dX5_toldComes_382 (tgt := 438) (by decide) (fun hc22 => ?_) (fun hc22 => ?_)
          · replace h := h.1 hc22
            refine r_iinc C (y := (l6 + 1)) 4 dX5_toldComes_438 rfl rfl (by decide) rfl rfl ?_
            refine r_goto C dX5_toldComes_441 (tgt := 319) (by decide) ?_
            refine r_perm [2, 3, 4, 0] rfl ?_
            exact h
          · replace h := h.2 hc22
            refine r_aloadn C 1 dX5_toldComes_385 rfl ?_
            refine r_getR C (hF.k (by decide) rfl) fl_5_79 rfl (o := some 46) (hF.mR (by decide) rfl rfl) dX5_toldComes_386 ?_
            refine r_iloadn C 2 dX5_toldComes_389 rfl ?_
            refine r_dup2 C rfl rfl dX5_toldComes_390 ?_
            refine r_iald C (hF.k (by decide) rfl) (ixL (n := 2) rfl hi1) dX5_toldComes_391 ?_
            refine r_aloadn C 1 dX5_toldComes_392 rfl ?_
            refine r_getR C (hF.k (by decide) rfl) fl_5_79 rfl (o := some 46) (hF.mR (by decide) rfl rfl) dX5_toldComes_393 ?_
            refine r_iloadn C 2 dX5_toldComes_396 rfl ?_
            refine r_iald C (hF.k (by decide) rfl) (ixL (n := 2) rfl hi1) dX5_toldComes_397 ?_
            refine r_aloadn C 1 dX5_toldComes_398 rfl ?_
            refine r_getR C (hF.k (by decide) rfl) fl_5_82 rfl (o := some 47) (hF.mR (by decide) rfl rfl) dX5_toldComes_399 ?_
            refine r_iloadn C 2 dX5_toldComes_402 rfl ?_
            refine r_iald C (hF.k (by decide) rfl) (ixL (n := 2) rfl hi1) dX5_toldComes_403 ?_
            refine r_icmp_ge C dX5_toldComes_404 (tgt := 417) (by decide) (fun hc24 => ?_) (fun hc24 => ?_)
            · replace h := h.1 hc24
              refine r_aloadn C 1 dX5_toldComes_417 rfl ?_
              refine r_getI C (hF.k (by decide) rfl) fl_5_7 rfl dX5_toldComes_418 ?_
              refine r_aloadn C 1 dX5_toldComes_421 rfl ?_
              refine r_getR C (hF.k (by decide) rfl) fl_5_145 rfl (o := some 68) (hF.mR (by decide) rfl rfl) dX5_toldComes_422 ?_
              refine r_iload C 0 dX5_toldComes_425 rfl ?_
              refine r_iald C (hF.k (by decide) rfl) (ixL (n := 600) rfl hi16) dX5_toldComes_427 ?_
              refine r_imul C dX5_toldComes_428 ?_
              refine r_aloadn C 1 dX5_toldComes_429 rfl ?_
              refine r_getR C (hF.k (by decide) rfl) fl_5_79 rfl (o := some 46) (hF.mR (by decide) rfl rfl) dX5_toldComes_430 ?_
              refine r_iloadn C 2 dX5_toldComes_433 rfl ?_
              refine r_iald C (hF.k (by decide) rfl) (ixL (n := 2) rfl hi1) dX5_toldComes_434 ?_
              obtain ⟨ho25, h⟩ := h
              refine r_idiv C dX5_toldComes_435 ho25 ?_
              refine r_iadd C dX5_toldComes_436 ?_
              refine r_iast C (hF.k (by decide) rfl) (ixL (n := 2) rfl hi1) dX5_toldComes_437 ?_
              refine r_iinc C (y := (l6 + 1)) 4 dX5_toldComes_438 rfl rfl (by decide) rfl rfl ?_
              refine r_goto C dX5_toldComes_441 (tgt := 319) (by decide) ?_
              refine r_perm [2, 3, 4, 0] rfl ?_
              exact h
            · replace h := h.2 hc24
              refine r_aloadn C 1 dX5_toldComes_407 rfl ?_
              refine r_getR C (hF.k (by decide) rfl) fl_5_145 rfl (o := some 68) (hF.mR (by decide) rfl rfl) dX5_toldComes_408 ?_
              refine r_iload C 0 dX5_toldComes_411 rfl ?_
              refine r_iald C (hF.k (by decide) rfl) (ixL (n := 600) rfl hi16) dX5_toldComes_413 ?_
              refine r_goto C dX5_toldComes_414 (tgt := 436) (by decide) ?_
              refine r_iadd C dX5_toldComes_436 ?_
              refine r_iast C (hF.k (by decide) rfl) (ixL (n := 2) rfl hi1) dX5_toldComes_437 ?_
              refine r_iinc C (y := (l6 + 1)) 4 dX5_toldComes_438 rfl rfl (by decide) rfl rfl ?_
              refine r_goto C dX5_toldComes_441 (tgt := 319) (by decide) ?_
              refine r_perm [2, 3, 4, 0] rfl ?_
              exact h
set_option maxHeartbeats 4000000 in
set_option maxRecDepth 100000 in
theorem e5_measure {S : Sto} {Q : Sto → Prop} (hF : Fx S) {p1 : Int32} {p2 : Int32}  (h : (0 ≤ (p1 : Int32).toInt ∧ (p1 : Int32).toInt < (2 : Nat)) ∧ ((0 ≤ (gI S 50 p1.toNatClampNeg) → (∀ w5 : Int32, w5 = (if 0 ≤ ((gI S 50 p1.toNatClampNeg) - (8 * p2)) then ((gI S 50 p1.toNatClampNeg) - (8 * p2)) else (-((gI S 50 p1.toNatClampNeg) - (8 * p2))) : Int32) → (Q (pI (pI (pI S 49 p1.toNatClampNeg p2) 51 p1.toNatClampNeg (((3 * (gI S 51 p1.toNatClampNeg)) + w5) / 4)) 50 p1.toNatClampNeg (((7 * (gI S 50 p1.toNatClampNeg)) + (8 * p2)) / 8))))) ∧ (¬ 0 ≤ (gI S 50 p1.toNatClampNeg) → (Q (pI (pI (pI S 49 p1.toNatClampNeg p2) 50 p1.toNatClampNeg (8 * p2)) 51 p1.toNatClampNeg (4 * p2)))))) : Cv K5_measure [vr 26, vi p1, vi p2] S Q := by
  refine Cv.intro rfl (Nat.le_of_ble_eq_true rfl) (fun X O => ?_)
  have C := O.1
  have hn : sN S ≤ sN S := Nat.le_refl _
  show WP X 0 [(0, vr 26), (1, vi p1), (2, vi p2)] [] S 0 0
  refine r_aloadn C 0 dX5_measure_0 rfl ?_
  refine r_getR C (hF.k (by decide) rfl) fl_5_88 rfl (o := some 49) (hF.mR (by decide) rfl rfl) dX5_measure_1 ?_
  refine r_iloadn C 1 dX5_measure_4 rfl ?_
  refine r_iloadn C 2 dX5_measure_5 rfl ?_
  obtain ⟨hi1, h⟩ := h
  refine r_iast C (hF.k (by decide) rfl) (ixL (n := 2) rfl hi1) dX5_measure_6 ?_
  refine r_aloadn C 0 dX5_measure_7 rfl ?_
  refine r_getR C (hF.k (by decide) rfl) fl_5_91 rfl (o := some 50) (hF.mR (by decide) rfl rfl) dX5_measure_8 ?_
  refine r_iloadn C 1 dX5_measure_11 rfl ?_
  refine r_iald C (hF.k (by decide) rfl) (ixL (n := 2) rfl hi1) dX5_measure_12 ?_
  refine r_if_ge C dX5_measure_13 (tgt := 38) (by decide) (fun hc4 => ?_) (fun hc4 => ?_)
  · replace h := h.1 hc4
    refine r_aloadn C 0 dX5_measure_38 rfl ?_
    refine r_getR C (hF.k (by decide) rfl) fl_5_91 rfl (o := some 50) (hF.mR (by decide) rfl rfl) dX5_measure_39 ?_
    refine r_iloadn C 1 dX5_measure_42 rfl ?_
    refine r_iald C (hF.k (by decide) rfl) (ixL (n := 2) rfl hi1) dX5_measure_43 ?_
    refine r_bipush C (x := 8) dX5_measure_44 (by decide) ?_
    refine r_iloadn C 2 dX5_measure_46 rfl ?_
    refine r_imul C dX5_measure_47 ?_
    refine r_isub C dX5_measure_48 ?_
    refine r_istoren C dX5_measure_49 (by decide) rfl rfl ?_
    refine r_aloadn C 1 dX5_measure_50 rfl ?_
    refine r_getR C (hF.k (by decide) rfl) fl_5_94 rfl (o := some 51) (hF.mR (by decide) rfl rfl) dX5_measure_51 ?_
    refine r_iloadn C 2 dX5_measure_54 rfl ?_
    refine r_iconst C (x := 3) dX5_measure_55 (by decide) ?_
    refine r_aloadn C 1 dX5_measure_56 rfl ?_
    refine r_getR C (hF.k (by decide) rfl) fl_5_94 rfl (o := some 51) (hF.mR (by decide) rfl rfl) dX5_measure_57 ?_
    refine r_iloadn C 2 dX5_measure_60 rfl ?_
    refine r_iald C (hF.k (by decide) rfl) (ixL (n := 2) rfl hi1) dX5_measure_61 ?_
    refine r_imul C dX5_measure_62 ?_
    refine r_iloadn C 0 dX5_measure_63 rfl ?_
    have kJ6 : ∀ (w5 : Int32) (_ : w5 = (if 0 ≤ ((gI S 50 p1.toNatClampNeg) - (8 * p2)) then ((gI S 50 p1.toNatClampNeg) - (8 * p2)) else (-((gI S 50 p1.toNatClampNeg) - (8 * p2))) : Int32)), WP X 73 [(0, vr 26), (1, vi p1), (2, vi p2)] [vi w5, vi (3 * (gI S 51 p1.toNatClampNeg)), vi p1, vr 51] (pI S 49 p1.toNatClampNeg p2) 0 0 := by
      intro w5 hw5
      replace h := h w5 hw5
      refine r_iadd C dX5_measure_73 ?_
      refine r_iconst C (x := 4) dX5_measure_74 (by decide) ?_
      refine r_idiv C dX5_measure_75 (by decide) ?_
      refine r_iast C (hF.k (by decide) rfl) (ixL (n := 2) rfl hi1) dX5_measure_76 ?_
      refine r_aloadn C 0 dX5_measure_77 rfl ?_
      refine r_getR C (hF.k (by decide) rfl) fl_5_91 rfl (o := some 50) (hF.mR (by decide) rfl rfl) dX5_measure_78 ?_
      refine r_iloadn C 1 dX5_measure_81 rfl ?_
      refine r_bipush C (x := 7) dX5_measure_82 (by decide) ?_
      refine r_aloadn C 0 dX5_measure_84 rfl ?_
      refine r_getR C (hF.k (by decide) rfl) fl_5_91 rfl (o := some 50) (hF.mR (by decide) rfl rfl) dX5_measure_85 ?_
      refine r_iloadn C 1 dX5_measure_88 rfl ?_
      refine r_iald C (hF.k (by decide) rfl) (ixL (n := 2) rfl hi1) dX5_measure_89 ?_
      refine r_imul C dX5_measure_90 ?_
      refine r_bipush C (x := 8) dX5_measure_91 (by decide) ?_
      refine r_iloadn C 2 dX5_measure_93 rfl ?_
      refine r_imul C dX5_measure_94 ?_
      refine r_iadd C dX5_measure_95 ?_
      refine r_bipush C (x := 8) dX5_measure_96 (by decide) ?_
      refine r_idiv C dX5_measure_98 (by decide) ?_
      refine r_iast C (hF.k (by decide) rfl) (ixL (n := 2) rfl hi1) dX5_measure_99 ?_
      exact rv O rfl dX5_measure_100 (by decide) (by decide) hF hn h
    refine r_if_ge C dX5_measure_64 (tgt := 72) (by decide) (fun hc7 => ?_) (fun hc7 => ?_)
    · refine r_iloadn C 0 dX5_measure_72 rfl ?_
      refine r_perm [1, 2, 3] rfl ?_
      exact kJ6 _ (if_pos hc7).symm
    · refine r_iloadn C 0 dX5_measure_67 rfl ?_
      refine r_ineg C dX5_measure_68 ?_
      refine r_goto C dX5_measure_69 (tgt := 73) (by decide) ?_
      refine r_perm [1, 2, 3] rfl ?_
      exact kJ6 _ (if_neg hc7).symm
  · replace h := h.2 hc4
    refine r_aloadn C 0 dX5_measure_16 rfl ?_
    refine r_getR C (hF.k (by decide) rfl) fl_5_91 rfl (o := some 50) (hF.mR (by decide) rfl rfl) dX5_measure_17 ?_
    refine r_iloadn C 1 dX5_measure_20 rfl ?_
    refine r_bipush C (x := 8) dX5_measure_21 (by decide) ?_
    refine r_iloadn C 2 dX5_measure_23 rfl ?_
    refine r_imul C dX5_measure_24 ?_
    refine r_iast C (hF.k (by decide) rfl) (ixL (n := 2) rfl hi1) dX5_measure_25 ?_
    refine r_aloadn C 0 dX5_measure_26 rfl ?_
    refine r_getR C (hF.k (by decide) rfl) fl_5_94 rfl (o := some 51) (hF.mR (by decide) rfl rfl) dX5_measure_27 ?_
    refine r_iloadn C 1 dX5_measure_30 rfl ?_
    refine r_iconst C (x := 4) dX5_measure_31 (by decide) ?_
    refine r_iloadn C 2 dX5_measure_32 rfl ?_
    refine r_imul C dX5_measure_33 ?_
    refine r_iast C (hF.k (by decide) rfl) (ixL (n := 2) rfl hi1) dX5_measure_34 ?_
    refine r_goto C dX5_measure_35 (tgt := 100) (by decide) ?_
    exact rv O rfl dX5_measure_100 (by decide) (by decide) hF hn h
set_option maxHeartbeats 4000000 in
set_option maxRecDepth 100000 in
theorem e5_arrives {S : Sto} {Q : Sto → Prop} (hF : Fx S) {p1 : Int32}  (h : ∀ X : Ctx, Ov X K5_arrives S Q → WP X 2 [(0, vr 26), (1, vi p1), (2, vi 0)] [] S 0 0) : Cv K5_arrives [vr 26, vi p1] S Q := by
  refine Cv.intro rfl (Nat.le_of_ble_eq_true rfl) (fun X O => ?_)
  replace h := h X O
  have C := O.1
  have hn : sN S ≤ sN S := Nat.le_refl _
  show WP X 0 [(0, vr 26), (1, vi p1)] [] S 0 0
  refine r_iconst C (x := 0) dX5_arrives_0 (by decide) ?_
  refine r_istoren C dX5_arrives_1 (by decide) rfl rfl ?_
  refine r_perm [1, 2, 0] rfl ?_
  exact h
set_option maxHeartbeats 4000000 in
set_option maxRecDepth 100000 in
theorem s5_arrives_2 {X : Ctx} {S0 S : Sto} {Q : Sto → Prop} (hF : Fx S) (hn : sN S0 ≤ sN S) (O : Ov X K5_arrives S0 Q) {l1 : Int32} {l2 : Int32}   (h : (0 ≤ (l1 : Int32).toInt ∧ (l1 : Int32).toInt < (600 : Nat)) ∧ (((gI S 69 l1.toNatClampNeg) ≤ l2 → (Q S)) ∧ (¬ (gI S 69 l1.toNatClampNeg) ≤ l2 → ((0 ≤ ((4 * ((24 * l1) + l2)) : Int32).toInt ∧ ((4 * ((24 * l1) + l2)) : Int32).toInt < (57600 : Nat)) ∧ ((¬ (gI S 74 (4 * ((24 * l1) + l2)).toNatClampNeg) = 4 → (WP X 2 [(0, vr 26), (1, vi l1), (2, vi (l2 + 1))] [] S 0 0)) ∧ ((gI S 74 (4 * ((24 * l1) + l2)).toNatClampNeg) = 4 → ((0 ≤ (((4 * ((24 * l1) + l2)) + 1) : Int32).toInt ∧ (((4 * ((24 * l1) + l2)) + 1) : Int32).toInt < (57600 : Nat)) ∧ ((0 ≤ (((4 * ((24 * l1) + l2)) + 3) : Int32).toInt ∧ (((4 * ((24 * l1) + l2)) + 3) : Int32).toInt < (57600 : Nat)) ∧ (WP X 58 [(0, vr 26), (1, vi l1), (2, vi l2), (3, vi (4 * ((24 * l1) + l2))), (4, vi (gI S 74 ((4 * ((24 * l1) + l2)) + 1).toNatClampNeg)), (5, vi ((gI S 74 ((4 * ((24 * l1) + l2)) + 3).toNatClampNeg) - (gI S 74 ((4 * ((24 * l1) + l2)) + 3).toNatClampNeg) / 10000 * 10000)), (6, vi 0)] [] S 0 0))))))))) : WP X 2 [(0, vr 26), (1, vi l1), (2, vi l2)] [] S 0 0 := by
  have C := O.1
  refine r_iloadn C 2 dX5_arrives_2 rfl ?_
  refine r_aloadn C 0 dX5_arrives_3 rfl ?_
  refine r_getR C (hF.k (by decide) rfl) fl_5_148 rfl (o := some 69) (hF.mR (by decide) rfl rfl) dX5_arrives_4 ?_
  refine r_iloadn C 1 dX5_arrives_7 rfl ?_
  obtain ⟨hi1, h⟩ := h
  refine r_iald C (hF.k (by decide) rfl) (ixL (n := 600) rfl hi1) dX5_arrives_8 ?_
  refine r_icmp_ge C dX5_arrives_9 (tgt := 131) (by decide) (fun hc5 => ?_) (fun hc5 => ?_)
  · replace h := h.1 hc5
    exact rv O rfl dX5_arrives_131 (by decide) (by decide) hF hn h
  · replace h := h.2 hc5
    refine r_iconst C (x := 4) dX5_arrives_12 (by decide) ?_
    refine r_bipush C (x := 24) dX5_arrives_13 (by decide) ?_
    refine r_iloadn C 1 dX5_arrives_15 rfl ?_
    refine r_imul C dX5_arrives_16 ?_
    refine r_iloadn C 2 dX5_arrives_17 rfl ?_
    refine r_iadd C dX5_arrives_18 ?_
    refine r_imul C dX5_arrives_19 ?_
    refine r_istoren C dX5_arrives_20 (by decide) rfl rfl ?_
    refine r_aloadn C 1 dX5_arrives_21 rfl ?_
    refine r_getR C (hF.k (by decide) rfl) fl_5_164 rfl (o := some 74) (hF.mR (by decide) rfl rfl) dX5_arrives_22 ?_
    refine r_iloadn C 0 dX5_arrives_25 rfl ?_
    obtain ⟨hi6, h⟩ := h
    refine r_iald C (hF.k (by decide) rfl) (ixL (n := 57600) rfl hi6) dX5_arrives_26 ?_
    refine r_iconst C (x := 4) dX5_arrives_27 (by decide) ?_
    refine r_icmp_ne C dX5_arrives_28 (tgt := 125) (by decide) (fun hc9 => ?_) (fun hc9 => ?_)
    · replace h := h.1 hc9
      refine r_iinc C (y := (l2 + 1)) 3 dX5_arrives_125 rfl rfl (by decide) rfl rfl ?_
      refine r_goto C dX5_arrives_128 (tgt := 2) (by decide) ?_
      refine r_perm [2, 3, 0] rfl ?_
      exact h
    · replace h := h.2 hc9
      refine r_aloadn C 1 dX5_arrives_31 rfl ?_
      refine r_getR C (hF.k (by decide) rfl) fl_5_164 rfl (o := some 74) (hF.mR (by decide) rfl rfl) dX5_arrives_32 ?_
      refine r_iloadn C 0 dX5_arrives_35 rfl ?_
      refine r_iconst C (x := 1) dX5_arrives_36 (by decide) ?_
      refine r_iadd C dX5_arrives_37 ?_
      obtain ⟨hi10, h⟩ := h
      refine r_iald C (hF.k (by decide) rfl) (ixL (n := 57600) rfl hi10) dX5_arrives_38 ?_
      refine r_istore C dX5_arrives_39 (by decide) rfl rfl ?_
      refine r_aloadn C 2 dX5_arrives_41 rfl ?_
      refine r_getR C (hF.k (by decide) rfl) fl_5_164 rfl (o := some 74) (hF.mR (by decide) rfl rfl) dX5_arrives_42 ?_
      refine r_iloadn C 1 dX5_arrives_45 rfl ?_
      refine r_iconst C (x := 3) dX5_arrives_46 (by decide) ?_
      refine r_iadd C dX5_arrives_47 ?_
      obtain ⟨hi11, h⟩ := h
      refine r_iald C (hF.k (by decide) rfl) (ixL (n := 57600) rfl hi11) dX5_arrives_48 ?_
      refine r_sipush C (x := 10000) dX5_arrives_49 (by decide) ?_
      refine r_irem C dX5_arrives_52 (by decide) ?_
      refine r_istore C dX5_arrives_53 (by decide) rfl rfl ?_
      refine r_iconst C (x := 0) dX5_arrives_55 (by decide) ?_
      refine r_istore C dX5_arrives_56 (by decide) rfl rfl ?_
      refine r_perm [4, 5, 6, 3, 2, 1, 0] rfl ?_
      exact h
set_option maxHeartbeats 4000000 in
set_option maxRecDepth 100000 in
theorem s5_arrives_58 {X : Ctx} {S0 S : Sto} {Q : Sto → Prop} (hF : Fx S) (hn : sN S0 ≤ sN S) (O : Ov X K5_arrives S0 Q) {l1 : Int32} {l2 : Int32} {l3 : Int32} {l4 : Int32} {l5 : Int32} {l6 : Int32}   (h : (l5 ≤ l6 → ((0 ≤ ((l3 + 3) : Int32).toInt ∧ ((l3 + 3) : Int32).toInt < (57600 : Nat)) ∧ (((gI S 74 (l3 + 3).toNatClampNeg) < 10000 → (WP X 2 [(0, vr 26), (1, vi l1), (2, vi (l2 + 1))] [] S 0 0)) ∧ (¬ (gI S 74 (l3 + 3).toNatClampNeg) < 10000 → ((0 ≤ (l4 : Int32).toInt ∧ (l4 : Int32).toInt < (8 : Nat)) ∧ (WP X 2 [(0, vr 26), (1, vi l1), (2, vi (l2 + 1))] [] (pI (pI S 34 l4.toNatClampNeg 1) 33 l4.toNatClampNeg 0) 0 0)))))) ∧ (¬ l5 ≤ l6 → ((0 ≤ ((l3 + 2) : Int32).toInt ∧ ((l3 + 2) : Int32).toInt < (57600 : Nat)) ∧ ((0 ≤ ((((1000 * l4) + (gI S 74 (l3 + 2).toNatClampNeg)) + l6) : Int32).toInt ∧ ((((1000 * l4) + (gI S 74 (l3 + 2).toNatClampNeg)) + l6) : Int32).toInt < (8000 : Nat)) ∧ (WP X 58 [(0, vr 26), (1, vi l1), (2, vi l2), (3, vi l3), (4, vi l4), (5, vi l5), (6, vi (l6 + 1))] [] (pI S 36 (((1000 * l4) + (gI S 74 (l3 + 2).toNatClampNeg)) + l6).toNatClampNeg ((3 : Int32).toInt8.toInt32)) 0 0))))) : WP X 58 [(0, vr 26), (1, vi l1), (2, vi l2), (3, vi l3), (4, vi l4), (5, vi l5), (6, vi l6)] [] S 0 0 := by
  have C := O.1
  refine r_iload C 6 dX5_arrives_58 rfl ?_
  refine r_iload C 5 dX5_arrives_60 rfl ?_
  refine r_icmp_ge C dX5_arrives_62 (tgt := 95) (by decide) (fun hc2 => ?_) (fun hc2 => ?_)
  · replace h := h.1 hc2
    refine r_aloadn C 0 dX5_arrives_95 rfl ?_
    refine r_getR C (hF.k (by decide) rfl) fl_5_164 rfl (o := some 74) (hF.mR (by decide) rfl rfl) dX5_arrives_96 ?_
    refine r_iloadn C 3 dX5_arrives_99 rfl ?_
    refine r_iconst C (x := 3) dX5_arrives_100 (by decide) ?_
    refine r_iadd C dX5_arrives_101 ?_
    obtain ⟨hi3, h⟩ := h
    refine r_iald C (hF.k (by decide) rfl) (ixL (n := 57600) rfl hi3) dX5_arrives_102 ?_
    refine r_sipush C (x := 10000) dX5_arrives_103 (by decide) ?_
    refine r_icmp_lt C dX5_arrives_106 (tgt := 125) (by decide) (fun hc4 => ?_) (fun hc4 => ?_)
    · replace h := h.1 hc4
      refine r_iinc C (y := (l2 + 1)) 2 dX5_arrives_125 rfl rfl (by decide) rfl rfl ?_
      refine r_goto C dX5_arrives_128 (tgt := 2) (by decide) ?_
      refine r_perm [1, 2, 0] rfl ?_
      exact h
    · replace h := h.2 hc4
      refine r_aloadn C 0 dX5_arrives_109 rfl ?_
      refine r_getR C (hF.k (by decide) rfl) fl_5_42 rfl (o := some 34) (hF.mR (by decide) rfl rfl) dX5_arrives_110 ?_
      refine r_iload C 4 dX5_arrives_113 rfl ?_
      refine r_iconst C (x := 1) dX5_arrives_115 (by decide) ?_
      obtain ⟨hi5, h⟩ := h
      refine r_zast C (hF.k (by decide) rfl) (Or.inr rfl) (ixL (n := 8) rfl hi5) dX5_arrives_116 ?_
      refine r_aloadn C 0 dX5_arrives_117 rfl ?_
      refine r_getR C (hF.k (by decide) rfl) fl_5_39 rfl (o := some 33) (hF.mR (by decide) rfl rfl) dX5_arrives_118 ?_
      refine r_iload C 4 dX5_arrives_121 rfl ?_
      refine r_iconst C (x := 0) dX5_arrives_123 (by decide) ?_
      refine r_zast C (hF.k (by decide) rfl) (Or.inl rfl) (ixL (n := 8) rfl hi5) dX5_arrives_124 ?_
      refine r_iinc C (y := (l2 + 1)) 2 dX5_arrives_125 rfl rfl (by decide) rfl rfl ?_
      refine r_goto C dX5_arrives_128 (tgt := 2) (by decide) ?_
      refine r_perm [1, 2, 0] rfl ?_
      exact h
  · replace h := h.2 hc2
    refine r_aloadn C 0 dX5_arrives_65 rfl ?_
    refine r_getR C (hF.k (by decide) rfl) fl_5_48 rfl (o := some 36) (hF.mR (by decide) rfl rfl) dX5_arrives_66 ?_
    refine r_sipush C (x := 1000) dX5_arrives_69 (by decide) ?_
    refine r_iload C 4 dX5_arrives_72 rfl ?_
    refine r_imul C dX5_arrives_74 ?_
    refine r_aloadn C 0 dX5_arrives_75 rfl ?_
    refine r_getR C (hF.k (by decide) rfl) fl_5_164 rfl (o := some 74) (hF.mR (by decide) rfl rfl) dX5_arrives_76 ?_
    refine r_iloadn C 3 dX5_arrives_79 rfl ?_
    refine r_iconst C (x := 2) dX5_arrives_80 (by decide) ?_
    refine r_iadd C dX5_arrives_81 ?_
    obtain ⟨hi6, h⟩ := h
    refine r_iald C (hF.k (by decide) rfl) (ixL (n := 57600) rfl hi6) dX5_arrives_82 ?_
    refine r_iadd C dX5_arrives_83 ?_
    refine r_iload C 6 dX5_arrives_84 rfl ?_
    refine r_iadd C dX5_arrives_86 ?_
    refine r_iconst C (x := 3) dX5_arrives_87 (by decide) ?_
    obtain ⟨hi7, h⟩ := h
    refine r_bast C (hF.k (by decide) rfl) (ixL (n := 8000) rfl hi7) dX5_arrives_88 ?_
    refine r_iinc C (y := (l6 + 1)) 6 dX5_arrives_89 rfl rfl (by decide) rfl rfl ?_
    refine r_goto C dX5_arrives_92 (tgt := 58) (by decide) ?_
    refine r_perm [1, 2, 3, 4, 5, 6, 0] rfl ?_
    exact h
set_option maxHeartbeats 4000000 in
set_option maxRecDepth 100000 in
theorem e5_limit {S : Sto} {Q : Int32 → Sto → Prop} (hF : Fx S) {p1 : Int32}  (h : (0 ≤ (p1 : Int32).toInt ∧ (p1 : Int32).toInt < (2 : Nat)) ∧ ((0 ≤ (gI S 49 p1.toNatClampNeg) → (∀ w3 : Int32, w3 = (if (gI S 50 p1.toNatClampNeg) ≤ (8 * (gI S 49 p1.toNatClampNeg)) then (8 * (gI S 49 p1.toNatClampNeg)) else (gI S 50 p1.toNatClampNeg) : Int32) → (∀ w6 : Int32, w6 = (if 1 ≤ ((9 * w3) / 64) then ((9 * w3) / 64) else 1 : Int32) → (Q w6 S)))) ∧ (¬ 0 ≤ (gI S 49 p1.toNatClampNeg) → (Q 8 S)))) : Ci K5_limit [vr 26, vi p1] S Q := by
  refine Ci.intro rfl (Nat.le_of_ble_eq_true rfl) (fun X O => ?_)
  have C := O.1
  have hn : sN S ≤ sN S := Nat.le_refl _
  show WP X 0 [(0, vr 26), (1, vi p1)] [] S 0 0
  refine r_aloadn C 0 dX5_limit_0 rfl ?_
  refine r_getR C (hF.k (by decide) rfl) fl_5_88 rfl (o := some 49) (hF.mR (by decide) rfl rfl) dX5_limit_1 ?_
  refine r_iloadn C 1 dX5_limit_4 rfl ?_
  obtain ⟨hi1, h⟩ := h
  refine r_iald C (hF.k (by decide) rfl) (ixL (n := 2) rfl hi1) dX5_limit_5 ?_
  refine r_if_ge C dX5_limit_6 (tgt := 12) (by decide) (fun hc2 => ?_) (fun hc2 => ?_)
  · replace h := h.1 hc2
    refine r_aloadn C 0 dX5_limit_12 rfl ?_
    refine r_getR C (hF.k (by decide) rfl) fl_5_91 rfl (o := some 50) (hF.mR (by decide) rfl rfl) dX5_limit_13 ?_
    refine r_iloadn C 1 dX5_limit_16 rfl ?_
    refine r_iald C (hF.k (by decide) rfl) (ixL (n := 2) rfl hi1) dX5_limit_17 ?_
    refine r_bipush C (x := 8) dX5_limit_18 (by decide) ?_
    refine r_aloadn C 0 dX5_limit_20 rfl ?_
    refine r_getR C (hF.k (by decide) rfl) fl_5_88 rfl (o := some 49) (hF.mR (by decide) rfl rfl) dX5_limit_21 ?_
    refine r_iloadn C 1 dX5_limit_24 rfl ?_
    refine r_iald C (hF.k (by decide) rfl) (ixL (n := 2) rfl hi1) dX5_limit_25 ?_
    refine r_imul C dX5_limit_26 ?_
    have kJ4 : ∀ (w3 : Int32) (_ : w3 = (if (gI S 50 p1.toNatClampNeg) ≤ (8 * (gI S 49 p1.toNatClampNeg)) then (8 * (gI S 49 p1.toNatClampNeg)) else (gI S 50 p1.toNatClampNeg) : Int32)), WP X 48 [] [vi w3] S 0 0 := by
      intro w3 hw3
      replace h := h w3 hw3
      refine r_istoren C dX5_limit_48 (by decide) rfl rfl ?_
      refine r_bipush C (x := 9) dX5_limit_49 (by decide) ?_
      refine r_iloadn C 0 dX5_limit_51 rfl ?_
      refine r_imul C dX5_limit_52 ?_
      refine r_bipush C (x := 64) dX5_limit_53 (by decide) ?_
      refine r_idiv C dX5_limit_55 (by decide) ?_
      refine r_istoren C dX5_limit_56 (by decide) rfl rfl ?_
      refine r_iloadn C 0 dX5_limit_57 rfl ?_
      refine r_iconst C (x := 1) dX5_limit_58 (by decide) ?_
      have kJ7 : ∀ (w6 : Int32) (_ : w6 = (if 1 ≤ ((9 * w3) / 64) then ((9 * w3) / 64) else 1 : Int32)), WP X 67 [] [vi w6] S 0 0 := by
        intro w6 hw6
        replace h := h w6 hw6
        exact ri O ⟨_, rfl, rfl⟩ dX5_limit_67 (by decide) (by decide) hF hn h
      refine r_icmp_ge C dX5_limit_59 (tgt := 66) (by decide) (fun hc8 => ?_) (fun hc8 => ?_)
      · refine r_iloadn C 0 dX5_limit_66 rfl ?_
        refine r_perm [] rfl ?_
        exact kJ7 _ (if_pos hc8).symm
      · refine r_iconst C (x := 1) dX5_limit_62 (by decide) ?_
        refine r_goto C dX5_limit_63 (tgt := 67) (by decide) ?_
        refine r_perm [] rfl ?_
        exact kJ7 _ (if_neg hc8).symm
    refine r_icmp_le C dX5_limit_27 (tgt := 39) (by decide) (fun hc5 => ?_) (fun hc5 => ?_)
    · refine r_bipush C (x := 8) dX5_limit_39 (by decide) ?_
      refine r_aloadn C 0 dX5_limit_41 rfl ?_
      refine r_getR C (hF.k (by decide) rfl) fl_5_88 rfl (o := some 49) (hF.mR (by decide) rfl rfl) dX5_limit_42 ?_
      refine r_iloadn C 1 dX5_limit_45 rfl ?_
      refine r_iald C (hF.k (by decide) rfl) (ixL (n := 2) rfl hi1) dX5_limit_46 ?_
      refine r_imul C dX5_limit_47 ?_
      refine r_perm [] rfl ?_
      exact kJ4 _ (if_pos hc5).symm
    · refine r_aloadn C 0 dX5_limit_30 rfl ?_
      refine r_getR C (hF.k (by decide) rfl) fl_5_91 rfl (o := some 50) (hF.mR (by decide) rfl rfl) dX5_limit_31 ?_
      refine r_iloadn C 1 dX5_limit_34 rfl ?_
      refine r_iald C (hF.k (by decide) rfl) (ixL (n := 2) rfl hi1) dX5_limit_35 ?_
      refine r_goto C dX5_limit_36 (tgt := 48) (by decide) ?_
      refine r_perm [] rfl ?_
      exact kJ4 _ (if_neg hc5).symm
  · replace h := h.2 hc2
    refine r_bipush C (x := 8) dX5_limit_9 (by decide) ?_
    exact ri O ⟨_, rfl, rfl⟩ dX5_limit_11 (by decide) (by decide) hF hn h
set_option maxHeartbeats 4000000 in
set_option maxRecDepth 100000 in
theorem e5_lookForLost {S : Sto} {Q : Sto → Prop} (hF : Fx S) {p1 : Int32}  (h : ∀ X : Ctx, Ov X K5_lookForLost S Q → Ci K5_limit [vr 26, vi p1] S (fun x1 S1 => WP X 8 [(0, vr 26), (1, vi p1), (2, vi x1), (3, vi 0)] [] S1 0 0)) : Cv K5_lookForLost [vr 26, vi p1] S Q := by
  refine Cv.intro rfl (Nat.le_of_ble_eq_true rfl) (fun X O => ?_)
  replace h := h X O
  have C := O.1
  have hn : sN S ≤ sN S := Nat.le_refl _
  show WP X 0 [(0, vr 26), (1, vi p1)] [] S 0 0
  refine r_aloadn C 0 dX5_lookForLost_0 rfl ?_
  refine r_iloadn C 1 dX5_lookForLost_1 rfl ?_
  refine r_callVi C K5_limit [vi p1] [] (hF.k (by decide) rfl) (by decide) rfl cl_5_294 rm_5_lookForLost_5_limit ⟨rfl, rfl⟩ (by decide) (by decide) rfl (Nat.le_of_ble_eq_true rfl) dX5_lookForLost_2 h (fun x1 S1 hF1 hn1 h => ?_)
  refine r_istoren C dX5_lookForLost_5 (by decide) rfl rfl ?_
  refine r_iconst C (x := 0) dX5_lookForLost_6 (by decide) ?_
  refine r_istoren C dX5_lookForLost_7 (by decide) rfl rfl ?_
  refine r_perm [2, 3, 1, 0] rfl ?_
  exact h
set_option maxHeartbeats 4000000 in
set_option maxRecDepth 100000 in
theorem s5_lookForLost_8 {X : Ctx} {S0 S : Sto} {Q : Sto → Prop} (hF : Fx S) (hn : sN S0 ≤ sN S) (O : Ov X K5_lookForLost S0 Q) {l1 : Int32} {l2 : Int32} {l3 : Int32}   (h : (0 ≤ (l1 : Int32).toInt ∧ (l1 : Int32).toInt < (2 : Nat)) ∧ (((gI S 54 l1.toNatClampNeg) ≤ l3 → (Q S)) ∧ (¬ (gI S 54 l1.toNatClampNeg) ≤ l3 → ((0 ≤ (((300 * l1) + l3) : Int32).toInt ∧ (((300 * l1) + l3) : Int32).toInt < (600 : Nat)) ∧ (((gI S 70 ((300 * l1) + l3).toNatClampNeg) = 0 → (WP X 8 [(0, vr 26), (1, vi l1), (2, vi l2), (3, vi (l3 + 1))] [] S 0 0)) ∧ (¬ (gI S 70 ((300 * l1) + l3).toNatClampNeg) = 0 → ((¬ (gI S 71 ((300 * l1) + l3).toNatClampNeg) = 0 → (WP X 8 [(0, vr 26), (1, vi l1), (2, vi l2), (3, vi (l3 + 1))] [] S 0 0)) ∧ ((gI S 71 ((300 * l1) + l3).toNatClampNeg) = 0 → ((¬ (gI S 72 ((300 * l1) + l3).toNatClampNeg) = 0 → (WP X 8 [(0, vr 26), (1, vi l1), (2, vi l2), (3, vi (l3 + 1))] [] S 0 0)) ∧ ((gI S 72 ((300 * l1) + l3).toNatClampNeg) = 0 → (((l3 + 3) ≤ (gI S 54 l1.toNatClampNeg) → (WP X 111 [(0, vr 26), (1, vi l1), (2, vi l2), (3, vi l3), (4, vi ((300 * l1) + l3)), (5, vi 0)] [] (pI (pI S 72 ((300 * l1) + l3).toNatClampNeg 1) 45 l1.toNatClampNeg ((gI S 45 l1.toNatClampNeg) - (gI S 68 ((300 * l1) + l3).toNatClampNeg))) 0 0)) ∧ (¬ (l3 + 3) ≤ (gI S 54 l1.toNatClampNeg) → ((((gI S 26 3) - (gI S 66 ((300 * l1) + l3).toNatClampNeg)) < l2 → (WP X 8 [(0, vr 26), (1, vi l1), (2, vi l2), (3, vi (l3 + 1))] [] S 0 0)) ∧ (¬ ((gI S 26 3) - (gI S 66 ((300 * l1) + l3).toNatClampNeg)) < l2 → (WP X 111 [(0, vr 26), (1, vi l1), (2, vi l2), (3, vi l3), (4, vi ((300 * l1) + l3)), (5, vi 0)] [] (pI (pI S 72 ((300 * l1) + l3).toNatClampNeg 1) 45 l1.toNatClampNeg ((gI S 45 l1.toNatClampNeg) - (gI S 68 ((300 * l1) + l3).toNatClampNeg))) 0 0))))))))))))))) : WP X 8 [(0, vr 26), (1, vi l1), (2, vi l2), (3, vi l3)] [] S 0 0 := by
  have C := O.1
  refine r_iloadn C 3 dX5_lookForLost_8 rfl ?_
  refine r_aloadn C 0 dX5_lookForLost_9 rfl ?_
  refine r_getR C (hF.k (by decide) rfl) fl_5_103 rfl (o := some 54) (hF.mR (by decide) rfl rfl) dX5_lookForLost_10 ?_
  refine r_iloadn C 1 dX5_lookForLost_13 rfl ?_
  obtain ⟨hi1, h⟩ := h
  refine r_iald C (hF.k (by decide) rfl) (ixL (n := 2) rfl hi1) dX5_lookForLost_14 ?_
  refine r_icmp_ge C dX5_lookForLost_15 (tgt := 264) (by decide) (fun hc4 => ?_) (fun hc4 => ?_)
  · replace h := h.1 hc4
    exact rv O rfl dX5_lookForLost_264 (by decide) (by decide) hF hn h
  · replace h := h.2 hc4
    refine r_aloadn C 0 dX5_lookForLost_18 rfl ?_
    refine r_iloadn C 1 dX5_lookForLost_19 rfl ?_
    refine r_iloadn C 3 dX5_lookForLost_20 rfl ?_
    refine r_callVi C K5_at [vi l1, vi l3] [] (hF.k (by decide) rfl) (by decide) rfl cl_5_215 rm_5_lookForLost_5_at ⟨rfl, rfl⟩ (by decide) (by decide) rfl (Nat.le_of_ble_eq_true rfl) dX5_lookForLost_21 (q5_at (S := S) hF) (fun x5 _ _ _ hq => ?_)
    obtain ⟨hqa, hqb⟩ := hq; obtain rfl := hqa.symm; obtain rfl := hqb.symm
    refine r_istore C dX5_lookForLost_24 (by decide) rfl rfl ?_
    refine r_aloadn C 1 dX5_lookForLost_26 rfl ?_
    refine r_getR C (hF.k (by decide) rfl) fl_5_151 rfl (o := some 70) (hF.mR (by decide) rfl rfl) dX5_lookForLost_27 ?_
    refine r_iload C 0 dX5_lookForLost_30 rfl ?_
    obtain ⟨hi6, h⟩ := h
    refine r_zald C (hF.k (by decide) rfl) (ixL (n := 600) rfl hi6) dX5_lookForLost_32 ?_
    refine r_if_eq C dX5_lookForLost_33 (tgt := 258) (by decide) (fun hc7 => ?_) (fun hc7 => ?_)
    · replace h := h.1 hc7
      refine r_iinc C (y := (l3 + 1)) 4 dX5_lookForLost_258 rfl rfl (by decide) rfl rfl ?_
      refine r_goto C dX5_lookForLost_261 (tgt := 8) (by decide) ?_
      refine r_perm [2, 3, 4, 0] rfl ?_
      exact h
    · replace h := h.2 hc7
      refine r_aloadn C 1 dX5_lookForLost_36 rfl ?_
      refine r_getR C (hF.k (by decide) rfl) fl_5_154 rfl (o := some 71) (hF.mR (by decide) rfl rfl) dX5_lookForLost_37 ?_
      refine r_iload C 0 dX5_lookForLost_40 rfl ?_
      refine r_zald C (hF.k (by decide) rfl) (ixL (n := 600) rfl hi6) dX5_lookForLost_42 ?_
      refine r_if_ne C dX5_lookForLost_43 (tgt := 258) (by decide) (fun hc8 => ?_) (fun hc8 => ?_)
      · replace h := h.1 hc8
        refine r_iinc C (y := (l3 + 1)) 4 dX5_lookForLost_258 rfl rfl (by decide) rfl rfl ?_
        refine r_goto C dX5_lookForLost_261 (tgt := 8) (by decide) ?_
        refine r_perm [2, 3, 4, 0] rfl ?_
        exact h
      · replace h := h.2 hc8
        refine r_aloadn C 1 dX5_lookForLost_46 rfl ?_
        refine r_getR C (hF.k (by decide) rfl) fl_5_157 rfl (o := some 72) (hF.mR (by decide) rfl rfl) dX5_lookForLost_47 ?_
        refine r_iload C 0 dX5_lookForLost_50 rfl ?_
        refine r_zald C (hF.k (by decide) rfl) (ixL (n := 600) rfl hi6) dX5_lookForLost_52 ?_
        refine r_if_ne C dX5_lookForLost_53 (tgt := 258) (by decide) (fun hc9 => ?_) (fun hc9 => ?_)
        · replace h := h.1 hc9
          refine r_iinc C (y := (l3 + 1)) 4 dX5_lookForLost_258 rfl rfl (by decide) rfl rfl ?_
          refine r_goto C dX5_lookForLost_261 (tgt := 8) (by decide) ?_
          refine r_perm [2, 3, 4, 0] rfl ?_
          exact h
        · replace h := h.2 hc9
          refine r_iloadn C 4 dX5_lookForLost_56 rfl ?_
          refine r_iconst C (x := 3) dX5_lookForLost_57 (by decide) ?_
          refine r_iadd C dX5_lookForLost_58 ?_
          refine r_aloadn C 1 dX5_lookForLost_59 rfl ?_
          refine r_getR C (hF.k (by decide) rfl) fl_5_103 rfl (o := some 54) (hF.mR (by decide) rfl rfl) dX5_lookForLost_60 ?_
          refine r_iloadn C 2 dX5_lookForLost_63 rfl ?_
          refine r_iald C (hF.k (by decide) rfl) (ixL (n := 2) rfl hi1) dX5_lookForLost_64 ?_
          refine r_icmp_le C dX5_lookForLost_65 (tgt := 84) (by decide) (fun hc10 => ?_) (fun hc10 => ?_)
          · replace h := h.1 hc10
            refine r_aloadn C 1 dX5_lookForLost_84 rfl ?_
            refine r_getR C (hF.k (by decide) rfl) fl_5_157 rfl (o := some 72) (hF.mR (by decide) rfl rfl) dX5_lookForLost_85 ?_
            refine r_iload C 0 dX5_lookForLost_88 rfl ?_
            refine r_iconst C (x := 1) dX5_lookForLost_90 (by decide) ?_
            refine r_zast C (hF.k (by decide) rfl) (Or.inr rfl) (ixL (n := 600) rfl hi6) dX5_lookForLost_91 ?_
            refine r_aloadn C 1 dX5_lookForLost_92 rfl ?_
            refine r_getR C (hF.k (by decide) rfl) fl_5_76 rfl (o := some 45) (hF.mR (by decide) rfl rfl) dX5_lookForLost_93 ?_
            refine r_iloadn C 2 dX5_lookForLost_96 rfl ?_
            refine r_dup2 C rfl rfl dX5_lookForLost_97 ?_
            refine r_iald C (hF.k (by decide) rfl) (ixL (n := 2) rfl hi1) dX5_lookForLost_98 ?_
            refine r_aloadn C 1 dX5_lookForLost_99 rfl ?_
            refine r_getR C (hF.k (by decide) rfl) fl_5_145 rfl (o := some 68) (hF.mR (by decide) rfl rfl) dX5_lookForLost_100 ?_
            refine r_iload C 0 dX5_lookForLost_103 rfl ?_
            refine r_iald C (hF.k (by decide) rfl) (ixL (n := 600) rfl hi6) dX5_lookForLost_105 ?_
            refine r_isub C dX5_lookForLost_106 ?_
            refine r_iast C (hF.k (by decide) rfl) (ixL (n := 2) rfl hi1) dX5_lookForLost_107 ?_
            refine r_iconst C (x := 0) dX5_lookForLost_108 (by decide) ?_
            refine r_istore C dX5_lookForLost_109 (by decide) rfl rfl ?_
            refine r_perm [2, 3, 4, 5, 1, 0] rfl ?_
            exact h
          · replace h := h.2 hc10
            refine r_aloadn C 1 dX5_lookForLost_68 rfl ?_
            refine r_getI C (hF.k (by decide) rfl) fl_5_251 rfl dX5_lookForLost_69 ?_
            refine r_aloadn C 1 dX5_lookForLost_72 rfl ?_
            refine r_getR C (hF.k (by decide) rfl) fl_5_139 rfl (o := some 66) (hF.mR (by decide) rfl rfl) dX5_lookForLost_73 ?_
            refine r_iload C 0 dX5_lookForLost_76 rfl ?_
            refine r_iald C (hF.k (by decide) rfl) (ixL (n := 600) rfl hi6) dX5_lookForLost_78 ?_
            refine r_isub C dX5_lookForLost_79 ?_
            refine r_iloadn C 3 dX5_lookForLost_80 rfl ?_
            refine r_icmp_lt C dX5_lookForLost_81 (tgt := 258) (by decide) (fun hc11 => ?_) (fun hc11 => ?_)
            · replace h := h.1 hc11
              refine r_iinc C (y := (l3 + 1)) 4 dX5_lookForLost_258 rfl rfl (by decide) rfl rfl ?_
              refine r_goto C dX5_lookForLost_261 (tgt := 8) (by decide) ?_
              refine r_perm [2, 3, 4, 0] rfl ?_
              exact h
            · replace h := h.2 hc11
              refine r_aloadn C 1 dX5_lookForLost_84 rfl ?_
              refine r_getR C (hF.k (by decide) rfl) fl_5_157 rfl (o := some 72) (hF.mR (by decide) rfl rfl) dX5_lookForLost_85 ?_
              refine r_iload C 0 dX5_lookForLost_88 rfl ?_
              refine r_iconst C (x := 1) dX5_lookForLost_90 (by decide) ?_
              refine r_zast C (hF.k (by decide) rfl) (Or.inr rfl) (ixL (n := 600) rfl hi6) dX5_lookForLost_91 ?_
              refine r_aloadn C 1 dX5_lookForLost_92 rfl ?_
              refine r_getR C (hF.k (by decide) rfl) fl_5_76 rfl (o := some 45) (hF.mR (by decide) rfl rfl) dX5_lookForLost_93 ?_
              refine r_iloadn C 2 dX5_lookForLost_96 rfl ?_
              refine r_dup2 C rfl rfl dX5_lookForLost_97 ?_
              refine r_iald C (hF.k (by decide) rfl) (ixL (n := 2) rfl hi1) dX5_lookForLost_98 ?_
              refine r_aloadn C 1 dX5_lookForLost_99 rfl ?_
              refine r_getR C (hF.k (by decide) rfl) fl_5_145 rfl (o := some 68) (hF.mR (by decide) rfl rfl) dX5_lookForLost_100 ?_
              refine r_iload C 0 dX5_lookForLost_103 rfl ?_
              refine r_iald C (hF.k (by decide) rfl) (ixL (n := 600) rfl hi6) dX5_lookForLost_105 ?_
              refine r_isub C dX5_lookForLost_106 ?_
              refine r_iast C (hF.k (by decide) rfl) (ixL (n := 2) rfl hi1) dX5_lookForLost_107 ?_
              refine r_iconst C (x := 0) dX5_lookForLost_108 (by decide) ?_
              refine r_istore C dX5_lookForLost_109 (by decide) rfl rfl ?_
              refine r_perm [2, 3, 4, 5, 1, 0] rfl ?_
              exact h
set_option maxHeartbeats 4000000 in
set_option maxRecDepth 100000 in
theorem s5_lookForLost_111 {X : Ctx} {S0 S : Sto} {Q : Sto → Prop} (hF : Fx S) (hn : sN S0 ≤ sN S) (O : Ov X K5_lookForLost S0 Q) {l1 : Int32} {l2 : Int32} {l3 : Int32} {l4 : Int32} {l5 : Int32}   (h : (0 ≤ (l4 : Int32).toInt ∧ (l4 : Int32).toInt < (600 : Nat)) ∧ (((gI S 69 l4.toNatClampNeg) ≤ l5 → ((0 ≤ (l1 : Int32).toInt ∧ (l1 : Int32).toInt < (2 : Nat)) ∧ (((gI S 66 l4.toNatClampNeg) ≤ (gI S 48 l1.toNatClampNeg) → (WP X 8 [(0, vr 26), (1, vi l1), (2, vi l2), (3, vi (l3 + 1))] [] S 0 0)) ∧ (¬ (gI S 66 l4.toNatClampNeg) ≤ (gI S 48 l1.toNatClampNeg) → (∀ w9 : Int32, w9 = (if (2 * (gI S 26 0)) ≤ ((gI S 46 l1.toNatClampNeg) / 2) then ((gI S 46 l1.toNatClampNeg) / 2) else (2 * (gI S 26 0)) : Int32) → (WP X 8 [(0, vr 26), (1, vi l1), (2, vi l2), (3, vi (l3 + 1))] [] (pI (pI (pI S 48 l1.toNatClampNeg (gI S 26 3)) 46 l1.toNatClampNeg w9) 47 l1.toNatClampNeg (gI (pI (pI S 48 l1.toNatClampNeg (gI S 26 3)) 46 l1.toNatClampNeg w9) 46 l1.toNatClampNeg)) 0 0)))))) ∧ (¬ (gI S 69 l4.toNatClampNeg) ≤ l5 → ((0 ≤ ((4 * ((24 * l4) + l5)) : Int32).toInt ∧ ((4 * ((24 * l4) + l5)) : Int32).toInt < (57600 : Nat)) ∧ ((0 ≤ (((4 * ((24 * l4) + l5)) + 1) : Int32).toInt ∧ (((4 * ((24 * l4) + l5)) + 1) : Int32).toInt < (57600 : Nat)) ∧ ((0 ≤ (((4 * ((24 * l4) + l5)) + 2) : Int32).toInt ∧ (((4 * ((24 * l4) + l5)) + 2) : Int32).toInt < (57600 : Nat)) ∧ ((0 ≤ (((4 * ((24 * l4) + l5)) + 3) : Int32).toInt ∧ (((4 * ((24 * l4) + l5)) + 3) : Int32).toInt < (57600 : Nat)) ∧ (Cv K5_loses [vr 26, vi l1, vi (gI S 74 (4 * ((24 * l4) + l5)).toNatClampNeg), vi (gI S 74 ((4 * ((24 * l4) + l5)) + 1).toNatClampNeg), vi (gI S 74 ((4 * ((24 * l4) + l5)) + 2).toNatClampNeg), vi (gI S 74 ((4 * ((24 * l4) + l5)) + 3).toNatClampNeg)] S (fun S16 => WP X 111 [(0, vr 26), (1, vi l1), (2, vi l2), (3, vi l3), (4, vi l4), (5, vi (l5 + 1))] [] S16 0 0))))))))) : WP X 111 [(0, vr 26), (1, vi l1), (2, vi l2), (3, vi l3), (4, vi l4), (5, vi l5)] [] S 0 0 := by
  have C := O.1
  refine r_iload C 5 dX5_lookForLost_111 rfl ?_
  refine r_aloadn C 0 dX5_lookForLost_113 rfl ?_
  refine r_getR C (hF.k (by decide) rfl) fl_5_148 rfl (o := some 69) (hF.mR (by decide) rfl rfl) dX5_lookForLost_114 ?_
  refine r_iload C 4 dX5_lookForLost_117 rfl ?_
  obtain ⟨hi1, h⟩ := h
  refine r_iald C (hF.k (by decide) rfl) (ixL (n := 600) rfl hi1) dX5_lookForLost_119 ?_
  refine r_icmp_ge C dX5_lookForLost_120 (tgt := 180) (by decide) (fun hc6 => ?_) (fun hc6 => ?_)
  · replace h := h.1 hc6
    refine r_aloadn C 0 dX5_lookForLost_180 rfl ?_
    refine r_getR C (hF.k (by decide) rfl) fl_5_139 rfl (o := some 66) (hF.mR (by decide) rfl rfl) dX5_lookForLost_181 ?_
    refine r_iload C 4 dX5_lookForLost_184 rfl ?_
    refine r_iald C (hF.k (by decide) rfl) (ixL (n := 600) rfl hi1) dX5_lookForLost_186 ?_
    refine r_aloadn C 0 dX5_lookForLost_187 rfl ?_
    refine r_getR C (hF.k (by decide) rfl) fl_5_85 rfl (o := some 48) (hF.mR (by decide) rfl rfl) dX5_lookForLost_188 ?_
    refine r_iloadn C 1 dX5_lookForLost_191 rfl ?_
    obtain ⟨hi7, h⟩ := h
    refine r_iald C (hF.k (by decide) rfl) (ixL (n := 2) rfl hi7) dX5_lookForLost_192 ?_
    refine r_icmp_le C dX5_lookForLost_193 (tgt := 258) (by decide) (fun hc8 => ?_) (fun hc8 => ?_)
    · replace h := h.1 hc8
      refine r_iinc C (y := (l3 + 1)) 3 dX5_lookForLost_258 rfl rfl (by decide) rfl rfl ?_
      refine r_goto C dX5_lookForLost_261 (tgt := 8) (by decide) ?_
      refine r_perm [1, 2, 3, 0] rfl ?_
      exact h
    · replace h := h.2 hc8
      refine r_aloadn C 0 dX5_lookForLost_196 rfl ?_
      refine r_getR C (hF.k (by decide) rfl) fl_5_85 rfl (o := some 48) (hF.mR (by decide) rfl rfl) dX5_lookForLost_197 ?_
      refine r_iloadn C 1 dX5_lookForLost_200 rfl ?_
      refine r_aloadn C 0 dX5_lookForLost_201 rfl ?_
      refine r_getI C (hF.k (by decide) rfl) fl_5_251 rfl dX5_lookForLost_202 ?_
      refine r_iast C (hF.k (by decide) rfl) (ixL (n := 2) rfl hi7) dX5_lookForLost_205 ?_
      refine r_aloadn C 0 dX5_lookForLost_206 rfl ?_
      refine r_getR C (hF.k (by decide) rfl) fl_5_79 rfl (o := some 46) (hF.mR (by decide) rfl rfl) dX5_lookForLost_207 ?_
      refine r_iloadn C 1 dX5_lookForLost_210 rfl ?_
      refine r_aloadn C 0 dX5_lookForLost_211 rfl ?_
      refine r_getR C (hF.k (by decide) rfl) fl_5_79 rfl (o := some 46) (hF.mR (by decide) rfl rfl) dX5_lookForLost_212 ?_
      refine r_iloadn C 1 dX5_lookForLost_215 rfl ?_
      refine r_iald C (hF.k (by decide) rfl) (ixL (n := 2) rfl hi7) dX5_lookForLost_216 ?_
      refine r_iconst C (x := 2) dX5_lookForLost_217 (by decide) ?_
      refine r_idiv C dX5_lookForLost_218 (by decide) ?_
      refine r_iconst C (x := 2) dX5_lookForLost_219 (by decide) ?_
      refine r_aloadn C 0 dX5_lookForLost_220 rfl ?_
      refine r_getI C (hF.k (by decide) rfl) fl_5_7 rfl dX5_lookForLost_221 ?_
      refine r_imul C dX5_lookForLost_224 ?_
      have kJ10 : ∀ (w9 : Int32) (_ : w9 = (if (2 * (gI S 26 0)) ≤ ((gI S 46 l1.toNatClampNeg) / 2) then ((gI S 46 l1.toNatClampNeg) / 2) else (2 * (gI S 26 0)) : Int32)), WP X 245 [(0, vr 26), (1, vi l1), (2, vi l2), (3, vi l3)] [vi w9, vi l1, vr 46] (pI S 48 l1.toNatClampNeg (gI S 26 3)) 0 0 := by
        intro w9 hw9
        replace h := h w9 hw9
        refine r_iast C (hF.k (by decide) rfl) (ixL (n := 2) rfl hi7) dX5_lookForLost_245 ?_
        refine r_aloadn C 0 dX5_lookForLost_246 rfl ?_
        refine r_getR C (hF.k (by decide) rfl) fl_5_82 rfl (o := some 47) (hF.mR (by decide) rfl rfl) dX5_lookForLost_247 ?_
        refine r_iloadn C 1 dX5_lookForLost_250 rfl ?_
        refine r_aloadn C 0 dX5_lookForLost_251 rfl ?_
        refine r_getR C (hF.k (by decide) rfl) fl_5_79 rfl (o := some 46) (hF.mR (by decide) rfl rfl) dX5_lookForLost_252 ?_
        refine r_iloadn C 1 dX5_lookForLost_255 rfl ?_
        refine r_iald C (hF.k (by decide) rfl) (ixL (n := 2) rfl hi7) dX5_lookForLost_256 ?_
        refine r_iast C (hF.k (by decide) rfl) (ixL (n := 2) rfl hi7) dX5_lookForLost_257 ?_
        refine r_iinc C (y := (l3 + 1)) 3 dX5_lookForLost_258 rfl rfl (by decide) rfl rfl ?_
        refine r_goto C dX5_lookForLost_261 (tgt := 8) (by decide) ?_
        refine r_perm [1, 2, 3, 0] rfl ?_
        exact h
      refine r_icmp_ge C dX5_lookForLost_225 (tgt := 237) (by decide) (fun hc11 => ?_) (fun hc11 => ?_)
      · refine r_aloadn C 0 dX5_lookForLost_237 rfl ?_
        refine r_getR C (hF.k (by decide) rfl) fl_5_79 rfl (o := some 46) (hF.mR (by decide) rfl rfl) dX5_lookForLost_238 ?_
        refine r_iloadn C 1 dX5_lookForLost_241 rfl ?_
        refine r_iald C (hF.k (by decide) rfl) (ixL (n := 2) rfl hi7) dX5_lookForLost_242 ?_
        refine r_iconst C (x := 2) dX5_lookForLost_243 (by decide) ?_
        refine r_idiv C dX5_lookForLost_244 (by decide) ?_
        refine r_perm [0, 1, 2, 3] rfl ?_
        exact kJ10 _ (if_pos hc11).symm
      · refine r_iconst C (x := 2) dX5_lookForLost_228 (by decide) ?_
        refine r_aloadn C 0 dX5_lookForLost_229 rfl ?_
        refine r_getI C (hF.k (by decide) rfl) fl_5_7 rfl dX5_lookForLost_230 ?_
        refine r_imul C dX5_lookForLost_233 ?_
        refine r_goto C dX5_lookForLost_234 (tgt := 245) (by decide) ?_
        refine r_perm [0, 1, 2, 3] rfl ?_
        exact kJ10 _ (if_neg hc11).symm
  · replace h := h.2 hc6
    refine r_iconst C (x := 4) dX5_lookForLost_123 (by decide) ?_
    refine r_bipush C (x := 24) dX5_lookForLost_124 (by decide) ?_
    refine r_iload C 4 dX5_lookForLost_126 rfl ?_
    refine r_imul C dX5_lookForLost_128 ?_
    refine r_iload C 5 dX5_lookForLost_129 rfl ?_
    refine r_iadd C dX5_lookForLost_131 ?_
    refine r_imul C dX5_lookForLost_132 ?_
    refine r_istore C dX5_lookForLost_133 (by decide) rfl rfl ?_
    refine r_aloadn C 1 dX5_lookForLost_135 rfl ?_
    refine r_iloadn C 2 dX5_lookForLost_136 rfl ?_
    refine r_aloadn C 1 dX5_lookForLost_137 rfl ?_
    refine r_getR C (hF.k (by decide) rfl) fl_5_164 rfl (o := some 74) (hF.mR (by decide) rfl rfl) dX5_lookForLost_138 ?_
    refine r_iload C 0 dX5_lookForLost_141 rfl ?_
    obtain ⟨hi12, h⟩ := h
    refine r_iald C (hF.k (by decide) rfl) (ixL (n := 57600) rfl hi12) dX5_lookForLost_143 ?_
    refine r_aloadn C 1 dX5_lookForLost_144 rfl ?_
    refine r_getR C (hF.k (by decide) rfl) fl_5_164 rfl (o := some 74) (hF.mR (by decide) rfl rfl) dX5_lookForLost_145 ?_
    refine r_iload C 0 dX5_lookForLost_148 rfl ?_
    refine r_iconst C (x := 1) dX5_lookForLost_150 (by decide) ?_
    refine r_iadd C dX5_lookForLost_151 ?_
    obtain ⟨hi13, h⟩ := h
    refine r_iald C (hF.k (by decide) rfl) (ixL (n := 57600) rfl hi13) dX5_lookForLost_152 ?_
    refine r_aloadn C 1 dX5_lookForLost_153 rfl ?_
    refine r_getR C (hF.k (by decide) rfl) fl_5_164 rfl (o := some 74) (hF.mR (by decide) rfl rfl) dX5_lookForLost_154 ?_
    refine r_iload C 0 dX5_lookForLost_157 rfl ?_
    refine r_iconst C (x := 2) dX5_lookForLost_159 (by decide) ?_
    refine r_iadd C dX5_lookForLost_160 ?_
    obtain ⟨hi14, h⟩ := h
    refine r_iald C (hF.k (by decide) rfl) (ixL (n := 57600) rfl hi14) dX5_lookForLost_161 ?_
    refine r_aloadn C 1 dX5_lookForLost_162 rfl ?_
    refine r_getR C (hF.k (by decide) rfl) fl_5_164 rfl (o := some 74) (hF.mR (by decide) rfl rfl) dX5_lookForLost_163 ?_
    refine r_iload C 0 dX5_lookForLost_166 rfl ?_
    refine r_iconst C (x := 3) dX5_lookForLost_168 (by decide) ?_
    refine r_iadd C dX5_lookForLost_169 ?_
    obtain ⟨hi15, h⟩ := h
    refine r_iald C (hF.k (by decide) rfl) (ixL (n := 57600) rfl hi15) dX5_lookForLost_170 ?_
    refine r_callVv C K5_loses [vi l1, vi (gI S 74 (4 * ((24 * l4) + l5)).toNatClampNeg), vi (gI S 74 ((4 * ((24 * l4) + l5)) + 1).toNatClampNeg), vi (gI S 74 ((4 * ((24 * l4) + l5)) + 2).toNatClampNeg), vi (gI S 74 ((4 * ((24 * l4) + l5)) + 3).toNatClampNeg)] [] (hF.k (by decide) rfl) (by decide) rfl cl_5_297 rm_5_lookForLost_5_loses ⟨rfl, rfl⟩ (by decide) (by decide) rfl (Nat.le_of_ble_eq_true rfl) dX5_lookForLost_171 h (fun S16 hF16 hn16 h => ?_)
    refine r_iinc C (y := (l5 + 1)) 6 dX5_lookForLost_174 rfl rfl (by decide) rfl rfl ?_
    refine r_goto C dX5_lookForLost_177 (tgt := 111) (by decide) ?_
    refine r_perm [2, 3, 4, 5, 6, 0] rfl ?_
    exact h
set_option maxHeartbeats 4000000 in
set_option maxRecDepth 100000 in
theorem e5_loses {S : Sto} {Q : Sto → Prop} (hF : Fx S) {p1 : Int32} {p2 : Int32} {p3 : Int32} {p4 : Int32} {p5 : Int32}  (h : ∀ X : Ctx, Ov X K5_loses S Q → (p2 = 2 → ((0 ≤ (p3 : Int32).toInt ∧ (p3 : Int32).toInt < (8 : Nat)) ∧ (Q (pI S 41 p3.toNatClampNeg 1)))) ∧ (p2 = 3 → ((0 ≤ (p1 : Int32).toInt ∧ (p1 : Int32).toInt < (2 : Nat)) ∧ (Q (pI S 58 p1.toNatClampNeg 1)))) ∧ (p2 = 4 → (WP X 63 [(0, vr 26), (3, vi p3), (4, vi p4), (5, vi p5), (6, vi 0)] [] S 0 0)) ∧ (p2 = 5 → ((0 ≤ (p3 : Int32).toInt ∧ (p3 : Int32).toInt < (8 : Nat)) ∧ (Q (pI S 30 p3.toNatClampNeg 1)))) ∧ (p2 = 6 → (((gI S 26 46) = 0 → (Q S)) ∧ (¬ (gI S 26 46) = 0 → ((¬ p4 = (gI S 26 45) → (Q S)) ∧ (p4 = (gI S 26 45) → ((0 ≤ (p1 : Int32).toInt ∧ (p1 : Int32).toInt < (2 : Nat)) ∧ (Q (pI (pI S 62 p1.toNatClampNeg 1) 63 p1.toNatClampNeg p4)))))))) ∧ (p2 = 7 → ((0 ≤ (p1 : Int32).toInt ∧ (p1 : Int32).toInt < (2 : Nat)) ∧ (Q (pI (pI S 64 p1.toNatClampNeg 1) 65 p1.toNatClampNeg p4)))) ∧ (¬ p2 = 2 → ¬ p2 = 3 → ¬ p2 = 4 → ¬ p2 = 5 → ¬ p2 = 6 → ¬ p2 = 7 → (Q S))) : Cv K5_loses [vr 26, vi p1, vi p2, vi p3, vi p4, vi p5] S Q := by
  refine Cv.intro rfl (Nat.le_of_ble_eq_true rfl) (fun X O => ?_)
  replace h := h X O
  have C := O.1
  have hn : sN S ≤ sN S := Nat.le_refl _
  show WP X 0 [(0, vr 26), (1, vi p1), (2, vi p2), (3, vi p3), (4, vi p4), (5, vi p5)] [] S 0 0
  refine r_iloadn C 2 dX5_loses_0 rfl ?_
  refine r_table C dX5_loses_1 rfl (by decide) (fun i off hi hx1 => ?_) (fun hx1 => ?_)
  · have hlt : i < 6 := (Array.getElem?_eq_some_iff.mp hi).1
    obtain rfl | rfl | rfl | rfl | rfl | rfl : i = 0 ∨ i = 1 ∨ i = 2 ∨ i = 3 ∨ i = 4 ∨ i = 5 := by omega
    · obtain rfl := Option.some.inj hi
      replace h := h.1 (hx1.trans (by decide))
      refine ⟨40, by decide, ?_⟩
      refine r_aloadn C 0 dX5_loses_40 rfl ?_
      refine r_getR C (hF.k (by decide) rfl) fl_5_64 rfl (o := some 41) (hF.mR (by decide) rfl rfl) dX5_loses_41 ?_
      refine r_iloadn C 3 dX5_loses_44 rfl ?_
      refine r_iconst C (x := 1) dX5_loses_45 (by decide) ?_
      obtain ⟨hi2, h⟩ := h
      refine r_zast C (hF.k (by decide) rfl) (Or.inr rfl) (ixL (n := 8) rfl hi2) dX5_loses_46 ?_
      refine r_goto C dX5_loses_47 (tgt := 224) (by decide) ?_
      exact rv O rfl dX5_loses_224 (by decide) (by decide) hF hn h
    · obtain rfl := Option.some.inj hi
      replace h := h.2.1 (hx1.trans (by decide))
      refine ⟨50, by decide, ?_⟩
      refine r_aloadn C 0 dX5_loses_50 rfl ?_
      refine r_getR C (hF.k (by decide) rfl) fl_5_115 rfl (o := some 58) (hF.mR (by decide) rfl rfl) dX5_loses_51 ?_
      refine r_iloadn C 1 dX5_loses_54 rfl ?_
      refine r_iconst C (x := 1) dX5_loses_55 (by decide) ?_
      obtain ⟨hi3, h⟩ := h
      refine r_zast C (hF.k (by decide) rfl) (Or.inr rfl) (ixL (n := 2) rfl hi3) dX5_loses_56 ?_
      refine r_goto C dX5_loses_57 (tgt := 224) (by decide) ?_
      exact rv O rfl dX5_loses_224 (by decide) (by decide) hF hn h
    · obtain rfl := Option.some.inj hi
      replace h := h.2.2.1 (hx1.trans (by decide))
      refine ⟨60, by decide, ?_⟩
      refine r_iconst C (x := 0) dX5_loses_60 (by decide) ?_
      refine r_istore C dX5_loses_61 (by decide) rfl rfl ?_
      refine r_perm [1, 4, 5, 6, 0] rfl ?_
      exact h
    · obtain rfl := Option.some.inj hi
      replace h := h.2.2.2.1 (hx1.trans (by decide))
      refine ⟨162, by decide, ?_⟩
      refine r_aloadn C 0 dX5_loses_162 rfl ?_
      refine r_getR C (hF.k (by decide) rfl) fl_5_30 rfl (o := some 30) (hF.mR (by decide) rfl rfl) dX5_loses_163 ?_
      refine r_iloadn C 3 dX5_loses_166 rfl ?_
      refine r_iconst C (x := 1) dX5_loses_167 (by decide) ?_
      obtain ⟨hi4, h⟩ := h
      refine r_zast C (hF.k (by decide) rfl) (Or.inr rfl) (ixL (n := 8) rfl hi4) dX5_loses_168 ?_
      refine r_goto C dX5_loses_169 (tgt := 224) (by decide) ?_
      exact rv O rfl dX5_loses_224 (by decide) (by decide) hF hn h
    · obtain rfl := Option.some.inj hi
      replace h := h.2.2.2.2.1 (hx1.trans (by decide))
      refine ⟨172, by decide, ?_⟩
      refine r_aloadn C 0 dX5_loses_172 rfl ?_
      refine r_getI C (hF.k (by decide) rfl) fl_5_235 rfl dX5_loses_173 ?_
      refine r_if_eq C dX5_loses_176 (tgt := 224) (by decide) (fun hc5 => ?_) (fun hc5 => ?_)
      · replace h := h.1 hc5
        exact rv O rfl dX5_loses_224 (by decide) (by decide) hF hn h
      · replace h := h.2 hc5
        refine r_iload C 4 dX5_loses_179 rfl ?_
        refine r_aloadn C 0 dX5_loses_181 rfl ?_
        refine r_getI C (hF.k (by decide) rfl) fl_5_254 rfl dX5_loses_182 ?_
        refine r_icmp_ne C dX5_loses_185 (tgt := 224) (by decide) (fun hc6 => ?_) (fun hc6 => ?_)
        · replace h := h.1 hc6
          exact rv O rfl dX5_loses_224 (by decide) (by decide) hF hn h
        · replace h := h.2 hc6
          refine r_aloadn C 0 dX5_loses_188 rfl ?_
          refine r_getR C (hF.k (by decide) rfl) fl_5_127 rfl (o := some 62) (hF.mR (by decide) rfl rfl) dX5_loses_189 ?_
          refine r_iloadn C 1 dX5_loses_192 rfl ?_
          refine r_iconst C (x := 1) dX5_loses_193 (by decide) ?_
          obtain ⟨hi7, h⟩ := h
          refine r_zast C (hF.k (by decide) rfl) (Or.inr rfl) (ixL (n := 2) rfl hi7) dX5_loses_194 ?_
          refine r_aloadn C 0 dX5_loses_195 rfl ?_
          refine r_getR C (hF.k (by decide) rfl) fl_5_130 rfl (o := some 63) (hF.mR (by decide) rfl rfl) dX5_loses_196 ?_
          refine r_iloadn C 1 dX5_loses_199 rfl ?_
          refine r_iload C 4 dX5_loses_200 rfl ?_
          refine r_iast C (hF.k (by decide) rfl) (ixL (n := 2) rfl hi7) dX5_loses_202 ?_
          refine r_goto C dX5_loses_203 (tgt := 224) (by decide) ?_
          exact rv O rfl dX5_loses_224 (by decide) (by decide) hF hn h
    · obtain rfl := Option.some.inj hi
      replace h := h.2.2.2.2.2.1 (hx1.trans (by decide))
      refine ⟨206, by decide, ?_⟩
      refine r_aloadn C 0 dX5_loses_206 rfl ?_
      refine r_getR C (hF.k (by decide) rfl) fl_5_133 rfl (o := some 64) (hF.mR (by decide) rfl rfl) dX5_loses_207 ?_
      refine r_iloadn C 1 dX5_loses_210 rfl ?_
      refine r_iconst C (x := 1) dX5_loses_211 (by decide) ?_
      obtain ⟨hi8, h⟩ := h
      refine r_zast C (hF.k (by decide) rfl) (Or.inr rfl) (ixL (n := 2) rfl hi8) dX5_loses_212 ?_
      refine r_aloadn C 0 dX5_loses_213 rfl ?_
      refine r_getR C (hF.k (by decide) rfl) fl_5_136 rfl (o := some 65) (hF.mR (by decide) rfl rfl) dX5_loses_214 ?_
      refine r_iloadn C 1 dX5_loses_217 rfl ?_
      refine r_iload C 4 dX5_loses_218 rfl ?_
      refine r_iast C (hF.k (by decide) rfl) (ixL (n := 2) rfl hi8) dX5_loses_220 ?_
      refine r_goto C dX5_loses_221 (tgt := 224) (by decide) ?_
      exact rv O rfl dX5_loses_224 (by decide) (by decide) hF hn h
  · replace h := h.2.2.2.2.2.2 (fun e => hx1 0 (by decide) (e.trans (by decide))) (fun e => hx1 1 (by decide) (e.trans (by decide))) (fun e => hx1 2 (by decide) (e.trans (by decide))) (fun e => hx1 3 (by decide) (e.trans (by decide))) (fun e => hx1 4 (by decide) (e.trans (by decide))) (fun e => hx1 5 (by decide) (e.trans (by decide)))
    refine ⟨224, by decide, ?_⟩
    exact rv O rfl dX5_loses_224 (by decide) (by decide) hF hn h
set_option maxHeartbeats 4000000 in
set_option maxRecDepth 100000 in
theorem s5_loses_63 {X : Ctx} {S0 S : Sto} {Q : Sto → Prop} (hF : Fx S) (hn : sN S0 ≤ sN S) (O : Ov X K5_loses S0 Q) {l3 : Int32} {l4 : Int32} {l5 : Int32} {l6 : Int32}   (h : ((l5 - l5 / 10000 * 10000) ≤ l6 → ((0 ≤ (l3 : Int32).toInt ∧ (l3 : Int32).toInt < (8 : Nat)) ∧ (∀ w12 : Int32, w12 = (if (gI S 33 l3.toNatClampNeg) = 0 then (if l5 < 10000 then 0 else (if (gI S 34 l3.toNatClampNeg) = 0 then 1 else 0 : Int32) : Int32) else 1 : Int32) → (Q (pI S 33 l3.toNatClampNeg w12))))) ∧ (¬ (l5 - l5 / 10000 * 10000) ≤ l6 → ((0 ≤ ((((1000 * l3) + l4) + l6) : Int32).toInt ∧ ((((1000 * l3) + l4) + l6) : Int32).toInt < (8000 : Nat)) ∧ (∀ w22 : Int32, w22 = (if (gI S 36 (((1000 * l3) + l4) + l6).toNatClampNeg) = 1 then 2 else (gI S 36 (((1000 * l3) + l4) + l6).toNatClampNeg) : Int32) → (WP X 63 [(0, vr 26), (3, vi l3), (4, vi l4), (5, vi l5), (6, vi (l6 + 1))] [] (pI S 36 (((1000 * l3) + l4) + l6).toNatClampNeg ((w22 : Int32).toInt8.toInt32)) 0 0))))) : WP X 63 [(0, vr 26), (3, vi l3), (4, vi l4), (5, vi l5), (6, vi l6)] [] S 0 0 := by
  have C := O.1
  refine r_iload C 4 dX5_loses_63 rfl ?_
  refine r_iload C 3 dX5_loses_65 rfl ?_
  refine r_sipush C (x := 10000) dX5_loses_67 (by decide) ?_
  refine r_irem C dX5_loses_70 (by decide) ?_
  refine r_icmp_ge C dX5_loses_71 (tgt := 122) (by decide) (fun hc4 => ?_) (fun hc4 => ?_)
  · replace h := h.1 hc4
    refine r_aloadn C 0 dX5_loses_122 rfl ?_
    refine r_getR C (hF.k (by decide) rfl) fl_5_39 rfl (o := some 33) (hF.mR (by decide) rfl rfl) dX5_loses_123 ?_
    refine r_iloadn C 1 dX5_loses_126 rfl ?_
    refine r_aloadn C 0 dX5_loses_127 rfl ?_
    refine r_getR C (hF.k (by decide) rfl) fl_5_39 rfl (o := some 33) (hF.mR (by decide) rfl rfl) dX5_loses_128 ?_
    refine r_iloadn C 1 dX5_loses_131 rfl ?_
    obtain ⟨hi5, h⟩ := h
    refine r_zald C (hF.k (by decide) rfl) (ixL (n := 8) rfl hi5) dX5_loses_132 ?_
    have kJ13 : ∀ (w12 : Int32) (_ : w12 = (if (gI S 33 l3.toNatClampNeg) = 0 then (if l5 < 10000 then 0 else (if (gI S 34 l3.toNatClampNeg) = 0 then 1 else 0 : Int32) : Int32) else 1 : Int32)), WP X 158 [] [vi w12, vi l3, vr 33] S 0 0 := by
      intro w12 hw12
      replace h := h w12 hw12
      have hz_w12 : w12 = 0 ∨ w12 = 1 := by rw [hw12]; repeat (first | exact Or.inl rfl | exact Or.inr rfl | assumption | split)
      refine r_zast C (hF.k (by decide) rfl) hz_w12 (ixL (n := 8) rfl hi5) dX5_loses_158 ?_
      refine r_goto C dX5_loses_159 (tgt := 224) (by decide) ?_
      exact rv O rfl dX5_loses_224 (by decide) (by decide) hF hn h
    refine r_if_ne C dX5_loses_133 (tgt := 153) (by decide) (fun hc14 => ?_) (fun hc14 => ?_)
    · refine r_iconst C (x := 1) dX5_loses_153 (by decide) ?_
      refine r_goto C dX5_loses_154 (tgt := 158) (by decide) ?_
      refine r_perm [] rfl ?_
      exact kJ13 _ (if_neg hc14).symm
    · refine r_iload C 3 dX5_loses_136 rfl ?_
      refine r_sipush C (x := 10000) dX5_loses_138 (by decide) ?_
      have kJ17 : WP X 158 [] [vi (if l5 < 10000 then 0 else (if (gI S 34 l3.toNatClampNeg) = 0 then 1 else 0 : Int32) : Int32), vi l3, vr 33] S 0 0 := by
        refine r_perm [] rfl ?_
        exact kJ13 _ (if_pos hc14).symm
      refine r_icmp_lt C dX5_loses_141 (tgt := 157) (by decide) (fun hc18 => ?_) (fun hc18 => ?_)
      · refine r_iconst C (x := 0) dX5_loses_157 (by decide) ?_
        refine r_perm [] rfl ?_
        rw [show (if l5 < 10000 then 0 else (if (gI S 34 l3.toNatClampNeg) = 0 then 1 else 0 : Int32) : Int32) = 0 from if_pos hc18] at kJ17
        exact kJ17
      · refine r_aloadn C 0 dX5_loses_144 rfl ?_
        refine r_getR C (hF.k (by decide) rfl) fl_5_42 rfl (o := some 34) (hF.mR (by decide) rfl rfl) dX5_loses_145 ?_
        refine r_iloadn C 1 dX5_loses_148 rfl ?_
        refine r_zald C (hF.k (by decide) rfl) (ixL (n := 8) rfl hi5) dX5_loses_149 ?_
        have kJ19 : WP X 158 [] [vi (if (gI S 34 l3.toNatClampNeg) = 0 then 1 else 0 : Int32), vi l3, vr 33] S 0 0 := by
          refine r_perm [] rfl ?_
          rw [show (if l5 < 10000 then 0 else (if (gI S 34 l3.toNatClampNeg) = 0 then 1 else 0 : Int32) : Int32) = (if (gI S 34 l3.toNatClampNeg) = 0 then 1 else 0 : Int32) from if_neg hc18] at kJ17
          exact kJ17
        refine r_if_ne C dX5_loses_150 (tgt := 157) (by decide) (fun hc20 => ?_) (fun hc20 => ?_)
        · refine r_iconst C (x := 0) dX5_loses_157 (by decide) ?_
          refine r_perm [] rfl ?_
          rw [show (if (gI S 34 l3.toNatClampNeg) = 0 then 1 else 0 : Int32) = 0 from if_neg hc20] at kJ19
          exact kJ19
        · refine r_iconst C (x := 1) dX5_loses_153 (by decide) ?_
          refine r_goto C dX5_loses_154 (tgt := 158) (by decide) ?_
          refine r_perm [] rfl ?_
          rw [show (if (gI S 34 l3.toNatClampNeg) = 0 then 1 else 0 : Int32) = 1 from if_pos hc20] at kJ19
          exact kJ19
  · replace h := h.2 hc4
    refine r_sipush C (x := 1000) dX5_loses_74 (by decide) ?_
    refine r_iloadn C 1 dX5_loses_77 rfl ?_
    refine r_imul C dX5_loses_78 ?_
    refine r_iload C 2 dX5_loses_79 rfl ?_
    refine r_iadd C dX5_loses_81 ?_
    refine r_iload C 4 dX5_loses_82 rfl ?_
    refine r_iadd C dX5_loses_84 ?_
    refine r_istore C dX5_loses_85 (by decide) rfl rfl ?_
    refine r_aloadn C 1 dX5_loses_87 rfl ?_
    refine r_getR C (hF.k (by decide) rfl) fl_5_48 rfl (o := some 36) (hF.mR (by decide) rfl rfl) dX5_loses_88 ?_
    refine r_iload C 0 dX5_loses_91 rfl ?_
    refine r_aloadn C 1 dX5_loses_93 rfl ?_
    refine r_getR C (hF.k (by decide) rfl) fl_5_48 rfl (o := some 36) (hF.mR (by decide) rfl rfl) dX5_loses_94 ?_
    refine r_iload C 0 dX5_loses_97 rfl ?_
    obtain ⟨hi21, h⟩ := h
    refine r_bald C (hF.k (by decide) rfl) (ixL (n := 8000) rfl hi21) dX5_loses_99 ?_
    refine r_iconst C (x := 1) dX5_loses_100 (by decide) ?_
    have kJ23 : ∀ (w22 : Int32) (_ : w22 = (if (gI S 36 (((1000 * l3) + l4) + l6).toNatClampNeg) = 1 then 2 else (gI S 36 (((1000 * l3) + l4) + l6).toNatClampNeg) : Int32)), WP X 115 [(0, vr 26), (3, vi l3), (4, vi l4), (5, vi l5), (6, vi l6)] [vi w22, vi (((1000 * l3) + l4) + l6), vr 36] S 0 0 := by
      intro w22 hw22
      replace h := h w22 hw22
      refine r_bast C (hF.k (by decide) rfl) (ixL (n := 8000) rfl hi21) dX5_loses_115 ?_
      refine r_iinc C (y := (l6 + 1)) 4 dX5_loses_116 rfl rfl (by decide) rfl rfl ?_
      refine r_goto C dX5_loses_119 (tgt := 63) (by decide) ?_
      refine r_perm [1, 2, 3, 4, 0] rfl ?_
      exact h
    refine r_icmp_ne C dX5_loses_101 (tgt := 108) (by decide) (fun hc24 => ?_) (fun hc24 => ?_)
    · refine r_aloadn C 1 dX5_loses_108 rfl ?_
      refine r_getR C (hF.k (by decide) rfl) fl_5_48 rfl (o := some 36) (hF.mR (by decide) rfl rfl) dX5_loses_109 ?_
      refine r_iload C 0 dX5_loses_112 rfl ?_
      refine r_bald C (hF.k (by decide) rfl) (ixL (n := 8000) rfl hi21) dX5_loses_114 ?_
      refine r_perm [1, 2, 3, 4, 5] rfl ?_
      exact kJ23 _ (if_neg hc24).symm
    · refine r_iconst C (x := 2) dX5_loses_104 (by decide) ?_
      refine r_goto C dX5_loses_105 (tgt := 115) (by decide) ?_
      refine r_perm [1, 2, 3, 4, 5] rfl ?_
      exact kJ23 _ (if_pos hc24).symm
set_option maxHeartbeats 4000000 in
set_option maxRecDepth 100000 in
theorem e5_drop {S : Sto} {Q : Int32 → Sto → Prop} (hF : Fx S) {p1 : Int32}  (h : (¬ (if (0 : Int64).toInt ≤ ((p1 : Int32).toInt64 : Int64).toInt ∧ ((p1 : Int32).toInt64 : Int64).toInt ≤ ((((gI S 26 62) - 1) : Int32).toInt64 : Int64).toInt then 1 else 0 : Int32) = 0 → (Cv K5_takeOut [vr 26, vi p1] S (fun S3 => Q (gI S3 26 62) S3))) ∧ ((if (0 : Int64).toInt ≤ ((p1 : Int32).toInt64 : Int64).toInt ∧ ((p1 : Int32).toInt64 : Int64).toInt ≤ ((((gI S 26 62) - 1) : Int32).toInt64 : Int64).toInt then 1 else 0 : Int32) = 0 → (Q (-1) S))) : Ci K5_drop [vr 26, vi p1] S Q := by
  refine Ci.intro rfl (Nat.le_of_ble_eq_true rfl) (fun X O => ?_)
  have C := O.1
  have hn : sN S ≤ sN S := Nat.le_refl _
  show WP X 0 [(0, vr 26), (1, vi p1)] [] S 0 0
  refine r_iloadn C 1 dX5_drop_0 rfl ?_
  refine r_i2l C dX5_drop_1 ?_
  refine r_lconst C dX5_drop_2 (x := 0) (by decide) ?_
  refine r_aloadn C 0 dX5_drop_3 rfl ?_
  refine r_getI C (hF.k (by decide) rfl) fl_5_232 rfl dX5_drop_4 ?_
  refine r_iconst C (x := 1) dX5_drop_7 (by decide) ?_
  refine r_isub C dX5_drop_8 ?_
  refine r_i2l C dX5_drop_9 ?_
  refine r_callSi C K5_in [vl ((p1 : Int32).toInt64), vl 0, vl ((((gI S 26 62) - 1) : Int32).toInt64)] [] cl_5_185 rm_5_drop_5_in ⟨rfl, rfl⟩ (by decide) (by decide) rfl (Nat.le_of_ble_eq_true rfl) dX5_drop_10 (q5_inH (S := S) hF) (fun x1 _ _ _ hq => ?_)
  obtain ⟨hqa, hqb⟩ := hq; obtain rfl := hqa.symm; obtain rfl := hqb.symm
  refine r_if_ne C dX5_drop_13 (tgt := 18) (by decide) (fun hc2 => ?_) (fun hc2 => ?_)
  · replace h := h.1 hc2
    refine r_aloadn C 0 dX5_drop_18 rfl ?_
    refine r_iloadn C 1 dX5_drop_19 rfl ?_
    refine r_callVv C K5_takeOut [vi p1] [] (hF.k (by decide) rfl) (by decide) rfl cl_5_264 rm_5_drop_5_takeOut ⟨rfl, rfl⟩ (by decide) (by decide) rfl (Nat.le_of_ble_eq_true rfl) dX5_drop_20 h (fun S3 hF3 hn3 h => ?_)
    refine r_aloadn C 0 dX5_drop_23 rfl ?_
    refine r_getI C (hF3.k (by decide) rfl) fl_5_232 rfl dX5_drop_24 ?_
    exact ri O ⟨_, rfl, rfl⟩ dX5_drop_27 (by decide) (by decide) hF3 (Nat.le_trans hn hn3) h
  · replace h := h.2 hc2
    refine r_iconst C (x := (-1)) dX5_drop_16 (by decide) ?_
    exact ri O ⟨_, rfl, rfl⟩ dX5_drop_17 (by decide) (by decide) hF hn h
set_option maxHeartbeats 4000000 in
set_option maxRecDepth 100000 in
theorem e5_twice {S : Sto} {Q : Int32 → Sto → Prop} (hF : Fx S) {p1 : Int32}  (h : (¬ (if (0 : Int64).toInt ≤ ((p1 : Int32).toInt64 : Int64).toInt ∧ ((p1 : Int32).toInt64 : Int64).toInt ≤ ((((gI S 26 62) - 1) : Int32).toInt64 : Int64).toInt then 1 else 0 : Int32) = 0 → ((¬ (gI S 26 62) = 400 → ((0 ≤ (p1 : Int32).toInt ∧ (p1 : Int32).toInt < (400 : Nat)) ∧ ((0 ≤ ((gI S 26 62) : Int32).toInt ∧ ((gI S 26 62) : Int32).toInt < (400 : Nat)) ∧ (Q ((gI S 26 62) + 1) (pI (pI (pI S 76 (gI S 26 62).toNatClampNeg (gI S 76 p1.toNatClampNeg)) 77 (gI S 26 62).toNatClampNeg (gI S 77 p1.toNatClampNeg)) 26 62 ((gI S 26 62) + 1)))))) ∧ ((gI S 26 62) = 400 → (Q (-4) S)))) ∧ ((if (0 : Int64).toInt ≤ ((p1 : Int32).toInt64 : Int64).toInt ∧ ((p1 : Int32).toInt64 : Int64).toInt ≤ ((((gI S 26 62) - 1) : Int32).toInt64 : Int64).toInt then 1 else 0 : Int32) = 0 → (Q (-1) S))) : Ci K5_twice [vr 26, vi p1] S Q := by
  refine Ci.intro rfl (Nat.le_of_ble_eq_true rfl) (fun X O => ?_)
  have C := O.1
  have hn : sN S ≤ sN S := Nat.le_refl _
  show WP X 0 [(0, vr 26), (1, vi p1)] [] S 0 0
  refine r_iloadn C 1 dX5_twice_0 rfl ?_
  refine r_i2l C dX5_twice_1 ?_
  refine r_lconst C dX5_twice_2 (x := 0) (by decide) ?_
  refine r_aloadn C 0 dX5_twice_3 rfl ?_
  refine r_getI C (hF.k (by decide) rfl) fl_5_232 rfl dX5_twice_4 ?_
  refine r_iconst C (x := 1) dX5_twice_7 (by decide) ?_
  refine r_isub C dX5_twice_8 ?_
  refine r_i2l C dX5_twice_9 ?_
  refine r_callSi C K5_in [vl ((p1 : Int32).toInt64), vl 0, vl ((((gI S 26 62) - 1) : Int32).toInt64)] [] cl_5_185 rm_5_twice_5_in ⟨rfl, rfl⟩ (by decide) (by decide) rfl (Nat.le_of_ble_eq_true rfl) dX5_twice_10 (q5_inH (S := S) hF) (fun x1 _ _ _ hq => ?_)
  obtain ⟨hqa, hqb⟩ := hq; obtain rfl := hqa.symm; obtain rfl := hqb.symm
  refine r_if_ne C dX5_twice_13 (tgt := 18) (by decide) (fun hc2 => ?_) (fun hc2 => ?_)
  · replace h := h.1 hc2
    refine r_aloadn C 0 dX5_twice_18 rfl ?_
    refine r_getI C (hF.k (by decide) rfl) fl_5_232 rfl dX5_twice_19 ?_
    refine r_sipush C (x := 400) dX5_twice_22 (by decide) ?_
    refine r_icmp_ne C dX5_twice_25 (tgt := 31) (by decide) (fun hc3 => ?_) (fun hc3 => ?_)
    · replace h := h.1 hc3
      refine r_aloadn C 0 dX5_twice_31 rfl ?_
      refine r_getR C (hF.k (by decide) rfl) fl_5_170 rfl (o := some 76) (hF.mR (by decide) rfl rfl) dX5_twice_32 ?_
      refine r_aloadn C 0 dX5_twice_35 rfl ?_
      refine r_getI C (hF.k (by decide) rfl) fl_5_232 rfl dX5_twice_36 ?_
      refine r_aloadn C 0 dX5_twice_39 rfl ?_
      refine r_getR C (hF.k (by decide) rfl) fl_5_170 rfl (o := some 76) (hF.mR (by decide) rfl rfl) dX5_twice_40 ?_
      refine r_iloadn C 1 dX5_twice_43 rfl ?_
      obtain ⟨hi4, h⟩ := h
      refine r_iald C (hF.k (by decide) rfl) (ixL (n := 400) rfl hi4) dX5_twice_44 ?_
      obtain ⟨hi5, h⟩ := h
      refine r_iast C (hF.k (by decide) rfl) (ixL (n := 400) rfl hi5) dX5_twice_45 ?_
      refine r_aloadn C 0 dX5_twice_46 rfl ?_
      refine r_getR C (hF.k (by decide) rfl) fl_5_173 rfl (o := some 77) (hF.mR (by decide) rfl rfl) dX5_twice_47 ?_
      refine r_aloadn C 0 dX5_twice_50 rfl ?_
      refine r_getI C (hF.k (by decide) rfl) fl_5_232 rfl dX5_twice_51 ?_
      refine r_aloadn C 0 dX5_twice_54 rfl ?_
      refine r_getR C (hF.k (by decide) rfl) fl_5_173 rfl (o := some 77) (hF.mR (by decide) rfl rfl) dX5_twice_55 ?_
      refine r_iloadn C 1 dX5_twice_58 rfl ?_
      refine r_iald C (hF.k (by decide) rfl) (ixL (n := 400) rfl hi4) dX5_twice_59 ?_
      refine r_iast C (hF.k (by decide) rfl) (ixL (n := 400) rfl hi5) dX5_twice_60 ?_
      refine r_aloadn C 0 dX5_twice_61 rfl ?_
      refine r_dup C rfl dX5_twice_62 ?_
      refine r_getI C (hF.k (by decide) rfl) fl_5_232 rfl dX5_twice_63 ?_
      refine r_iconst C (x := 1) dX5_twice_66 (by decide) ?_
      refine r_iadd C dX5_twice_67 ?_
      refine r_putI C (hF.k (by decide) rfl) fl_5_232 rfl rfl dX5_twice_68 ?_
      refine r_aloadn C 0 dX5_twice_71 rfl ?_
      refine r_getI C (hF.k (by decide) rfl) fl_5_232 rfl dX5_twice_72 ?_
      exact ri O ⟨_, rfl, rfl⟩ dX5_twice_75 (by decide) (by decide) hF hn h
    · replace h := h.2 hc3
      refine r_bipush C (x := (-4)) dX5_twice_28 (by decide) ?_
      exact ri O ⟨_, rfl, rfl⟩ dX5_twice_30 (by decide) (by decide) hF hn h
  · replace h := h.2 hc2
    refine r_iconst C (x := (-1)) dX5_twice_16 (by decide) ?_
    exact ri O ⟨_, rfl, rfl⟩ dX5_twice_17 (by decide) (by decide) hF hn h
set_option maxHeartbeats 4000000 in
set_option maxRecDepth 100000 in
theorem e5_waitOf {S : Sto} {Q : Int32 → Sto → Prop} (hF : Fx S) {p1 : Int32}  (h : (0 ≤ (p1 : Int32).toInt ∧ (p1 : Int32).toInt < (2 : Nat)) ∧ ((0 ≤ (gI S 49 p1.toNatClampNeg) → (∀ w3 : Int32, w3 = (if (4 * (gI S 51 p1.toNatClampNeg)) ≤ 8 then 8 else (4 * (gI S 51 p1.toNatClampNeg)) : Int32) → (Q ((((gI S 50 p1.toNatClampNeg) + w3) / 8) + 2) S))) ∧ (¬ 0 ≤ (gI S 49 p1.toNatClampNeg) → (Q 8 S)))) : Ci K5_waitOf [vr 26, vi p1] S Q := by
  refine Ci.intro rfl (Nat.le_of_ble_eq_true rfl) (fun X O => ?_)
  have C := O.1
  have hn : sN S ≤ sN S := Nat.le_refl _
  show WP X 0 [(0, vr 26), (1, vi p1)] [] S 0 0
  refine r_aloadn C 0 dX5_waitOf_0 rfl ?_
  refine r_getR C (hF.k (by decide) rfl) fl_5_88 rfl (o := some 49) (hF.mR (by decide) rfl rfl) dX5_waitOf_1 ?_
  refine r_iloadn C 1 dX5_waitOf_4 rfl ?_
  obtain ⟨hi1, h⟩ := h
  refine r_iald C (hF.k (by decide) rfl) (ixL (n := 2) rfl hi1) dX5_waitOf_5 ?_
  refine r_if_ge C dX5_waitOf_6 (tgt := 12) (by decide) (fun hc2 => ?_) (fun hc2 => ?_)
  · replace h := h.1 hc2
    refine r_iconst C (x := 4) dX5_waitOf_12 (by decide) ?_
    refine r_aloadn C 0 dX5_waitOf_13 rfl ?_
    refine r_getR C (hF.k (by decide) rfl) fl_5_94 rfl (o := some 51) (hF.mR (by decide) rfl rfl) dX5_waitOf_14 ?_
    refine r_iloadn C 1 dX5_waitOf_17 rfl ?_
    refine r_iald C (hF.k (by decide) rfl) (ixL (n := 2) rfl hi1) dX5_waitOf_18 ?_
    refine r_imul C dX5_waitOf_19 ?_
    refine r_bipush C (x := 8) dX5_waitOf_20 (by decide) ?_
    have kJ4 : ∀ (w3 : Int32) (_ : w3 = (if (4 * (gI S 51 p1.toNatClampNeg)) ≤ 8 then 8 else (4 * (gI S 51 p1.toNatClampNeg)) : Int32)), WP X 38 [(0, vr 26), (1, vi p1)] [vi w3] S 0 0 := by
      intro w3 hw3
      replace h := h w3 hw3
      refine r_istoren C dX5_waitOf_38 (by decide) rfl rfl ?_
      refine r_aloadn C 1 dX5_waitOf_39 rfl ?_
      refine r_getR C (hF.k (by decide) rfl) fl_5_91 rfl (o := some 50) (hF.mR (by decide) rfl rfl) dX5_waitOf_40 ?_
      refine r_iloadn C 2 dX5_waitOf_43 rfl ?_
      refine r_iald C (hF.k (by decide) rfl) (ixL (n := 2) rfl hi1) dX5_waitOf_44 ?_
      refine r_iloadn C 0 dX5_waitOf_45 rfl ?_
      refine r_iadd C dX5_waitOf_46 ?_
      refine r_bipush C (x := 8) dX5_waitOf_47 (by decide) ?_
      refine r_idiv C dX5_waitOf_49 (by decide) ?_
      refine r_iconst C (x := 2) dX5_waitOf_50 (by decide) ?_
      refine r_iadd C dX5_waitOf_51 ?_
      exact ri O ⟨_, rfl, rfl⟩ dX5_waitOf_52 (by decide) (by decide) hF hn h
    refine r_icmp_le C dX5_waitOf_22 (tgt := 36) (by decide) (fun hc5 => ?_) (fun hc5 => ?_)
    · refine r_bipush C (x := 8) dX5_waitOf_36 (by decide) ?_
      refine r_perm [0, 1] rfl ?_
      exact kJ4 _ (if_pos hc5).symm
    · refine r_iconst C (x := 4) dX5_waitOf_25 (by decide) ?_
      refine r_aloadn C 0 dX5_waitOf_26 rfl ?_
      refine r_getR C (hF.k (by decide) rfl) fl_5_94 rfl (o := some 51) (hF.mR (by decide) rfl rfl) dX5_waitOf_27 ?_
      refine r_iloadn C 1 dX5_waitOf_30 rfl ?_
      refine r_iald C (hF.k (by decide) rfl) (ixL (n := 2) rfl hi1) dX5_waitOf_31 ?_
      refine r_imul C dX5_waitOf_32 ?_
      refine r_goto C dX5_waitOf_33 (tgt := 38) (by decide) ?_
      refine r_perm [0, 1] rfl ?_
      exact kJ4 _ (if_neg hc5).symm
  · replace h := h.2 hc2
    refine r_bipush C (x := 8) dX5_waitOf_9 (by decide) ?_
    exact ri O ⟨_, rfl, rfl⟩ dX5_waitOf_11 (by decide) (by decide) hF hn h
set_option maxHeartbeats 4000000 in
set_option maxRecDepth 100000 in
theorem e5_tick {S : Sto} {Q : Int32 → Sto → Prop} (hF : Fx S) {p1 : Int32}  (h : ∀ X : Ctx, Oi X K5_tick S Q → (¬ (if (1 : Int64).toInt ≤ ((p1 : Int32).toInt64 : Int64).toInt ∧ ((p1 : Int32).toInt64 : Int64).toInt ≤ (1000 : Int64).toInt then 1 else 0 : Int32) = 0 → (WP X 17 [(0, vr 26), (1, vi p1), (2, vi 0)] [] S 0 0)) ∧ ((if (1 : Int64).toInt ≤ ((p1 : Int32).toInt64 : Int64).toInt ∧ ((p1 : Int32).toInt64 : Int64).toInt ≤ (1000 : Int64).toInt then 1 else 0 : Int32) = 0 → (Q (-2) S))) : Ci K5_tick [vr 26, vi p1] S Q := by
  refine Ci.intro rfl (Nat.le_of_ble_eq_true rfl) (fun X O => ?_)
  replace h := h X O
  have C := O.1
  have hn : sN S ≤ sN S := Nat.le_refl _
  show WP X 0 [(0, vr 26), (1, vi p1)] [] S 0 0
  refine r_iloadn C 1 dX5_tick_0 rfl ?_
  refine r_i2l C dX5_tick_1 ?_
  refine r_lconst C dX5_tick_2 (x := 1) (by decide) ?_
  refine r_ldc2 C (x := 1000) (mB 794 (by decide +kernel) rfl) dX5_tick_3 ?_
  refine r_callSi C K5_in [vl ((p1 : Int32).toInt64), vl 1, vl 1000] [] cl_5_185 rm_5_tick_5_in ⟨rfl, rfl⟩ (by decide) (by decide) rfl (Nat.le_of_ble_eq_true rfl) dX5_tick_6 (q5_inH (S := S) hF) (fun x1 _ _ _ hq => ?_)
  obtain ⟨hqa, hqb⟩ := hq; obtain rfl := hqa.symm; obtain rfl := hqb.symm
  refine r_if_ne C dX5_tick_9 (tgt := 15) (by decide) (fun hc2 => ?_) (fun hc2 => ?_)
  · replace h := h.1 hc2
    refine r_iconst C (x := 0) dX5_tick_15 (by decide) ?_
    refine r_istoren C dX5_tick_16 (by decide) rfl rfl ?_
    refine r_perm [1, 2, 0] rfl ?_
    exact h
  · replace h := h.2 hc2
    refine r_bipush C (x := (-2)) dX5_tick_12 (by decide) ?_
    exact ri O ⟨_, rfl, rfl⟩ dX5_tick_14 (by decide) (by decide) hF hn h
set_option maxHeartbeats 4000000 in
set_option maxRecDepth 100000 in
theorem s5_tick_17 {X : Ctx} {S0 S : Sto} {Q : Int32 → Sto → Prop} (hF : Fx S) (hn : sN S0 ≤ sN S) (O : Oi X K5_tick S0 Q) {l1 : Int32} {l2 : Int32}   (h : (l1 ≤ l2 → (Q (gI S 26 3) S)) ∧ (¬ l1 ≤ l2 → (WP X 34 [(0, vr 26), (1, vi l1), (2, vi l2), (3, vi 0)] [] (pI S 26 3 ((gI S 26 3) + 1)) 0 0))) : WP X 17 [(0, vr 26), (1, vi l1), (2, vi l2)] [] S 0 0 := by
  have C := O.1
  refine r_iloadn C 2 dX5_tick_17 rfl ?_
  refine r_iloadn C 1 dX5_tick_18 rfl ?_
  refine r_icmp_ge C dX5_tick_19 (tgt := 132) (by decide) (fun hc1 => ?_) (fun hc1 => ?_)
  · replace h := h.1 hc1
    refine r_aloadn C 0 dX5_tick_132 rfl ?_
    refine r_getI C (hF.k (by decide) rfl) fl_5_251 rfl dX5_tick_133 ?_
    exact ri O ⟨_, rfl, rfl⟩ dX5_tick_136 (by decide) (by decide) hF hn h
  · replace h := h.2 hc1
    refine r_aloadn C 0 dX5_tick_22 rfl ?_
    refine r_dup C rfl dX5_tick_23 ?_
    refine r_getI C (hF.k (by decide) rfl) fl_5_251 rfl dX5_tick_24 ?_
    refine r_iconst C (x := 1) dX5_tick_27 (by decide) ?_
    refine r_iadd C dX5_tick_28 ?_
    refine r_putI C (hF.k (by decide) rfl) fl_5_251 rfl rfl dX5_tick_29 ?_
    refine r_iconst C (x := 0) dX5_tick_32 (by decide) ?_
    refine r_istoren C dX5_tick_33 (by decide) rfl rfl ?_
    refine r_perm [1, 2, 3, 0] rfl ?_
    exact h
set_option maxHeartbeats 4000000 in
set_option maxRecDepth 100000 in
theorem s5_tick_34 {X : Ctx} {S0 S : Sto} {Q : Int32 → Sto → Prop} (hF : Fx S) (hn : sN S0 ≤ sN S) (O : Oi X K5_tick S0 Q) {l1 : Int32} {l2 : Int32} {l3 : Int32}   (h : (2 ≤ l3 → (WP X 17 [(0, vr 26), (1, vi l1), (2, vi (l2 + 1))] [] S 0 0)) ∧ (¬ 2 ≤ l3 → (Cv K5_lookForLost [vr 26, vi l3] S (fun S2 => Ci K5_waitOf [vr 26, vi l3] S2 (fun x3 S3 => (0 ≤ (l3 : Int32).toInt ∧ (l3 : Int32).toInt < (2 : Nat)) ∧ (∀ w5 : Int32, w5 = (if (gI S3 52 l3.toNatClampNeg) ≤ 6 then (gI S3 52 l3.toNatClampNeg) else 6 : Int32) → (((gI S3 45 l3.toNatClampNeg) ≤ 0 → (WP X 34 [(0, vr 26), (1, vi l1), (2, vi l2), (3, vi (l3 + 1))] [] S3 0 0)) ∧ (¬ (gI S3 45 l3.toNatClampNeg) ≤ 0 → (((lg_cmp (((gI S3 26 3) : Int32).toInt64) ((((gI S3 60 l3.toNatClampNeg) : Int32).toInt64) + (((x3 : Int32).toInt64) <<< ((w5 : Int32).toInt64 &&& 63)))) < 0 → (WP X 34 [(0, vr 26), (1, vi l1), (2, vi l2), (3, vi (l3 + 1))] [] S3 0 0)) ∧ (¬ (lg_cmp (((gI S3 26 3) : Int32).toInt64) ((((gI S3 60 l3.toNatClampNeg) : Int32).toInt64) + (((x3 : Int32).toInt64) <<< ((w5 : Int32).toInt64 &&& 63)))) < 0 → (WP X 34 [(0, vr 26), (1, vi l1), (2, vi l2), (3, vi (l3 + 1))] [] (pI (pI S3 53 l3.toNatClampNeg 1) 52 l3.toNatClampNeg ((gI S3 52 l3.toNatClampNeg) + 1)) 0 0))))))))))) : WP X 34 [(0, vr 26), (1, vi l1), (2, vi l2), (3, vi l3)] [] S 0 0 := by
  have C := O.1
  refine r_iloadn C 3 dX5_tick_34 rfl ?_
  refine r_iconst C (x := 2) dX5_tick_35 (by decide) ?_
  refine r_icmp_ge C dX5_tick_36 (tgt := 126) (by decide) (fun hc1 => ?_) (fun hc1 => ?_)
  · replace h := h.1 hc1
    refine r_iinc C (y := (l2 + 1)) 2 dX5_tick_126 rfl rfl (by decide) rfl rfl ?_
    refine r_goto C dX5_tick_129 (tgt := 17) (by decide) ?_
    refine r_perm [1, 2, 0] rfl ?_
    exact h
  · replace h := h.2 hc1
    refine r_aloadn C 0 dX5_tick_39 rfl ?_
    refine r_iloadn C 3 dX5_tick_40 rfl ?_
    refine r_callVv C K5_lookForLost [vi l3] [] (hF.k (by decide) rfl) (by decide) rfl cl_5_291 rm_5_tick_5_lookForLost ⟨rfl, rfl⟩ (by decide) (by decide) rfl (Nat.le_of_ble_eq_true rfl) dX5_tick_41 h (fun S2 hF2 hn2 h => ?_)
    refine r_aloadn C 0 dX5_tick_44 rfl ?_
    refine r_iloadn C 3 dX5_tick_45 rfl ?_
    refine r_callVi C K5_waitOf [vi l3] [] (hF2.k (by decide) rfl) (by decide) rfl cl_5_301 rm_5_tick_5_waitOf ⟨rfl, rfl⟩ (by decide) (by decide) rfl (Nat.le_of_ble_eq_true rfl) dX5_tick_46 h (fun x3 S3 hF3 hn3 h => ?_)
    refine r_i2l C dX5_tick_49 ?_
    refine r_aloadn C 0 dX5_tick_50 rfl ?_
    refine r_getR C (hF3.k (by decide) rfl) fl_5_97 rfl (o := some 52) (hF3.mR (by decide) rfl rfl) dX5_tick_51 ?_
    refine r_iloadn C 3 dX5_tick_54 rfl ?_
    obtain ⟨hi4, h⟩ := h
    refine r_iald C (hF3.k (by decide) rfl) (ixL (n := 2) rfl hi4) dX5_tick_55 ?_
    refine r_bipush C (x := 6) dX5_tick_56 (by decide) ?_
    have kJ6 : ∀ (w5 : Int32) (_ : w5 = (if (gI S3 52 l3.toNatClampNeg) ≤ 6 then (gI S3 52 l3.toNatClampNeg) else 6 : Int32)), WP X 72 [(0, vr 26), (1, vi l1), (2, vi l2), (3, vi l3)] [vi w5, vl ((x3 : Int32).toInt64)] S3 0 0 := by
      intro w5 hw5
      replace h := h w5 hw5
      refine r_lshl C dX5_tick_72 ?_
      refine r_lstore2 C dX5_tick_73 (by decide) rfl rfl ?_
      refine r_aloadn C 1 dX5_tick_75 rfl ?_
      refine r_getR C (hF3.k (by decide) rfl) fl_5_76 rfl (o := some 45) (hF3.mR (by decide) rfl rfl) dX5_tick_76 ?_
      refine r_iloadn C 4 dX5_tick_79 rfl ?_
      refine r_iald C (hF3.k (by decide) rfl) (ixL (n := 2) rfl hi4) dX5_tick_80 ?_
      refine r_if_le C dX5_tick_81 (tgt := 120) (by decide) (fun hc8 => ?_) (fun hc8 => ?_)
      · replace h := h.1 hc8
        refine r_iinc C (y := (l3 + 1)) 4 dX5_tick_120 rfl rfl (by decide) rfl rfl ?_
        refine r_goto C dX5_tick_123 (tgt := 34) (by decide) ?_
        refine r_perm [2, 3, 4, 0] rfl ?_
        exact h
      · replace h := h.2 hc8
        refine r_aloadn C 1 dX5_tick_84 rfl ?_
        refine r_getI C (hF3.k (by decide) rfl) fl_5_251 rfl dX5_tick_85 ?_
        refine r_i2l C dX5_tick_88 ?_
        refine r_aloadn C 1 dX5_tick_89 rfl ?_
        refine r_getR C (hF3.k (by decide) rfl) fl_5_121 rfl (o := some 60) (hF3.mR (by decide) rfl rfl) dX5_tick_90 ?_
        refine r_iloadn C 4 dX5_tick_93 rfl ?_
        refine r_iald C (hF3.k (by decide) rfl) (ixL (n := 2) rfl hi4) dX5_tick_94 ?_
        refine r_i2l C dX5_tick_95 ?_
        refine r_lload C 0 dX5_tick_96 rfl ?_
        refine r_ladd C dX5_tick_98 ?_
        refine r_lcmp C dX5_tick_99 ?_
        refine r_if_lt C dX5_tick_100 (tgt := 120) (by decide) (fun hc9 => ?_) (fun hc9 => ?_)
        · replace h := h.1 hc9
          refine r_iinc C (y := (l3 + 1)) 4 dX5_tick_120 rfl rfl (by decide) rfl rfl ?_
          refine r_goto C dX5_tick_123 (tgt := 34) (by decide) ?_
          refine r_perm [2, 3, 4, 0] rfl ?_
          exact h
        · replace h := h.2 hc9
          refine r_aloadn C 1 dX5_tick_103 rfl ?_
          refine r_getR C (hF3.k (by decide) rfl) fl_5_100 rfl (o := some 53) (hF3.mR (by decide) rfl rfl) dX5_tick_104 ?_
          refine r_iloadn C 4 dX5_tick_107 rfl ?_
          refine r_iconst C (x := 1) dX5_tick_108 (by decide) ?_
          refine r_zast C (hF3.k (by decide) rfl) (Or.inr rfl) (ixL (n := 2) rfl hi4) dX5_tick_109 ?_
          refine r_aloadn C 1 dX5_tick_110 rfl ?_
          refine r_getR C (hF3.k (by decide) rfl) fl_5_97 rfl (o := some 52) (hF3.mR (by decide) rfl rfl) dX5_tick_111 ?_
          refine r_iloadn C 4 dX5_tick_114 rfl ?_
          refine r_dup2 C rfl rfl dX5_tick_115 ?_
          refine r_iald C (hF3.k (by decide) rfl) (ixL (n := 2) rfl hi4) dX5_tick_116 ?_
          refine r_iconst C (x := 1) dX5_tick_117 (by decide) ?_
          refine r_iadd C dX5_tick_118 ?_
          refine r_iast C (hF3.k (by decide) rfl) (ixL (n := 2) rfl hi4) dX5_tick_119 ?_
          refine r_iinc C (y := (l3 + 1)) 4 dX5_tick_120 rfl rfl (by decide) rfl rfl ?_
          refine r_goto C dX5_tick_123 (tgt := 34) (by decide) ?_
          refine r_perm [2, 3, 4, 0] rfl ?_
          exact h
    refine r_icmp_le C dX5_tick_58 (tgt := 66) (by decide) (fun hc7 => ?_) (fun hc7 => ?_)
    · refine r_aloadn C 0 dX5_tick_66 rfl ?_
      refine r_getR C (hF3.k (by decide) rfl) fl_5_97 rfl (o := some 52) (hF3.mR (by decide) rfl rfl) dX5_tick_67 ?_
      refine r_iloadn C 3 dX5_tick_70 rfl ?_
      refine r_iald C (hF3.k (by decide) rfl) (ixL (n := 2) rfl hi4) dX5_tick_71 ?_
      refine r_perm [0, 1, 2, 3] rfl ?_
      exact kJ6 _ (if_pos hc7).symm
    · refine r_bipush C (x := 6) dX5_tick_61 (by decide) ?_
      refine r_goto C dX5_tick_63 (tgt := 72) (by decide) ?_
      refine r_perm [0, 1, 2, 3] rfl ?_
      exact kJ6 _ (if_neg hc7).symm
set_option maxHeartbeats 4000000 in
set_option maxRecDepth 100000 in
theorem e5_many {S : Sto} {Q : Int32 → Sto → Prop} (hF : Fx S) {p1 : Int32} {p2 : Int32}  (h : ∀ X : Ctx, Oi X K5_many S Q → WP X 5 [(0, vr 26), (1, vi p1), (2, vi p2), (3, vi 0), (4, vi 0)] [] S 0 0) : Ci K5_many [vr 26, vi p1, vi p2] S Q := by
  refine Ci.intro rfl (Nat.le_of_ble_eq_true rfl) (fun X O => ?_)
  replace h := h X O
  have C := O.1
  have hn : sN S ≤ sN S := Nat.le_refl _
  show WP X 0 [(0, vr 26), (1, vi p1), (2, vi p2)] [] S 0 0
  refine r_iconst C (x := 0) dX5_many_0 (by decide) ?_
  refine r_istoren C dX5_many_1 (by decide) rfl rfl ?_
  refine r_iconst C (x := 0) dX5_many_2 (by decide) ?_
  refine r_istore C dX5_many_3 (by decide) rfl rfl ?_
  refine r_perm [2, 3, 4, 1, 0] rfl ?_
  exact h
set_option maxHeartbeats 4000000 in
set_option maxRecDepth 100000 in
theorem s5_many_5 {X : Ctx} {S0 S : Sto} {Q : Int32 → Sto → Prop} (hF : Fx S) (hn : sN S0 ≤ sN S) (O : Oi X K5_many S0 Q) {l1 : Int32} {l2 : Int32} {l3 : Int32} {l4 : Int32}   (h : (1000 ≤ l4 → (Q l3 S)) ∧ (¬ 1000 ≤ l4 → ((0 ≤ (((1000 * l1) + l4) : Int32).toInt ∧ (((1000 * l1) + l4) : Int32).toInt < (8000 : Nat)) ∧ (∀ w6 : Int32, w6 = (if (gI S 36 ((1000 * l1) + l4).toNatClampNeg) = l2 then 1 else 0 : Int32) → (WP X 5 [(0, vr 26), (1, vi l1), (2, vi l2), (3, vi (l3 + w6)), (4, vi (l4 + 1))] [] S 0 0))))) : WP X 5 [(0, vr 26), (1, vi l1), (2, vi l2), (3, vi l3), (4, vi l4)] [] S 0 0 := by
  have C := O.1
  refine r_iload C 4 dX5_many_5 rfl ?_
  refine r_sipush C (x := 1000) dX5_many_7 (by decide) ?_
  refine r_icmp_ge C dX5_many_10 (tgt := 44) (by decide) (fun hc4 => ?_) (fun hc4 => ?_)
  · replace h := h.1 hc4
    refine r_iloadn C 3 dX5_many_44 rfl ?_
    exact ri O ⟨_, rfl, rfl⟩ dX5_many_45 (by decide) (by decide) hF hn h
  · replace h := h.2 hc4
    refine r_iloadn C 3 dX5_many_13 rfl ?_
    refine r_aloadn C 0 dX5_many_14 rfl ?_
    refine r_getR C (hF.k (by decide) rfl) fl_5_48 rfl (o := some 36) (hF.mR (by decide) rfl rfl) dX5_many_15 ?_
    refine r_sipush C (x := 1000) dX5_many_18 (by decide) ?_
    refine r_iloadn C 1 dX5_many_21 rfl ?_
    refine r_imul C dX5_many_22 ?_
    refine r_iload C 4 dX5_many_23 rfl ?_
    refine r_iadd C dX5_many_25 ?_
    obtain ⟨hi5, h⟩ := h
    refine r_bald C (hF.k (by decide) rfl) (ixL (n := 8000) rfl hi5) dX5_many_26 ?_
    refine r_iloadn C 2 dX5_many_27 rfl ?_
    have kJ7 : ∀ (w6 : Int32) (_ : w6 = (if (gI S 36 ((1000 * l1) + l4).toNatClampNeg) = l2 then 1 else 0 : Int32)), WP X 36 [(0, vr 26), (1, vi l1), (2, vi l2), (4, vi l4)] [vi w6, vi l3] S 0 0 := by
      intro w6 hw6
      replace h := h w6 hw6
      have hz_w6 : w6 = 0 ∨ w6 = 1 := by rw [hw6]; repeat (first | exact Or.inl rfl | exact Or.inr rfl | assumption | split)
      refine r_iadd C dX5_many_36 ?_
      refine r_istoren C dX5_many_37 (by decide) rfl rfl ?_
      refine r_iinc C (y := (l4 + 1)) 4 dX5_many_38 rfl rfl (by decide) rfl rfl ?_
      refine r_goto C dX5_many_41 (tgt := 5) (by decide) ?_
      refine r_perm [2, 3, 4, 1, 0] rfl ?_
      exact h
    refine r_icmp_ne C dX5_many_28 (tgt := 35) (by decide) (fun hc8 => ?_) (fun hc8 => ?_)
    · refine r_iconst C (x := 0) dX5_many_35 (by decide) ?_
      refine r_perm [0, 1, 2, 4] rfl ?_
      exact kJ7 _ (if_neg hc8).symm
    · refine r_iconst C (x := 1) dX5_many_31 (by decide) ?_
      refine r_goto C dX5_many_32 (tgt := 36) (by decide) ?_
      refine r_perm [0, 1, 2, 4] rfl ?_
      exact kJ7 _ (if_pos hc8).symm
set_option maxHeartbeats 4000000 in
set_option maxRecDepth 100000 in
theorem e5_cameMany {S : Sto} {Q : Int32 → Sto → Prop} (hF : Fx S) {p1 : Int32}  (h : ∀ X : Ctx, Oi X K5_cameMany S Q → WP X 4 [(0, vr 26), (1, vi p1), (2, vi 0), (3, vi 0)] [] S 0 0) : Ci K5_cameMany [vr 26, vi p1] S Q := by
  refine Ci.intro rfl (Nat.le_of_ble_eq_true rfl) (fun X O => ?_)
  replace h := h X O
  have C := O.1
  have hn : sN S ≤ sN S := Nat.le_refl _
  show WP X 0 [(0, vr 26), (1, vi p1)] [] S 0 0
  refine r_iconst C (x := 0) dX5_cameMany_0 (by decide) ?_
  refine r_istoren C dX5_cameMany_1 (by decide) rfl rfl ?_
  refine r_iconst C (x := 0) dX5_cameMany_2 (by decide) ?_
  refine r_istoren C dX5_cameMany_3 (by decide) rfl rfl ?_
  refine r_perm [2, 3, 1, 0] rfl ?_
  exact h
set_option maxHeartbeats 4000000 in
set_option maxRecDepth 100000 in
theorem s5_cameMany_4 {X : Ctx} {S0 S : Sto} {Q : Int32 → Sto → Prop} (hF : Fx S) (hn : sN S0 ≤ sN S) (O : Oi X K5_cameMany S0 Q) {l1 : Int32} {l2 : Int32} {l3 : Int32}   (h : (1000 ≤ l3 → (Q l2 S)) ∧ (¬ 1000 ≤ l3 → ((0 ≤ (((1000 * l1) + l3) : Int32).toInt ∧ (((1000 * l1) + l3) : Int32).toInt < (8000 : Nat)) ∧ (∀ w6 : Int32, w6 = (if (gI S 37 ((1000 * l1) + l3).toNatClampNeg) = 0 then 0 else 1 : Int32) → (WP X 4 [(0, vr 26), (1, vi l1), (2, vi (l2 + w6)), (3, vi (l3 + 1))] [] S 0 0))))) : WP X 4 [(0, vr 26), (1, vi l1), (2, vi l2), (3, vi l3)] [] S 0 0 := by
  have C := O.1
  refine r_iloadn C 3 dX5_cameMany_4 rfl ?_
  refine r_sipush C (x := 1000) dX5_cameMany_5 (by decide) ?_
  refine r_icmp_ge C dX5_cameMany_8 (tgt := 40) (by decide) (fun hc4 => ?_) (fun hc4 => ?_)
  · replace h := h.1 hc4
    refine r_iloadn C 2 dX5_cameMany_40 rfl ?_
    exact ri O ⟨_, rfl, rfl⟩ dX5_cameMany_41 (by decide) (by decide) hF hn h
  · replace h := h.2 hc4
    refine r_iloadn C 2 dX5_cameMany_11 rfl ?_
    refine r_aloadn C 0 dX5_cameMany_12 rfl ?_
    refine r_getR C (hF.k (by decide) rfl) fl_5_52 rfl (o := some 37) (hF.mR (by decide) rfl rfl) dX5_cameMany_13 ?_
    refine r_sipush C (x := 1000) dX5_cameMany_16 (by decide) ?_
    refine r_iloadn C 1 dX5_cameMany_19 rfl ?_
    refine r_imul C dX5_cameMany_20 ?_
    refine r_iloadn C 3 dX5_cameMany_21 rfl ?_
    refine r_iadd C dX5_cameMany_22 ?_
    obtain ⟨hi5, h⟩ := h
    refine r_zald C (hF.k (by decide) rfl) (ixL (n := 8000) rfl hi5) dX5_cameMany_23 ?_
    have kJ7 : ∀ (w6 : Int32) (_ : w6 = (if (gI S 37 ((1000 * l1) + l3).toNatClampNeg) = 0 then 0 else 1 : Int32)), WP X 32 [(0, vr 26), (1, vi l1), (3, vi l3)] [vi w6, vi l2] S 0 0 := by
      intro w6 hw6
      replace h := h w6 hw6
      have hz_w6 : w6 = 0 ∨ w6 = 1 := by rw [hw6]; repeat (first | exact Or.inl rfl | exact Or.inr rfl | assumption | split)
      refine r_iadd C dX5_cameMany_32 ?_
      refine r_istoren C dX5_cameMany_33 (by decide) rfl rfl ?_
      refine r_iinc C (y := (l3 + 1)) 3 dX5_cameMany_34 rfl rfl (by decide) rfl rfl ?_
      refine r_goto C dX5_cameMany_37 (tgt := 4) (by decide) ?_
      refine r_perm [2, 3, 1, 0] rfl ?_
      exact h
    refine r_if_eq C dX5_cameMany_24 (tgt := 31) (by decide) (fun hc8 => ?_) (fun hc8 => ?_)
    · refine r_iconst C (x := 0) dX5_cameMany_31 (by decide) ?_
      refine r_perm [0, 1, 3] rfl ?_
      exact kJ7 _ (if_pos hc8).symm
    · refine r_iconst C (x := 1) dX5_cameMany_27 (by decide) ?_
      refine r_goto C dX5_cameMany_28 (tgt := 32) (by decide) ?_
      refine r_perm [0, 1, 3] rfl ?_
      exact kJ7 _ (if_neg hc8).symm
set_option maxHeartbeats 4000000 in
set_option maxRecDepth 100000 in
theorem e5_stream {S : Sto} {Q : Int32 → Sto → Prop} (hF : Fx S) {p1 : Int32} {p2 : Int32}  (h : (¬ (if 0 ≤ (p1 : Int32).toInt ∧ (p1 : Int32).toInt < 8 then 1 else 0 : Int32) = 0 → ((p2 = 0 → ((0 ≤ (p1 : Int32).toInt ∧ (p1 : Int32).toInt < (8 : Nat)) ∧ (Q (gI S 27 p1.toNatClampNeg) S))) ∧ (p2 = 1 → ((0 ≤ (p1 : Int32).toInt ∧ (p1 : Int32).toInt < (8 : Nat)) ∧ (Q ((if (gI S 28 p1.toNatClampNeg) = 0 then 0 else 1 : Int32)) S))) ∧ (p2 = 2 → ((0 ≤ (p1 : Int32).toInt ∧ (p1 : Int32).toInt < (8 : Nat)) ∧ (Q ((if (gI S 29 p1.toNatClampNeg) = 0 then 0 else 1 : Int32)) S))) ∧ (p2 = 3 → ((0 ≤ (p1 : Int32).toInt ∧ (p1 : Int32).toInt < (8 : Nat)) ∧ (Q (gI S 31 p1.toNatClampNeg) S))) ∧ (p2 = 4 → (Ci K5_many [vr 26, vi p1, vi 3] S (fun x10 S10 => Q x10 S10))) ∧ (p2 = 5 → (Ci K5_many [vr 26, vi p1, vi 2] S (fun x11 S11 => Q x11 S11))) ∧ (p2 = 6 → ((0 ≤ (p1 : Int32).toInt ∧ (p1 : Int32).toInt < (8 : Nat)) ∧ (Q (gI S 35 p1.toNatClampNeg) S))) ∧ (p2 = 7 → ((0 ≤ (p1 : Int32).toInt ∧ (p1 : Int32).toInt < (8 : Nat)) ∧ (Q ((if (gI S 34 p1.toNatClampNeg) = 0 then 0 else 1 : Int32)) S))) ∧ (p2 = 8 → (Ci K5_cameMany [vr 26, vi p1] S (fun x15 S15 => Q x15 S15))) ∧ (p2 = 9 → ((0 ≤ (p1 : Int32).toInt ∧ (p1 : Int32).toInt < (8 : Nat)) ∧ (Q (gI S 38 p1.toNatClampNeg) S))) ∧ (p2 = 10 → ((0 ≤ (p1 : Int32).toInt ∧ (p1 : Int32).toInt < (8 : Nat)) ∧ (Q (gI S 39 p1.toNatClampNeg) S))) ∧ (p2 = 11 → ((0 ≤ (p1 : Int32).toInt ∧ (p1 : Int32).toInt < (8 : Nat)) ∧ (Q (gI S 40 p1.toNatClampNeg) S))) ∧ (p2 = 12 → ((0 ≤ (p1 : Int32).toInt ∧ (p1 : Int32).toInt < (8 : Nat)) ∧ (Q ((if (gI S 41 p1.toNatClampNeg) = 0 then 0 else 1 : Int32)) S))) ∧ (p2 = 13 → ((0 ≤ (p1 : Int32).toInt ∧ (p1 : Int32).toInt < (8 : Nat)) ∧ (Q (gI S 42 p1.toNatClampNeg) S))) ∧ (p2 = 14 → ((0 ≤ (p1 : Int32).toInt ∧ (p1 : Int32).toInt < (8 : Nat)) ∧ (Q ((if (gI S 43 p1.toNatClampNeg) = 0 then 0 else 1 : Int32)) S))) ∧ (¬ p2 = 0 → ¬ p2 = 1 → ¬ p2 = 2 → ¬ p2 = 3 → ¬ p2 = 4 → ¬ p2 = 5 → ¬ p2 = 6 → ¬ p2 = 7 → ¬ p2 = 8 → ¬ p2 = 9 → ¬ p2 = 10 → ¬ p2 = 11 → ¬ p2 = 12 → ¬ p2 = 13 → ¬ p2 = 14 → (Q (-2) S)))) ∧ ((if 0 ≤ (p1 : Int32).toInt ∧ (p1 : Int32).toInt < 8 then 1 else 0 : Int32) = 0 → (Q (-1) S))) : Ci K5_stream [vr 26, vi p1, vi p2] S Q := by
  refine Ci.intro rfl (Nat.le_of_ble_eq_true rfl) (fun X O => ?_)
  have C := O.1
  have hn : sN S ≤ sN S := Nat.le_refl _
  show WP X 0 [(0, vr 26), (1, vi p1), (2, vi p2)] [] S 0 0
  refine r_iloadn C 1 dX5_stream_0 rfl ?_
  refine r_callSi C K5_isStream [vi p1] [] cl_5_201 rm_5_stream_5_isStream ⟨rfl, rfl⟩ (by decide) (by decide) rfl (Nat.le_of_ble_eq_true rfl) dX5_stream_1 (q5_isStreamH (S := S) hF) (fun x1 _ _ _ hq => ?_)
  obtain ⟨hqa, hqb⟩ := hq; obtain rfl := hqa.symm; obtain rfl := hqb.symm
  refine r_if_ne C dX5_stream_4 (tgt := 9) (by decide) (fun hc2 => ?_) (fun hc2 => ?_)
  · replace h := h.1 hc2
    refine r_iloadn C 2 dX5_stream_9 rfl ?_
    refine r_table C dX5_stream_10 rfl (by decide) (fun i off hi hx3 => ?_) (fun hx3 => ?_)
    · have hlt : i < 15 := (Array.getElem?_eq_some_iff.mp hi).1
      obtain rfl | rfl | rfl | rfl | rfl | rfl | rfl | rfl | rfl | rfl | rfl | rfl | rfl | rfl | rfl : i = 0 ∨ i = 1 ∨ i = 2 ∨ i = 3 ∨ i = 4 ∨ i = 5 ∨ i = 6 ∨ i = 7 ∨ i = 8 ∨ i = 9 ∨ i = 10 ∨ i = 11 ∨ i = 12 ∨ i = 13 ∨ i = 14 := by omega
      · obtain rfl := Option.some.inj hi
        replace h := h.1 (hx3.trans (by decide))
        refine ⟨84, by decide, ?_⟩
        refine r_aloadn C 0 dX5_stream_84 rfl ?_
        refine r_getR C (hF.k (by decide) rfl) fl_5_19 rfl (o := some 27) (hF.mR (by decide) rfl rfl) dX5_stream_85 ?_
        refine r_iloadn C 1 dX5_stream_88 rfl ?_
        obtain ⟨hi4, h⟩ := h
        refine r_iald C (hF.k (by decide) rfl) (ixL (n := 8) rfl hi4) dX5_stream_89 ?_
        exact ri O ⟨_, rfl, rfl⟩ dX5_stream_90 (by decide) (by decide) hF hn h
      · obtain rfl := Option.some.inj hi
        replace h := h.2.1 (hx3.trans (by decide))
        refine ⟨91, by decide, ?_⟩
        refine r_aloadn C 0 dX5_stream_91 rfl ?_
        refine r_getR C (hF.k (by decide) rfl) fl_5_23 rfl (o := some 28) (hF.mR (by decide) rfl rfl) dX5_stream_92 ?_
        refine r_iloadn C 1 dX5_stream_95 rfl ?_
        obtain ⟨hi5, h⟩ := h
        refine r_zald C (hF.k (by decide) rfl) (ixL (n := 8) rfl hi5) dX5_stream_96 ?_
        refine r_callSi C K5_asInt [vi (gI S 28 p1.toNatClampNeg)] [] cl_5_304 rm_5_stream_5_asInt ⟨rfl, rfl⟩ (by decide) (by decide) rfl (Nat.le_of_ble_eq_true rfl) dX5_stream_97 (q5_asInt (S := S) hF) (fun x6 _ _ _ hq => ?_)
        obtain ⟨hqa, hqb⟩ := hq; obtain rfl := hqa.symm; obtain rfl := hqb.symm
        exact ri O ⟨_, rfl, rfl⟩ dX5_stream_100 (by decide) (by decide) hF hn h
      · obtain rfl := Option.some.inj hi
        replace h := h.2.2.1 (hx3.trans (by decide))
        refine ⟨101, by decide, ?_⟩
        refine r_aloadn C 0 dX5_stream_101 rfl ?_
        refine r_getR C (hF.k (by decide) rfl) fl_5_27 rfl (o := some 29) (hF.mR (by decide) rfl rfl) dX5_stream_102 ?_
        refine r_iloadn C 1 dX5_stream_105 rfl ?_
        obtain ⟨hi7, h⟩ := h
        refine r_zald C (hF.k (by decide) rfl) (ixL (n := 8) rfl hi7) dX5_stream_106 ?_
        refine r_callSi C K5_asInt [vi (gI S 29 p1.toNatClampNeg)] [] cl_5_304 rm_5_stream_5_asInt ⟨rfl, rfl⟩ (by decide) (by decide) rfl (Nat.le_of_ble_eq_true rfl) dX5_stream_107 (q5_asInt (S := S) hF) (fun x8 _ _ _ hq => ?_)
        obtain ⟨hqa, hqb⟩ := hq; obtain rfl := hqa.symm; obtain rfl := hqb.symm
        exact ri O ⟨_, rfl, rfl⟩ dX5_stream_110 (by decide) (by decide) hF hn h
      · obtain rfl := Option.some.inj hi
        replace h := h.2.2.2.1 (hx3.trans (by decide))
        refine ⟨111, by decide, ?_⟩
        refine r_aloadn C 0 dX5_stream_111 rfl ?_
        refine r_getR C (hF.k (by decide) rfl) fl_5_33 rfl (o := some 31) (hF.mR (by decide) rfl rfl) dX5_stream_112 ?_
        refine r_iloadn C 1 dX5_stream_115 rfl ?_
        obtain ⟨hi9, h⟩ := h
        refine r_iald C (hF.k (by decide) rfl) (ixL (n := 8) rfl hi9) dX5_stream_116 ?_
        exact ri O ⟨_, rfl, rfl⟩ dX5_stream_117 (by decide) (by decide) hF hn h
      · obtain rfl := Option.some.inj hi
        replace h := h.2.2.2.2.1 (hx3.trans (by decide))
        refine ⟨118, by decide, ?_⟩
        refine r_aloadn C 0 dX5_stream_118 rfl ?_
        refine r_iloadn C 1 dX5_stream_119 rfl ?_
        refine r_iconst C (x := 3) dX5_stream_120 (by decide) ?_
        refine r_callVi C K5_many [vi p1, vi 3] [] (hF.k (by decide) rfl) (by decide) rfl cl_5_308 rm_5_stream_5_many ⟨rfl, rfl⟩ (by decide) (by decide) rfl (Nat.le_of_ble_eq_true rfl) dX5_stream_121 h (fun x10 S10 hF10 hn10 h => ?_)
        exact ri O ⟨_, rfl, rfl⟩ dX5_stream_124 (by decide) (by decide) hF10 (Nat.le_trans hn hn10) h
      · obtain rfl := Option.some.inj hi
        replace h := h.2.2.2.2.2.1 (hx3.trans (by decide))
        refine ⟨125, by decide, ?_⟩
        refine r_aloadn C 0 dX5_stream_125 rfl ?_
        refine r_iloadn C 1 dX5_stream_126 rfl ?_
        refine r_iconst C (x := 2) dX5_stream_127 (by decide) ?_
        refine r_callVi C K5_many [vi p1, vi 2] [] (hF.k (by decide) rfl) (by decide) rfl cl_5_308 rm_5_stream_5_many ⟨rfl, rfl⟩ (by decide) (by decide) rfl (Nat.le_of_ble_eq_true rfl) dX5_stream_128 h (fun x11 S11 hF11 hn11 h => ?_)
        exact ri O ⟨_, rfl, rfl⟩ dX5_stream_131 (by decide) (by decide) hF11 (Nat.le_trans hn hn11) h
      · obtain rfl := Option.some.inj hi
        replace h := h.2.2.2.2.2.2.1 (hx3.trans (by decide))
        refine ⟨132, by decide, ?_⟩
        refine r_aloadn C 0 dX5_stream_132 rfl ?_
        refine r_getR C (hF.k (by decide) rfl) fl_5_45 rfl (o := some 35) (hF.mR (by decide) rfl rfl) dX5_stream_133 ?_
        refine r_iloadn C 1 dX5_stream_136 rfl ?_
        obtain ⟨hi12, h⟩ := h
        refine r_iald C (hF.k (by decide) rfl) (ixL (n := 8) rfl hi12) dX5_stream_137 ?_
        exact ri O ⟨_, rfl, rfl⟩ dX5_stream_138 (by decide) (by decide) hF hn h
      · obtain rfl := Option.some.inj hi
        replace h := h.2.2.2.2.2.2.2.1 (hx3.trans (by decide))
        refine ⟨139, by decide, ?_⟩
        refine r_aloadn C 0 dX5_stream_139 rfl ?_
        refine r_getR C (hF.k (by decide) rfl) fl_5_42 rfl (o := some 34) (hF.mR (by decide) rfl rfl) dX5_stream_140 ?_
        refine r_iloadn C 1 dX5_stream_143 rfl ?_
        obtain ⟨hi13, h⟩ := h
        refine r_zald C (hF.k (by decide) rfl) (ixL (n := 8) rfl hi13) dX5_stream_144 ?_
        refine r_callSi C K5_asInt [vi (gI S 34 p1.toNatClampNeg)] [] cl_5_304 rm_5_stream_5_asInt ⟨rfl, rfl⟩ (by decide) (by decide) rfl (Nat.le_of_ble_eq_true rfl) dX5_stream_145 (q5_asInt (S := S) hF) (fun x14 _ _ _ hq => ?_)
        obtain ⟨hqa, hqb⟩ := hq; obtain rfl := hqa.symm; obtain rfl := hqb.symm
        exact ri O ⟨_, rfl, rfl⟩ dX5_stream_148 (by decide) (by decide) hF hn h
      · obtain rfl := Option.some.inj hi
        replace h := h.2.2.2.2.2.2.2.2.1 (hx3.trans (by decide))
        refine ⟨149, by decide, ?_⟩
        refine r_aloadn C 0 dX5_stream_149 rfl ?_
        refine r_iloadn C 1 dX5_stream_150 rfl ?_
        refine r_callVi C K5_cameMany [vi p1] [] (hF.k (by decide) rfl) (by decide) rfl cl_5_311 rm_5_stream_5_cameMany ⟨rfl, rfl⟩ (by decide) (by decide) rfl (Nat.le_of_ble_eq_true rfl) dX5_stream_151 h (fun x15 S15 hF15 hn15 h => ?_)
        exact ri O ⟨_, rfl, rfl⟩ dX5_stream_154 (by decide) (by decide) hF15 (Nat.le_trans hn hn15) h
      · obtain rfl := Option.some.inj hi
        replace h := h.2.2.2.2.2.2.2.2.2.1 (hx3.trans (by decide))
        refine ⟨155, by decide, ?_⟩
        refine r_aloadn C 0 dX5_stream_155 rfl ?_
        refine r_getR C (hF.k (by decide) rfl) fl_5_55 rfl (o := some 38) (hF.mR (by decide) rfl rfl) dX5_stream_156 ?_
        refine r_iloadn C 1 dX5_stream_159 rfl ?_
        obtain ⟨hi16, h⟩ := h
        refine r_iald C (hF.k (by decide) rfl) (ixL (n := 8) rfl hi16) dX5_stream_160 ?_
        exact ri O ⟨_, rfl, rfl⟩ dX5_stream_161 (by decide) (by decide) hF hn h
      · obtain rfl := Option.some.inj hi
        replace h := h.2.2.2.2.2.2.2.2.2.2.1 (hx3.trans (by decide))
        refine ⟨162, by decide, ?_⟩
        refine r_aloadn C 0 dX5_stream_162 rfl ?_
        refine r_getR C (hF.k (by decide) rfl) fl_5_58 rfl (o := some 39) (hF.mR (by decide) rfl rfl) dX5_stream_163 ?_
        refine r_iloadn C 1 dX5_stream_166 rfl ?_
        obtain ⟨hi17, h⟩ := h
        refine r_iald C (hF.k (by decide) rfl) (ixL (n := 8) rfl hi17) dX5_stream_167 ?_
        exact ri O ⟨_, rfl, rfl⟩ dX5_stream_168 (by decide) (by decide) hF hn h
      · obtain rfl := Option.some.inj hi
        replace h := h.2.2.2.2.2.2.2.2.2.2.2.1 (hx3.trans (by decide))
        refine ⟨169, by decide, ?_⟩
        refine r_aloadn C 0 dX5_stream_169 rfl ?_
        refine r_getR C (hF.k (by decide) rfl) fl_5_61 rfl (o := some 40) (hF.mR (by decide) rfl rfl) dX5_stream_170 ?_
        refine r_iloadn C 1 dX5_stream_173 rfl ?_
        obtain ⟨hi18, h⟩ := h
        refine r_iald C (hF.k (by decide) rfl) (ixL (n := 8) rfl hi18) dX5_stream_174 ?_
        exact ri O ⟨_, rfl, rfl⟩ dX5_stream_175 (by decide) (by decide) hF hn h
      · obtain rfl := Option.some.inj hi
        replace h := h.2.2.2.2.2.2.2.2.2.2.2.2.1 (hx3.trans (by decide))
        refine ⟨176, by decide, ?_⟩
        refine r_aloadn C 0 dX5_stream_176 rfl ?_
        refine r_getR C (hF.k (by decide) rfl) fl_5_64 rfl (o := some 41) (hF.mR (by decide) rfl rfl) dX5_stream_177 ?_
        refine r_iloadn C 1 dX5_stream_180 rfl ?_
        obtain ⟨hi19, h⟩ := h
        refine r_zald C (hF.k (by decide) rfl) (ixL (n := 8) rfl hi19) dX5_stream_181 ?_
        refine r_callSi C K5_asInt [vi (gI S 41 p1.toNatClampNeg)] [] cl_5_304 rm_5_stream_5_asInt ⟨rfl, rfl⟩ (by decide) (by decide) rfl (Nat.le_of_ble_eq_true rfl) dX5_stream_182 (q5_asInt (S := S) hF) (fun x20 _ _ _ hq => ?_)
        obtain ⟨hqa, hqb⟩ := hq; obtain rfl := hqa.symm; obtain rfl := hqb.symm
        exact ri O ⟨_, rfl, rfl⟩ dX5_stream_185 (by decide) (by decide) hF hn h
      · obtain rfl := Option.some.inj hi
        replace h := h.2.2.2.2.2.2.2.2.2.2.2.2.2.1 (hx3.trans (by decide))
        refine ⟨186, by decide, ?_⟩
        refine r_aloadn C 0 dX5_stream_186 rfl ?_
        refine r_getR C (hF.k (by decide) rfl) fl_5_67 rfl (o := some 42) (hF.mR (by decide) rfl rfl) dX5_stream_187 ?_
        refine r_iloadn C 1 dX5_stream_190 rfl ?_
        obtain ⟨hi21, h⟩ := h
        refine r_iald C (hF.k (by decide) rfl) (ixL (n := 8) rfl hi21) dX5_stream_191 ?_
        exact ri O ⟨_, rfl, rfl⟩ dX5_stream_192 (by decide) (by decide) hF hn h
      · obtain rfl := Option.some.inj hi
        replace h := h.2.2.2.2.2.2.2.2.2.2.2.2.2.2.1 (hx3.trans (by decide))
        refine ⟨193, by decide, ?_⟩
        refine r_aloadn C 0 dX5_stream_193 rfl ?_
        refine r_getR C (hF.k (by decide) rfl) fl_5_70 rfl (o := some 43) (hF.mR (by decide) rfl rfl) dX5_stream_194 ?_
        refine r_iloadn C 1 dX5_stream_197 rfl ?_
        obtain ⟨hi22, h⟩ := h
        refine r_zald C (hF.k (by decide) rfl) (ixL (n := 8) rfl hi22) dX5_stream_198 ?_
        refine r_callSi C K5_asInt [vi (gI S 43 p1.toNatClampNeg)] [] cl_5_304 rm_5_stream_5_asInt ⟨rfl, rfl⟩ (by decide) (by decide) rfl (Nat.le_of_ble_eq_true rfl) dX5_stream_199 (q5_asInt (S := S) hF) (fun x23 _ _ _ hq => ?_)
        obtain ⟨hqa, hqb⟩ := hq; obtain rfl := hqa.symm; obtain rfl := hqb.symm
        exact ri O ⟨_, rfl, rfl⟩ dX5_stream_202 (by decide) (by decide) hF hn h
    · replace h := h.2.2.2.2.2.2.2.2.2.2.2.2.2.2.2 (fun e => hx3 0 (by decide) (e.trans (by decide))) (fun e => hx3 1 (by decide) (e.trans (by decide))) (fun e => hx3 2 (by decide) (e.trans (by decide))) (fun e => hx3 3 (by decide) (e.trans (by decide))) (fun e => hx3 4 (by decide) (e.trans (by decide))) (fun e => hx3 5 (by decide) (e.trans (by decide))) (fun e => hx3 6 (by decide) (e.trans (by decide))) (fun e => hx3 7 (by decide) (e.trans (by decide))) (fun e => hx3 8 (by decide) (e.trans (by decide))) (fun e => hx3 9 (by decide) (e.trans (by decide))) (fun e => hx3 10 (by decide) (e.trans (by decide))) (fun e => hx3 11 (by decide) (e.trans (by decide))) (fun e => hx3 12 (by decide) (e.trans (by decide))) (fun e => hx3 13 (by decide) (e.trans (by decide))) (fun e => hx3 14 (by decide) (e.trans (by decide)))
      refine ⟨203, by decide, ?_⟩
      refine r_bipush C (x := (-2)) dX5_stream_203 (by decide) ?_
      exact ri O ⟨_, rfl, rfl⟩ dX5_stream_205 (by decide) (by decide) hF hn h
  · replace h := h.2 hc2
    refine r_iconst C (x := (-1)) dX5_stream_7 (by decide) ?_
    exact ri O ⟨_, rfl, rfl⟩ dX5_stream_8 (by decide) (by decide) hF hn h
set_option maxHeartbeats 4000000 in
set_option maxRecDepth 100000 in
theorem e5_state {S : Sto} {Q : Int32 → Sto → Prop} (hF : Fx S) {p1 : Int32} {p2 : Int32}  (h : ((if 0 ≤ (p1 : Int32).toInt ∧ (p1 : Int32).toInt < 8 then 1 else 0 : Int32) = 0 → (Q (-1) S)) ∧ (¬ (if 0 ≤ (p1 : Int32).toInt ∧ (p1 : Int32).toInt < 8 then 1 else 0 : Int32) = 0 → ((¬ (if (0 : Int64).toInt ≤ ((p2 : Int32).toInt64 : Int64).toInt ∧ ((p2 : Int32).toInt64 : Int64).toInt ≤ (999 : Int64).toInt then 1 else 0 : Int32) = 0 → ((0 ≤ (((1000 * p1) + p2) : Int32).toInt ∧ (((1000 * p1) + p2) : Int32).toInt < (8000 : Nat)) ∧ (∀ w6 : Int32, w6 = (if (gI S 37 ((1000 * p1) + p2).toNatClampNeg) = 0 then 0 else 4 : Int32) → (Q ((gI S 36 ((1000 * p1) + p2).toNatClampNeg) + w6) S)))) ∧ ((if (0 : Int64).toInt ≤ ((p2 : Int32).toInt64 : Int64).toInt ∧ ((p2 : Int32).toInt64 : Int64).toInt ≤ (999 : Int64).toInt then 1 else 0 : Int32) = 0 → (Q (-1) S))))) : Ci K5_state [vr 26, vi p1, vi p2] S Q := by
  refine Ci.intro rfl (Nat.le_of_ble_eq_true rfl) (fun X O => ?_)
  have C := O.1
  have hn : sN S ≤ sN S := Nat.le_refl _
  show WP X 0 [(0, vr 26), (1, vi p1), (2, vi p2)] [] S 0 0
  refine r_iloadn C 1 dX5_state_0 rfl ?_
  refine r_callSi C K5_isStream [vi p1] [] cl_5_201 rm_5_state_5_isStream ⟨rfl, rfl⟩ (by decide) (by decide) rfl (Nat.le_of_ble_eq_true rfl) dX5_state_1 (q5_isStreamH (S := S) hF) (fun x1 _ _ _ hq => ?_)
  obtain ⟨hqa, hqb⟩ := hq; obtain rfl := hqa.symm; obtain rfl := hqb.symm
  refine r_if_eq C dX5_state_4 (tgt := 19) (by decide) (fun hc2 => ?_) (fun hc2 => ?_)
  · replace h := h.1 hc2
    refine r_iconst C (x := (-1)) dX5_state_19 (by decide) ?_
    exact ri O ⟨_, rfl, rfl⟩ dX5_state_20 (by decide) (by decide) hF hn h
  · replace h := h.2 hc2
    refine r_iloadn C 2 dX5_state_7 rfl ?_
    refine r_i2l C dX5_state_8 ?_
    refine r_lconst C dX5_state_9 (x := 0) (by decide) ?_
    refine r_ldc2 C (x := 999) (mB 946 (by decide +kernel) rfl) dX5_state_10 ?_
    refine r_callSi C K5_in [vl ((p2 : Int32).toInt64), vl 0, vl 999] [] cl_5_185 rm_5_state_5_in ⟨rfl, rfl⟩ (by decide) (by decide) rfl (Nat.le_of_ble_eq_true rfl) dX5_state_13 (q5_inH (S := S) hF) (fun x3 _ _ _ hq => ?_)
    obtain ⟨hqa, hqb⟩ := hq; obtain rfl := hqa.symm; obtain rfl := hqb.symm
    refine r_if_ne C dX5_state_16 (tgt := 21) (by decide) (fun hc4 => ?_) (fun hc4 => ?_)
    · replace h := h.1 hc4
      refine r_aloadn C 0 dX5_state_21 rfl ?_
      refine r_getR C (hF.k (by decide) rfl) fl_5_48 rfl (o := some 36) (hF.mR (by decide) rfl rfl) dX5_state_22 ?_
      refine r_sipush C (x := 1000) dX5_state_25 (by decide) ?_
      refine r_iloadn C 1 dX5_state_28 rfl ?_
      refine r_imul C dX5_state_29 ?_
      refine r_iloadn C 2 dX5_state_30 rfl ?_
      refine r_iadd C dX5_state_31 ?_
      obtain ⟨hi5, h⟩ := h
      refine r_bald C (hF.k (by decide) rfl) (ixL (n := 8000) rfl hi5) dX5_state_32 ?_
      refine r_aloadn C 0 dX5_state_33 rfl ?_
      refine r_getR C (hF.k (by decide) rfl) fl_5_52 rfl (o := some 37) (hF.mR (by decide) rfl rfl) dX5_state_34 ?_
      refine r_sipush C (x := 1000) dX5_state_37 (by decide) ?_
      refine r_iloadn C 1 dX5_state_40 rfl ?_
      refine r_imul C dX5_state_41 ?_
      refine r_iloadn C 2 dX5_state_42 rfl ?_
      refine r_iadd C dX5_state_43 ?_
      refine r_zald C (hF.k (by decide) rfl) (ixL (n := 8000) rfl hi5) dX5_state_44 ?_
      have kJ7 : ∀ (w6 : Int32) (_ : w6 = (if (gI S 37 ((1000 * p1) + p2).toNatClampNeg) = 0 then 0 else 4 : Int32)), WP X 53 [] [vi w6, vi (gI S 36 ((1000 * p1) + p2).toNatClampNeg)] S 0 0 := by
        intro w6 hw6
        replace h := h w6 hw6
        refine r_iadd C dX5_state_53 ?_
        exact ri O ⟨_, rfl, rfl⟩ dX5_state_54 (by decide) (by decide) hF hn h
      refine r_if_eq C dX5_state_45 (tgt := 52) (by decide) (fun hc8 => ?_) (fun hc8 => ?_)
      · refine r_iconst C (x := 0) dX5_state_52 (by decide) ?_
        refine r_perm [] rfl ?_
        exact kJ7 _ (if_pos hc8).symm
      · refine r_iconst C (x := 4) dX5_state_48 (by decide) ?_
        refine r_goto C dX5_state_49 (tgt := 53) (by decide) ?_
        refine r_perm [] rfl ?_
        exact kJ7 _ (if_neg hc8).symm
    · replace h := h.2 hc4
      refine r_iconst C (x := (-1)) dX5_state_19 (by decide) ?_
      exact ri O ⟨_, rfl, rfl⟩ dX5_state_20 (by decide) (by decide) hF hn h
set_option maxHeartbeats 4000000 in
set_option maxRecDepth 100000 in
theorem e5_side {S : Sto} {Q : Int32 → Sto → Prop} (hF : Fx S) {p1 : Int32} {p2 : Int32}  (h : (¬ (if 0 ≤ (p1 : Int32).toInt ∧ (p1 : Int32).toInt < 2 then 1 else 0 : Int32) = 0 → ((p2 = 0 → ((0 ≤ (p1 : Int32).toInt ∧ (p1 : Int32).toInt < (2 : Nat)) ∧ (Q (gI S 44 p1.toNatClampNeg) S))) ∧ (p2 = 1 → ((0 ≤ (p1 : Int32).toInt ∧ (p1 : Int32).toInt < (2 : Nat)) ∧ (Q (gI S 45 p1.toNatClampNeg) S))) ∧ (p2 = 2 → ((0 ≤ (p1 : Int32).toInt ∧ (p1 : Int32).toInt < (2 : Nat)) ∧ (Q (gI S 46 p1.toNatClampNeg) S))) ∧ (p2 = 3 → ((0 ≤ (p1 : Int32).toInt ∧ (p1 : Int32).toInt < (2 : Nat)) ∧ (Q (gI S 47 p1.toNatClampNeg) S))) ∧ (p2 = 4 → ((0 ≤ (p1 : Int32).toInt ∧ (p1 : Int32).toInt < (2 : Nat)) ∧ (Q (gI S 48 p1.toNatClampNeg) S))) ∧ (p2 = 5 → ((0 ≤ (p1 : Int32).toInt ∧ (p1 : Int32).toInt < (2 : Nat)) ∧ (Q (gI S 49 p1.toNatClampNeg) S))) ∧ (p2 = 6 → ((0 ≤ (p1 : Int32).toInt ∧ (p1 : Int32).toInt < (2 : Nat)) ∧ (Q (gI S 50 p1.toNatClampNeg) S))) ∧ (p2 = 7 → ((0 ≤ (p1 : Int32).toInt ∧ (p1 : Int32).toInt < (2 : Nat)) ∧ (Q (gI S 51 p1.toNatClampNeg) S))) ∧ (p2 = 8 → ((0 ≤ (p1 : Int32).toInt ∧ (p1 : Int32).toInt < (2 : Nat)) ∧ (Q (gI S 52 p1.toNatClampNeg) S))) ∧ (p2 = 9 → ((0 ≤ (p1 : Int32).toInt ∧ (p1 : Int32).toInt < (2 : Nat)) ∧ (Q ((if (gI S 53 p1.toNatClampNeg) = 0 then 0 else 1 : Int32)) S))) ∧ (p2 = 10 → ((0 ≤ (p1 : Int32).toInt ∧ (p1 : Int32).toInt < (2 : Nat)) ∧ (Q (gI S 54 p1.toNatClampNeg) S))) ∧ (p2 = 11 → ((0 ≤ (p1 : Int32).toInt ∧ (p1 : Int32).toInt < (2 : Nat)) ∧ (Q (gI S 55 p1.toNatClampNeg) S))) ∧ (p2 = 12 → ((0 ≤ (p1 : Int32).toInt ∧ (p1 : Int32).toInt < (2 : Nat)) ∧ (Q ((if (gI S 56 p1.toNatClampNeg) = 0 then 0 else 1 : Int32)) S))) ∧ (p2 = 13 → ((0 ≤ (p1 : Int32).toInt ∧ (p1 : Int32).toInt < (2 : Nat)) ∧ (Q (gI S 57 p1.toNatClampNeg) S))) ∧ (p2 = 14 → (Ci K5_counted [vr 26, vi p1] S (fun x20 S20 => Q x20 S20))) ∧ (p2 = 15 → ((0 ≤ (p1 : Int32).toInt ∧ (p1 : Int32).toInt < (2 : Nat)) ∧ (Q ((if (gI S 58 p1.toNatClampNeg) = 0 then 0 else 1 : Int32)) S))) ∧ (p2 = 16 → ((0 ≤ (p1 : Int32).toInt ∧ (p1 : Int32).toInt < (2 : Nat)) ∧ (Q (gI S 59 p1.toNatClampNeg) S))) ∧ (¬ p2 = 0 → ¬ p2 = 1 → ¬ p2 = 2 → ¬ p2 = 3 → ¬ p2 = 4 → ¬ p2 = 5 → ¬ p2 = 6 → ¬ p2 = 7 → ¬ p2 = 8 → ¬ p2 = 9 → ¬ p2 = 10 → ¬ p2 = 11 → ¬ p2 = 12 → ¬ p2 = 13 → ¬ p2 = 14 → ¬ p2 = 15 → ¬ p2 = 16 → (Q (-2) S)))) ∧ ((if 0 ≤ (p1 : Int32).toInt ∧ (p1 : Int32).toInt < 2 then 1 else 0 : Int32) = 0 → (Q (-1) S))) : Ci K5_side [vr 26, vi p1, vi p2] S Q := by
  refine Ci.intro rfl (Nat.le_of_ble_eq_true rfl) (fun X O => ?_)
  have C := O.1
  have hn : sN S ≤ sN S := Nat.le_refl _
  show WP X 0 [(0, vr 26), (1, vi p1), (2, vi p2)] [] S 0 0
  refine r_iloadn C 1 dX5_side_0 rfl ?_
  refine r_callSi C K5_isSide [vi p1] [] cl_5_229 rm_5_side_5_isSide ⟨rfl, rfl⟩ (by decide) (by decide) rfl (Nat.le_of_ble_eq_true rfl) dX5_side_1 (q5_isSideH (S := S) hF) (fun x1 _ _ _ hq => ?_)
  obtain ⟨hqa, hqb⟩ := hq; obtain rfl := hqa.symm; obtain rfl := hqb.symm
  refine r_if_ne C dX5_side_4 (tgt := 9) (by decide) (fun hc2 => ?_) (fun hc2 => ?_)
  · replace h := h.1 hc2
    refine r_iloadn C 2 dX5_side_9 rfl ?_
    refine r_table C dX5_side_10 rfl (by decide) (fun i off hi hx3 => ?_) (fun hx3 => ?_)
    · have hlt : i < 17 := (Array.getElem?_eq_some_iff.mp hi).1
      obtain rfl | rfl | rfl | rfl | rfl | rfl | rfl | rfl | rfl | rfl | rfl | rfl | rfl | rfl | rfl | rfl | rfl : i = 0 ∨ i = 1 ∨ i = 2 ∨ i = 3 ∨ i = 4 ∨ i = 5 ∨ i = 6 ∨ i = 7 ∨ i = 8 ∨ i = 9 ∨ i = 10 ∨ i = 11 ∨ i = 12 ∨ i = 13 ∨ i = 14 ∨ i = 15 ∨ i = 16 := by omega
      · obtain rfl := Option.some.inj hi
        replace h := h.1 (hx3.trans (by decide))
        refine ⟨92, by decide, ?_⟩
        refine r_aloadn C 0 dX5_side_92 rfl ?_
        refine r_getR C (hF.k (by decide) rfl) fl_5_73 rfl (o := some 44) (hF.mR (by decide) rfl rfl) dX5_side_93 ?_
        refine r_iloadn C 1 dX5_side_96 rfl ?_
        obtain ⟨hi4, h⟩ := h
        refine r_iald C (hF.k (by decide) rfl) (ixL (n := 2) rfl hi4) dX5_side_97 ?_
        exact ri O ⟨_, rfl, rfl⟩ dX5_side_98 (by decide) (by decide) hF hn h
      · obtain rfl := Option.some.inj hi
        replace h := h.2.1 (hx3.trans (by decide))
        refine ⟨99, by decide, ?_⟩
        refine r_aloadn C 0 dX5_side_99 rfl ?_
        refine r_getR C (hF.k (by decide) rfl) fl_5_76 rfl (o := some 45) (hF.mR (by decide) rfl rfl) dX5_side_100 ?_
        refine r_iloadn C 1 dX5_side_103 rfl ?_
        obtain ⟨hi5, h⟩ := h
        refine r_iald C (hF.k (by decide) rfl) (ixL (n := 2) rfl hi5) dX5_side_104 ?_
        exact ri O ⟨_, rfl, rfl⟩ dX5_side_105 (by decide) (by decide) hF hn h
      · obtain rfl := Option.some.inj hi
        replace h := h.2.2.1 (hx3.trans (by decide))
        refine ⟨106, by decide, ?_⟩
        refine r_aloadn C 0 dX5_side_106 rfl ?_
        refine r_getR C (hF.k (by decide) rfl) fl_5_79 rfl (o := some 46) (hF.mR (by decide) rfl rfl) dX5_side_107 ?_
        refine r_iloadn C 1 dX5_side_110 rfl ?_
        obtain ⟨hi6, h⟩ := h
        refine r_iald C (hF.k (by decide) rfl) (ixL (n := 2) rfl hi6) dX5_side_111 ?_
        exact ri O ⟨_, rfl, rfl⟩ dX5_side_112 (by decide) (by decide) hF hn h
      · obtain rfl := Option.some.inj hi
        replace h := h.2.2.2.1 (hx3.trans (by decide))
        refine ⟨113, by decide, ?_⟩
        refine r_aloadn C 0 dX5_side_113 rfl ?_
        refine r_getR C (hF.k (by decide) rfl) fl_5_82 rfl (o := some 47) (hF.mR (by decide) rfl rfl) dX5_side_114 ?_
        refine r_iloadn C 1 dX5_side_117 rfl ?_
        obtain ⟨hi7, h⟩ := h
        refine r_iald C (hF.k (by decide) rfl) (ixL (n := 2) rfl hi7) dX5_side_118 ?_
        exact ri O ⟨_, rfl, rfl⟩ dX5_side_119 (by decide) (by decide) hF hn h
      · obtain rfl := Option.some.inj hi
        replace h := h.2.2.2.2.1 (hx3.trans (by decide))
        refine ⟨120, by decide, ?_⟩
        refine r_aloadn C 0 dX5_side_120 rfl ?_
        refine r_getR C (hF.k (by decide) rfl) fl_5_85 rfl (o := some 48) (hF.mR (by decide) rfl rfl) dX5_side_121 ?_
        refine r_iloadn C 1 dX5_side_124 rfl ?_
        obtain ⟨hi8, h⟩ := h
        refine r_iald C (hF.k (by decide) rfl) (ixL (n := 2) rfl hi8) dX5_side_125 ?_
        exact ri O ⟨_, rfl, rfl⟩ dX5_side_126 (by decide) (by decide) hF hn h
      · obtain rfl := Option.some.inj hi
        replace h := h.2.2.2.2.2.1 (hx3.trans (by decide))
        refine ⟨127, by decide, ?_⟩
        refine r_aloadn C 0 dX5_side_127 rfl ?_
        refine r_getR C (hF.k (by decide) rfl) fl_5_88 rfl (o := some 49) (hF.mR (by decide) rfl rfl) dX5_side_128 ?_
        refine r_iloadn C 1 dX5_side_131 rfl ?_
        obtain ⟨hi9, h⟩ := h
        refine r_iald C (hF.k (by decide) rfl) (ixL (n := 2) rfl hi9) dX5_side_132 ?_
        exact ri O ⟨_, rfl, rfl⟩ dX5_side_133 (by decide) (by decide) hF hn h
      · obtain rfl := Option.some.inj hi
        replace h := h.2.2.2.2.2.2.1 (hx3.trans (by decide))
        refine ⟨134, by decide, ?_⟩
        refine r_aloadn C 0 dX5_side_134 rfl ?_
        refine r_getR C (hF.k (by decide) rfl) fl_5_91 rfl (o := some 50) (hF.mR (by decide) rfl rfl) dX5_side_135 ?_
        refine r_iloadn C 1 dX5_side_138 rfl ?_
        obtain ⟨hi10, h⟩ := h
        refine r_iald C (hF.k (by decide) rfl) (ixL (n := 2) rfl hi10) dX5_side_139 ?_
        exact ri O ⟨_, rfl, rfl⟩ dX5_side_140 (by decide) (by decide) hF hn h
      · obtain rfl := Option.some.inj hi
        replace h := h.2.2.2.2.2.2.2.1 (hx3.trans (by decide))
        refine ⟨141, by decide, ?_⟩
        refine r_aloadn C 0 dX5_side_141 rfl ?_
        refine r_getR C (hF.k (by decide) rfl) fl_5_94 rfl (o := some 51) (hF.mR (by decide) rfl rfl) dX5_side_142 ?_
        refine r_iloadn C 1 dX5_side_145 rfl ?_
        obtain ⟨hi11, h⟩ := h
        refine r_iald C (hF.k (by decide) rfl) (ixL (n := 2) rfl hi11) dX5_side_146 ?_
        exact ri O ⟨_, rfl, rfl⟩ dX5_side_147 (by decide) (by decide) hF hn h
      · obtain rfl := Option.some.inj hi
        replace h := h.2.2.2.2.2.2.2.2.1 (hx3.trans (by decide))
        refine ⟨148, by decide, ?_⟩
        refine r_aloadn C 0 dX5_side_148 rfl ?_
        refine r_getR C (hF.k (by decide) rfl) fl_5_97 rfl (o := some 52) (hF.mR (by decide) rfl rfl) dX5_side_149 ?_
        refine r_iloadn C 1 dX5_side_152 rfl ?_
        obtain ⟨hi12, h⟩ := h
        refine r_iald C (hF.k (by decide) rfl) (ixL (n := 2) rfl hi12) dX5_side_153 ?_
        exact ri O ⟨_, rfl, rfl⟩ dX5_side_154 (by decide) (by decide) hF hn h
      · obtain rfl := Option.some.inj hi
        replace h := h.2.2.2.2.2.2.2.2.2.1 (hx3.trans (by decide))
        refine ⟨155, by decide, ?_⟩
        refine r_aloadn C 0 dX5_side_155 rfl ?_
        refine r_getR C (hF.k (by decide) rfl) fl_5_100 rfl (o := some 53) (hF.mR (by decide) rfl rfl) dX5_side_156 ?_
        refine r_iloadn C 1 dX5_side_159 rfl ?_
        obtain ⟨hi13, h⟩ := h
        refine r_zald C (hF.k (by decide) rfl) (ixL (n := 2) rfl hi13) dX5_side_160 ?_
        refine r_callSi C K5_asInt [vi (gI S 53 p1.toNatClampNeg)] [] cl_5_304 rm_5_side_5_asInt ⟨rfl, rfl⟩ (by decide) (by decide) rfl (Nat.le_of_ble_eq_true rfl) dX5_side_161 (q5_asInt (S := S) hF) (fun x14 _ _ _ hq => ?_)
        obtain ⟨hqa, hqb⟩ := hq; obtain rfl := hqa.symm; obtain rfl := hqb.symm
        exact ri O ⟨_, rfl, rfl⟩ dX5_side_164 (by decide) (by decide) hF hn h
      · obtain rfl := Option.some.inj hi
        replace h := h.2.2.2.2.2.2.2.2.2.2.1 (hx3.trans (by decide))
        refine ⟨165, by decide, ?_⟩
        refine r_aloadn C 0 dX5_side_165 rfl ?_
        refine r_getR C (hF.k (by decide) rfl) fl_5_103 rfl (o := some 54) (hF.mR (by decide) rfl rfl) dX5_side_166 ?_
        refine r_iloadn C 1 dX5_side_169 rfl ?_
        obtain ⟨hi15, h⟩ := h
        refine r_iald C (hF.k (by decide) rfl) (ixL (n := 2) rfl hi15) dX5_side_170 ?_
        exact ri O ⟨_, rfl, rfl⟩ dX5_side_171 (by decide) (by decide) hF hn h
      · obtain rfl := Option.some.inj hi
        replace h := h.2.2.2.2.2.2.2.2.2.2.2.1 (hx3.trans (by decide))
        refine ⟨172, by decide, ?_⟩
        refine r_aloadn C 0 dX5_side_172 rfl ?_
        refine r_getR C (hF.k (by decide) rfl) fl_5_106 rfl (o := some 55) (hF.mR (by decide) rfl rfl) dX5_side_173 ?_
        refine r_iloadn C 1 dX5_side_176 rfl ?_
        obtain ⟨hi16, h⟩ := h
        refine r_iald C (hF.k (by decide) rfl) (ixL (n := 2) rfl hi16) dX5_side_177 ?_
        exact ri O ⟨_, rfl, rfl⟩ dX5_side_178 (by decide) (by decide) hF hn h
      · obtain rfl := Option.some.inj hi
        replace h := h.2.2.2.2.2.2.2.2.2.2.2.2.1 (hx3.trans (by decide))
        refine ⟨179, by decide, ?_⟩
        refine r_aloadn C 0 dX5_side_179 rfl ?_
        refine r_getR C (hF.k (by decide) rfl) fl_5_109 rfl (o := some 56) (hF.mR (by decide) rfl rfl) dX5_side_180 ?_
        refine r_iloadn C 1 dX5_side_183 rfl ?_
        obtain ⟨hi17, h⟩ := h
        refine r_zald C (hF.k (by decide) rfl) (ixL (n := 2) rfl hi17) dX5_side_184 ?_
        refine r_callSi C K5_asInt [vi (gI S 56 p1.toNatClampNeg)] [] cl_5_304 rm_5_side_5_asInt ⟨rfl, rfl⟩ (by decide) (by decide) rfl (Nat.le_of_ble_eq_true rfl) dX5_side_185 (q5_asInt (S := S) hF) (fun x18 _ _ _ hq => ?_)
        obtain ⟨hqa, hqb⟩ := hq; obtain rfl := hqa.symm; obtain rfl := hqb.symm
        exact ri O ⟨_, rfl, rfl⟩ dX5_side_188 (by decide) (by decide) hF hn h
      · obtain rfl := Option.some.inj hi
        replace h := h.2.2.2.2.2.2.2.2.2.2.2.2.2.1 (hx3.trans (by decide))
        refine ⟨189, by decide, ?_⟩
        refine r_aloadn C 0 dX5_side_189 rfl ?_
        refine r_getR C (hF.k (by decide) rfl) fl_5_112 rfl (o := some 57) (hF.mR (by decide) rfl rfl) dX5_side_190 ?_
        refine r_iloadn C 1 dX5_side_193 rfl ?_
        obtain ⟨hi19, h⟩ := h
        refine r_iald C (hF.k (by decide) rfl) (ixL (n := 2) rfl hi19) dX5_side_194 ?_
        exact ri O ⟨_, rfl, rfl⟩ dX5_side_195 (by decide) (by decide) hF hn h
      · obtain rfl := Option.some.inj hi
        replace h := h.2.2.2.2.2.2.2.2.2.2.2.2.2.2.1 (hx3.trans (by decide))
        refine ⟨196, by decide, ?_⟩
        refine r_aloadn C 0 dX5_side_196 rfl ?_
        refine r_iloadn C 1 dX5_side_197 rfl ?_
        refine r_callVi C K5_counted [vi p1] [] (hF.k (by decide) rfl) (by decide) rfl cl_5_226 rm_5_side_5_counted ⟨rfl, rfl⟩ (by decide) (by decide) rfl (Nat.le_of_ble_eq_true rfl) dX5_side_198 h (fun x20 S20 hF20 hn20 h => ?_)
        exact ri O ⟨_, rfl, rfl⟩ dX5_side_201 (by decide) (by decide) hF20 (Nat.le_trans hn hn20) h
      · obtain rfl := Option.some.inj hi
        replace h := h.2.2.2.2.2.2.2.2.2.2.2.2.2.2.2.1 (hx3.trans (by decide))
        refine ⟨202, by decide, ?_⟩
        refine r_aloadn C 0 dX5_side_202 rfl ?_
        refine r_getR C (hF.k (by decide) rfl) fl_5_115 rfl (o := some 58) (hF.mR (by decide) rfl rfl) dX5_side_203 ?_
        refine r_iloadn C 1 dX5_side_206 rfl ?_
        obtain ⟨hi21, h⟩ := h
        refine r_zald C (hF.k (by decide) rfl) (ixL (n := 2) rfl hi21) dX5_side_207 ?_
        refine r_callSi C K5_asInt [vi (gI S 58 p1.toNatClampNeg)] [] cl_5_304 rm_5_side_5_asInt ⟨rfl, rfl⟩ (by decide) (by decide) rfl (Nat.le_of_ble_eq_true rfl) dX5_side_208 (q5_asInt (S := S) hF) (fun x22 _ _ _ hq => ?_)
        obtain ⟨hqa, hqb⟩ := hq; obtain rfl := hqa.symm; obtain rfl := hqb.symm
        exact ri O ⟨_, rfl, rfl⟩ dX5_side_211 (by decide) (by decide) hF hn h
      · obtain rfl := Option.some.inj hi
        replace h := h.2.2.2.2.2.2.2.2.2.2.2.2.2.2.2.2.1 (hx3.trans (by decide))
        refine ⟨212, by decide, ?_⟩
        refine r_aloadn C 0 dX5_side_212 rfl ?_
        refine r_getR C (hF.k (by decide) rfl) fl_5_118 rfl (o := some 59) (hF.mR (by decide) rfl rfl) dX5_side_213 ?_
        refine r_iloadn C 1 dX5_side_216 rfl ?_
        obtain ⟨hi23, h⟩ := h
        refine r_iald C (hF.k (by decide) rfl) (ixL (n := 2) rfl hi23) dX5_side_217 ?_
        exact ri O ⟨_, rfl, rfl⟩ dX5_side_218 (by decide) (by decide) hF hn h
    · replace h := h.2.2.2.2.2.2.2.2.2.2.2.2.2.2.2.2.2 (fun e => hx3 0 (by decide) (e.trans (by decide))) (fun e => hx3 1 (by decide) (e.trans (by decide))) (fun e => hx3 2 (by decide) (e.trans (by decide))) (fun e => hx3 3 (by decide) (e.trans (by decide))) (fun e => hx3 4 (by decide) (e.trans (by decide))) (fun e => hx3 5 (by decide) (e.trans (by decide))) (fun e => hx3 6 (by decide) (e.trans (by decide))) (fun e => hx3 7 (by decide) (e.trans (by decide))) (fun e => hx3 8 (by decide) (e.trans (by decide))) (fun e => hx3 9 (by decide) (e.trans (by decide))) (fun e => hx3 10 (by decide) (e.trans (by decide))) (fun e => hx3 11 (by decide) (e.trans (by decide))) (fun e => hx3 12 (by decide) (e.trans (by decide))) (fun e => hx3 13 (by decide) (e.trans (by decide))) (fun e => hx3 14 (by decide) (e.trans (by decide))) (fun e => hx3 15 (by decide) (e.trans (by decide))) (fun e => hx3 16 (by decide) (e.trans (by decide)))
      refine ⟨219, by decide, ?_⟩
      refine r_bipush C (x := (-2)) dX5_side_219 (by decide) ?_
      exact ri O ⟨_, rfl, rfl⟩ dX5_side_221 (by decide) (by decide) hF hn h
  · replace h := h.2 hc2
    refine r_iconst C (x := (-1)) dX5_side_7 (by decide) ?_
    exact ri O ⟨_, rfl, rfl⟩ dX5_side_8 (by decide) (by decide) hF hn h
set_option maxHeartbeats 4000000 in
set_option maxRecDepth 100000 in
theorem e5_isPacket {S : Sto} {Q : Int32 → Sto → Prop} (hF : Fx S) {p1 : Int32} {p2 : Int32}  (h : ((if 0 ≤ (p1 : Int32).toInt ∧ (p1 : Int32).toInt < 2 then 1 else 0 : Int32) = 0 → (Q 0 S)) ∧ (¬ (if 0 ≤ (p1 : Int32).toInt ∧ (p1 : Int32).toInt < 2 then 1 else 0 : Int32) = 0 → ((0 ≤ (p1 : Int32).toInt ∧ (p1 : Int32).toInt < (2 : Nat)) ∧ (((if (0 : Int64).toInt ≤ ((p2 : Int32).toInt64 : Int64).toInt ∧ ((p2 : Int32).toInt64 : Int64).toInt ≤ ((((gI S 44 p1.toNatClampNeg) - 1) : Int32).toInt64 : Int64).toInt then 1 else 0 : Int32) = 0 → (Q 0 S)) ∧ (¬ (if (0 : Int64).toInt ≤ ((p2 : Int32).toInt64 : Int64).toInt ∧ ((p2 : Int32).toInt64 : Int64).toInt ≤ ((((gI S 44 p1.toNatClampNeg) - 1) : Int32).toInt64 : Int64).toInt then 1 else 0 : Int32) = 0 → (Q 1 S)))))) : Ci K5_isPacket [vr 26, vi p1, vi p2] S Q := by
  refine Ci.intro rfl (Nat.le_of_ble_eq_true rfl) (fun X O => ?_)
  have C := O.1
  have hn : sN S ≤ sN S := Nat.le_refl _
  show WP X 0 [(0, vr 26), (1, vi p1), (2, vi p2)] [] S 0 0
  refine r_iloadn C 1 dX5_isPacket_0 rfl ?_
  refine r_callSi C K5_isSide [vi p1] [] cl_5_229 rm_5_isPacket_5_isSide ⟨rfl, rfl⟩ (by decide) (by decide) rfl (Nat.le_of_ble_eq_true rfl) dX5_isPacket_1 (q5_isSideH (S := S) hF) (fun x1 _ _ _ hq => ?_)
  obtain ⟨hqa, hqb⟩ := hq; obtain rfl := hqa.symm; obtain rfl := hqb.symm
  refine r_if_eq C dX5_isPacket_4 (tgt := 29) (by decide) (fun hc2 => ?_) (fun hc2 => ?_)
  · replace h := h.1 hc2
    refine r_iconst C (x := 0) dX5_isPacket_29 (by decide) ?_
    exact ri O ⟨_, rfl, nar_z (Or.inl rfl)⟩ dX5_isPacket_30 (by decide) (by decide) hF hn h
  · replace h := h.2 hc2
    refine r_iloadn C 2 dX5_isPacket_7 rfl ?_
    refine r_i2l C dX5_isPacket_8 ?_
    refine r_lconst C dX5_isPacket_9 (x := 0) (by decide) ?_
    refine r_aloadn C 0 dX5_isPacket_10 rfl ?_
    refine r_getR C (hF.k (by decide) rfl) fl_5_73 rfl (o := some 44) (hF.mR (by decide) rfl rfl) dX5_isPacket_11 ?_
    refine r_iloadn C 1 dX5_isPacket_14 rfl ?_
    obtain ⟨hi3, h⟩ := h
    refine r_iald C (hF.k (by decide) rfl) (ixL (n := 2) rfl hi3) dX5_isPacket_15 ?_
    refine r_iconst C (x := 1) dX5_isPacket_16 (by decide) ?_
    refine r_isub C dX5_isPacket_17 ?_
    refine r_i2l C dX5_isPacket_18 ?_
    refine r_callSi C K5_in [vl ((p2 : Int32).toInt64), vl 0, vl ((((gI S 44 p1.toNatClampNeg) - 1) : Int32).toInt64)] [] cl_5_185 rm_5_isPacket_5_in ⟨rfl, rfl⟩ (by decide) (by decide) rfl (Nat.le_of_ble_eq_true rfl) dX5_isPacket_19 (q5_inH (S := S) hF) (fun x4 _ _ _ hq => ?_)
    obtain ⟨hqa, hqb⟩ := hq; obtain rfl := hqa.symm; obtain rfl := hqb.symm
    refine r_if_eq C dX5_isPacket_22 (tgt := 29) (by decide) (fun hc5 => ?_) (fun hc5 => ?_)
    · replace h := h.1 hc5
      refine r_iconst C (x := 0) dX5_isPacket_29 (by decide) ?_
      exact ri O ⟨_, rfl, nar_z (Or.inl rfl)⟩ dX5_isPacket_30 (by decide) (by decide) hF hn h
    · replace h := h.2 hc5
      refine r_iconst C (x := 1) dX5_isPacket_25 (by decide) ?_
      refine r_goto C dX5_isPacket_26 (tgt := 30) (by decide) ?_
      exact ri O ⟨_, rfl, nar_z (Or.inr rfl)⟩ dX5_isPacket_30 (by decide) (by decide) hF hn h
set_option maxHeartbeats 4000000 in
set_option maxRecDepth 100000 in
theorem e5_packet {S : Sto} {Q : Int32 → Sto → Prop} (hF : Fx S) {p1 : Int32} {p2 : Int32} {p3 : Int32}  (h : Ci K5_isPacket [vr 26, vi p1, vi p2] S (fun x1 S1 => (¬ x1 = 0 → ((p3 = 0 → ((0 ≤ (((300 * p1) + p2) : Int32).toInt ∧ (((300 * p1) + p2) : Int32).toInt < (600 : Nat)) ∧ (Q (gI S1 66 ((300 * p1) + p2).toNatClampNeg) S1))) ∧ (p3 = 1 → ((0 ≤ (((300 * p1) + p2) : Int32).toInt ∧ (((300 * p1) + p2) : Int32).toInt < (600 : Nat)) ∧ (Q (gI S1 67 ((300 * p1) + p2).toNatClampNeg) S1))) ∧ (p3 = 2 → ((0 ≤ (((300 * p1) + p2) : Int32).toInt ∧ (((300 * p1) + p2) : Int32).toInt < (600 : Nat)) ∧ (Q (gI S1 68 ((300 * p1) + p2).toNatClampNeg) S1))) ∧ (p3 = 3 → ((0 ≤ (((300 * p1) + p2) : Int32).toInt ∧ (((300 * p1) + p2) : Int32).toInt < (600 : Nat)) ∧ (Q (gI S1 69 ((300 * p1) + p2).toNatClampNeg) S1))) ∧ (p3 = 4 → ((0 ≤ (((300 * p1) + p2) : Int32).toInt ∧ (((300 * p1) + p2) : Int32).toInt < (600 : Nat)) ∧ (Q ((if (gI S1 70 ((300 * p1) + p2).toNatClampNeg) = 0 then 0 else 1 : Int32)) S1))) ∧ (p3 = 5 → ((0 ≤ (((300 * p1) + p2) : Int32).toInt ∧ (((300 * p1) + p2) : Int32).toInt < (600 : Nat)) ∧ (Q ((if (gI S1 71 ((300 * p1) + p2).toNatClampNeg) = 0 then 0 else 1 : Int32)) S1))) ∧ (p3 = 6 → ((0 ≤ (((300 * p1) + p2) : Int32).toInt ∧ (((300 * p1) + p2) : Int32).toInt < (600 : Nat)) ∧ (Q ((if (gI S1 72 ((300 * p1) + p2).toNatClampNeg) = 0 then 0 else 1 : Int32)) S1))) ∧ (p3 = 7 → ((0 ≤ (((300 * p1) + p2) : Int32).toInt ∧ (((300 * p1) + p2) : Int32).toInt < (600 : Nat)) ∧ (Q ((if (gI S1 73 ((300 * p1) + p2).toNatClampNeg) = 0 then 0 else 1 : Int32)) S1))) ∧ (¬ p3 = 0 → ¬ p3 = 1 → ¬ p3 = 2 → ¬ p3 = 3 → ¬ p3 = 4 → ¬ p3 = 5 → ¬ p3 = 6 → ¬ p3 = 7 → (Q (-2) S1)))) ∧ (x1 = 0 → (Q (-1) S1)))) : Ci K5_packet [vr 26, vi p1, vi p2, vi p3] S Q := by
  refine Ci.intro rfl (Nat.le_of_ble_eq_true rfl) (fun X O => ?_)
  have C := O.1
  have hn : sN S ≤ sN S := Nat.le_refl _
  show WP X 0 [(0, vr 26), (1, vi p1), (2, vi p2), (3, vi p3)] [] S 0 0
  refine r_aloadn C 0 dX5_packet_0 rfl ?_
  refine r_iloadn C 1 dX5_packet_1 rfl ?_
  refine r_iloadn C 2 dX5_packet_2 rfl ?_
  refine r_callVi C K5_isPacket [vi p1, vi p2] [] (hF.k (by decide) rfl) (by decide) rfl cl_5_316 rm_5_packet_5_isPacket ⟨rfl, rfl⟩ (by decide) (by decide) rfl (Nat.le_of_ble_eq_true rfl) dX5_packet_3 h (fun x1 S1 hF1 hn1 h => ?_)
  refine r_if_ne C dX5_packet_6 (tgt := 11) (by decide) (fun hc2 => ?_) (fun hc2 => ?_)
  · replace h := h.1 hc2
    refine r_aloadn C 0 dX5_packet_11 rfl ?_
    refine r_iloadn C 1 dX5_packet_12 rfl ?_
    refine r_iloadn C 2 dX5_packet_13 rfl ?_
    refine r_callVi C K5_at [vi p1, vi p2] [] (hF1.k (by decide) rfl) (by decide) rfl cl_5_215 rm_5_packet_5_at ⟨rfl, rfl⟩ (by decide) (by decide) rfl (Nat.le_of_ble_eq_true rfl) dX5_packet_14 (q5_at (S := S1) hF1) (fun x3 _ _ _ hq => ?_)
    obtain ⟨hqa, hqb⟩ := hq; obtain rfl := hqa.symm; obtain rfl := hqb.symm
    refine r_istore C dX5_packet_17 (by decide) rfl rfl ?_
    refine r_iloadn C 4 dX5_packet_19 rfl ?_
    refine r_table C dX5_packet_20 rfl (by decide) (fun i off hi hx4 => ?_) (fun hx4 => ?_)
    · have hlt : i < 8 := (Array.getElem?_eq_some_iff.mp hi).1
      obtain rfl | rfl | rfl | rfl | rfl | rfl | rfl | rfl : i = 0 ∨ i = 1 ∨ i = 2 ∨ i = 3 ∨ i = 4 ∨ i = 5 ∨ i = 6 ∨ i = 7 := by omega
      · obtain rfl := Option.some.inj hi
        replace h := h.1 (hx4.trans (by decide))
        refine ⟨68, by decide, ?_⟩
        refine r_aloadn C 1 dX5_packet_68 rfl ?_
        refine r_getR C (hF1.k (by decide) rfl) fl_5_139 rfl (o := some 66) (hF1.mR (by decide) rfl rfl) dX5_packet_69 ?_
        refine r_iload C 0 dX5_packet_72 rfl ?_
        obtain ⟨hi5, h⟩ := h
        refine r_iald C (hF1.k (by decide) rfl) (ixL (n := 600) rfl hi5) dX5_packet_74 ?_
        exact ri O ⟨_, rfl, rfl⟩ dX5_packet_75 (by decide) (by decide) hF1 (Nat.le_trans hn hn1) h
      · obtain rfl := Option.some.inj hi
        replace h := h.2.1 (hx4.trans (by decide))
        refine ⟨76, by decide, ?_⟩
        refine r_aloadn C 1 dX5_packet_76 rfl ?_
        refine r_getR C (hF1.k (by decide) rfl) fl_5_142 rfl (o := some 67) (hF1.mR (by decide) rfl rfl) dX5_packet_77 ?_
        refine r_iload C 0 dX5_packet_80 rfl ?_
        obtain ⟨hi6, h⟩ := h
        refine r_iald C (hF1.k (by decide) rfl) (ixL (n := 600) rfl hi6) dX5_packet_82 ?_
        exact ri O ⟨_, rfl, rfl⟩ dX5_packet_83 (by decide) (by decide) hF1 (Nat.le_trans hn hn1) h
      · obtain rfl := Option.some.inj hi
        replace h := h.2.2.1 (hx4.trans (by decide))
        refine ⟨84, by decide, ?_⟩
        refine r_aloadn C 1 dX5_packet_84 rfl ?_
        refine r_getR C (hF1.k (by decide) rfl) fl_5_145 rfl (o := some 68) (hF1.mR (by decide) rfl rfl) dX5_packet_85 ?_
        refine r_iload C 0 dX5_packet_88 rfl ?_
        obtain ⟨hi7, h⟩ := h
        refine r_iald C (hF1.k (by decide) rfl) (ixL (n := 600) rfl hi7) dX5_packet_90 ?_
        exact ri O ⟨_, rfl, rfl⟩ dX5_packet_91 (by decide) (by decide) hF1 (Nat.le_trans hn hn1) h
      · obtain rfl := Option.some.inj hi
        replace h := h.2.2.2.1 (hx4.trans (by decide))
        refine ⟨92, by decide, ?_⟩
        refine r_aloadn C 1 dX5_packet_92 rfl ?_
        refine r_getR C (hF1.k (by decide) rfl) fl_5_148 rfl (o := some 69) (hF1.mR (by decide) rfl rfl) dX5_packet_93 ?_
        refine r_iload C 0 dX5_packet_96 rfl ?_
        obtain ⟨hi8, h⟩ := h
        refine r_iald C (hF1.k (by decide) rfl) (ixL (n := 600) rfl hi8) dX5_packet_98 ?_
        exact ri O ⟨_, rfl, rfl⟩ dX5_packet_99 (by decide) (by decide) hF1 (Nat.le_trans hn hn1) h
      · obtain rfl := Option.some.inj hi
        replace h := h.2.2.2.2.1 (hx4.trans (by decide))
        refine ⟨100, by decide, ?_⟩
        refine r_aloadn C 1 dX5_packet_100 rfl ?_
        refine r_getR C (hF1.k (by decide) rfl) fl_5_151 rfl (o := some 70) (hF1.mR (by decide) rfl rfl) dX5_packet_101 ?_
        refine r_iload C 0 dX5_packet_104 rfl ?_
        obtain ⟨hi9, h⟩ := h
        refine r_zald C (hF1.k (by decide) rfl) (ixL (n := 600) rfl hi9) dX5_packet_106 ?_
        refine r_callSi C K5_asInt [vi (gI S1 70 ((300 * p1) + p2).toNatClampNeg)] [] cl_5_304 rm_5_packet_5_asInt ⟨rfl, rfl⟩ (by decide) (by decide) rfl (Nat.le_of_ble_eq_true rfl) dX5_packet_107 (q5_asInt (S := S1) hF1) (fun x10 _ _ _ hq => ?_)
        obtain ⟨hqa, hqb⟩ := hq; obtain rfl := hqa.symm; obtain rfl := hqb.symm
        exact ri O ⟨_, rfl, rfl⟩ dX5_packet_110 (by decide) (by decide) hF1 (Nat.le_trans hn hn1) h
      · obtain rfl := Option.some.inj hi
        replace h := h.2.2.2.2.2.1 (hx4.trans (by decide))
        refine ⟨111, by decide, ?_⟩
        refine r_aloadn C 1 dX5_packet_111 rfl ?_
        refine r_getR C (hF1.k (by decide) rfl) fl_5_154 rfl (o := some 71) (hF1.mR (by decide) rfl rfl) dX5_packet_112 ?_
        refine r_iload C 0 dX5_packet_115 rfl ?_
        obtain ⟨hi11, h⟩ := h
        refine r_zald C (hF1.k (by decide) rfl) (ixL (n := 600) rfl hi11) dX5_packet_117 ?_
        refine r_callSi C K5_asInt [vi (gI S1 71 ((300 * p1) + p2).toNatClampNeg)] [] cl_5_304 rm_5_packet_5_asInt ⟨rfl, rfl⟩ (by decide) (by decide) rfl (Nat.le_of_ble_eq_true rfl) dX5_packet_118 (q5_asInt (S := S1) hF1) (fun x12 _ _ _ hq => ?_)
        obtain ⟨hqa, hqb⟩ := hq; obtain rfl := hqa.symm; obtain rfl := hqb.symm
        exact ri O ⟨_, rfl, rfl⟩ dX5_packet_121 (by decide) (by decide) hF1 (Nat.le_trans hn hn1) h
      · obtain rfl := Option.some.inj hi
        replace h := h.2.2.2.2.2.2.1 (hx4.trans (by decide))
        refine ⟨122, by decide, ?_⟩
        refine r_aloadn C 1 dX5_packet_122 rfl ?_
        refine r_getR C (hF1.k (by decide) rfl) fl_5_157 rfl (o := some 72) (hF1.mR (by decide) rfl rfl) dX5_packet_123 ?_
        refine r_iload C 0 dX5_packet_126 rfl ?_
        obtain ⟨hi13, h⟩ := h
        refine r_zald C (hF1.k (by decide) rfl) (ixL (n := 600) rfl hi13) dX5_packet_128 ?_
        refine r_callSi C K5_asInt [vi (gI S1 72 ((300 * p1) + p2).toNatClampNeg)] [] cl_5_304 rm_5_packet_5_asInt ⟨rfl, rfl⟩ (by decide) (by decide) rfl (Nat.le_of_ble_eq_true rfl) dX5_packet_129 (q5_asInt (S := S1) hF1) (fun x14 _ _ _ hq => ?_)
        obtain ⟨hqa, hqb⟩ := hq; obtain rfl := hqa.symm; obtain rfl := hqb.symm
        exact ri O ⟨_, rfl, rfl⟩ dX5_packet_132 (by decide) (by decide) hF1 (Nat.le_trans hn hn1) h
      · obtain rfl := Option.some.inj hi
        replace h := h.2.2.2.2.2.2.2.1 (hx4.trans (by decide))
        refine ⟨133, by decide, ?_⟩
        refine r_aloadn C 1 dX5_packet_133 rfl ?_
        refine r_getR C (hF1.k (by decide) rfl) fl_5_160 rfl (o := some 73) (hF1.mR (by decide) rfl rfl) dX5_packet_134 ?_
        refine r_iload C 0 dX5_packet_137 rfl ?_
        obtain ⟨hi15, h⟩ := h
        refine r_zald C (hF1.k (by decide) rfl) (ixL (n := 600) rfl hi15) dX5_packet_139 ?_
        refine r_callSi C K5_asInt [vi (gI S1 73 ((300 * p1) + p2).toNatClampNeg)] [] cl_5_304 rm_5_packet_5_asInt ⟨rfl, rfl⟩ (by decide) (by decide) rfl (Nat.le_of_ble_eq_true rfl) dX5_packet_140 (q5_asInt (S := S1) hF1) (fun x16 _ _ _ hq => ?_)
        obtain ⟨hqa, hqb⟩ := hq; obtain rfl := hqa.symm; obtain rfl := hqb.symm
        exact ri O ⟨_, rfl, rfl⟩ dX5_packet_143 (by decide) (by decide) hF1 (Nat.le_trans hn hn1) h
    · replace h := h.2.2.2.2.2.2.2.2 (fun e => hx4 0 (by decide) (e.trans (by decide))) (fun e => hx4 1 (by decide) (e.trans (by decide))) (fun e => hx4 2 (by decide) (e.trans (by decide))) (fun e => hx4 3 (by decide) (e.trans (by decide))) (fun e => hx4 4 (by decide) (e.trans (by decide))) (fun e => hx4 5 (by decide) (e.trans (by decide))) (fun e => hx4 6 (by decide) (e.trans (by decide))) (fun e => hx4 7 (by decide) (e.trans (by decide)))
      refine ⟨144, by decide, ?_⟩
      refine r_bipush C (x := (-2)) dX5_packet_144 (by decide) ?_
      exact ri O ⟨_, rfl, rfl⟩ dX5_packet_146 (by decide) (by decide) hF1 (Nat.le_trans hn hn1) h
  · replace h := h.2 hc2
    refine r_iconst C (x := (-1)) dX5_packet_9 (by decide) ?_
    exact ri O ⟨_, rfl, rfl⟩ dX5_packet_10 (by decide) (by decide) hF1 (Nat.le_trans hn hn1) h
set_option maxHeartbeats 4000000 in
set_option maxRecDepth 100000 in
theorem e5_part {S : Sto} {Q : Int32 → Sto → Prop} (hF : Fx S) {p1 : Int32} {p2 : Int32} {p3 : Int32} {p4 : Int32}  (h : Ci K5_isPacket [vr 26, vi p1, vi p2] S (fun x1 S1 => (x1 = 0 → (Q (-1) S1)) ∧ (¬ x1 = 0 → ((0 ≤ (((300 * p1) + p2) : Int32).toInt ∧ (((300 * p1) + p2) : Int32).toInt < (600 : Nat)) ∧ ((¬ (if (0 : Int64).toInt ≤ ((p3 : Int32).toInt64 : Int64).toInt ∧ ((p3 : Int32).toInt64 : Int64).toInt ≤ ((((gI S1 69 ((300 * p1) + p2).toNatClampNeg) - 1) : Int32).toInt64 : Int64).toInt then 1 else 0 : Int32) = 0 → ((¬ (if (0 : Int64).toInt ≤ ((p4 : Int32).toInt64 : Int64).toInt ∧ ((p4 : Int32).toInt64 : Int64).toInt ≤ (11 : Int64).toInt then 1 else 0 : Int32) = 0 → ((4 ≤ p4 → ((0 ≤ ((4 * ((24 * ((300 * p1) + p2)) + p3)) : Int32).toInt ∧ ((4 * ((24 * ((300 * p1) + p2)) + p3)) : Int32).toInt < (57600 : Nat)) ∧ ((0 ≤ (((4 * ((24 * ((300 * p1) + p2)) + p3)) + 3) : Int32).toInt ∧ (((4 * ((24 * ((300 * p1) + p2)) + p3)) + 3) : Int32).toInt < (57600 : Nat)) ∧ (∀ w16 : Int32, w16 = (if (gI S1 74 (4 * ((24 * ((300 * p1) + p2)) + p3)).toNatClampNeg) = 1 then (if (gI S1 74 ((4 * ((24 * ((300 * p1) + p2)) + p3)) + 3).toNatClampNeg) ≤ ((p4 - 4) / 2) then 0 else 1 : Int32) else 0 : Int32) → ((0 ≤ ((((8 * ((300 * p1) + p2)) + p4) - 4) : Int32).toInt ∧ ((((8 * ((300 * p1) + p2)) + p4) - 4) : Int32).toInt < (4800 : Nat)) ∧ (∀ w21 : Int32, w21 = (if w16 = 0 then (-6) else (gI S1 75 (((8 * ((300 * p1) + p2)) + p4) - 4).toNatClampNeg) : Int32) → (Q w21 S1))))))) ∧ (¬ 4 ≤ p4 → ((0 ≤ (((4 * ((24 * ((300 * p1) + p2)) + p3)) + p4) : Int32).toInt ∧ (((4 * ((24 * ((300 * p1) + p2)) + p3)) + p4) : Int32).toInt < (57600 : Nat)) ∧ (Q (gI S1 74 ((4 * ((24 * ((300 * p1) + p2)) + p3)) + p4).toNatClampNeg) S1))))) ∧ ((if (0 : Int64).toInt ≤ ((p4 : Int32).toInt64 : Int64).toInt ∧ ((p4 : Int32).toInt64 : Int64).toInt ≤ (11 : Int64).toInt then 1 else 0 : Int32) = 0 → (Q (-2) S1)))) ∧ ((if (0 : Int64).toInt ≤ ((p3 : Int32).toInt64 : Int64).toInt ∧ ((p3 : Int32).toInt64 : Int64).toInt ≤ ((((gI S1 69 ((300 * p1) + p2).toNatClampNeg) - 1) : Int32).toInt64 : Int64).toInt then 1 else 0 : Int32) = 0 → (Q (-1) S1))))))) : Ci K5_part [vr 26, vi p1, vi p2, vi p3, vi p4] S Q := by
  refine Ci.intro rfl (Nat.le_of_ble_eq_true rfl) (fun X O => ?_)
  have C := O.1
  have hn : sN S ≤ sN S := Nat.le_refl _
  show WP X 0 [(0, vr 26), (1, vi p1), (2, vi p2), (3, vi p3), (4, vi p4)] [] S 0 0
  refine r_aloadn C 0 dX5_part_0 rfl ?_
  refine r_iloadn C 1 dX5_part_1 rfl ?_
  refine r_iloadn C 2 dX5_part_2 rfl ?_
  refine r_callVi C K5_isPacket [vi p1, vi p2] [] (hF.k (by decide) rfl) (by decide) rfl cl_5_316 rm_5_part_5_isPacket ⟨rfl, rfl⟩ (by decide) (by decide) rfl (Nat.le_of_ble_eq_true rfl) dX5_part_3 h (fun x1 S1 hF1 hn1 h => ?_)
  refine r_if_eq C dX5_part_6 (tgt := 32) (by decide) (fun hc2 => ?_) (fun hc2 => ?_)
  · replace h := h.1 hc2
    refine r_iconst C (x := (-1)) dX5_part_32 (by decide) ?_
    exact ri O ⟨_, rfl, rfl⟩ dX5_part_33 (by decide) (by decide) hF1 (Nat.le_trans hn hn1) h
  · replace h := h.2 hc2
    refine r_iloadn C 3 dX5_part_9 rfl ?_
    refine r_i2l C dX5_part_10 ?_
    refine r_lconst C dX5_part_11 (x := 0) (by decide) ?_
    refine r_aloadn C 0 dX5_part_12 rfl ?_
    refine r_getR C (hF1.k (by decide) rfl) fl_5_148 rfl (o := some 69) (hF1.mR (by decide) rfl rfl) dX5_part_13 ?_
    refine r_aloadn C 0 dX5_part_16 rfl ?_
    refine r_iloadn C 1 dX5_part_17 rfl ?_
    refine r_iloadn C 2 dX5_part_18 rfl ?_
    refine r_callVi C K5_at [vi p1, vi p2] [vr 69, vl 0, vl ((p3 : Int32).toInt64)] (hF1.k (by decide) rfl) (by decide) rfl cl_5_215 rm_5_part_5_at ⟨rfl, rfl⟩ (by decide) (by decide) rfl (Nat.le_of_ble_eq_true rfl) dX5_part_19 (q5_at (S := S1) hF1) (fun x3 _ _ _ hq => ?_)
    obtain ⟨hqa, hqb⟩ := hq; obtain rfl := hqa.symm; obtain rfl := hqb.symm
    obtain ⟨hi4, h⟩ := h
    refine r_iald C (hF1.k (by decide) rfl) (ixL (n := 600) rfl hi4) dX5_part_22 ?_
    refine r_iconst C (x := 1) dX5_part_23 (by decide) ?_
    refine r_isub C dX5_part_24 ?_
    refine r_i2l C dX5_part_25 ?_
    refine r_callSi C K5_in [vl ((p3 : Int32).toInt64), vl 0, vl ((((gI S1 69 ((300 * p1) + p2).toNatClampNeg) - 1) : Int32).toInt64)] [] cl_5_185 rm_5_part_5_in ⟨rfl, rfl⟩ (by decide) (by decide) rfl (Nat.le_of_ble_eq_true rfl) dX5_part_26 (q5_inH (S := S1) hF1) (fun x5 _ _ _ hq => ?_)
    obtain ⟨hqa, hqb⟩ := hq; obtain rfl := hqa.symm; obtain rfl := hqb.symm
    refine r_if_ne C dX5_part_29 (tgt := 34) (by decide) (fun hc6 => ?_) (fun hc6 => ?_)
    · replace h := h.1 hc6
      refine r_iload C 4 dX5_part_34 rfl ?_
      refine r_i2l C dX5_part_36 ?_
      refine r_lconst C dX5_part_37 (x := 0) (by decide) ?_
      refine r_ldc2 C (x := 11) (mB 963 (by decide +kernel) rfl) dX5_part_38 ?_
      refine r_callSi C K5_in [vl ((p4 : Int32).toInt64), vl 0, vl 11] [] cl_5_185 rm_5_part_5_in ⟨rfl, rfl⟩ (by decide) (by decide) rfl (Nat.le_of_ble_eq_true rfl) dX5_part_41 (q5_inH (S := S1) hF1) (fun x7 _ _ _ hq => ?_)
      obtain ⟨hqa, hqb⟩ := hq; obtain rfl := hqa.symm; obtain rfl := hqb.symm
      refine r_if_ne C dX5_part_44 (tgt := 50) (by decide) (fun hc8 => ?_) (fun hc8 => ?_)
      · replace h := h.1 hc8
        refine r_aloadn C 0 dX5_part_50 rfl ?_
        refine r_iloadn C 1 dX5_part_51 rfl ?_
        refine r_iloadn C 2 dX5_part_52 rfl ?_
        refine r_callVi C K5_at [vi p1, vi p2] [] (hF1.k (by decide) rfl) (by decide) rfl cl_5_215 rm_5_part_5_at ⟨rfl, rfl⟩ (by decide) (by decide) rfl (Nat.le_of_ble_eq_true rfl) dX5_part_53 (q5_at (S := S1) hF1) (fun x9 _ _ _ hq => ?_)
        obtain ⟨hqa, hqb⟩ := hq; obtain rfl := hqa.symm; obtain rfl := hqb.symm
        refine r_istore C dX5_part_56 (by decide) rfl rfl ?_
        refine r_iconst C (x := 4) dX5_part_58 (by decide) ?_
        refine r_bipush C (x := 24) dX5_part_59 (by decide) ?_
        refine r_iload C 0 dX5_part_61 rfl ?_
        refine r_imul C dX5_part_63 ?_
        refine r_iloadn C 4 dX5_part_64 rfl ?_
        refine r_iadd C dX5_part_65 ?_
        refine r_imul C dX5_part_66 ?_
        refine r_istore C dX5_part_67 (by decide) rfl rfl ?_
        refine r_iload C 6 dX5_part_69 rfl ?_
        refine r_iconst C (x := 4) dX5_part_71 (by decide) ?_
        refine r_icmp_ge C dX5_part_72 (tgt := 86) (by decide) (fun hc10 => ?_) (fun hc10 => ?_)
        · replace h := h.1 hc10
          refine r_aloadn C 2 dX5_part_86 rfl ?_
          refine r_getR C (hF1.k (by decide) rfl) fl_5_164 rfl (o := some 74) (hF1.mR (by decide) rfl rfl) dX5_part_87 ?_
          refine r_iload C 0 dX5_part_90 rfl ?_
          obtain ⟨hi11, h⟩ := h
          refine r_iald C (hF1.k (by decide) rfl) (ixL (n := 57600) rfl hi11) dX5_part_92 ?_
          refine r_iconst C (x := 1) dX5_part_93 (by decide) ?_
          obtain ⟨hi15, h⟩ := h
          have kJ17 : ∀ (w16 : Int32) (_ : w16 = (if (gI S1 74 (4 * ((24 * ((300 * p1) + p2)) + p3)).toNatClampNeg) = 1 then (if (gI S1 74 ((4 * ((24 * ((300 * p1) + p2)) + p3)) + 3).toNatClampNeg) ≤ ((p4 - 4) / 2) then 0 else 1 : Int32) else 0 : Int32)), WP X 120 [(0, vr 26), (4, vi p4), (5, vi ((300 * p1) + p2))] [vi w16] S1 0 0 := by
            intro w16 hw16
            replace h := h w16 hw16
            have hz_w16 : w16 = 0 ∨ w16 = 1 := by rw [hw16]; repeat (first | exact Or.inl rfl | exact Or.inr rfl | assumption | split)
            refine r_istore C dX5_part_120 (by decide) rfl rfl ?_
            refine r_iload C 0 dX5_part_122 rfl ?_
            obtain ⟨hi20, h⟩ := h
            have kJ22 : ∀ (w21 : Int32) (_ : w21 = (if w16 = 0 then (-6) else (gI S1 75 (((8 * ((300 * p1) + p2)) + p4) - 4).toNatClampNeg) : Int32)), WP X 147 [] [vi w21] S1 0 0 := by
              intro w21 hw21
              replace h := h w21 hw21
              exact ri O ⟨_, rfl, rfl⟩ dX5_part_147 (by decide) (by decide) hF1 (Nat.le_trans hn hn1) h
            refine r_if_eq C dX5_part_124 (tgt := 145) (by decide) (fun hc23 => ?_) (fun hc23 => ?_)
            · refine r_bipush C (x := (-6)) dX5_part_145 (by decide) ?_
              refine r_perm [] rfl ?_
              exact kJ22 _ (if_pos hc23).symm
            · refine r_aloadn C 1 dX5_part_127 rfl ?_
              refine r_getR C (hF1.k (by decide) rfl) fl_5_167 rfl (o := some 75) (hF1.mR (by decide) rfl rfl) dX5_part_128 ?_
              refine r_bipush C (x := 8) dX5_part_131 (by decide) ?_
              refine r_iload C 3 dX5_part_133 rfl ?_
              refine r_imul C dX5_part_135 ?_
              refine r_iload C 2 dX5_part_136 rfl ?_
              refine r_iadd C dX5_part_138 ?_
              refine r_iconst C (x := 4) dX5_part_139 (by decide) ?_
              refine r_isub C dX5_part_140 ?_
              refine r_iald C (hF1.k (by decide) rfl) (ixL (n := 4800) rfl hi20) dX5_part_141 ?_
              refine r_goto C dX5_part_142 (tgt := 147) (by decide) ?_
              refine r_perm [] rfl ?_
              exact kJ22 _ (if_neg hc23).symm
          refine r_icmp_ne C dX5_part_94 (tgt := 119) (by decide) (fun hc18 => ?_) (fun hc18 => ?_)
          · refine r_iconst C (x := 0) dX5_part_119 (by decide) ?_
            refine r_perm [2, 6, 1] rfl ?_
            exact kJ17 _ (if_neg hc18).symm
          · refine r_iload C 6 dX5_part_97 rfl ?_
            refine r_iconst C (x := 4) dX5_part_99 (by decide) ?_
            refine r_isub C dX5_part_100 ?_
            refine r_iconst C (x := 2) dX5_part_101 (by decide) ?_
            refine r_idiv C dX5_part_102 (by decide) ?_
            refine r_aloadn C 2 dX5_part_103 rfl ?_
            refine r_getR C (hF1.k (by decide) rfl) fl_5_164 rfl (o := some 74) (hF1.mR (by decide) rfl rfl) dX5_part_104 ?_
            refine r_iload C 0 dX5_part_107 rfl ?_
            refine r_iconst C (x := 3) dX5_part_109 (by decide) ?_
            refine r_iadd C dX5_part_110 ?_
            refine r_iald C (hF1.k (by decide) rfl) (ixL (n := 57600) rfl hi15) dX5_part_111 ?_
            have kJ24 : WP X 120 [(0, vr 26), (4, vi p4), (5, vi ((300 * p1) + p2))] [vi (if (gI S1 74 ((4 * ((24 * ((300 * p1) + p2)) + p3)) + 3).toNatClampNeg) ≤ ((p4 - 4) / 2) then 0 else 1 : Int32)] S1 0 0 := by
              refine r_perm [0, 1, 2] rfl ?_
              exact kJ17 _ (if_pos hc18).symm
            refine r_icmp_ge C dX5_part_112 (tgt := 119) (by decide) (fun hc25 => ?_) (fun hc25 => ?_)
            · refine r_iconst C (x := 0) dX5_part_119 (by decide) ?_
              refine r_perm [2, 6, 1] rfl ?_
              rw [show (if (gI S1 74 ((4 * ((24 * ((300 * p1) + p2)) + p3)) + 3).toNatClampNeg) ≤ ((p4 - 4) / 2) then 0 else 1 : Int32) = 0 from if_pos hc25] at kJ24
              exact kJ24
            · refine r_iconst C (x := 1) dX5_part_115 (by decide) ?_
              refine r_goto C dX5_part_116 (tgt := 120) (by decide) ?_
              refine r_perm [2, 6, 1] rfl ?_
              rw [show (if (gI S1 74 ((4 * ((24 * ((300 * p1) + p2)) + p3)) + 3).toNatClampNeg) ≤ ((p4 - 4) / 2) then 0 else 1 : Int32) = 1 from if_neg hc25] at kJ24
              exact kJ24
        · replace h := h.2 hc10
          refine r_aloadn C 2 dX5_part_75 rfl ?_
          refine r_getR C (hF1.k (by decide) rfl) fl_5_164 rfl (o := some 74) (hF1.mR (by decide) rfl rfl) dX5_part_76 ?_
          refine r_iload C 0 dX5_part_79 rfl ?_
          refine r_iload C 6 dX5_part_81 rfl ?_
          refine r_iadd C dX5_part_83 ?_
          obtain ⟨hi26, h⟩ := h
          refine r_iald C (hF1.k (by decide) rfl) (ixL (n := 57600) rfl hi26) dX5_part_84 ?_
          exact ri O ⟨_, rfl, rfl⟩ dX5_part_85 (by decide) (by decide) hF1 (Nat.le_trans hn hn1) h
      · replace h := h.2 hc8
        refine r_bipush C (x := (-2)) dX5_part_47 (by decide) ?_
        exact ri O ⟨_, rfl, rfl⟩ dX5_part_49 (by decide) (by decide) hF1 (Nat.le_trans hn hn1) h
    · replace h := h.2 hc6
      refine r_iconst C (x := (-1)) dX5_part_32 (by decide) ?_
      exact ri O ⟨_, rfl, rfl⟩ dX5_part_33 (by decide) (by decide) hF1 (Nat.le_trans hn hn1) h
set_option maxHeartbeats 4000000 in
set_option maxRecDepth 100000 in
theorem e5_net {S : Sto} {Q : Int32 → Sto → Prop} (hF : Fx S) {p1 : Int32} {p2 : Int32}  (h : (¬ (if (0 : Int64).toInt ≤ ((p1 : Int32).toInt64 : Int64).toInt ∧ ((p1 : Int32).toInt64 : Int64).toInt ≤ ((((gI S 26 62) - 1) : Int32).toInt64 : Int64).toInt then 1 else 0 : Int32) = 0 → ((0 ≤ (p1 : Int32).toInt ∧ (p1 : Int32).toInt < (400 : Nat)) ∧ (∀ w9 : Int32, w9 = (if p2 = 0 then (gI S 76 p1.toNatClampNeg) else (if p2 = 1 then (gI S 77 p1.toNatClampNeg) else (-2) : Int32) : Int32) → (Q w9 S)))) ∧ ((if (0 : Int64).toInt ≤ ((p1 : Int32).toInt64 : Int64).toInt ∧ ((p1 : Int32).toInt64 : Int64).toInt ≤ ((((gI S 26 62) - 1) : Int32).toInt64 : Int64).toInt then 1 else 0 : Int32) = 0 → (Q (-1) S))) : Ci K5_net [vr 26, vi p1, vi p2] S Q := by
  refine Ci.intro rfl (Nat.le_of_ble_eq_true rfl) (fun X O => ?_)
  have C := O.1
  have hn : sN S ≤ sN S := Nat.le_refl _
  show WP X 0 [(0, vr 26), (1, vi p1), (2, vi p2)] [] S 0 0
  refine r_iloadn C 1 dX5_net_0 rfl ?_
  refine r_i2l C dX5_net_1 ?_
  refine r_lconst C dX5_net_2 (x := 0) (by decide) ?_
  refine r_aloadn C 0 dX5_net_3 rfl ?_
  refine r_getI C (hF.k (by decide) rfl) fl_5_232 rfl dX5_net_4 ?_
  refine r_iconst C (x := 1) dX5_net_7 (by decide) ?_
  refine r_isub C dX5_net_8 ?_
  refine r_i2l C dX5_net_9 ?_
  refine r_callSi C K5_in [vl ((p1 : Int32).toInt64), vl 0, vl ((((gI S 26 62) - 1) : Int32).toInt64)] [] cl_5_185 rm_5_net_5_in ⟨rfl, rfl⟩ (by decide) (by decide) rfl (Nat.le_of_ble_eq_true rfl) dX5_net_10 (q5_inH (S := S) hF) (fun x1 _ _ _ hq => ?_)
  obtain ⟨hqa, hqb⟩ := hq; obtain rfl := hqa.symm; obtain rfl := hqb.symm
  refine r_if_ne C dX5_net_13 (tgt := 18) (by decide) (fun hc2 => ?_) (fun hc2 => ?_)
  · replace h := h.1 hc2
    refine r_iloadn C 2 dX5_net_18 rfl ?_
    obtain ⟨hi8, h⟩ := h
    have kJ10 : ∀ (w9 : Int32) (_ : w9 = (if p2 = 0 then (gI S 76 p1.toNatClampNeg) else (if p2 = 1 then (gI S 77 p1.toNatClampNeg) else (-2) : Int32) : Int32)), WP X 47 [] [vi w9] S 0 0 := by
      intro w9 hw9
      replace h := h w9 hw9
      exact ri O ⟨_, rfl, rfl⟩ dX5_net_47 (by decide) (by decide) hF hn h
    refine r_if_ne C dX5_net_19 (tgt := 31) (by decide) (fun hc11 => ?_) (fun hc11 => ?_)
    · refine r_iloadn C 2 dX5_net_31 rfl ?_
      refine r_iconst C (x := 1) dX5_net_32 (by decide) ?_
      have kJ12 : WP X 47 [] [vi (if p2 = 1 then (gI S 77 p1.toNatClampNeg) else (-2) : Int32)] S 0 0 := by
        refine r_perm [] rfl ?_
        exact kJ10 _ (if_neg hc11).symm
      refine r_icmp_ne C dX5_net_33 (tgt := 45) (by decide) (fun hc13 => ?_) (fun hc13 => ?_)
      · refine r_bipush C (x := (-2)) dX5_net_45 (by decide) ?_
        refine r_perm [] rfl ?_
        rw [show (if p2 = 1 then (gI S 77 p1.toNatClampNeg) else (-2) : Int32) = (-2) from if_neg hc13] at kJ12
        exact kJ12
      · refine r_aloadn C 0 dX5_net_36 rfl ?_
        refine r_getR C (hF.k (by decide) rfl) fl_5_173 rfl (o := some 77) (hF.mR (by decide) rfl rfl) dX5_net_37 ?_
        refine r_iloadn C 1 dX5_net_40 rfl ?_
        refine r_iald C (hF.k (by decide) rfl) (ixL (n := 400) rfl hi8) dX5_net_41 ?_
        refine r_goto C dX5_net_42 (tgt := 47) (by decide) ?_
        refine r_perm [] rfl ?_
        rw [show (if p2 = 1 then (gI S 77 p1.toNatClampNeg) else (-2) : Int32) = (gI S 77 p1.toNatClampNeg) from if_pos hc13] at kJ12
        exact kJ12
    · refine r_aloadn C 0 dX5_net_22 rfl ?_
      refine r_getR C (hF.k (by decide) rfl) fl_5_170 rfl (o := some 76) (hF.mR (by decide) rfl rfl) dX5_net_23 ?_
      refine r_iloadn C 1 dX5_net_26 rfl ?_
      refine r_iald C (hF.k (by decide) rfl) (ixL (n := 400) rfl hi8) dX5_net_27 ?_
      refine r_goto C dX5_net_28 (tgt := 47) (by decide) ?_
      refine r_perm [] rfl ?_
      exact kJ10 _ (if_pos hc11).symm
  · replace h := h.2 hc2
    refine r_iconst C (x := (-1)) dX5_net_16 (by decide) ?_
    exact ri O ⟨_, rfl, rfl⟩ dX5_net_17 (by decide) (by decide) hF hn h
set_option maxHeartbeats 4000000 in
set_option maxRecDepth 100000 in
theorem e5_told {S : Sto} {Q : Int32 → Sto → Prop} (hF : Fx S) {p1 : Int32}  (h : (p1 = 0 → (Q (gI S 26 3) S)) ∧ (p1 = 1 → (Q (gI S 26 62) S)) ∧ (p1 = 2 → (Q (gI S 26 44) S)) ∧ (p1 = 3 → (Q (gI S 26 45) S)) ∧ (p1 = 4 → (Q ((if (gI S 26 46) = 0 then 0 else 1 : Int32)) S)) ∧ (p1 = 5 → (Q (gI S 26 47) S)) ∧ (p1 = 6 → (Q (gI S 26 48) S)) ∧ (p1 = 7 → (Q (gI S 26 49) S)) ∧ (¬ p1 = 0 → ¬ p1 = 1 → ¬ p1 = 2 → ¬ p1 = 3 → ¬ p1 = 4 → ¬ p1 = 5 → ¬ p1 = 6 → ¬ p1 = 7 → (Q (-2) S))) : Ci K5_told [vr 26, vi p1] S Q := by
  refine Ci.intro rfl (Nat.le_of_ble_eq_true rfl) (fun X O => ?_)
  have C := O.1
  have hn : sN S ≤ sN S := Nat.le_refl _
  show WP X 0 [(0, vr 26), (1, vi p1)] [] S 0 0
  refine r_iloadn C 1 dX5_told_0 rfl ?_
  refine r_table C dX5_told_1 rfl (by decide) (fun i off hi hx1 => ?_) (fun hx1 => ?_)
  · have hlt : i < 8 := (Array.getElem?_eq_some_iff.mp hi).1
    obtain rfl | rfl | rfl | rfl | rfl | rfl | rfl | rfl : i = 0 ∨ i = 1 ∨ i = 2 ∨ i = 3 ∨ i = 4 ∨ i = 5 ∨ i = 6 ∨ i = 7 := by omega
    · obtain rfl := Option.some.inj hi
      replace h := h.1 (hx1.trans (by decide))
      refine ⟨48, by decide, ?_⟩
      refine r_aloadn C 0 dX5_told_48 rfl ?_
      refine r_getI C (hF.k (by decide) rfl) fl_5_251 rfl dX5_told_49 ?_
      exact ri O ⟨_, rfl, rfl⟩ dX5_told_52 (by decide) (by decide) hF hn h
    · obtain rfl := Option.some.inj hi
      replace h := h.2.1 (hx1.trans (by decide))
      refine ⟨53, by decide, ?_⟩
      refine r_aloadn C 0 dX5_told_53 rfl ?_
      refine r_getI C (hF.k (by decide) rfl) fl_5_232 rfl dX5_told_54 ?_
      exact ri O ⟨_, rfl, rfl⟩ dX5_told_57 (by decide) (by decide) hF hn h
    · obtain rfl := Option.some.inj hi
      replace h := h.2.2.1 (hx1.trans (by decide))
      refine ⟨58, by decide, ?_⟩
      refine r_aloadn C 0 dX5_told_58 rfl ?_
      refine r_getI C (hF.k (by decide) rfl) fl_5_209 rfl dX5_told_59 ?_
      exact ri O ⟨_, rfl, rfl⟩ dX5_told_62 (by decide) (by decide) hF hn h
    · obtain rfl := Option.some.inj hi
      replace h := h.2.2.2.1 (hx1.trans (by decide))
      refine ⟨63, by decide, ?_⟩
      refine r_aloadn C 0 dX5_told_63 rfl ?_
      refine r_getI C (hF.k (by decide) rfl) fl_5_254 rfl dX5_told_64 ?_
      exact ri O ⟨_, rfl, rfl⟩ dX5_told_67 (by decide) (by decide) hF hn h
    · obtain rfl := Option.some.inj hi
      replace h := h.2.2.2.2.1 (hx1.trans (by decide))
      refine ⟨68, by decide, ?_⟩
      refine r_aloadn C 0 dX5_told_68 rfl ?_
      refine r_getI C (hF.k (by decide) rfl) fl_5_235 rfl dX5_told_69 ?_
      refine r_callSi C K5_asInt [vi (gI S 26 46)] [] cl_5_304 rm_5_told_5_asInt ⟨rfl, rfl⟩ (by decide) (by decide) rfl (Nat.le_of_ble_eq_true rfl) dX5_told_72 (q5_asInt (S := S) hF) (fun x2 _ _ _ hq => ?_)
      obtain ⟨hqa, hqb⟩ := hq; obtain rfl := hqa.symm; obtain rfl := hqb.symm
      exact ri O ⟨_, rfl, rfl⟩ dX5_told_75 (by decide) (by decide) hF hn h
    · obtain rfl := Option.some.inj hi
      replace h := h.2.2.2.2.2.1 (hx1.trans (by decide))
      refine ⟨76, by decide, ?_⟩
      refine r_aloadn C 0 dX5_told_76 rfl ?_
      refine r_getI C (hF.k (by decide) rfl) fl_5_241 rfl dX5_told_77 ?_
      exact ri O ⟨_, rfl, rfl⟩ dX5_told_80 (by decide) (by decide) hF hn h
    · obtain rfl := Option.some.inj hi
      replace h := h.2.2.2.2.2.2.1 (hx1.trans (by decide))
      refine ⟨81, by decide, ?_⟩
      refine r_aloadn C 0 dX5_told_81 rfl ?_
      refine r_getI C (hF.k (by decide) rfl) fl_5_238 rfl dX5_told_82 ?_
      exact ri O ⟨_, rfl, rfl⟩ dX5_told_85 (by decide) (by decide) hF hn h
    · obtain rfl := Option.some.inj hi
      replace h := h.2.2.2.2.2.2.2.1 (hx1.trans (by decide))
      refine ⟨86, by decide, ?_⟩
      refine r_aloadn C 0 dX5_told_86 rfl ?_
      refine r_getI C (hF.k (by decide) rfl) fl_5_267 rfl dX5_told_87 ?_
      exact ri O ⟨_, rfl, rfl⟩ dX5_told_90 (by decide) (by decide) hF hn h
  · replace h := h.2.2.2.2.2.2.2.2 (fun e => hx1 0 (by decide) (e.trans (by decide))) (fun e => hx1 1 (by decide) (e.trans (by decide))) (fun e => hx1 2 (by decide) (e.trans (by decide))) (fun e => hx1 3 (by decide) (e.trans (by decide))) (fun e => hx1 4 (by decide) (e.trans (by decide))) (fun e => hx1 5 (by decide) (e.trans (by decide))) (fun e => hx1 6 (by decide) (e.trans (by decide))) (fun e => hx1 7 (by decide) (e.trans (by decide)))
    refine ⟨91, by decide, ?_⟩
    refine r_bipush C (x := (-2)) dX5_told_91 (by decide) ?_
    exact ri O ⟨_, rfl, rfl⟩ dX5_told_93 (by decide) (by decide) hF hn h
