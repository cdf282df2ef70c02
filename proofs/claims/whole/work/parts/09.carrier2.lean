set_option maxHeartbeats 4000000 in
set_option maxRecDepth 100000 in
theorem e4_fill {S : Sto} {Q : Sto → Prop} (hF : Fx S) {p1 : Nat} {p2 : Nat} (hp1 : al S p1 2) (hp2 : al S p2 1) (h : ((gI S p1 7) = 0 → ((((if ((gI S (p1 + 2) 0) + (gI S 0 5)) ≤ (gI S (p1 + 2) 1) then 0 else (if (gI S (p1 + 2) 8) = 0 then 1 else 0 : Int32) : Int32)) = 0 → (Cv K4_addAnswerAndAsk [vr 0, vr p1, vr p2] S (fun S4 => Cv K4_addBounds [vr 0, vr p1, vr p2] S4 (fun S5 => Cv K4_addCutOffs [vr 0, vr p1, vr p2] S5 (fun S6 => Cv K4_addBytes [vr 0, vr p1, vr p2] S6 (fun S7 => ((gI S7 (p1 + 2) 8) = 0 → (Q S7)) ∧ (¬ (gI S7 (p1 + 2) 8) = 0 → ((¬ (gI S7 p2 9) = 0 → (Q S7)) ∧ ((gI S7 p2 9) = 0 → (Ci K1_add [vr p2, vi 8, vi 0, vi 0, vi 0] S7 (fun x10 S10 => Q S10))))))))))) ∧ (¬ ((if ((gI S (p1 + 2) 0) + (gI S 0 5)) ≤ (gI S (p1 + 2) 1) then 0 else (if (gI S (p1 + 2) 8) = 0 then 1 else 0 : Int32) : Int32)) = 0 → (Q S)))) ∧ (¬ (gI S p1 7) = 0 → (Cv K4_addTold [vr 0, vr p1, vr p2] S (fun S11 => (((if ((gI S11 (p1 + 2) 0) + (gI S11 0 5)) ≤ (gI S11 (p1 + 2) 1) then 0 else (if (gI S11 (p1 + 2) 8) = 0 then 1 else 0 : Int32) : Int32)) = 0 → (Cv K4_addAnswerAndAsk [vr 0, vr p1, vr p2] S11 (fun S14 => Cv K4_addBounds [vr 0, vr p1, vr p2] S14 (fun S15 => Cv K4_addCutOffs [vr 0, vr p1, vr p2] S15 (fun S16 => Cv K4_addBytes [vr 0, vr p1, vr p2] S16 (fun S17 => ((gI S17 (p1 + 2) 8) = 0 → (Q S17)) ∧ (¬ (gI S17 (p1 + 2) 8) = 0 → ((¬ (gI S17 p2 9) = 0 → (Q S17)) ∧ ((gI S17 p2 9) = 0 → (Ci K1_add [vr p2, vi 8, vi 0, vi 0, vi 0] S17 (fun x20 S20 => Q S20))))))))))) ∧ (¬ ((if ((gI S11 (p1 + 2) 0) + (gI S11 0 5)) ≤ (gI S11 (p1 + 2) 1) then 0 else (if (gI S11 (p1 + 2) 8) = 0 then 1 else 0 : Int32) : Int32)) = 0 → (Q S11)))))) : Cv K4_fill [vr 0, vr p1, vr p2] S Q := by
  refine Cv.intro rfl (Nat.le_of_ble_eq_true rfl) (fun X O => ?_)
  have C := O.1
  have hn : sN S ≤ sN S := Nat.le_refl _
  show WP X 0 [(0, vr 0), (1, vr p1), (2, vr p2)] [] S 0 0
  refine r_aloadn C 1 dX4_fill_0 rfl ?_
  refine r_getI C hp1 fl_4_168 rfl dX4_fill_1 ?_
  refine r_if_eq C dX4_fill_4 (tgt := 13) (by decide) (fun hc1 => ?_) (fun hc1 => ?_)
  · replace h := h.1 hc1
    refine r_aloadn C 1 dX4_fill_13 rfl ?_
    refine r_getR C hp1 fl_4_53 rfl (hF.paceR hp1) dX4_fill_14 ?_
    refine r_aloadn C 0 dX4_fill_17 rfl ?_
    refine r_getI C (hF.k (by decide) rfl) fl_4_7 rfl dX4_fill_18 ?_
    refine r_callVi C K0_isShut [vi (gI S 0 5)] [] (hF.pace hp1) (by decide) rfl cl_4_280 rm_4_fill_0_isShut ⟨rfl, rfl⟩ (by decide) (by decide) rfl (Nat.le_of_ble_eq_true rfl) dX4_fill_21 (q0_isShut (S := S) hF (hF.pace hp1)) (fun x2 _ _ _ hq => ?_)
    obtain ⟨hqa, hqb⟩ := hq; obtain rfl := hqa.symm; obtain rfl := hqb.symm
    refine r_if_eq C dX4_fill_24 (tgt := 28) (by decide) (fun hc3 => ?_) (fun hc3 => ?_)
    · replace h := h.1 hc3
      refine r_aloadn C 0 dX4_fill_28 rfl ?_
      refine r_aloadn C 1 dX4_fill_29 rfl ?_
      refine r_aloadn C 2 dX4_fill_30 rfl ?_
      refine r_callVv C K4_addAnswerAndAsk [vr p1, vr p2] [] (hF.k (by decide) rfl) (by decide) rfl cl_4_284 rm_4_fill_4_addAnswerAndAsk ⟨rfl, rfl⟩ (by decide) (by decide) rfl (Nat.le_of_ble_eq_true rfl) dX4_fill_31 h (fun S4 hF4 hn4 h => ?_)
      refine r_aloadn C 0 dX4_fill_34 rfl ?_
      refine r_aloadn C 1 dX4_fill_35 rfl ?_
      refine r_aloadn C 2 dX4_fill_36 rfl ?_
      refine r_callVv C K4_addBounds [vr p1, vr p2] [] (hF4.k (by decide) rfl) (by decide) rfl cl_4_287 rm_4_fill_4_addBounds ⟨rfl, rfl⟩ (by decide) (by decide) rfl (Nat.le_of_ble_eq_true rfl) dX4_fill_37 h (fun S5 hF5 hn5 h => ?_)
      refine r_aloadn C 0 dX4_fill_40 rfl ?_
      refine r_aloadn C 1 dX4_fill_41 rfl ?_
      refine r_aloadn C 2 dX4_fill_42 rfl ?_
      refine r_callVv C K4_addCutOffs [vr p1, vr p2] [] (hF5.k (by decide) rfl) (by decide) rfl cl_4_290 rm_4_fill_4_addCutOffs ⟨rfl, rfl⟩ (by decide) (by decide) rfl (Nat.le_of_ble_eq_true rfl) dX4_fill_43 h (fun S6 hF6 hn6 h => ?_)
      refine r_aloadn C 0 dX4_fill_46 rfl ?_
      refine r_aloadn C 1 dX4_fill_47 rfl ?_
      refine r_aloadn C 2 dX4_fill_48 rfl ?_
      refine r_callVv C K4_addBytes [vr p1, vr p2] [] (hF6.k (by decide) rfl) (by decide) rfl cl_4_293 rm_4_fill_4_addBytes ⟨rfl, rfl⟩ (by decide) (by decide) rfl (Nat.le_of_ble_eq_true rfl) dX4_fill_49 h (fun S7 hF7 hn7 h => ?_)
      refine r_aloadn C 1 dX4_fill_52 rfl ?_
      refine r_getR C (al.mono (al.mono (al.mono (al.mono hp1 hn4) hn5) hn6) hn7) fl_4_53 rfl (hF7.paceR (al.mono (al.mono (al.mono (al.mono hp1 hn4) hn5) hn6) hn7)) dX4_fill_53 ?_
      refine r_getI C (hF7.pace (al.mono (al.mono (al.mono (al.mono hp1 hn4) hn5) hn6) hn7)) fl_4_242 rfl dX4_fill_56 ?_
      refine r_if_eq C dX4_fill_59 (tgt := 79) (by decide) (fun hc8 => ?_) (fun hc8 => ?_)
      · replace h := h.1 hc8
        exact rv O rfl dX4_fill_79 (by decide) (by decide) hF7 (Nat.le_trans (Nat.le_trans (Nat.le_trans (Nat.le_trans hn hn4) hn5) hn6) hn7) h
      · replace h := h.2 hc8
        refine r_aloadn C 2 dX4_fill_62 rfl ?_
        refine r_getI C (al.mono (al.mono (al.mono (al.mono hp2 hn4) hn5) hn6) hn7) fl_4_165 rfl dX4_fill_63 ?_
        refine r_if_ne C dX4_fill_66 (tgt := 79) (by decide) (fun hc9 => ?_) (fun hc9 => ?_)
        · replace h := h.1 hc9
          exact rv O rfl dX4_fill_79 (by decide) (by decide) hF7 (Nat.le_trans (Nat.le_trans (Nat.le_trans (Nat.le_trans hn hn4) hn5) hn6) hn7) h
        · replace h := h.2 hc9
          refine r_aloadn C 2 dX4_fill_69 rfl ?_
          refine r_bipush C (x := 8) dX4_fill_70 (by decide) ?_
          refine r_iconst C (x := 0) dX4_fill_72 (by decide) ?_
          refine r_iconst C (x := 0) dX4_fill_73 (by decide) ?_
          refine r_iconst C (x := 0) dX4_fill_74 (by decide) ?_
          refine r_callVi C K1_add [vi 8, vi 0, vi 0, vi 0] [] (al.mono (al.mono (al.mono (al.mono hp2 hn4) hn5) hn6) hn7) (by decide) rfl cl_4_296 rm_4_fill_1_add ⟨rfl, rfl⟩ (by decide) (by decide) rfl (Nat.le_of_ble_eq_true rfl) dX4_fill_75 h (fun x10 S10 hF10 hn10 h => ?_)
          refine r_pop C rfl dX4_fill_78 ?_
          exact rv O rfl dX4_fill_79 (by decide) (by decide) hF10 (Nat.le_trans (Nat.le_trans (Nat.le_trans (Nat.le_trans (Nat.le_trans hn hn4) hn5) hn6) hn7) hn10) h
    · replace h := h.2 hc3
      exact rv O rfl dX4_fill_27 (by decide) (by decide) hF hn h
  · replace h := h.2 hc1
    refine r_aloadn C 0 dX4_fill_7 rfl ?_
    refine r_aloadn C 1 dX4_fill_8 rfl ?_
    refine r_aloadn C 2 dX4_fill_9 rfl ?_
    refine r_callVv C K4_addTold [vr p1, vr p2] [] (hF.k (by decide) rfl) (by decide) rfl cl_4_277 rm_4_fill_4_addTold ⟨rfl, rfl⟩ (by decide) (by decide) rfl (Nat.le_of_ble_eq_true rfl) dX4_fill_10 h (fun S11 hF11 hn11 h => ?_)
    refine r_aloadn C 1 dX4_fill_13 rfl ?_
    refine r_getR C (al.mono hp1 hn11) fl_4_53 rfl (hF11.paceR (al.mono hp1 hn11)) dX4_fill_14 ?_
    refine r_aloadn C 0 dX4_fill_17 rfl ?_
    refine r_getI C (hF11.k (by decide) rfl) fl_4_7 rfl dX4_fill_18 ?_
    refine r_callVi C K0_isShut [vi (gI S11 0 5)] [] (hF11.pace (al.mono hp1 hn11)) (by decide) rfl cl_4_280 rm_4_fill_0_isShut ⟨rfl, rfl⟩ (by decide) (by decide) rfl (Nat.le_of_ble_eq_true rfl) dX4_fill_21 (q0_isShut (S := S11) hF11 (hF11.pace (al.mono hp1 hn11))) (fun x12 _ _ _ hq => ?_)
    obtain ⟨hqa, hqb⟩ := hq; obtain rfl := hqa.symm; obtain rfl := hqb.symm
    refine r_if_eq C dX4_fill_24 (tgt := 28) (by decide) (fun hc13 => ?_) (fun hc13 => ?_)
    · replace h := h.1 hc13
      refine r_aloadn C 0 dX4_fill_28 rfl ?_
      refine r_aloadn C 1 dX4_fill_29 rfl ?_
      refine r_aloadn C 2 dX4_fill_30 rfl ?_
      refine r_callVv C K4_addAnswerAndAsk [vr p1, vr p2] [] (hF11.k (by decide) rfl) (by decide) rfl cl_4_284 rm_4_fill_4_addAnswerAndAsk ⟨rfl, rfl⟩ (by decide) (by decide) rfl (Nat.le_of_ble_eq_true rfl) dX4_fill_31 h (fun S14 hF14 hn14 h => ?_)
      refine r_aloadn C 0 dX4_fill_34 rfl ?_
      refine r_aloadn C 1 dX4_fill_35 rfl ?_
      refine r_aloadn C 2 dX4_fill_36 rfl ?_
      refine r_callVv C K4_addBounds [vr p1, vr p2] [] (hF14.k (by decide) rfl) (by decide) rfl cl_4_287 rm_4_fill_4_addBounds ⟨rfl, rfl⟩ (by decide) (by decide) rfl (Nat.le_of_ble_eq_true rfl) dX4_fill_37 h (fun S15 hF15 hn15 h => ?_)
      refine r_aloadn C 0 dX4_fill_40 rfl ?_
      refine r_aloadn C 1 dX4_fill_41 rfl ?_
      refine r_aloadn C 2 dX4_fill_42 rfl ?_
      refine r_callVv C K4_addCutOffs [vr p1, vr p2] [] (hF15.k (by decide) rfl) (by decide) rfl cl_4_290 rm_4_fill_4_addCutOffs ⟨rfl, rfl⟩ (by decide) (by decide) rfl (Nat.le_of_ble_eq_true rfl) dX4_fill_43 h (fun S16 hF16 hn16 h => ?_)
      refine r_aloadn C 0 dX4_fill_46 rfl ?_
      refine r_aloadn C 1 dX4_fill_47 rfl ?_
      refine r_aloadn C 2 dX4_fill_48 rfl ?_
      refine r_callVv C K4_addBytes [vr p1, vr p2] [] (hF16.k (by decide) rfl) (by decide) rfl cl_4_293 rm_4_fill_4_addBytes ⟨rfl, rfl⟩ (by decide) (by decide) rfl (Nat.le_of_ble_eq_true rfl) dX4_fill_49 h (fun S17 hF17 hn17 h => ?_)
      refine r_aloadn C 1 dX4_fill_52 rfl ?_
      refine r_getR C (al.mono (al.mono (al.mono (al.mono (al.mono hp1 hn11) hn14) hn15) hn16) hn17) fl_4_53 rfl (hF17.paceR (al.mono (al.mono (al.mono (al.mono (al.mono hp1 hn11) hn14) hn15) hn16) hn17)) dX4_fill_53 ?_
      refine r_getI C (hF17.pace (al.mono (al.mono (al.mono (al.mono (al.mono hp1 hn11) hn14) hn15) hn16) hn17)) fl_4_242 rfl dX4_fill_56 ?_
      refine r_if_eq C dX4_fill_59 (tgt := 79) (by decide) (fun hc18 => ?_) (fun hc18 => ?_)
      · replace h := h.1 hc18
        exact rv O rfl dX4_fill_79 (by decide) (by decide) hF17 (Nat.le_trans (Nat.le_trans (Nat.le_trans (Nat.le_trans (Nat.le_trans hn hn11) hn14) hn15) hn16) hn17) h
      · replace h := h.2 hc18
        refine r_aloadn C 2 dX4_fill_62 rfl ?_
        refine r_getI C (al.mono (al.mono (al.mono (al.mono (al.mono hp2 hn11) hn14) hn15) hn16) hn17) fl_4_165 rfl dX4_fill_63 ?_
        refine r_if_ne C dX4_fill_66 (tgt := 79) (by decide) (fun hc19 => ?_) (fun hc19 => ?_)
        · replace h := h.1 hc19
          exact rv O rfl dX4_fill_79 (by decide) (by decide) hF17 (Nat.le_trans (Nat.le_trans (Nat.le_trans (Nat.le_trans (Nat.le_trans hn hn11) hn14) hn15) hn16) hn17) h
        · replace h := h.2 hc19
          refine r_aloadn C 2 dX4_fill_69 rfl ?_
          refine r_bipush C (x := 8) dX4_fill_70 (by decide) ?_
          refine r_iconst C (x := 0) dX4_fill_72 (by decide) ?_
          refine r_iconst C (x := 0) dX4_fill_73 (by decide) ?_
          refine r_iconst C (x := 0) dX4_fill_74 (by decide) ?_
          refine r_callVi C K1_add [vi 8, vi 0, vi 0, vi 0] [] (al.mono (al.mono (al.mono (al.mono (al.mono hp2 hn11) hn14) hn15) hn16) hn17) (by decide) rfl cl_4_296 rm_4_fill_1_add ⟨rfl, rfl⟩ (by decide) (by decide) rfl (Nat.le_of_ble_eq_true rfl) dX4_fill_75 h (fun x20 S20 hF20 hn20 h => ?_)
          refine r_pop C rfl dX4_fill_78 ?_
          exact rv O rfl dX4_fill_79 (by decide) (by decide) hF20 (Nat.le_trans (Nat.le_trans (Nat.le_trans (Nat.le_trans (Nat.le_trans (Nat.le_trans hn hn11) hn14) hn15) hn16) hn17) hn20) h
    · replace h := h.2 hc13
      exact rv O rfl dX4_fill_27 (by decide) (by decide) hF11 (Nat.le_trans hn hn11) h
set_option maxHeartbeats 4000000 in
set_option maxRecDepth 100000 in
theorem e4_addTold {S : Sto} {Q : Sto → Prop} (hF : Fx S) {p1 : Nat} {p2 : Nat} (hp1 : al S p1 2) (hp2 : al S p2 1) (h : ∀ X : Ctx, Ov X K4_addTold S Q → (0 ≤ ((1 - (gI S p1 0)) : Int32).toInt ∧ ((1 - (gI S p1 0)) : Int32).toInt < (2 : Nat)) ∧ (WP X 24 [(1, vr p1), (2, vr p2), (3, vr (20 + 3 * (1 - (gI S p1 0)).toNatClampNeg)), (4, vi 0), (5, vi 0), (6, vi (gI S p1 6))] [] S 0 0)) : Cv K4_addTold [vr 0, vr p1, vr p2] S Q := by
  refine Cv.intro rfl (Nat.le_of_ble_eq_true rfl) (fun X O => ?_)
  replace h := h X O
  have C := O.1
  have hn : sN S ≤ sN S := Nat.le_refl _
  show WP X 0 [(0, vr 0), (1, vr p1), (2, vr p2)] [] S 0 0
  refine r_aloadn C 0 dX4_addTold_0 rfl ?_
  refine r_getR C (hF.k (by decide) rfl) fl_4_36 rfl (o := some 19) hF.c1 dX4_addTold_1 ?_
  refine r_iconst C (x := 1) dX4_addTold_4 (by decide) ?_
  refine r_aloadn C 1 dX4_addTold_5 rfl ?_
  refine r_getI C hp1 fl_4_276 rfl dX4_addTold_6 ?_
  refine r_isub C dX4_addTold_9 ?_
  obtain ⟨hi1, h⟩ := h
  refine r_aald C (o := some (20 + 3 * (1 - (gI S p1 0)).toNatClampNeg)) (hF.k (by decide) rfl) (by decide) (ixL (n := 2) rfl hi1) (hF.sdRI hi1) dX4_addTold_10 ?_
  refine r_astoren C dX4_addTold_11 (by decide) rfl rfl ?_
  refine r_iconst C (x := 0) dX4_addTold_12 (by decide) ?_
  refine r_istore C dX4_addTold_13 (by decide) rfl rfl ?_
  refine r_iconst C (x := 0) dX4_addTold_15 (by decide) ?_
  refine r_istore C dX4_addTold_16 (by decide) rfl rfl ?_
  refine r_aloadn C 4 dX4_addTold_18 rfl ?_
  refine r_getI C hp1 fl_4_177 rfl dX4_addTold_19 ?_
  refine r_istore C dX4_addTold_22 (by decide) rfl rfl ?_
  refine r_perm [5, 6, 3, 2, 1, 0] rfl ?_
  exact h
set_option maxHeartbeats 4000000 in
set_option maxRecDepth 100000 in
theorem s4_addTold_24 {X : Ctx} {S0 S : Sto} {Q : Sto → Prop} (hF : Fx S) (hn : sN S0 ≤ sN S) (O : Ov X K4_addTold S0 Q) {l1 : Nat} {l2 : Nat} {l3 : Nat} {l4 : Int32} {l5 : Int32} {l6 : Int32} (hl1 : al S l1 2) (hl2 : al S l2 1) (hl3 : al S l3 2)  (h : (l6 < 0 → ((l4 ≤ 0 → (Q S)) ∧ (¬ l4 ≤ 0 → (Ci K1_add [vr l2, vi 1, vi 0, vi 0, vi l4] S (fun x3 S3 => (x3 = 0 → (Q S3)) ∧ (¬ x3 = 0 → (Q (pI S3 l1 7 0)))))))) ∧ (¬ l6 < 0 → (Co K2_packetAt [vr l3, vi l6] S (fun x5 S5 => (∀ b, x5 = some b → al S5 b 1) ∧ ((∀ b7 : Nat, x5 = some b7 → (∀ w9 : Int32, w9 = (if (gI S5 b7 12) = 0 then 0 else 1 : Int32) → ((w9 = 0 → ((w9 = 0 → (WP X 24 [(1, vr l1), (2, vr l2), (3, vr l3), (4, vi l4), (5, vi w9), (6, vi (l6 + (-1)))] [] S5 0 0)) ∧ (¬ w9 = 0 → ((0 ≤ (((2 * l4) - 2) : Int32).toInt ∧ (((2 * l4) - 2) : Int32).toInt < (8 : Nat)) ∧ (WP X 24 [(1, vr l1), (2, vr l2), (3, vr l3), (4, vi l4), (5, vi w9), (6, vi (l6 + (-1)))] [] (pI S5 (l2 + 2) ((2 * l4) - 2).toNatClampNeg l6) 0 0))))) ∧ (¬ w9 = 0 → ((¬ l5 = 0 → ((w9 = 0 → (WP X 24 [(1, vr l1), (2, vr l2), (3, vr l3), (4, vi l4), (5, vi w9), (6, vi (l6 + (-1)))] [] S5 0 0)) ∧ (¬ w9 = 0 → ((0 ≤ (((2 * l4) - 2) : Int32).toInt ∧ (((2 * l4) - 2) : Int32).toInt < (8 : Nat)) ∧ (WP X 24 [(1, vr l1), (2, vr l2), (3, vr l3), (4, vi l4), (5, vi w9), (6, vi (l6 + (-1)))] [] (pI S5 (l2 + 2) ((2 * l4) - 2).toNatClampNeg l6) 0 0))))) ∧ (l5 = 0 → ((¬ l4 = 4 → ((0 ≤ (((2 * l4) + 1) : Int32).toInt ∧ (((2 * l4) + 1) : Int32).toInt < (8 : Nat)) ∧ ((w9 = 0 → (WP X 24 [(1, vr l1), (2, vr l2), (3, vr l3), (4, vi (l4 + 1)), (5, vi w9), (6, vi (l6 + (-1)))] [] (pI S5 (l2 + 2) ((2 * l4) + 1).toNatClampNeg l6) 0 0)) ∧ (¬ w9 = 0 → ((0 ≤ (((2 * (l4 + 1)) - 2) : Int32).toInt ∧ (((2 * (l4 + 1)) - 2) : Int32).toInt < (8 : Nat)) ∧ (WP X 24 [(1, vr l1), (2, vr l2), (3, vr l3), (4, vi (l4 + 1)), (5, vi w9), (6, vi (l6 + (-1)))] [] (pI (pI S5 (l2 + 2) ((2 * l4) + 1).toNatClampNeg l6) (l2 + 2) ((2 * (l4 + 1)) - 2).toNatClampNeg l6) 0 0)))))) ∧ (l4 = 4 → ((l4 ≤ 0 → (Q S5)) ∧ (¬ l4 ≤ 0 → (Ci K1_add [vr l2, vi 1, vi 0, vi 0, vi l4] S5 (fun x23 S23 => (x23 = 0 → (Q S23)) ∧ (¬ x23 = 0 → (Q (pI S23 l1 7 0))))))))))))))) ∧ (x5 = none → (WP X 24 [(1, vr l1), (2, vr l2), (3, vr l3), (4, vi l4), (5, vi 0), (6, vi (l6 + (-1)))] [] S5 0 0))))))) : WP X 24 [(1, vr l1), (2, vr l2), (3, vr l3), (4, vi l4), (5, vi l5), (6, vi l6)] [] S 0 0 := by
  have C := O.1
  refine r_iload C 5 dX4_addTold_24 rfl ?_
  refine r_if_lt C dX4_addTold_26 (tgt := 120) (by decide) (fun hc1 => ?_) (fun hc1 => ?_)
  · replace h := h.1 hc1
    refine r_iload C 3 dX4_addTold_120 rfl ?_
    refine r_if_le C dX4_addTold_122 (tgt := 142) (by decide) (fun hc2 => ?_) (fun hc2 => ?_)
    · replace h := h.1 hc2
      exact rv O rfl dX4_addTold_142 (by decide) (by decide) hF hn h
    · replace h := h.2 hc2
      refine r_aloadn C 1 dX4_addTold_125 rfl ?_
      refine r_iconst C (x := 1) dX4_addTold_126 (by decide) ?_
      refine r_iconst C (x := 0) dX4_addTold_127 (by decide) ?_
      refine r_iconst C (x := 0) dX4_addTold_128 (by decide) ?_
      refine r_iload C 3 dX4_addTold_129 rfl ?_
      refine r_callVi C K1_add [vi 1, vi 0, vi 0, vi l4] [] hl2 (by decide) rfl cl_4_296 rm_4_addTold_1_add ⟨rfl, rfl⟩ (by decide) (by decide) rfl (Nat.le_of_ble_eq_true rfl) dX4_addTold_131 h (fun x3 S3 hF3 hn3 h => ?_)
      refine r_if_eq C dX4_addTold_134 (tgt := 142) (by decide) (fun hc4 => ?_) (fun hc4 => ?_)
      · replace h := h.1 hc4
        exact rv O rfl dX4_addTold_142 (by decide) (by decide) hF3 (Nat.le_trans hn hn3) h
      · replace h := h.2 hc4
        refine r_aloadn C 0 dX4_addTold_137 rfl ?_
        refine r_iconst C (x := 0) dX4_addTold_138 (by decide) ?_
        refine r_putZ C (al.mono hl1 hn3) fl_4_168 rfl (Or.inl rfl) rfl dX4_addTold_139 ?_
        exact rv O rfl dX4_addTold_142 (by decide) (by decide) hF3 (Nat.le_trans hn hn3) h
  · replace h := h.2 hc1
    refine r_aloadn C 2 dX4_addTold_29 rfl ?_
    refine r_iload C 5 dX4_addTold_30 rfl ?_
    refine r_callVo C K2_packetAt [vi l6] [] hl3 (by decide) rfl cl_4_272 rm_4_addTold_2_packetAt ⟨rfl, rfl⟩ (by decide) (by decide) rfl (Nat.le_of_ble_eq_true rfl) dX4_addTold_32 h (fun x5 S5 hF5 hn5 h => ?_)
    obtain ⟨hk6, h⟩ := h
    refine r_astore C dX4_addTold_35 (by decide) rfl rfl ?_
    refine r_aload C 0 dX4_addTold_37 rfl ?_
    refine r_ifnull C dX4_addTold_39 (tgt := 54) (by decide) (fun hb8 => ?_) (fun b7 hb8 => ?_)
    · replace h := h.2 hb8
      refine r_iconst C (x := 0) dX4_addTold_54 (by decide) ?_
      refine r_istore C dX4_addTold_55 (by decide) rfl rfl ?_
      refine r_iload C 0 dX4_addTold_57 rfl ?_
      refine r_if_eq C dX4_addTold_59 (tgt := 92) (by decide) (fun _ => ?_) (fun hc => absurd hc (by decide))
      refine r_iload C 0 dX4_addTold_92 rfl ?_
      refine r_if_eq C dX4_addTold_94 (tgt := 110) (by decide) (fun _ => ?_) (fun hc => absurd hc (by decide))
      refine r_iload C 0 dX4_addTold_110 rfl ?_
      refine r_istore C dX4_addTold_112 (by decide) rfl rfl ?_
      refine r_iinc C (y := (l6 + (-1))) 7 dX4_addTold_114 rfl rfl (by decide) rfl rfl ?_
      refine r_goto C dX4_addTold_117 (tgt := 24) (by decide) ?_
      refine r_perm [4, 5, 6, 7, 1, 0] rfl ?_
      exact h
    · replace h := h.1 b7 hb8
      try rw [hb8]
      refine r_aload C 0 dX4_addTold_42 rfl ?_
      refine r_getI C (hk6 _ hb8) fl_4_171 rfl dX4_addTold_44 ?_
      have kJ10 : ∀ (w9 : Int32) (_ : w9 = (if (gI S5 b7 12) = 0 then 0 else 1 : Int32)), WP X 55 [(1, vr l1), (2, vr l2), (3, vr l3), (4, vi l4), (5, vi l5), (6, vi l6)] [vi w9] S5 0 0 := by
        intro w9 hw9
        replace h := h w9 hw9
        have hz_w9 : w9 = 0 ∨ w9 = 1 := by rw [hw9]; repeat (first | exact Or.inl rfl | exact Or.inr rfl | assumption | split)
        refine r_istore C dX4_addTold_55 (by decide) rfl rfl ?_
        refine r_iload C 0 dX4_addTold_57 rfl ?_
        refine r_if_eq C dX4_addTold_59 (tgt := 92) (by decide) (fun hc12 => ?_) (fun hc12 => ?_)
        · replace h := h.1 hc12
          refine r_iload C 0 dX4_addTold_92 rfl ?_
          refine r_if_eq C dX4_addTold_94 (tgt := 110) (by decide) (fun hc13 => ?_) (fun hc13 => ?_)
          · replace h := h.1 hc13
            refine r_iload C 0 dX4_addTold_110 rfl ?_
            refine r_istore C dX4_addTold_112 (by decide) rfl rfl ?_
            refine r_iinc C (y := (l6 + (-1))) 6 dX4_addTold_114 rfl rfl (by decide) rfl rfl ?_
            refine r_goto C dX4_addTold_117 (tgt := 24) (by decide) ?_
            refine r_perm [3, 4, 5, 6, 1, 0] rfl ?_
            exact h
          · replace h := h.2 hc13
            refine r_aloadn C 2 dX4_addTold_97 rfl ?_
            refine r_getR C (al.mono hl2 hn5) fl_4_268 rfl (hF5.spansR (al.mono hl2 hn5)) dX4_addTold_98 ?_
            refine r_iconst C (x := 2) dX4_addTold_101 (by decide) ?_
            refine r_iload C 4 dX4_addTold_102 rfl ?_
            refine r_imul C dX4_addTold_104 ?_
            refine r_iconst C (x := 2) dX4_addTold_105 (by decide) ?_
            refine r_isub C dX4_addTold_106 ?_
            refine r_iload C 6 dX4_addTold_107 rfl ?_
            obtain ⟨hi14, h⟩ := h
            refine r_iast C (hF5.spans (al.mono hl2 hn5)) (ixL (n := 8) (Fx.spansL (al.mono hl2 hn5)) hi14) dX4_addTold_109 ?_
            refine r_iload C 0 dX4_addTold_110 rfl ?_
            refine r_istore C dX4_addTold_112 (by decide) rfl rfl ?_
            refine r_iinc C (y := (l6 + (-1))) 6 dX4_addTold_114 rfl rfl (by decide) rfl rfl ?_
            refine r_goto C dX4_addTold_117 (tgt := 24) (by decide) ?_
            refine r_perm [3, 4, 5, 6, 1, 0] rfl ?_
            exact h
        · replace h := h.2 hc12
          refine r_iload C 5 dX4_addTold_62 rfl ?_
          refine r_if_ne C dX4_addTold_64 (tgt := 92) (by decide) (fun hc15 => ?_) (fun hc15 => ?_)
          · replace h := h.1 hc15
            refine r_iload C 0 dX4_addTold_92 rfl ?_
            refine r_if_eq C dX4_addTold_94 (tgt := 110) (by decide) (fun hc16 => ?_) (fun hc16 => ?_)
            · replace h := h.1 hc16
              refine r_iload C 0 dX4_addTold_110 rfl ?_
              refine r_istore C dX4_addTold_112 (by decide) rfl rfl ?_
              refine r_iinc C (y := (l6 + (-1))) 6 dX4_addTold_114 rfl rfl (by decide) rfl rfl ?_
              refine r_goto C dX4_addTold_117 (tgt := 24) (by decide) ?_
              refine r_perm [3, 4, 5, 6, 1, 0] rfl ?_
              exact h
            · replace h := h.2 hc16
              refine r_aloadn C 2 dX4_addTold_97 rfl ?_
              refine r_getR C (al.mono hl2 hn5) fl_4_268 rfl (hF5.spansR (al.mono hl2 hn5)) dX4_addTold_98 ?_
              refine r_iconst C (x := 2) dX4_addTold_101 (by decide) ?_
              refine r_iload C 4 dX4_addTold_102 rfl ?_
              refine r_imul C dX4_addTold_104 ?_
              refine r_iconst C (x := 2) dX4_addTold_105 (by decide) ?_
              refine r_isub C dX4_addTold_106 ?_
              refine r_iload C 6 dX4_addTold_107 rfl ?_
              obtain ⟨hi17, h⟩ := h
              refine r_iast C (hF5.spans (al.mono hl2 hn5)) (ixL (n := 8) (Fx.spansL (al.mono hl2 hn5)) hi17) dX4_addTold_109 ?_
              refine r_iload C 0 dX4_addTold_110 rfl ?_
              refine r_istore C dX4_addTold_112 (by decide) rfl rfl ?_
              refine r_iinc C (y := (l6 + (-1))) 6 dX4_addTold_114 rfl rfl (by decide) rfl rfl ?_
              refine r_goto C dX4_addTold_117 (tgt := 24) (by decide) ?_
              refine r_perm [3, 4, 5, 6, 1, 0] rfl ?_
              exact h
          · replace h := h.2 hc15
            refine r_iload C 4 dX4_addTold_67 rfl ?_
            refine r_iconst C (x := 4) dX4_addTold_69 (by decide) ?_
            refine r_icmp_ne C dX4_addTold_70 (tgt := 76) (by decide) (fun hc18 => ?_) (fun hc18 => ?_)
            · replace h := h.1 hc18
              refine r_aloadn C 2 dX4_addTold_76 rfl ?_
              refine r_getR C (al.mono hl2 hn5) fl_4_268 rfl (hF5.spansR (al.mono hl2 hn5)) dX4_addTold_77 ?_
              refine r_iconst C (x := 2) dX4_addTold_80 (by decide) ?_
              refine r_iload C 4 dX4_addTold_81 rfl ?_
              refine r_imul C dX4_addTold_83 ?_
              refine r_iconst C (x := 1) dX4_addTold_84 (by decide) ?_
              refine r_iadd C dX4_addTold_85 ?_
              refine r_iload C 6 dX4_addTold_86 rfl ?_
              obtain ⟨hi19, h⟩ := h
              refine r_iast C (hF5.spans (al.mono hl2 hn5)) (ixL (n := 8) (Fx.spansL (al.mono hl2 hn5)) hi19) dX4_addTold_88 ?_
              refine r_iinc C (y := (l4 + 1)) 4 dX4_addTold_89 rfl rfl (by decide) rfl rfl ?_
              refine r_iload C 1 dX4_addTold_92 rfl ?_
              refine r_if_eq C dX4_addTold_94 (tgt := 110) (by decide) (fun hc20 => ?_) (fun hc20 => ?_)
              · replace h := h.1 hc20
                refine r_iload C 1 dX4_addTold_110 rfl ?_
                refine r_istore C dX4_addTold_112 (by decide) rfl rfl ?_
                refine r_iinc C (y := (l6 + (-1))) 6 dX4_addTold_114 rfl rfl (by decide) rfl rfl ?_
                refine r_goto C dX4_addTold_117 (tgt := 24) (by decide) ?_
                refine r_perm [4, 5, 6, 2, 1, 0] rfl ?_
                exact h
              · replace h := h.2 hc20
                refine r_aloadn C 3 dX4_addTold_97 rfl ?_
                refine r_getR C (al.mono hl2 hn5) fl_4_268 rfl (hF5.spansR (al.mono hl2 hn5)) dX4_addTold_98 ?_
                refine r_iconst C (x := 2) dX4_addTold_101 (by decide) ?_
                refine r_iload C 0 dX4_addTold_102 rfl ?_
                refine r_imul C dX4_addTold_104 ?_
                refine r_iconst C (x := 2) dX4_addTold_105 (by decide) ?_
                refine r_isub C dX4_addTold_106 ?_
                refine r_iload C 6 dX4_addTold_107 rfl ?_
                obtain ⟨hi21, h⟩ := h
                refine r_iast C (hF5.spans (al.mono hl2 hn5)) (ixL (n := 8) (Fx.spansL (al.mono hl2 hn5)) hi21) dX4_addTold_109 ?_
                refine r_iload C 1 dX4_addTold_110 rfl ?_
                refine r_istore C dX4_addTold_112 (by decide) rfl rfl ?_
                refine r_iinc C (y := (l6 + (-1))) 6 dX4_addTold_114 rfl rfl (by decide) rfl rfl ?_
                refine r_goto C dX4_addTold_117 (tgt := 24) (by decide) ?_
                refine r_perm [4, 5, 6, 2, 1, 0] rfl ?_
                exact h
            · replace h := h.2 hc18
              refine r_goto C dX4_addTold_73 (tgt := 120) (by decide) ?_
              refine r_iload C 4 dX4_addTold_120 rfl ?_
              refine r_if_le C dX4_addTold_122 (tgt := 142) (by decide) (fun hc22 => ?_) (fun hc22 => ?_)
              · replace h := h.1 hc22
                exact rv O rfl dX4_addTold_142 (by decide) (by decide) hF5 (Nat.le_trans hn hn5) h
              · replace h := h.2 hc22
                refine r_aloadn C 2 dX4_addTold_125 rfl ?_
                refine r_iconst C (x := 1) dX4_addTold_126 (by decide) ?_
                refine r_iconst C (x := 0) dX4_addTold_127 (by decide) ?_
                refine r_iconst C (x := 0) dX4_addTold_128 (by decide) ?_
                refine r_iload C 4 dX4_addTold_129 rfl ?_
                refine r_callVi C K1_add [vi 1, vi 0, vi 0, vi l4] [] (al.mono hl2 hn5) (by decide) rfl cl_4_296 rm_4_addTold_1_add ⟨rfl, rfl⟩ (by decide) (by decide) rfl (Nat.le_of_ble_eq_true rfl) dX4_addTold_131 h (fun x23 S23 hF23 hn23 h => ?_)
                refine r_if_eq C dX4_addTold_134 (tgt := 142) (by decide) (fun hc24 => ?_) (fun hc24 => ?_)
                · replace h := h.1 hc24
                  exact rv O rfl dX4_addTold_142 (by decide) (by decide) hF23 (Nat.le_trans (Nat.le_trans hn hn5) hn23) h
                · replace h := h.2 hc24
                  refine r_aloadn C 1 dX4_addTold_137 rfl ?_
                  refine r_iconst C (x := 0) dX4_addTold_138 (by decide) ?_
                  refine r_putZ C (al.mono (al.mono hl1 hn5) hn23) fl_4_168 rfl (Or.inl rfl) rfl dX4_addTold_139 ?_
                  exact rv O rfl dX4_addTold_142 (by decide) (by decide) hF23 (Nat.le_trans (Nat.le_trans hn hn5) hn23) h
      refine r_if_eq C dX4_addTold_47 (tgt := 54) (by decide) (fun hc11 => ?_) (fun hc11 => ?_)
      · refine r_iconst C (x := 0) dX4_addTold_54 (by decide) ?_
        refine r_perm [1, 2, 3, 4, 5, 6] rfl ?_
        exact kJ10 _ (if_pos hc11).symm
      · refine r_iconst C (x := 1) dX4_addTold_50 (by decide) ?_
        refine r_goto C dX4_addTold_51 (tgt := 55) (by decide) ?_
        refine r_perm [1, 2, 3, 4, 5, 6] rfl ?_
        exact kJ10 _ (if_neg hc11).symm
set_option maxHeartbeats 4000000 in
set_option maxRecDepth 100000 in
theorem e4_addAnswerAndAsk {S : Sto} {Q : Sto → Prop} (hF : Fx S) {p1 : Nat} {p2 : Nat} (hp1 : al S p1 2) (hp2 : al S p2 1) (h : ((gI S p1 12) = (-6) → (((gI S p1 11) = 0 → (Q S)) ∧ (¬ (gI S p1 11) = 0 → (Ci K1_add [vr p2, vi 6, vi 0, vi (gI S 0 9), vi 0] S (fun x3 S3 => (x3 = 0 → (Q S3)) ∧ (¬ x3 = 0 → (Q (pI S3 p1 11 0)))))))) ∧ (¬ (gI S p1 12) = (-6) → (Ci K1_add [vr p2, vi 7, vi 0, vi (gI S p1 12), vi 0] S (fun x5 S5 => (x5 = 0 → (((gI S5 p1 11) = 0 → (Q S5)) ∧ (¬ (gI S5 p1 11) = 0 → (Ci K1_add [vr p2, vi 6, vi 0, vi (gI S5 0 9), vi 0] S5 (fun x8 S8 => (x8 = 0 → (Q S8)) ∧ (¬ x8 = 0 → (Q (pI S8 p1 11 0)))))))) ∧ (¬ x5 = 0 → (((gI (pI S5 p1 12 (-6)) p1 11) = 0 → (Q (pI S5 p1 12 (-6)))) ∧ (¬ (gI (pI S5 p1 12 (-6)) p1 11) = 0 → (Ci K1_add [vr p2, vi 6, vi 0, vi (gI (pI S5 p1 12 (-6)) 0 9), vi 0] (pI S5 p1 12 (-6)) (fun x11 S11 => (x11 = 0 → (Q S11)) ∧ (¬ x11 = 0 → (Q (pI S11 p1 11 0)))))))))))) : Cv K4_addAnswerAndAsk [vr 0, vr p1, vr p2] S Q := by
  refine Cv.intro rfl (Nat.le_of_ble_eq_true rfl) (fun X O => ?_)
  have C := O.1
  have hn : sN S ≤ sN S := Nat.le_refl _
  show WP X 0 [(0, vr 0), (1, vr p1), (2, vr p2)] [] S 0 0
  refine r_aloadn C 1 dX4_addAnswerAndAsk_0 rfl ?_
  refine r_getI C hp1 fl_4_300 rfl dX4_addAnswerAndAsk_1 ?_
  refine r_bipush C (x := (-6)) dX4_addAnswerAndAsk_4 (by decide) ?_
  refine r_icmp_eq C dX4_addAnswerAndAsk_6 (tgt := 30) (by decide) (fun hc1 => ?_) (fun hc1 => ?_)
  · replace h := h.1 hc1
    refine r_aloadn C 1 dX4_addAnswerAndAsk_30 rfl ?_
    refine r_getI C hp1 fl_4_303 rfl dX4_addAnswerAndAsk_31 ?_
    refine r_if_eq C dX4_addAnswerAndAsk_34 (tgt := 57) (by decide) (fun hc2 => ?_) (fun hc2 => ?_)
    · replace h := h.1 hc2
      exact rv O rfl dX4_addAnswerAndAsk_57 (by decide) (by decide) hF hn h
    · replace h := h.2 hc2
      refine r_aloadn C 2 dX4_addAnswerAndAsk_37 rfl ?_
      refine r_bipush C (x := 6) dX4_addAnswerAndAsk_38 (by decide) ?_
      refine r_iconst C (x := 0) dX4_addAnswerAndAsk_40 (by decide) ?_
      refine r_aloadn C 0 dX4_addAnswerAndAsk_41 rfl ?_
      refine r_getI C (hF.k (by decide) rfl) fl_4_132 rfl dX4_addAnswerAndAsk_42 ?_
      refine r_iconst C (x := 0) dX4_addAnswerAndAsk_45 (by decide) ?_
      refine r_callVi C K1_add [vi 6, vi 0, vi (gI S 0 9), vi 0] [] hp2 (by decide) rfl cl_4_296 rm_4_addAnswerAndAsk_1_add ⟨rfl, rfl⟩ (by decide) (by decide) rfl (Nat.le_of_ble_eq_true rfl) dX4_addAnswerAndAsk_46 h (fun x3 S3 hF3 hn3 h => ?_)
      refine r_if_eq C dX4_addAnswerAndAsk_49 (tgt := 57) (by decide) (fun hc4 => ?_) (fun hc4 => ?_)
      · replace h := h.1 hc4
        exact rv O rfl dX4_addAnswerAndAsk_57 (by decide) (by decide) hF3 (Nat.le_trans hn hn3) h
      · replace h := h.2 hc4
        refine r_aloadn C 1 dX4_addAnswerAndAsk_52 rfl ?_
        refine r_iconst C (x := 0) dX4_addAnswerAndAsk_53 (by decide) ?_
        refine r_putZ C (al.mono hp1 hn3) fl_4_303 rfl (Or.inl rfl) rfl dX4_addAnswerAndAsk_54 ?_
        exact rv O rfl dX4_addAnswerAndAsk_57 (by decide) (by decide) hF3 (Nat.le_trans hn hn3) h
  · replace h := h.2 hc1
    refine r_aloadn C 2 dX4_addAnswerAndAsk_9 rfl ?_
    refine r_bipush C (x := 7) dX4_addAnswerAndAsk_10 (by decide) ?_
    refine r_iconst C (x := 0) dX4_addAnswerAndAsk_12 (by decide) ?_
    refine r_aloadn C 1 dX4_addAnswerAndAsk_13 rfl ?_
    refine r_getI C hp1 fl_4_300 rfl dX4_addAnswerAndAsk_14 ?_
    refine r_iconst C (x := 0) dX4_addAnswerAndAsk_17 (by decide) ?_
    refine r_callVi C K1_add [vi 7, vi 0, vi (gI S p1 12), vi 0] [] hp2 (by decide) rfl cl_4_296 rm_4_addAnswerAndAsk_1_add ⟨rfl, rfl⟩ (by decide) (by decide) rfl (Nat.le_of_ble_eq_true rfl) dX4_addAnswerAndAsk_18 h (fun x5 S5 hF5 hn5 h => ?_)
    refine r_if_eq C dX4_addAnswerAndAsk_21 (tgt := 30) (by decide) (fun hc6 => ?_) (fun hc6 => ?_)
    · replace h := h.1 hc6
      refine r_aloadn C 1 dX4_addAnswerAndAsk_30 rfl ?_
      refine r_getI C (al.mono hp1 hn5) fl_4_303 rfl dX4_addAnswerAndAsk_31 ?_
      refine r_if_eq C dX4_addAnswerAndAsk_34 (tgt := 57) (by decide) (fun hc7 => ?_) (fun hc7 => ?_)
      · replace h := h.1 hc7
        exact rv O rfl dX4_addAnswerAndAsk_57 (by decide) (by decide) hF5 (Nat.le_trans hn hn5) h
      · replace h := h.2 hc7
        refine r_aloadn C 2 dX4_addAnswerAndAsk_37 rfl ?_
        refine r_bipush C (x := 6) dX4_addAnswerAndAsk_38 (by decide) ?_
        refine r_iconst C (x := 0) dX4_addAnswerAndAsk_40 (by decide) ?_
        refine r_aloadn C 0 dX4_addAnswerAndAsk_41 rfl ?_
        refine r_getI C (hF5.k (by decide) rfl) fl_4_132 rfl dX4_addAnswerAndAsk_42 ?_
        refine r_iconst C (x := 0) dX4_addAnswerAndAsk_45 (by decide) ?_
        refine r_callVi C K1_add [vi 6, vi 0, vi (gI S5 0 9), vi 0] [] (al.mono hp2 hn5) (by decide) rfl cl_4_296 rm_4_addAnswerAndAsk_1_add ⟨rfl, rfl⟩ (by decide) (by decide) rfl (Nat.le_of_ble_eq_true rfl) dX4_addAnswerAndAsk_46 h (fun x8 S8 hF8 hn8 h => ?_)
        refine r_if_eq C dX4_addAnswerAndAsk_49 (tgt := 57) (by decide) (fun hc9 => ?_) (fun hc9 => ?_)
        · replace h := h.1 hc9
          exact rv O rfl dX4_addAnswerAndAsk_57 (by decide) (by decide) hF8 (Nat.le_trans (Nat.le_trans hn hn5) hn8) h
        · replace h := h.2 hc9
          refine r_aloadn C 1 dX4_addAnswerAndAsk_52 rfl ?_
          refine r_iconst C (x := 0) dX4_addAnswerAndAsk_53 (by decide) ?_
          refine r_putZ C (al.mono (al.mono hp1 hn5) hn8) fl_4_303 rfl (Or.inl rfl) rfl dX4_addAnswerAndAsk_54 ?_
          exact rv O rfl dX4_addAnswerAndAsk_57 (by decide) (by decide) hF8 (Nat.le_trans (Nat.le_trans hn hn5) hn8) h
    · replace h := h.2 hc6
      refine r_aloadn C 1 dX4_addAnswerAndAsk_24 rfl ?_
      refine r_bipush C (x := (-6)) dX4_addAnswerAndAsk_25 (by decide) ?_
      refine r_putI C (al.mono hp1 hn5) fl_4_300 rfl rfl dX4_addAnswerAndAsk_27 ?_
      refine r_aloadn C 1 dX4_addAnswerAndAsk_30 rfl ?_
      refine r_getI C (al.mono hp1 hn5) fl_4_303 rfl dX4_addAnswerAndAsk_31 ?_
      refine r_if_eq C dX4_addAnswerAndAsk_34 (tgt := 57) (by decide) (fun hc10 => ?_) (fun hc10 => ?_)
      · replace h := h.1 hc10
        exact rv O rfl dX4_addAnswerAndAsk_57 (by decide) (by decide) hF5 (Nat.le_trans hn hn5) h
      · replace h := h.2 hc10
        refine r_aloadn C 2 dX4_addAnswerAndAsk_37 rfl ?_
        refine r_bipush C (x := 6) dX4_addAnswerAndAsk_38 (by decide) ?_
        refine r_iconst C (x := 0) dX4_addAnswerAndAsk_40 (by decide) ?_
        refine r_aloadn C 0 dX4_addAnswerAndAsk_41 rfl ?_
        refine r_getI C (hF5.k (by decide) rfl) fl_4_132 rfl dX4_addAnswerAndAsk_42 ?_
        refine r_iconst C (x := 0) dX4_addAnswerAndAsk_45 (by decide) ?_
        refine r_callVi C K1_add [vi 6, vi 0, vi (gI (pI S5 p1 12 (-6)) 0 9), vi 0] [] (al.mono hp2 hn5) (by decide) rfl cl_4_296 rm_4_addAnswerAndAsk_1_add ⟨rfl, rfl⟩ (by decide) (by decide) rfl (Nat.le_of_ble_eq_true rfl) dX4_addAnswerAndAsk_46 h (fun x11 S11 hF11 hn11 h => ?_)
        refine r_if_eq C dX4_addAnswerAndAsk_49 (tgt := 57) (by decide) (fun hc12 => ?_) (fun hc12 => ?_)
        · replace h := h.1 hc12
          exact rv O rfl dX4_addAnswerAndAsk_57 (by decide) (by decide) hF11 (Nat.le_trans (Nat.le_trans hn hn5) hn11) h
        · replace h := h.2 hc12
          refine r_aloadn C 1 dX4_addAnswerAndAsk_52 rfl ?_
          refine r_iconst C (x := 0) dX4_addAnswerAndAsk_53 (by decide) ?_
          refine r_putZ C (al.mono (al.mono hp1 hn5) hn11) fl_4_303 rfl (Or.inl rfl) rfl dX4_addAnswerAndAsk_54 ?_
          exact rv O rfl dX4_addAnswerAndAsk_57 (by decide) (by decide) hF11 (Nat.le_trans (Nat.le_trans hn hn5) hn11) h
set_option maxHeartbeats 4000000 in
set_option maxRecDepth 100000 in
theorem e4_addBounds {S : Sto} {Q : Sto → Prop} (hF : Fx S) {p1 : Nat} {p2 : Nat} (hp1 : al S p1 2) (hp2 : al S p2 1) (h : ∀ X : Ctx, Ov X K4_addBounds S Q → WP X 7 [(0, vr 0), (1, vr p1), (2, vr p2), (3, vi (1 - (gI S p1 0)))] [] S 0 0) : Cv K4_addBounds [vr 0, vr p1, vr p2] S Q := by
  refine Cv.intro rfl (Nat.le_of_ble_eq_true rfl) (fun X O => ?_)
  replace h := h X O
  have C := O.1
  have hn : sN S ≤ sN S := Nat.le_refl _
  show WP X 0 [(0, vr 0), (1, vr p1), (2, vr p2)] [] S 0 0
  refine r_iconst C (x := 1) dX4_addBounds_0 (by decide) ?_
  refine r_aloadn C 1 dX4_addBounds_1 rfl ?_
  refine r_getI C hp1 fl_4_276 rfl dX4_addBounds_2 ?_
  refine r_isub C dX4_addBounds_5 ?_
  refine r_istoren C dX4_addBounds_6 (by decide) rfl rfl ?_
  refine r_perm [1, 2, 3, 0] rfl ?_
  exact h
set_option maxHeartbeats 4000000 in
set_option maxRecDepth 100000 in
theorem s4_addBounds_7 {X : Ctx} {S0 S : Sto} {Q : Sto → Prop} (hF : Fx S) (hn : sN S0 ≤ sN S) (O : Ov X K4_addBounds S0 Q) {l1 : Nat} {l2 : Nat} {l3 : Int32} (hl1 : al S l1 2) (hl2 : al S l2 1)  (h : (8 ≤ l3 → (Ci K4_readBy [vr 0, vr l1] S (fun x3 S3 => ((gI S3 l1 10) = 0 → (Q S3)) ∧ (¬ (gI S3 l1 10) = 0 → (Ci K1_add [vr l2, vi 3, vi 0, vi (x3 + (gI S3 0 7)), vi 0] S3 (fun x5 S5 => (x5 = 0 → (Q S5)) ∧ (¬ x5 = 0 → (Q (pI (pI S5 l1 10 0) l1 9 (x3 + (gI S3 0 7))))))))))) ∧ (¬ 8 ≤ l3 → ((0 ≤ (l3 : Int32).toInt ∧ (l3 : Int32).toInt < (8 : Nat)) ∧ (((gI S (3 + 2 * l3.toNatClampNeg) 14) = 0 → (WP X 7 [(0, vr 0), (1, vr l1), (2, vr l2), (3, vi (l3 + 2))] [] S 0 0)) ∧ (¬ (gI S (3 + 2 * l3.toNatClampNeg) 14) = 0 → (Ci K1_add [vr l2, vi 2, vi l3, vi ((gI S (3 + 2 * l3.toNatClampNeg) 12) + (gI S 0 6)), vi 0] S (fun x9 S9 => (x9 = 0 → (WP X 7 [(0, vr 0), (1, vr l1), (2, vr l2), (3, vi (l3 + 2))] [] S9 0 0)) ∧ (¬ x9 = 0 → (WP X 7 [(0, vr 0), (1, vr l1), (2, vr l2), (3, vi (l3 + 2))] [] (pI (pI S9 (3 + 2 * l3.toNatClampNeg) 14 0) (3 + 2 * l3.toNatClampNeg) 13 ((gI (pI S9 (3 + 2 * l3.toNatClampNeg) 14 0) (3 + 2 * l3.toNatClampNeg) 12) + (gI (pI S9 (3 + 2 * l3.toNatClampNeg) 14 0) 0 6))) 0 0))))))))) : WP X 7 [(0, vr 0), (1, vr l1), (2, vr l2), (3, vi l3)] [] S 0 0 := by
  have C := O.1
  refine r_iloadn C 3 dX4_addBounds_7 rfl ?_
  refine r_bipush C (x := 8) dX4_addBounds_8 (by decide) ?_
  refine r_icmp_ge C dX4_addBounds_10 (tgt := 76) (by decide) (fun hc2 => ?_) (fun hc2 => ?_)
  · replace h := h.1 hc2
    refine r_aloadn C 0 dX4_addBounds_76 rfl ?_
    refine r_aloadn C 1 dX4_addBounds_77 rfl ?_
    refine r_callVi C K4_readBy [vr l1] [] (hF.k (by decide) rfl) (by decide) rfl cl_4_100 rm_4_addBounds_4_readBy ⟨rfl, rfl⟩ (by decide) (by decide) rfl (Nat.le_of_ble_eq_true rfl) dX4_addBounds_78 h (fun x3 S3 hF3 hn3 h => ?_)
    refine r_aloadn C 0 dX4_addBounds_81 rfl ?_
    refine r_getI C (hF3.k (by decide) rfl) fl_4_16 rfl dX4_addBounds_82 ?_
    refine r_iadd C dX4_addBounds_85 ?_
    refine r_istoren C dX4_addBounds_86 (by decide) rfl rfl ?_
    refine r_aloadn C 2 dX4_addBounds_87 rfl ?_
    refine r_getI C (al.mono hl1 hn3) fl_4_104 rfl dX4_addBounds_88 ?_
    refine r_if_eq C dX4_addBounds_91 (tgt := 115) (by decide) (fun hc4 => ?_) (fun hc4 => ?_)
    · replace h := h.1 hc4
      exact rv O rfl dX4_addBounds_115 (by decide) (by decide) hF3 (Nat.le_trans hn hn3) h
    · replace h := h.2 hc4
      refine r_aloadn C 3 dX4_addBounds_94 rfl ?_
      refine r_iconst C (x := 3) dX4_addBounds_95 (by decide) ?_
      refine r_iconst C (x := 0) dX4_addBounds_96 (by decide) ?_
      refine r_iloadn C 0 dX4_addBounds_97 rfl ?_
      refine r_iconst C (x := 0) dX4_addBounds_98 (by decide) ?_
      refine r_callVi C K1_add [vi 3, vi 0, vi (x3 + (gI S3 0 7)), vi 0] [] (al.mono hl2 hn3) (by decide) rfl cl_4_296 rm_4_addBounds_1_add ⟨rfl, rfl⟩ (by decide) (by decide) rfl (Nat.le_of_ble_eq_true rfl) dX4_addBounds_99 h (fun x5 S5 hF5 hn5 h => ?_)
      refine r_if_eq C dX4_addBounds_102 (tgt := 115) (by decide) (fun hc6 => ?_) (fun hc6 => ?_)
      · replace h := h.1 hc6
        exact rv O rfl dX4_addBounds_115 (by decide) (by decide) hF5 (Nat.le_trans (Nat.le_trans hn hn3) hn5) h
      · replace h := h.2 hc6
        refine r_aloadn C 2 dX4_addBounds_105 rfl ?_
        refine r_iconst C (x := 0) dX4_addBounds_106 (by decide) ?_
        refine r_putZ C (al.mono (al.mono hl1 hn3) hn5) fl_4_104 rfl (Or.inl rfl) rfl dX4_addBounds_107 ?_
        refine r_aloadn C 2 dX4_addBounds_110 rfl ?_
        refine r_iloadn C 0 dX4_addBounds_111 rfl ?_
        refine r_putI C (al.mono (al.mono hl1 hn3) hn5) fl_4_65 rfl rfl dX4_addBounds_112 ?_
        exact rv O rfl dX4_addBounds_115 (by decide) (by decide) hF5 (Nat.le_trans (Nat.le_trans hn hn3) hn5) h
  · replace h := h.2 hc2
    refine r_aloadn C 0 dX4_addBounds_13 rfl ?_
    refine r_getR C (hF.k (by decide) rfl) fl_4_27 rfl (o := some 2) hF.c0 dX4_addBounds_14 ?_
    refine r_iloadn C 3 dX4_addBounds_17 rfl ?_
    obtain ⟨hi7, h⟩ := h
    refine r_aald C (o := some (3 + 2 * l3.toNatClampNeg)) (hF.k (by decide) rfl) (by decide) (ixL (n := 8) rfl hi7) (hF.stRI hi7) dX4_addBounds_18 ?_
    refine r_astore C dX4_addBounds_19 (by decide) rfl rfl ?_
    refine r_aload C 0 dX4_addBounds_21 rfl ?_
    refine r_getI C (hF.stI hi7) fl_4_97 rfl dX4_addBounds_23 ?_
    refine r_if_eq C dX4_addBounds_26 (tgt := 70) (by decide) (fun hc8 => ?_) (fun hc8 => ?_)
    · replace h := h.1 hc8
      refine r_iinc C (y := (l3 + 2)) 4 dX4_addBounds_70 rfl rfl (by decide) rfl rfl ?_
      refine r_goto C dX4_addBounds_73 (tgt := 7) (by decide) ?_
      refine r_perm [2, 3, 4, 0] rfl ?_
      exact h
    · replace h := h.2 hc8
      refine r_aloadn C 3 dX4_addBounds_29 rfl ?_
      refine r_iconst C (x := 2) dX4_addBounds_30 (by decide) ?_
      refine r_iloadn C 4 dX4_addBounds_31 rfl ?_
      refine r_aload C 0 dX4_addBounds_32 rfl ?_
      refine r_getI C (hF.stI hi7) fl_4_88 rfl dX4_addBounds_34 ?_
      refine r_aloadn C 1 dX4_addBounds_37 rfl ?_
      refine r_getI C (hF.k (by decide) rfl) fl_4_13 rfl dX4_addBounds_38 ?_
      refine r_iadd C dX4_addBounds_41 ?_
      refine r_iconst C (x := 0) dX4_addBounds_42 (by decide) ?_
      refine r_callVi C K1_add [vi 2, vi l3, vi ((gI S (3 + 2 * l3.toNatClampNeg) 12) + (gI S 0 6)), vi 0] [] hl2 (by decide) rfl cl_4_296 rm_4_addBounds_1_add ⟨rfl, rfl⟩ (by decide) (by decide) rfl (Nat.le_of_ble_eq_true rfl) dX4_addBounds_43 h (fun x9 S9 hF9 hn9 h => ?_)
      refine r_if_eq C dX4_addBounds_46 (tgt := 70) (by decide) (fun hc10 => ?_) (fun hc10 => ?_)
      · replace h := h.1 hc10
        refine r_iinc C (y := (l3 + 2)) 4 dX4_addBounds_70 rfl rfl (by decide) rfl rfl ?_
        refine r_goto C dX4_addBounds_73 (tgt := 7) (by decide) ?_
        refine r_perm [2, 3, 4, 0] rfl ?_
        exact h
      · replace h := h.2 hc10
        refine r_aload C 0 dX4_addBounds_49 rfl ?_
        refine r_iconst C (x := 0) dX4_addBounds_51 (by decide) ?_
        refine r_putZ C (hF9.stI hi7) fl_4_97 rfl (Or.inl rfl) rfl dX4_addBounds_52 ?_
        refine r_aload C 0 dX4_addBounds_55 rfl ?_
        refine r_aload C 0 dX4_addBounds_57 rfl ?_
        refine r_getI C (hF9.stI hi7) fl_4_88 rfl dX4_addBounds_59 ?_
        refine r_aloadn C 1 dX4_addBounds_62 rfl ?_
        refine r_getI C (hF9.k (by decide) rfl) fl_4_13 rfl dX4_addBounds_63 ?_
        refine r_iadd C dX4_addBounds_66 ?_
        refine r_putI C (hF9.stI hi7) fl_4_50 rfl rfl dX4_addBounds_67 ?_
        refine r_iinc C (y := (l3 + 2)) 4 dX4_addBounds_70 rfl rfl (by decide) rfl rfl ?_
        refine r_goto C dX4_addBounds_73 (tgt := 7) (by decide) ?_
        refine r_perm [2, 3, 4, 0] rfl ?_
        exact h
set_option maxHeartbeats 4000000 in
set_option maxRecDepth 100000 in
theorem e4_addCutOffs {S : Sto} {Q : Sto → Prop} (hF : Fx S) {p1 : Nat} {p2 : Nat} (hp1 : al S p1 2) (hp2 : al S p2 1) (h : ∀ X : Ctx, Ov X K4_addCutOffs S Q → WP X 5 [(0, vr 0), (2, vr p2), (3, vi (gI S p1 0))] [] S 0 0) : Cv K4_addCutOffs [vr 0, vr p1, vr p2] S Q := by
  refine Cv.intro rfl (Nat.le_of_ble_eq_true rfl) (fun X O => ?_)
  replace h := h X O
  have C := O.1
  have hn : sN S ≤ sN S := Nat.le_refl _
  show WP X 0 [(0, vr 0), (1, vr p1), (2, vr p2)] [] S 0 0
  refine r_aloadn C 1 dX4_addCutOffs_0 rfl ?_
  refine r_getI C hp1 fl_4_276 rfl dX4_addCutOffs_1 ?_
  refine r_istoren C dX4_addCutOffs_4 (by decide) rfl rfl ?_
  refine r_perm [1, 3, 0] rfl ?_
  exact h
set_option maxHeartbeats 4000000 in
set_option maxRecDepth 100000 in
theorem s4_addCutOffs_5 {X : Ctx} {S0 S : Sto} {Q : Sto → Prop} (hF : Fx S) (hn : sN S0 ≤ sN S) (O : Ov X K4_addCutOffs S0 Q) {l2 : Nat} {l3 : Int32} (hl2 : al S l2 1)  (h : (8 ≤ l3 → (Q S)) ∧ (¬ 8 ≤ l3 → ((0 ≤ (l3 : Int32).toInt ∧ (l3 : Int32).toInt < (8 : Nat)) ∧ (((gI S (3 + 2 * l3.toNatClampNeg) 4) = 0 → (WP X 5 [(0, vr 0), (2, vr l2), (3, vi (l3 + 2))] [] S 0 0)) ∧ (¬ (gI S (3 + 2 * l3.toNatClampNeg) 4) = 0 → (Ci K1_add [vr l2, vi 5, vi l3, vi 0, vi 0] S (fun x5 S5 => (x5 = 0 → (WP X 5 [(0, vr 0), (2, vr l2), (3, vi (l3 + 2))] [] S5 0 0)) ∧ (¬ x5 = 0 → (WP X 5 [(0, vr 0), (2, vr l2), (3, vi (l3 + 2))] [] (pI S5 (3 + 2 * l3.toNatClampNeg) 4 0) 0 0))))))))) : WP X 5 [(0, vr 0), (2, vr l2), (3, vi l3)] [] S 0 0 := by
  have C := O.1
  refine r_iloadn C 2 dX4_addCutOffs_5 rfl ?_
  refine r_bipush C (x := 8) dX4_addCutOffs_6 (by decide) ?_
  refine r_icmp_ge C dX4_addCutOffs_8 (tgt := 50) (by decide) (fun hc2 => ?_) (fun hc2 => ?_)
  · replace h := h.1 hc2
    exact rv O rfl dX4_addCutOffs_50 (by decide) (by decide) hF hn h
  · replace h := h.2 hc2
    refine r_aloadn C 0 dX4_addCutOffs_11 rfl ?_
    refine r_getR C (hF.k (by decide) rfl) fl_4_27 rfl (o := some 2) hF.c0 dX4_addCutOffs_12 ?_
    refine r_iloadn C 2 dX4_addCutOffs_15 rfl ?_
    obtain ⟨hi3, h⟩ := h
    refine r_aald C (o := some (3 + 2 * l3.toNatClampNeg)) (hF.k (by decide) rfl) (by decide) (ixL (n := 8) rfl hi3) (hF.stRI hi3) dX4_addCutOffs_16 ?_
    refine r_getI C (hF.stI hi3) fl_4_82 rfl dX4_addCutOffs_17 ?_
    refine r_if_eq C dX4_addCutOffs_20 (tgt := 44) (by decide) (fun hc4 => ?_) (fun hc4 => ?_)
    · replace h := h.1 hc4
      refine r_iinc C (y := (l3 + 2)) 2 dX4_addCutOffs_44 rfl rfl (by decide) rfl rfl ?_
      refine r_goto C dX4_addCutOffs_47 (tgt := 5) (by decide) ?_
      refine r_perm [1, 2, 0] rfl ?_
      exact h
    · replace h := h.2 hc4
      refine r_aloadn C 1 dX4_addCutOffs_23 rfl ?_
      refine r_iconst C (x := 5) dX4_addCutOffs_24 (by decide) ?_
      refine r_iloadn C 2 dX4_addCutOffs_25 rfl ?_
      refine r_iconst C (x := 0) dX4_addCutOffs_26 (by decide) ?_
      refine r_iconst C (x := 0) dX4_addCutOffs_27 (by decide) ?_
      refine r_callVi C K1_add [vi 5, vi l3, vi 0, vi 0] [] hl2 (by decide) rfl cl_4_296 rm_4_addCutOffs_1_add ⟨rfl, rfl⟩ (by decide) (by decide) rfl (Nat.le_of_ble_eq_true rfl) dX4_addCutOffs_28 h (fun x5 S5 hF5 hn5 h => ?_)
      refine r_if_eq C dX4_addCutOffs_31 (tgt := 44) (by decide) (fun hc6 => ?_) (fun hc6 => ?_)
      · replace h := h.1 hc6
        refine r_iinc C (y := (l3 + 2)) 2 dX4_addCutOffs_44 rfl rfl (by decide) rfl rfl ?_
        refine r_goto C dX4_addCutOffs_47 (tgt := 5) (by decide) ?_
        refine r_perm [1, 2, 0] rfl ?_
        exact h
      · replace h := h.2 hc6
        refine r_aloadn C 0 dX4_addCutOffs_34 rfl ?_
        refine r_getR C (hF5.k (by decide) rfl) fl_4_27 rfl (o := some 2) hF5.c0 dX4_addCutOffs_35 ?_
        refine r_iloadn C 2 dX4_addCutOffs_38 rfl ?_
        refine r_aald C (o := some (3 + 2 * l3.toNatClampNeg)) (hF5.k (by decide) rfl) (by decide) (ixL (n := 8) rfl hi3) (hF5.stRI hi3) dX4_addCutOffs_39 ?_
        refine r_iconst C (x := 0) dX4_addCutOffs_40 (by decide) ?_
        refine r_putZ C (hF5.stI hi3) fl_4_82 rfl (Or.inl rfl) rfl dX4_addCutOffs_41 ?_
        refine r_iinc C (y := (l3 + 2)) 2 dX4_addCutOffs_44 rfl rfl (by decide) rfl rfl ?_
        refine r_goto C dX4_addCutOffs_47 (tgt := 5) (by decide) ?_
        refine r_perm [1, 2, 0] rfl ?_
        exact h
set_option maxHeartbeats 4000000 in
set_option maxRecDepth 100000 in
theorem e4_addBytes {S : Sto} {Q : Sto → Prop} (hF : Fx S) {p1 : Nat} {p2 : Nat} (hp1 : al S p1 2) (hp2 : al S p2 1) (h : ∀ X : Ctx, Ov X K4_addBytes S Q → WP X 8 [(0, vr 0), (1, vr p1), (2, vr p2), (3, vi (gI S p1 13)), (4, vi 0)] [] S 0 0) : Cv K4_addBytes [vr 0, vr p1, vr p2] S Q := by
  refine Cv.intro rfl (Nat.le_of_ble_eq_true rfl) (fun X O => ?_)
  replace h := h X O
  have C := O.1
  have hn : sN S ≤ sN S := Nat.le_refl _
  show WP X 0 [(0, vr 0), (1, vr p1), (2, vr p2)] [] S 0 0
  refine r_aloadn C 1 dX4_addBytes_0 rfl ?_
  refine r_getI C hp1 fl_4_306 rfl dX4_addBytes_1 ?_
  refine r_istoren C dX4_addBytes_4 (by decide) rfl rfl ?_
  refine r_iconst C (x := 0) dX4_addBytes_5 (by decide) ?_
  refine r_istore C dX4_addBytes_6 (by decide) rfl rfl ?_
  refine r_perm [2, 3, 4, 1, 0] rfl ?_
  exact h
set_option maxHeartbeats 4000000 in
set_option maxRecDepth 100000 in
theorem s4_addBytes_8 {X : Ctx} {S0 S : Sto} {Q : Sto → Prop} (hF : Fx S) (hn : sN S0 ≤ sN S) (O : Ov X K4_addBytes S0 Q) {l1 : Nat} {l2 : Nat} {l3 : Int32} {l4 : Int32} (hl1 : al S l1 2) (hl2 : al S l2 1)  (h : (4 ≤ l4 → (Q S)) ∧ (¬ 4 ≤ l4 → (Ci K4_addBytesOf [vr 0, vr l1, vi ((gI S l1 0) + (2 * ((l3 + l4) - (l3 + l4) / 4 * 4))), vr l2] S (fun x2 S2 => (x2 = 0 → (WP X 8 [(0, vr 0), (1, vr l1), (2, vr l2), (3, vi l3), (4, vi (l4 + 1))] [] S2 0 0)) ∧ (¬ x2 = 0 → (WP X 8 [(0, vr 0), (1, vr l1), (2, vr l2), (3, vi l3), (4, vi (l4 + 1))] [] (pI S2 l1 13 ((((l3 + l4) - (l3 + l4) / 4 * 4) + 1) - (((l3 + l4) - (l3 + l4) / 4 * 4) + 1) / 4 * 4)) 0 0)))))) : WP X 8 [(0, vr 0), (1, vr l1), (2, vr l2), (3, vi l3), (4, vi l4)] [] S 0 0 := by
  have C := O.1
  refine r_iload C 4 dX4_addBytes_8 rfl ?_
  refine r_iconst C (x := 4) dX4_addBytes_10 (by decide) ?_
  refine r_icmp_ge C dX4_addBytes_11 (tgt := 56) (by decide) (fun hc1 => ?_) (fun hc1 => ?_)
  · replace h := h.1 hc1
    exact rv O rfl dX4_addBytes_56 (by decide) (by decide) hF hn h
  · replace h := h.2 hc1
    refine r_iloadn C 3 dX4_addBytes_14 rfl ?_
    refine r_iload C 4 dX4_addBytes_15 rfl ?_
    refine r_iadd C dX4_addBytes_17 ?_
    refine r_iconst C (x := 4) dX4_addBytes_18 (by decide) ?_
    refine r_irem C dX4_addBytes_19 (by decide) ?_
    refine r_istore C dX4_addBytes_20 (by decide) rfl rfl ?_
    refine r_aloadn C 1 dX4_addBytes_22 rfl ?_
    refine r_aloadn C 2 dX4_addBytes_23 rfl ?_
    refine r_aloadn C 2 dX4_addBytes_24 rfl ?_
    refine r_getI C hl1 fl_4_276 rfl dX4_addBytes_25 ?_
    refine r_iconst C (x := 2) dX4_addBytes_28 (by decide) ?_
    refine r_iload C 0 dX4_addBytes_29 rfl ?_
    refine r_imul C dX4_addBytes_31 ?_
    refine r_iadd C dX4_addBytes_32 ?_
    refine r_aloadn C 3 dX4_addBytes_33 rfl ?_
    refine r_callVi C K4_addBytesOf [vr l1, vi ((gI S l1 0) + (2 * ((l3 + l4) - (l3 + l4) / 4 * 4))), vr l2] [] (hF.k (by decide) rfl) (by decide) rfl cl_4_309 rm_4_addBytes_4_addBytesOf ⟨rfl, rfl⟩ (by decide) (by decide) rfl (Nat.le_of_ble_eq_true rfl) dX4_addBytes_34 h (fun x2 S2 hF2 hn2 h => ?_)
    refine r_if_eq C dX4_addBytes_37 (tgt := 50) (by decide) (fun hc3 => ?_) (fun hc3 => ?_)
    · replace h := h.1 hc3
      refine r_iinc C (y := (l4 + 1)) 5 dX4_addBytes_50 rfl rfl (by decide) rfl rfl ?_
      refine r_goto C dX4_addBytes_53 (tgt := 8) (by decide) ?_
      refine r_perm [2, 3, 4, 5, 0] rfl ?_
      exact h
    · replace h := h.2 hc3
      refine r_aloadn C 2 dX4_addBytes_40 rfl ?_
      refine r_iload C 0 dX4_addBytes_41 rfl ?_
      refine r_iconst C (x := 1) dX4_addBytes_43 (by decide) ?_
      refine r_iadd C dX4_addBytes_44 ?_
      refine r_iconst C (x := 4) dX4_addBytes_45 (by decide) ?_
      refine r_irem C dX4_addBytes_46 (by decide) ?_
      refine r_putI C (al.mono hl1 hn2) fl_4_306 rfl rfl dX4_addBytes_47 ?_
      refine r_iinc C (y := (l4 + 1)) 5 dX4_addBytes_50 rfl rfl (by decide) rfl rfl ?_
      refine r_goto C dX4_addBytes_53 (tgt := 8) (by decide) ?_
      refine r_perm [2, 3, 4, 5, 0] rfl ?_
      exact h
set_option maxHeartbeats 4000000 in
set_option maxRecDepth 100000 in
theorem e4_addBytesOf {S : Sto} {Q : Int32 → Sto → Prop} (hF : Fx S) {p1 : Nat} {p2 : Int32} {p3 : Nat} (hp1 : al S p1 2) (hp3 : al S p3 1) (h : ∀ X : Ctx, Oi X K4_addBytesOf S Q → Co K4_streamAt [vr 0, vi p2] S (fun x1 S1 => (∀ b, x1 = some b → al S1 b 3) ∧ ((∀ b3 : Nat, x1 = some b3 → (((gI S1 b3 3) = 0 → (((gI S1 b3 7) ≤ 0 → (WP X 45 [(0, vr 0), (1, vr p1), (2, vi p2), (3, vr p3), (4, vr b3), (5, vi (gI S1 b3 5))] [] S1 0 0)) ∧ (¬ (gI S1 b3 7) ≤ 0 → (Ci K3_firstAgain [vr b3] S1 (fun x7 S7 => WP X 45 [(0, vr 0), (1, vr p1), (2, vi p2), (3, vr p3), (4, vr b3), (5, vi x7)] [] S7 0 0))))) ∧ (¬ (gI S1 b3 3) = 0 → (Q 0 S1)))) ∧ (x1 = none → (Q 0 S1))))) : Ci K4_addBytesOf [vr 0, vr p1, vi p2, vr p3] S Q := by
  refine Ci.intro rfl (Nat.le_of_ble_eq_true rfl) (fun X O => ?_)
  replace h := h X O
  have C := O.1
  have hn : sN S ≤ sN S := Nat.le_refl _
  show WP X 0 [(0, vr 0), (1, vr p1), (2, vi p2), (3, vr p3)] [] S 0 0
  refine r_aloadn C 0 dX4_addBytesOf_0 rfl ?_
  refine r_iloadn C 2 dX4_addBytesOf_1 rfl ?_
  refine r_callVo C K4_streamAt [vi p2] [] (hF.k (by decide) rfl) (by decide) rfl cl_4_68 rm_4_addBytesOf_4_streamAt ⟨rfl, rfl⟩ (by decide) (by decide) rfl (Nat.le_of_ble_eq_true rfl) dX4_addBytesOf_2 h (fun x1 S1 hF1 hn1 h => ?_)
  obtain ⟨hk2, h⟩ := h
  refine r_astore C dX4_addBytesOf_5 (by decide) rfl rfl ?_
  refine r_aload C 0 dX4_addBytesOf_7 rfl ?_
  refine r_ifnull C dX4_addBytesOf_9 (tgt := 20) (by decide) (fun hb4 => ?_) (fun b3 hb4 => ?_)
  · replace h := h.2 hb4
    refine r_iconst C (x := 0) dX4_addBytesOf_20 (by decide) ?_
    exact ri O ⟨_, rfl, nar_z (Or.inl rfl)⟩ dX4_addBytesOf_21 (by decide) (by decide) hF1 (Nat.le_trans hn hn1) h
  · replace h := h.1 b3 hb4
    try rw [hb4]
    refine r_aload C 0 dX4_addBytesOf_12 rfl ?_
    refine r_getI C (hk2 _ hb4) fl_4_76 rfl dX4_addBytesOf_14 ?_
    refine r_if_eq C dX4_addBytesOf_17 (tgt := 22) (by decide) (fun hc5 => ?_) (fun hc5 => ?_)
    · replace h := h.1 hc5
      refine r_aload C 0 dX4_addBytesOf_22 rfl ?_
      refine r_getI C (hk2 _ hb4) fl_4_203 rfl dX4_addBytesOf_24 ?_
      refine r_if_le C dX4_addBytesOf_27 (tgt := 38) (by decide) (fun hc6 => ?_) (fun hc6 => ?_)
      · replace h := h.1 hc6
        refine r_aload C 0 dX4_addBytesOf_38 rfl ?_
        refine r_getI C (hk2 _ hb4) fl_4_197 rfl dX4_addBytesOf_40 ?_
        refine r_istore C dX4_addBytesOf_43 (by decide) rfl rfl ?_
        refine r_perm [2, 3, 4, 5, 1, 0] rfl ?_
        exact h
      · replace h := h.2 hc6
        refine r_aload C 0 dX4_addBytesOf_30 rfl ?_
        refine r_callVi C K3_firstAgain [] [] (hk2 _ hb4) (by decide) rfl cl_4_313 rm_4_addBytesOf_3_firstAgain ⟨rfl, rfl⟩ (by decide) (by decide) rfl (Nat.le_of_ble_eq_true rfl) dX4_addBytesOf_32 h (fun x7 S7 hF7 hn7 h => ?_)
        refine r_goto C dX4_addBytesOf_35 (tgt := 43) (by decide) ?_
        refine r_istore C dX4_addBytesOf_43 (by decide) rfl rfl ?_
        refine r_perm [2, 3, 4, 5, 1, 0] rfl ?_
        exact h
    · replace h := h.2 hc5
      refine r_iconst C (x := 0) dX4_addBytesOf_20 (by decide) ?_
      exact ri O ⟨_, rfl, nar_z (Or.inl rfl)⟩ dX4_addBytesOf_21 (by decide) (by decide) hF1 (Nat.le_trans hn hn1) h
set_option maxHeartbeats 4000000 in
set_option maxRecDepth 100000 in
theorem s4_addBytesOf_45 {X : Ctx} {S0 S : Sto} {Q : Int32 → Sto → Prop} (hF : Fx S) (hn : sN S0 ≤ sN S) (O : Oi X K4_addBytesOf S0 Q) {l1 : Nat} {l2 : Int32} {l3 : Nat} {l4 : Nat} {l5 : Int32} (hl1 : al S l1 2) (hl3 : al S l3 1) (hl4 : al S l4 3)  (h : ((gI S l4 7) ≤ 0 → (Ci K4_newBytesOf [vr 0, vr l1, vr l4] S (fun x2 S2 => WP X 72 [(2, vi l2), (3, vr l3), (4, vr l4), (5, vi l5), (6, vi x2)] [] S2 0 0))) ∧ (¬ (gI S l4 7) ≤ 0 → (Ci K3_countAgainFrom [vr l4, vi l5] S (fun x3 S3 => WP X 72 [(2, vi l2), (3, vr l3), (4, vr l4), (5, vi l5), (6, vi x3)] [] S3 0 0)))) : WP X 45 [(0, vr 0), (1, vr l1), (2, vi l2), (3, vr l3), (4, vr l4), (5, vi l5)] [] S 0 0 := by
  have C := O.1
  refine r_aload C 4 dX4_addBytesOf_45 rfl ?_
  refine r_getI C hl4 fl_4_203 rfl dX4_addBytesOf_47 ?_
  refine r_if_le C dX4_addBytesOf_50 (tgt := 63) (by decide) (fun hc1 => ?_) (fun hc1 => ?_)
  · replace h := h.1 hc1
    refine r_aloadn C 0 dX4_addBytesOf_63 rfl ?_
    refine r_aloadn C 1 dX4_addBytesOf_64 rfl ?_
    refine r_aload C 4 dX4_addBytesOf_65 rfl ?_
    refine r_callVi C K4_newBytesOf [vr l1, vr l4] [] (hF.k (by decide) rfl) (by decide) rfl cl_4_321 rm_4_addBytesOf_4_newBytesOf ⟨rfl, rfl⟩ (by decide) (by decide) rfl (Nat.le_of_ble_eq_true rfl) dX4_addBytesOf_67 h (fun x2 S2 hF2 hn2 h => ?_)
    refine r_istore C dX4_addBytesOf_70 (by decide) rfl rfl ?_
    refine r_perm [3, 4, 5, 6, 0] rfl ?_
    exact h
  · replace h := h.2 hc1
    refine r_aload C 4 dX4_addBytesOf_53 rfl ?_
    refine r_iload C 5 dX4_addBytesOf_55 rfl ?_
    refine r_callVi C K3_countAgainFrom [vi l5] [] hl4 (by decide) rfl cl_4_317 rm_4_addBytesOf_3_countAgainFrom ⟨rfl, rfl⟩ (by decide) (by decide) rfl (Nat.le_of_ble_eq_true rfl) dX4_addBytesOf_57 h (fun x3 S3 hF3 hn3 h => ?_)
    refine r_goto C dX4_addBytesOf_60 (tgt := 70) (by decide) ?_
    refine r_istore C dX4_addBytesOf_70 (by decide) rfl rfl ?_
    refine r_perm [3, 4, 5, 6, 0] rfl ?_
    exact h
set_option maxHeartbeats 4000000 in
set_option maxRecDepth 100000 in
theorem s4_addBytesOf_72 {X : Ctx} {S0 S : Sto} {Q : Int32 → Sto → Prop} (hF : Fx S) (hn : sN S0 ≤ sN S) (O : Oi X K4_addBytesOf S0 Q) {l2 : Int32} {l3 : Nat} {l4 : Nat} {l5 : Int32} {l6 : Int32} (hl3 : al S l3 1) (hl4 : al S l4 3)  (h : Ci K1_weightOf [vi 4, vi 0] S (fun x2 S2 => (l6 ≤ 0 → ((((if (gI S2 l4 2) = 0 then 0 else (if (gI S2 l4 5) = (gI S2 l4 1) then (if (gI S2 l4 9) = 0 then 1 else (if (gI S2 l4 9) = 2 then 1 else 0 : Int32) : Int32) else 0 : Int32) : Int32)) = 0 → (Q 0 S2)) ∧ (¬ ((if (gI S2 l4 2) = 0 then 0 else (if (gI S2 l4 5) = (gI S2 l4 1) then (if (gI S2 l4 9) = 0 then 1 else (if (gI S2 l4 9) = 2 then 1 else 0 : Int32) : Int32) else 0 : Int32) : Int32)) = 0 → ((0 ≤ (if (((gI S l3 4) - (gI S l3 8)) - x2) < l6 then (((gI S l3 4) - (gI S l3 8)) - x2) else l6) → (WP X 118 [(2, vi l2), (3, vr l3), (4, vr l4), (5, vi l5), (7, vi (if (((gI S l3 4) - (gI S l3 8)) - x2) < l6 then (((gI S l3 4) - (gI S l3 8)) - x2) else l6))] [] S2 0 0)) ∧ (¬ 0 ≤ (if (((gI S l3 4) - (gI S l3 8)) - x2) < l6 then (((gI S l3 4) - (gI S l3 8)) - x2) else l6) → (Q 0 S2)))))) ∧ (¬ l6 ≤ 0 → ((1 ≤ (if (((gI S l3 4) - (gI S l3 8)) - x2) < l6 then (((gI S l3 4) - (gI S l3 8)) - x2) else l6) → (WP X 118 [(2, vi l2), (3, vr l3), (4, vr l4), (5, vi l5), (7, vi (if (((gI S l3 4) - (gI S l3 8)) - x2) < l6 then (((gI S l3 4) - (gI S l3 8)) - x2) else l6))] [] S2 0 0)) ∧ (¬ 1 ≤ (if (((gI S l3 4) - (gI S l3 8)) - x2) < l6 then (((gI S l3 4) - (gI S l3 8)) - x2) else l6) → (Q 0 S2)))))) : WP X 72 [(2, vi l2), (3, vr l3), (4, vr l4), (5, vi l5), (6, vi l6)] [] S 0 0 := by
  have C := O.1
  refine r_iload C 4 dX4_addBytesOf_72 rfl ?_
  refine r_aloadn C 1 dX4_addBytesOf_74 rfl ?_
  refine r_callVi C K1_roomLeft [] [vi l6] hl3 (by decide) rfl cl_4_325 rm_4_addBytesOf_1_roomLeft ⟨rfl, rfl⟩ (by decide) (by decide) rfl (Nat.le_of_ble_eq_true rfl) dX4_addBytesOf_75 (q1_roomLeft (S := S) hF hl3) (fun x1 _ _ _ hq => ?_)
  obtain ⟨hqa, hqb⟩ := hq; obtain rfl := hqa.symm; obtain rfl := hqb.symm
  refine r_iconst C (x := 4) dX4_addBytesOf_78 (by decide) ?_
  refine r_iconst C (x := 0) dX4_addBytesOf_79 (by decide) ?_
  refine r_callSi C K1_weightOf [vi 4, vi 0] [vi ((gI S l3 4) - (gI S l3 8)), vi l6] cl_4_328 rm_4_addBytesOf_1_weightOf ⟨rfl, rfl⟩ (by decide) (by decide) rfl (Nat.le_of_ble_eq_true rfl) dX4_addBytesOf_80 h (fun x2 S2 hF2 hn2 h => ?_)
  refine r_isub C dX4_addBytesOf_83 ?_
  refine r_min C mw_4_91 (by decide) (Nat.le_of_ble_eq_true rfl) (by decide) (by decide) dX4_addBytesOf_84 ?_
  refine r_istore C dX4_addBytesOf_87 (by decide) rfl rfl ?_
  refine r_iload C 5 dX4_addBytesOf_89 rfl ?_
  refine r_if_le C dX4_addBytesOf_91 (tgt := 103) (by decide) (fun hc3 => ?_) (fun hc3 => ?_)
  · replace h := h.1 hc3
    refine r_aload C 3 dX4_addBytesOf_103 rfl ?_
    refine r_callVi C K3_isEndDue [] [] (al.mono hl4 hn2) (by decide) rfl cl_4_331 rm_4_addBytesOf_3_isEndDue ⟨rfl, rfl⟩ (by decide) (by decide) rfl (Nat.le_of_ble_eq_true rfl) dX4_addBytesOf_105 (q3_isEndDue (S := S2) hF2 (al.mono hl4 hn2)) (fun x4 _ _ _ hq => ?_)
    obtain ⟨hqa, hqb⟩ := hq; obtain rfl := hqa.symm; obtain rfl := hqb.symm
    refine r_if_eq C dX4_addBytesOf_108 (tgt := 116) (by decide) (fun hc5 => ?_) (fun hc5 => ?_)
    · replace h := h.1 hc5
      refine r_iconst C (x := 0) dX4_addBytesOf_116 (by decide) ?_
      exact ri O ⟨_, rfl, nar_z (Or.inl rfl)⟩ dX4_addBytesOf_117 (by decide) (by decide) hF2 (Nat.le_trans hn hn2) h
    · replace h := h.2 hc5
      refine r_iload C 0 dX4_addBytesOf_111 rfl ?_
      refine r_if_ge C dX4_addBytesOf_113 (tgt := 118) (by decide) (fun hc6 => ?_) (fun hc6 => ?_)
      · replace h := h.1 hc6
        refine r_perm [1, 2, 3, 4, 0] rfl ?_
        exact h
      · replace h := h.2 hc6
        refine r_iconst C (x := 0) dX4_addBytesOf_116 (by decide) ?_
        exact ri O ⟨_, rfl, nar_z (Or.inl rfl)⟩ dX4_addBytesOf_117 (by decide) (by decide) hF2 (Nat.le_trans hn hn2) h
  · replace h := h.2 hc3
    refine r_iload C 0 dX4_addBytesOf_94 rfl ?_
    refine r_iconst C (x := 1) dX4_addBytesOf_96 (by decide) ?_
    refine r_icmp_ge C dX4_addBytesOf_97 (tgt := 118) (by decide) (fun hc7 => ?_) (fun hc7 => ?_)
    · replace h := h.1 hc7
      refine r_perm [1, 2, 3, 4, 0] rfl ?_
      exact h
    · replace h := h.2 hc7
      refine r_goto C dX4_addBytesOf_100 (tgt := 116) (by decide) ?_
      refine r_iconst C (x := 0) dX4_addBytesOf_116 (by decide) ?_
      exact ri O ⟨_, rfl, nar_z (Or.inl rfl)⟩ dX4_addBytesOf_117 (by decide) (by decide) hF2 (Nat.le_trans hn hn2) h
set_option maxHeartbeats 4000000 in
set_option maxRecDepth 100000 in
theorem s4_addBytesOf_118 {X : Ctx} {S0 S : Sto} {Q : Int32 → Sto → Prop} (hF : Fx S) (hn : sN S0 ≤ sN S) (O : Oi X K4_addBytesOf S0 Q) {l2 : Int32} {l3 : Nat} {l4 : Nat} {l5 : Int32} {l7 : Int32} (hl3 : al S l3 1) (hl4 : al S l4 3)  (h : Cv K3_markSent [vr l4, vi l5, vi l7] S (fun S1 => (((if (gI S1 l4 2) = 0 then 0 else (if (gI S1 l4 5) = (gI S1 l4 1) then (if (gI S1 l4 9) = 0 then 1 else (if (gI S1 l4 9) = 2 then 1 else 0 : Int32) : Int32) else 0 : Int32) : Int32)) = 0 → (WP X 145 [(2, vi l2), (3, vr l3), (5, vi l5), (7, vi l7), (8, vi ((if (gI S1 l4 2) = 0 then 0 else (if (gI S1 l4 5) = (gI S1 l4 1) then (if (gI S1 l4 9) = 0 then 1 else (if (gI S1 l4 9) = 2 then 1 else 0 : Int32) : Int32) else 0 : Int32) : Int32)))] [] S1 0 0)) ∧ (¬ ((if (gI S1 l4 2) = 0 then 0 else (if (gI S1 l4 5) = (gI S1 l4 1) then (if (gI S1 l4 9) = 0 then 1 else (if (gI S1 l4 9) = 2 then 1 else 0 : Int32) : Int32) else 0 : Int32) : Int32)) = 0 → (WP X 145 [(2, vi l2), (3, vr l3), (5, vi l5), (7, vi l7), (8, vi ((if (gI S1 l4 2) = 0 then 0 else (if (gI S1 l4 5) = (gI S1 l4 1) then (if (gI S1 l4 9) = 0 then 1 else (if (gI S1 l4 9) = 2 then 1 else 0 : Int32) : Int32) else 0 : Int32) : Int32)))] [] (pI S1 l4 9 1) 0 0)))) : WP X 118 [(2, vi l2), (3, vr l3), (4, vr l4), (5, vi l5), (7, vi l7)] [] S 0 0 := by
  have C := O.1
  refine r_aload C 2 dX4_addBytesOf_118 rfl ?_
  refine r_iload C 3 dX4_addBytesOf_120 rfl ?_
  refine r_iload C 4 dX4_addBytesOf_122 rfl ?_
  refine r_callVv C K3_markSent [vi l5, vi l7] [] hl4 (by decide) rfl cl_4_334 rm_4_addBytesOf_3_markSent ⟨rfl, rfl⟩ (by decide) (by decide) rfl (Nat.le_of_ble_eq_true rfl) dX4_addBytesOf_124 h (fun S1 hF1 hn1 h => ?_)
  refine r_aload C 2 dX4_addBytesOf_127 rfl ?_
  refine r_callVi C K3_isEndDue [] [] (al.mono hl4 hn1) (by decide) rfl cl_4_331 rm_4_addBytesOf_3_isEndDue ⟨rfl, rfl⟩ (by decide) (by decide) rfl (Nat.le_of_ble_eq_true rfl) dX4_addBytesOf_129 (q3_isEndDue (S := S1) hF1 (al.mono hl4 hn1)) (fun x2 _ _ _ hq => ?_)
  obtain ⟨hqa, hqb⟩ := hq; obtain rfl := hqa.symm; obtain rfl := hqb.symm
  refine r_istore C dX4_addBytesOf_132 (by decide) rfl rfl ?_
  refine r_iload C 0 dX4_addBytesOf_134 rfl ?_
  refine r_if_eq C dX4_addBytesOf_136 (tgt := 145) (by decide) (fun hc3 => ?_) (fun hc3 => ?_)
  · replace h := h.1 hc3
    refine r_perm [1, 2, 4, 5, 0] rfl ?_
    exact h
  · replace h := h.2 hc3
    refine r_aload C 3 dX4_addBytesOf_139 rfl ?_
    refine r_iconst C (x := 1) dX4_addBytesOf_141 (by decide) ?_
    refine r_putI C (al.mono hl4 hn1) fl_4_206 rfl rfl dX4_addBytesOf_142 ?_
    refine r_perm [1, 2, 4, 5, 0] rfl ?_
    exact h
set_option maxHeartbeats 4000000 in
set_option maxRecDepth 100000 in
theorem s4_addBytesOf_145 {X : Ctx} {S0 S : Sto} {Q : Int32 → Sto → Prop} (hF : Fx S) (hn : sN S0 ≤ sN S) (O : Oi X K4_addBytesOf S0 Q) {l2 : Int32} {l3 : Nat} {l5 : Int32} {l7 : Int32} {l8 : Int32} (hl3 : al S l3 1)  (h : ∀ w1 : Int32, w1 = (if l8 = 0 then l7 else (l7 + 10000) : Int32) → (Ci K1_add [vr l3, vi 4, vi l2, vi l5, vi w1] S (fun x4 S4 => (x4 = 0 ∨ x4 = 1) ∧ (Q x4 S4)))) : WP X 145 [(2, vi l2), (3, vr l3), (5, vi l5), (7, vi l7), (8, vi l8)] [] S 0 0 := by
  have C := O.1
  refine r_aloadn C 1 dX4_addBytesOf_145 rfl ?_
  refine r_iconst C (x := 4) dX4_addBytesOf_146 (by decide) ?_
  refine r_iloadn C 0 dX4_addBytesOf_147 rfl ?_
  refine r_iload C 2 dX4_addBytesOf_148 rfl ?_
  refine r_iload C 4 dX4_addBytesOf_150 rfl ?_
  have kJ2 : ∀ (w1 : Int32) (_ : w1 = (if l8 = 0 then l7 else (l7 + 10000) : Int32)), WP X 166 [] [vi w1, vi l5, vi l2, vi 4, vr l3] S 0 0 := by
    intro w1 hw1
    replace h := h w1 hw1
    refine r_callVi C K1_add [vi 4, vi l2, vi l5, vi w1] [] hl3 (by decide) rfl cl_4_296 rm_4_addBytesOf_1_add ⟨rfl, rfl⟩ (by decide) (by decide) rfl (Nat.le_of_ble_eq_true rfl) dX4_addBytesOf_166 h (fun x4 S4 hF4 hn4 h => ?_)
    obtain ⟨hb5, h⟩ := h
    exact ri O ⟨_, rfl, nar_z hb5⟩ dX4_addBytesOf_169 (by decide) (by decide) hF4 (Nat.le_trans hn hn4) h
  refine r_if_eq C dX4_addBytesOf_152 (tgt := 164) (by decide) (fun hc3 => ?_) (fun hc3 => ?_)
  · refine r_iload C 3 dX4_addBytesOf_164 rfl ?_
    refine r_perm [] rfl ?_
    exact kJ2 _ (if_pos hc3).symm
  · refine r_iload C 3 dX4_addBytesOf_155 rfl ?_
    refine r_sipush C (x := 10000) dX4_addBytesOf_157 (by decide) ?_
    refine r_iadd C dX4_addBytesOf_160 ?_
    refine r_goto C dX4_addBytesOf_161 (tgt := 166) (by decide) ?_
    refine r_perm [] rfl ?_
    exact kJ2 _ (if_neg hc3).symm
set_option maxHeartbeats 4000000 in
set_option maxRecDepth 100000 in
theorem e4_newBytesOf {S : Sto} {Q : Int32 → Sto → Prop} (hF : Fx S) {p1 : Nat} {p2 : Nat} (hp1 : al S p1 2) (hp2 : al S p2 3) (h : Ci K4_countedOf [vr 0, vr p1] S (fun x1 S1 => Q (if 0 < (if ((gI S p1 8) - x1) < ((if (gI S1 p2 8) < (gI S1 p2 1) then (gI S1 p2 8) else (gI S1 p2 1)) - (gI S1 p2 5)) then ((gI S p1 8) - x1) else ((if (gI S1 p2 8) < (gI S1 p2 1) then (gI S1 p2 8) else (gI S1 p2 1)) - (gI S1 p2 5))) then (if ((gI S p1 8) - x1) < ((if (gI S1 p2 8) < (gI S1 p2 1) then (gI S1 p2 8) else (gI S1 p2 1)) - (gI S1 p2 5)) then ((gI S p1 8) - x1) else ((if (gI S1 p2 8) < (gI S1 p2 1) then (gI S1 p2 8) else (gI S1 p2 1)) - (gI S1 p2 5))) else 0) S1)) : Ci K4_newBytesOf [vr 0, vr p1, vr p2] S Q := by
  refine Ci.intro rfl (Nat.le_of_ble_eq_true rfl) (fun X O => ?_)
  have C := O.1
  have hn : sN S ≤ sN S := Nat.le_refl _
  show WP X 0 [(0, vr 0), (1, vr p1), (2, vr p2)] [] S 0 0
  refine r_aloadn C 1 dX4_newBytesOf_0 rfl ?_
  refine r_getI C hp1 fl_4_62 rfl dX4_newBytesOf_1 ?_
  refine r_aloadn C 0 dX4_newBytesOf_4 rfl ?_
  refine r_aloadn C 1 dX4_newBytesOf_5 rfl ?_
  refine r_callVi C K4_countedOf [vr p1] [vi (gI S p1 8)] (hF.k (by decide) rfl) (by decide) rfl cl_4_248 rm_4_newBytesOf_4_countedOf ⟨rfl, rfl⟩ (by decide) (by decide) rfl (Nat.le_of_ble_eq_true rfl) dX4_newBytesOf_6 h (fun x1 S1 hF1 hn1 h => ?_)
  refine r_isub C dX4_newBytesOf_9 ?_
  refine r_istoren C dX4_newBytesOf_10 (by decide) rfl rfl ?_
  refine r_iconst C (x := 0) dX4_newBytesOf_11 (by decide) ?_
  refine r_aloadn C 3 dX4_newBytesOf_12 rfl ?_
  refine r_getI C (al.mono hp2 hn1) fl_4_79 rfl dX4_newBytesOf_13 ?_
  refine r_aloadn C 3 dX4_newBytesOf_16 rfl ?_
  refine r_getI C (al.mono hp2 hn1) fl_4_47 rfl dX4_newBytesOf_17 ?_
  refine r_min C mw_4_91 (by decide) (Nat.le_of_ble_eq_true rfl) (by decide) (by decide) dX4_newBytesOf_20 ?_
  refine r_aloadn C 3 dX4_newBytesOf_23 rfl ?_
  refine r_getI C (al.mono hp2 hn1) fl_4_197 rfl dX4_newBytesOf_24 ?_
  refine r_isub C dX4_newBytesOf_27 ?_
  refine r_iloadn C 0 dX4_newBytesOf_28 rfl ?_
  refine r_min C mw_4_91 (by decide) (Nat.le_of_ble_eq_true rfl) (by decide) (by decide) dX4_newBytesOf_29 ?_
  refine r_max C mw_4_180 (by decide) (Nat.le_of_ble_eq_true rfl) (by decide) (by decide) dX4_newBytesOf_32 ?_
  exact ri O ⟨_, rfl, rfl⟩ dX4_newBytesOf_35 (by decide) (by decide) hF1 (Nat.le_trans hn hn1) h
set_option maxHeartbeats 4000000 in
set_option maxRecDepth 100000 in
theorem e4_putUnderWay {S : Sto} {Q : Sto → Prop} (hF : Fx S) {p1 : Nat} {p2 : Nat} (hp1 : al S p1 2) (hp2 : al S p2 1) (h : ∀ X : Ctx, Ov X K4_putUnderWay S Q → (300 ≤ (gI S p1 3) → (Q S)) ∧ (¬ 300 ≤ (gI S p1 3) → (((gI S 0 3) < 400 → ((0 ≤ ((gI S p1 3) : Int32).toInt ∧ ((gI S p1 3) : Int32).toInt < (300 : Nat)) ∧ ((0 ≤ ((gI (pI (pR S (p1 + 1) (gI S p1 3).toNatClampNeg (some p2)) p1 3 ((gI (pR S (p1 + 1) (gI S p1 3).toNatClampNeg (some p2)) p1 3) + 1)) 0 3) : Int32).toInt ∧ ((gI (pI (pR S (p1 + 1) (gI S p1 3).toNatClampNeg (some p2)) p1 3 ((gI (pR S (p1 + 1) (gI S p1 3).toNatClampNeg (some p2)) p1 3) + 1)) 0 3) : Int32).toInt < (400 : Nat)) ∧ (((gI (pI (pR (pI (pR S (p1 + 1) (gI S p1 3).toNatClampNeg (some p2)) p1 3 ((gI (pR S (p1 + 1) (gI S p1 3).toNatClampNeg (some p2)) p1 3) + 1)) 1 (gI (pI (pR S (p1 + 1) (gI S p1 3).toNatClampNeg (some p2)) p1 3 ((gI (pR S (p1 + 1) (gI S p1 3).toNatClampNeg (some p2)) p1 3) + 1)) 0 3).toNatClampNeg (some p2)) 0 3 ((gI (pI (pR S (p1 + 1) (gI S p1 3).toNatClampNeg (some p2)) p1 3 ((gI (pR S (p1 + 1) (gI S p1 3).toNatClampNeg (some p2)) p1 3) + 1)) 0 3) + 1)) p2 9) = 0 → (WP X 103 [(0, vr 0), (1, vr p1), (2, vr p2)] [] (pI (pR (pI (pR S (p1 + 1) (gI S p1 3).toNatClampNeg (some p2)) p1 3 ((gI (pR S (p1 + 1) (gI S p1 3).toNatClampNeg (some p2)) p1 3) + 1)) 1 (gI (pI (pR S (p1 + 1) (gI S p1 3).toNatClampNeg (some p2)) p1 3 ((gI (pR S (p1 + 1) (gI S p1 3).toNatClampNeg (some p2)) p1 3) + 1)) 0 3).toNatClampNeg (some p2)) 0 3 ((gI (pI (pR S (p1 + 1) (gI S p1 3).toNatClampNeg (some p2)) p1 3 ((gI (pR S (p1 + 1) (gI S p1 3).toNatClampNeg (some p2)) p1 3) + 1)) 0 3) + 1)) 0 0)) ∧ (¬ (gI (pI (pR (pI (pR S (p1 + 1) (gI S p1 3).toNatClampNeg (some p2)) p1 3 ((gI (pR S (p1 + 1) (gI S p1 3).toNatClampNeg (some p2)) p1 3) + 1)) 1 (gI (pI (pR S (p1 + 1) (gI S p1 3).toNatClampNeg (some p2)) p1 3 ((gI (pR S (p1 + 1) (gI S p1 3).toNatClampNeg (some p2)) p1 3) + 1)) 0 3).toNatClampNeg (some p2)) 0 3 ((gI (pI (pR S (p1 + 1) (gI S p1 3).toNatClampNeg (some p2)) p1 3 ((gI (pR S (p1 + 1) (gI S p1 3).toNatClampNeg (some p2)) p1 3) + 1)) 0 3) + 1)) p2 9) = 0 → (WP X 103 [(0, vr 0), (1, vr p1), (2, vr p2)] [] (pI (pI (pI (pI (pR (pI (pR S (p1 + 1) (gI S p1 3).toNatClampNeg (some p2)) p1 3 ((gI (pR S (p1 + 1) (gI S p1 3).toNatClampNeg (some p2)) p1 3) + 1)) 1 (gI (pI (pR S (p1 + 1) (gI S p1 3).toNatClampNeg (some p2)) p1 3 ((gI (pR S (p1 + 1) (gI S p1 3).toNatClampNeg (some p2)) p1 3) + 1)) 0 3).toNatClampNeg (some p2)) 0 3 ((gI (pI (pR S (p1 + 1) (gI S p1 3).toNatClampNeg (some p2)) p1 3 ((gI (pR S (p1 + 1) (gI S p1 3).toNatClampNeg (some p2)) p1 3) + 1)) 0 3) + 1)) (p1 + 2) 0 ((gI (pI (pR (pI (pR S (p1 + 1) (gI S p1 3).toNatClampNeg (some p2)) p1 3 ((gI (pR S (p1 + 1) (gI S p1 3).toNatClampNeg (some p2)) p1 3) + 1)) 1 (gI (pI (pR S (p1 + 1) (gI S p1 3).toNatClampNeg (some p2)) p1 3 ((gI (pR S (p1 + 1) (gI S p1 3).toNatClampNeg (some p2)) p1 3) + 1)) 0 3).toNatClampNeg (some p2)) 0 3 ((gI (pI (pR S (p1 + 1) (gI S p1 3).toNatClampNeg (some p2)) p1 3 ((gI (pR S (p1 + 1) (gI S p1 3).toNatClampNeg (some p2)) p1 3) + 1)) 0 3) + 1)) (p1 + 2) 0) + (gI (pI (pR (pI (pR S (p1 + 1) (gI S p1 3).toNatClampNeg (some p2)) p1 3 ((gI (pR S (p1 + 1) (gI S p1 3).toNatClampNeg (some p2)) p1 3) + 1)) 1 (gI (pI (pR S (p1 + 1) (gI S p1 3).toNatClampNeg (some p2)) p1 3 ((gI (pR S (p1 + 1) (gI S p1 3).toNatClampNeg (some p2)) p1 3) + 1)) 0 3).toNatClampNeg (some p2)) 0 3 ((gI (pI (pR S (p1 + 1) (gI S p1 3).toNatClampNeg (some p2)) p1 3 ((gI (pR S (p1 + 1) (gI S p1 3).toNatClampNeg (some p2)) p1 3) + 1)) 0 3) + 1)) p2 8))) (p1 + 2) 9 (gI (pI (pI (pR (pI (pR S (p1 + 1) (gI S p1 3).toNatClampNeg (some p2)) p1 3 ((gI (pR S (p1 + 1) (gI S p1 3).toNatClampNeg (some p2)) p1 3) + 1)) 1 (gI (pI (pR S (p1 + 1) (gI S p1 3).toNatClampNeg (some p2)) p1 3 ((gI (pR S (p1 + 1) (gI S p1 3).toNatClampNeg (some p2)) p1 3) + 1)) 0 3).toNatClampNeg (some p2)) 0 3 ((gI (pI (pR S (p1 + 1) (gI S p1 3).toNatClampNeg (some p2)) p1 3 ((gI (pR S (p1 + 1) (gI S p1 3).toNatClampNeg (some p2)) p1 3) + 1)) 0 3) + 1)) (p1 + 2) 0 ((gI (pI (pR (pI (pR S (p1 + 1) (gI S p1 3).toNatClampNeg (some p2)) p1 3 ((gI (pR S (p1 + 1) (gI S p1 3).toNatClampNeg (some p2)) p1 3) + 1)) 1 (gI (pI (pR S (p1 + 1) (gI S p1 3).toNatClampNeg (some p2)) p1 3 ((gI (pR S (p1 + 1) (gI S p1 3).toNatClampNeg (some p2)) p1 3) + 1)) 0 3).toNatClampNeg (some p2)) 0 3 ((gI (pI (pR S (p1 + 1) (gI S p1 3).toNatClampNeg (some p2)) p1 3 ((gI (pR S (p1 + 1) (gI S p1 3).toNatClampNeg (some p2)) p1 3) + 1)) 0 3) + 1)) (p1 + 2) 0) + (gI (pI (pR (pI (pR S (p1 + 1) (gI S p1 3).toNatClampNeg (some p2)) p1 3 ((gI (pR S (p1 + 1) (gI S p1 3).toNatClampNeg (some p2)) p1 3) + 1)) 1 (gI (pI (pR S (p1 + 1) (gI S p1 3).toNatClampNeg (some p2)) p1 3 ((gI (pR S (p1 + 1) (gI S p1 3).toNatClampNeg (some p2)) p1 3) + 1)) 0 3).toNatClampNeg (some p2)) 0 3 ((gI (pI (pR S (p1 + 1) (gI S p1 3).toNatClampNeg (some p2)) p1 3 ((gI (pR S (p1 + 1) (gI S p1 3).toNatClampNeg (some p2)) p1 3) + 1)) 0 3) + 1)) p2 8))) 0 4)) (p1 + 2) 8 0) 0 0)))))) ∧ (¬ (gI S 0 3) < 400 → (Q S))))) : Cv K4_putUnderWay [vr 0, vr p1, vr p2] S Q := by
  refine Cv.intro rfl (Nat.le_of_ble_eq_true rfl) (fun X O => ?_)
  replace h := h X O
  have C := O.1
  have hn : sN S ≤ sN S := Nat.le_refl _
  show WP X 0 [(0, vr 0), (1, vr p1), (2, vr p2)] [] S 0 0
  refine r_aloadn C 1 dX4_putUnderWay_0 rfl ?_
  refine r_getI C hp1 fl_4_114 rfl dX4_putUnderWay_1 ?_
  refine r_sipush C (x := 300) dX4_putUnderWay_4 (by decide) ?_
  refine r_icmp_ge C dX4_putUnderWay_7 (tgt := 20) (by decide) (fun hc1 => ?_) (fun hc1 => ?_)
  · replace h := h.1 hc1
    exact rv O rfl dX4_putUnderWay_20 (by decide) (by decide) hF hn h
  · replace h := h.2 hc1
    refine r_aloadn C 0 dX4_putUnderWay_10 rfl ?_
    refine r_getI C (hF.k (by decide) rfl) fl_4_117 rfl dX4_putUnderWay_11 ?_
    refine r_sipush C (x := 400) dX4_putUnderWay_14 (by decide) ?_
    refine r_icmp_lt C dX4_putUnderWay_17 (tgt := 21) (by decide) (fun hc2 => ?_) (fun hc2 => ?_)
    · replace h := h.1 hc2
      refine r_aloadn C 1 dX4_putUnderWay_21 rfl ?_
      refine r_getR C hp1 fl_4_338 rfl (hF.pksR hp1) dX4_putUnderWay_22 ?_
      refine r_aloadn C 1 dX4_putUnderWay_25 rfl ?_
      refine r_getI C hp1 fl_4_114 rfl dX4_putUnderWay_26 ?_
      refine r_aloadn C 2 dX4_putUnderWay_29 rfl ?_
      obtain ⟨hi3, h⟩ := h
      have hF4 := Fx.put9s hF (a := (p1 + 1)) (k := (gI S p1 3).toNatClampNeg) (hF.pks hp1) hp2
      refine r_aast C (hF.pks hp1) (by decide) hp2 (by decide) rfl (ixL (n := 300) (Fx.pksL hp1) hi3) dX4_putUnderWay_30 ?_
      refine r_aloadn C 1 dX4_putUnderWay_31 rfl ?_
      refine r_dup C rfl dX4_putUnderWay_32 ?_
      refine r_getI C hp1 fl_4_114 rfl dX4_putUnderWay_33 ?_
      refine r_iconst C (x := 1) dX4_putUnderWay_36 (by decide) ?_
      refine r_iadd C dX4_putUnderWay_37 ?_
      refine r_putI C hp1 fl_4_114 rfl rfl dX4_putUnderWay_38 ?_
      refine r_aloadn C 0 dX4_putUnderWay_41 rfl ?_
      refine r_getR C (hF4.k (by decide) rfl) fl_4_21 rfl (o := some 1) hF4.c2 dX4_putUnderWay_42 ?_
      refine r_aloadn C 0 dX4_putUnderWay_45 rfl ?_
      refine r_getI C (hF4.k (by decide) rfl) fl_4_117 rfl dX4_putUnderWay_46 ?_
      refine r_aloadn C 2 dX4_putUnderWay_49 rfl ?_
      obtain ⟨hi5, h⟩ := h
      have hF6 := Fx.put9s hF4 (a := 1) (k := (gI (pI (pR S (p1 + 1) (gI S p1 3).toNatClampNeg (some p2)) p1 3 ((gI (pR S (p1 + 1) (gI S p1 3).toNatClampNeg (some p2)) p1 3) + 1)) 0 3).toNatClampNeg) (hF4.k (by decide) rfl) hp2
      refine r_aast C (hF4.k (by decide) rfl) (by decide) hp2 (by decide) rfl (ixL (n := 400) rfl hi5) dX4_putUnderWay_50 ?_
      refine r_aloadn C 0 dX4_putUnderWay_51 rfl ?_
      refine r_dup C rfl dX4_putUnderWay_52 ?_
      refine r_getI C (hF6.k (by decide) rfl) fl_4_117 rfl dX4_putUnderWay_53 ?_
      refine r_iconst C (x := 1) dX4_putUnderWay_56 (by decide) ?_
      refine r_iadd C dX4_putUnderWay_57 ?_
      refine r_putI C (hF6.k (by decide) rfl) fl_4_117 rfl rfl dX4_putUnderWay_58 ?_
      refine r_aloadn C 2 dX4_putUnderWay_61 rfl ?_
      refine r_getI C hp2 fl_4_165 rfl dX4_putUnderWay_62 ?_
      refine r_if_eq C dX4_putUnderWay_65 (tgt := 103) (by decide) (fun hc7 => ?_) (fun hc7 => ?_)
      · replace h := h.1 hc7
        refine r_perm [0, 1, 2] rfl ?_
        exact h
      · replace h := h.2 hc7
        refine r_aloadn C 1 dX4_putUnderWay_68 rfl ?_
        refine r_getR C hp1 fl_4_53 rfl (hF6.paceR hp1) dX4_putUnderWay_69 ?_
        refine r_dup C rfl dX4_putUnderWay_72 ?_
        refine r_getI C (hF6.pace hp1) fl_4_221 rfl dX4_putUnderWay_73 ?_
        refine r_aloadn C 2 dX4_putUnderWay_76 rfl ?_
        refine r_getI C hp2 fl_4_256 rfl dX4_putUnderWay_77 ?_
        refine r_iadd C dX4_putUnderWay_80 ?_
        refine r_putI C (hF6.pace hp1) fl_4_221 rfl rfl dX4_putUnderWay_81 ?_
        refine r_aloadn C 1 dX4_putUnderWay_84 rfl ?_
        refine r_getR C hp1 fl_4_53 rfl (hF6.paceR hp1) dX4_putUnderWay_85 ?_
        refine r_aloadn C 0 dX4_putUnderWay_88 rfl ?_
        refine r_getI C (hF6.k (by decide) rfl) fl_4_129 rfl dX4_putUnderWay_89 ?_
        refine r_putI C (hF6.pace hp1) fl_4_341 rfl rfl dX4_putUnderWay_92 ?_
        refine r_aloadn C 1 dX4_putUnderWay_95 rfl ?_
        refine r_getR C hp1 fl_4_53 rfl (hF6.paceR hp1) dX4_putUnderWay_96 ?_
        refine r_iconst C (x := 0) dX4_putUnderWay_99 (by decide) ?_
        refine r_putZ C (hF6.pace hp1) fl_4_242 rfl (Or.inl rfl) rfl dX4_putUnderWay_100 ?_
        refine r_perm [0, 1, 2] rfl ?_
        exact h
    · replace h := h.2 hc2
      exact rv O rfl dX4_putUnderWay_20 (by decide) (by decide) hF hn h
set_option maxHeartbeats 4000000 in
set_option maxRecDepth 100000 in
theorem s4_putUnderWay_103 {X : Ctx} {S0 S : Sto} {Q : Sto → Prop} (hF : Fx S) (hn : sN S0 ≤ sN S) (O : Ov X K4_putUnderWay S0 Q) {l1 : Nat} {l2 : Nat} (hl1 : al S l1 2) (hl2 : al S l2 1)  (h : (¬ (gI S l1 0) = 1 → (Q S)) ∧ ((gI S l1 0) = 1 → (((gI S 0 10) = 0 → (Q S)) ∧ (¬ (gI S 0 10) = 0 → (Q (pI S 0 12 ((gI S 0 12) + (gI S l2 8)))))))) : WP X 103 [(0, vr 0), (1, vr l1), (2, vr l2)] [] S 0 0 := by
  have C := O.1
  refine r_aloadn C 1 dX4_putUnderWay_103 rfl ?_
  refine r_getI C hl1 fl_4_276 rfl dX4_putUnderWay_104 ?_
  refine r_iconst C (x := 1) dX4_putUnderWay_107 (by decide) ?_
  refine r_icmp_ne C dX4_putUnderWay_108 (tgt := 131) (by decide) (fun hc1 => ?_) (fun hc1 => ?_)
  · replace h := h.1 hc1
    exact rv O rfl dX4_putUnderWay_131 (by decide) (by decide) hF hn h
  · replace h := h.2 hc1
    refine r_aloadn C 0 dX4_putUnderWay_111 rfl ?_
    refine r_getI C (hF.k (by decide) rfl) fl_4_120 rfl dX4_putUnderWay_112 ?_
    refine r_if_eq C dX4_putUnderWay_115 (tgt := 131) (by decide) (fun hc2 => ?_) (fun hc2 => ?_)
    · replace h := h.1 hc2
      exact rv O rfl dX4_putUnderWay_131 (by decide) (by decide) hF hn h
    · replace h := h.2 hc2
      refine r_aloadn C 0 dX4_putUnderWay_118 rfl ?_
      refine r_dup C rfl dX4_putUnderWay_119 ?_
      refine r_getI C (hF.k (by decide) rfl) fl_4_123 rfl dX4_putUnderWay_120 ?_
      refine r_aloadn C 2 dX4_putUnderWay_123 rfl ?_
      refine r_getI C hl2 fl_4_256 rfl dX4_putUnderWay_124 ?_
      refine r_iadd C dX4_putUnderWay_127 ?_
      refine r_putI C (hF.k (by decide) rfl) fl_4_123 rfl rfl dX4_putUnderWay_128 ?_
      exact rv O rfl dX4_putUnderWay_131 (by decide) (by decide) hF hn h
set_option maxHeartbeats 4000000 in
set_option maxRecDepth 100000 in
theorem e4_lookAtAddress {S : Sto} {Q : Sto → Prop} (hF : Fx S) {p1 : Nat} {p2 : Nat} (hp1 : al S p1 2) (hp2 : al S p2 1) (h : ((gI S p2 9) = 0 → (((gI S 0 10) = 0 → (Q S)) ∧ (¬ (gI S 0 10) = 0 → ((¬ (gI S p2 3) = (gI S 0 9) → (Q S)) ∧ ((gI S p2 3) = (gI S 0 9) → (Q (pI S 0 11 ((gI S 0 11) + (gI S p2 8))))))))) ∧ (¬ (gI S p2 9) = 0 → (((gI S p2 1) ≤ (gI S p1 6) → (((gI S 0 10) = 0 → (Q S)) ∧ (¬ (gI S 0 10) = 0 → ((¬ (gI S p2 3) = (gI S 0 9) → (Q S)) ∧ ((gI S p2 3) = (gI S 0 9) → (Q (pI S 0 11 ((gI S 0 11) + (gI S p2 8))))))))) ∧ (¬ (gI S p2 1) ≤ (gI S p1 6) → (((gI S p2 3) = (gI S 0 9) → (((gI S 0 10) = 0 → (Q S)) ∧ (¬ (gI S 0 10) = 0 → ((¬ (gI S p2 3) = (gI S 0 9) → (Q S)) ∧ ((gI S p2 3) = (gI S 0 9) → (Q (pI S 0 11 ((gI S 0 11) + (gI S p2 8))))))))) ∧ (¬ (gI S p2 3) = (gI S 0 9) → (Cv K0_startOver [vr (p1 + 2), vi (gI (pI (pI (pI (pI (pI S 0 9 (gI S p2 3)) 0 10 1) 0 11 0) 0 12 0) p1 11 1) 0 5), vi (gI (pI (pI (pI (pI (pI S 0 9 (gI S p2 3)) 0 10 1) 0 11 0) 0 12 0) p1 11 1) 0 4)] (pI (pI (pI (pI (pI S 0 9 (gI S p2 3)) 0 10 1) 0 11 0) 0 12 0) p1 11 1) (fun S10 => ((gI S10 0 10) = 0 → (Q S10)) ∧ (¬ (gI S10 0 10) = 0 → ((¬ (gI S10 p2 3) = (gI S10 0 9) → (Q S10)) ∧ ((gI S10 p2 3) = (gI S10 0 9) → (Q (pI S10 0 11 ((gI S10 0 11) + (gI S10 p2 8))))))))))))))) : Cv K4_lookAtAddress [vr 0, vr p1, vr p2] S Q := by
  refine Cv.intro rfl (Nat.le_of_ble_eq_true rfl) (fun X O => ?_)
  have C := O.1
  have hn : sN S ≤ sN S := Nat.le_refl _
  show WP X 0 [(0, vr 0), (1, vr p1), (2, vr p2)] [] S 0 0
  refine r_aloadn C 2 dX4_lookAtAddress_0 rfl ?_
  refine r_getI C hp2 fl_4_165 rfl dX4_lookAtAddress_1 ?_
  refine r_if_eq C dX4_lookAtAddress_4 (tgt := 72) (by decide) (fun hc1 => ?_) (fun hc1 => ?_)
  · replace h := h.1 hc1
    refine r_aloadn C 0 dX4_lookAtAddress_72 rfl ?_
    refine r_getI C (hF.k (by decide) rfl) fl_4_120 rfl dX4_lookAtAddress_73 ?_
    refine r_if_eq C dX4_lookAtAddress_76 (tgt := 103) (by decide) (fun hc2 => ?_) (fun hc2 => ?_)
    · replace h := h.1 hc2
      exact rv O rfl dX4_lookAtAddress_103 (by decide) (by decide) hF hn h
    · replace h := h.2 hc2
      refine r_aloadn C 2 dX4_lookAtAddress_79 rfl ?_
      refine r_getI C hp2 fl_4_161 rfl dX4_lookAtAddress_80 ?_
      refine r_aloadn C 0 dX4_lookAtAddress_83 rfl ?_
      refine r_getI C (hF.k (by decide) rfl) fl_4_132 rfl dX4_lookAtAddress_84 ?_
      refine r_icmp_ne C dX4_lookAtAddress_87 (tgt := 103) (by decide) (fun hc3 => ?_) (fun hc3 => ?_)
      · replace h := h.1 hc3
        exact rv O rfl dX4_lookAtAddress_103 (by decide) (by decide) hF hn h
      · replace h := h.2 hc3
        refine r_aloadn C 0 dX4_lookAtAddress_90 rfl ?_
        refine r_dup C rfl dX4_lookAtAddress_91 ?_
        refine r_getI C (hF.k (by decide) rfl) fl_4_126 rfl dX4_lookAtAddress_92 ?_
        refine r_aloadn C 2 dX4_lookAtAddress_95 rfl ?_
        refine r_getI C hp2 fl_4_256 rfl dX4_lookAtAddress_96 ?_
        refine r_iadd C dX4_lookAtAddress_99 ?_
        refine r_putI C (hF.k (by decide) rfl) fl_4_126 rfl rfl dX4_lookAtAddress_100 ?_
        exact rv O rfl dX4_lookAtAddress_103 (by decide) (by decide) hF hn h
  · replace h := h.2 hc1
    refine r_aloadn C 2 dX4_lookAtAddress_7 rfl ?_
    refine r_getI C hp2 fl_4_148 rfl dX4_lookAtAddress_8 ?_
    refine r_aloadn C 1 dX4_lookAtAddress_11 rfl ?_
    refine r_getI C hp1 fl_4_177 rfl dX4_lookAtAddress_12 ?_
    refine r_icmp_le C dX4_lookAtAddress_15 (tgt := 72) (by decide) (fun hc4 => ?_) (fun hc4 => ?_)
    · replace h := h.1 hc4
      refine r_aloadn C 0 dX4_lookAtAddress_72 rfl ?_
      refine r_getI C (hF.k (by decide) rfl) fl_4_120 rfl dX4_lookAtAddress_73 ?_
      refine r_if_eq C dX4_lookAtAddress_76 (tgt := 103) (by decide) (fun hc5 => ?_) (fun hc5 => ?_)
      · replace h := h.1 hc5
        exact rv O rfl dX4_lookAtAddress_103 (by decide) (by decide) hF hn h
      · replace h := h.2 hc5
        refine r_aloadn C 2 dX4_lookAtAddress_79 rfl ?_
        refine r_getI C hp2 fl_4_161 rfl dX4_lookAtAddress_80 ?_
        refine r_aloadn C 0 dX4_lookAtAddress_83 rfl ?_
        refine r_getI C (hF.k (by decide) rfl) fl_4_132 rfl dX4_lookAtAddress_84 ?_
        refine r_icmp_ne C dX4_lookAtAddress_87 (tgt := 103) (by decide) (fun hc6 => ?_) (fun hc6 => ?_)
        · replace h := h.1 hc6
          exact rv O rfl dX4_lookAtAddress_103 (by decide) (by decide) hF hn h
        · replace h := h.2 hc6
          refine r_aloadn C 0 dX4_lookAtAddress_90 rfl ?_
          refine r_dup C rfl dX4_lookAtAddress_91 ?_
          refine r_getI C (hF.k (by decide) rfl) fl_4_126 rfl dX4_lookAtAddress_92 ?_
          refine r_aloadn C 2 dX4_lookAtAddress_95 rfl ?_
          refine r_getI C hp2 fl_4_256 rfl dX4_lookAtAddress_96 ?_
          refine r_iadd C dX4_lookAtAddress_99 ?_
          refine r_putI C (hF.k (by decide) rfl) fl_4_126 rfl rfl dX4_lookAtAddress_100 ?_
          exact rv O rfl dX4_lookAtAddress_103 (by decide) (by decide) hF hn h
    · replace h := h.2 hc4
      refine r_aloadn C 2 dX4_lookAtAddress_18 rfl ?_
      refine r_getI C hp2 fl_4_161 rfl dX4_lookAtAddress_19 ?_
      refine r_aloadn C 0 dX4_lookAtAddress_22 rfl ?_
      refine r_getI C (hF.k (by decide) rfl) fl_4_132 rfl dX4_lookAtAddress_23 ?_
      refine r_icmp_eq C dX4_lookAtAddress_26 (tgt := 72) (by decide) (fun hc7 => ?_) (fun hc7 => ?_)
      · replace h := h.1 hc7
        refine r_aloadn C 0 dX4_lookAtAddress_72 rfl ?_
        refine r_getI C (hF.k (by decide) rfl) fl_4_120 rfl dX4_lookAtAddress_73 ?_
        refine r_if_eq C dX4_lookAtAddress_76 (tgt := 103) (by decide) (fun hc8 => ?_) (fun hc8 => ?_)
        · replace h := h.1 hc8
          exact rv O rfl dX4_lookAtAddress_103 (by decide) (by decide) hF hn h
        · replace h := h.2 hc8
          refine r_aloadn C 2 dX4_lookAtAddress_79 rfl ?_
          refine r_getI C hp2 fl_4_161 rfl dX4_lookAtAddress_80 ?_
          refine r_aloadn C 0 dX4_lookAtAddress_83 rfl ?_
          refine r_getI C (hF.k (by decide) rfl) fl_4_132 rfl dX4_lookAtAddress_84 ?_
          refine r_icmp_ne C dX4_lookAtAddress_87 (tgt := 103) (by decide) (fun hc9 => ?_) (fun hc9 => ?_)
          · replace h := h.1 hc9
            exact rv O rfl dX4_lookAtAddress_103 (by decide) (by decide) hF hn h
          · replace h := h.2 hc9
            refine r_aloadn C 0 dX4_lookAtAddress_90 rfl ?_
            refine r_dup C rfl dX4_lookAtAddress_91 ?_
            refine r_getI C (hF.k (by decide) rfl) fl_4_126 rfl dX4_lookAtAddress_92 ?_
            refine r_aloadn C 2 dX4_lookAtAddress_95 rfl ?_
            refine r_getI C hp2 fl_4_256 rfl dX4_lookAtAddress_96 ?_
            refine r_iadd C dX4_lookAtAddress_99 ?_
            refine r_putI C (hF.k (by decide) rfl) fl_4_126 rfl rfl dX4_lookAtAddress_100 ?_
            exact rv O rfl dX4_lookAtAddress_103 (by decide) (by decide) hF hn h
      · replace h := h.2 hc7
        refine r_aloadn C 0 dX4_lookAtAddress_29 rfl ?_
        refine r_aloadn C 2 dX4_lookAtAddress_30 rfl ?_
        refine r_getI C hp2 fl_4_161 rfl dX4_lookAtAddress_31 ?_
        refine r_putI C (hF.k (by decide) rfl) fl_4_132 rfl rfl dX4_lookAtAddress_34 ?_
        refine r_aloadn C 0 dX4_lookAtAddress_37 rfl ?_
        refine r_iconst C (x := 1) dX4_lookAtAddress_38 (by decide) ?_
        refine r_putZ C (hF.k (by decide) rfl) fl_4_120 rfl (Or.inr rfl) rfl dX4_lookAtAddress_39 ?_
        refine r_aloadn C 0 dX4_lookAtAddress_42 rfl ?_
        refine r_iconst C (x := 0) dX4_lookAtAddress_43 (by decide) ?_
        refine r_putI C (hF.k (by decide) rfl) fl_4_126 rfl rfl dX4_lookAtAddress_44 ?_
        refine r_aloadn C 0 dX4_lookAtAddress_47 rfl ?_
        refine r_iconst C (x := 0) dX4_lookAtAddress_48 (by decide) ?_
        refine r_putI C (hF.k (by decide) rfl) fl_4_123 rfl rfl dX4_lookAtAddress_49 ?_
        refine r_aloadn C 1 dX4_lookAtAddress_52 rfl ?_
        refine r_iconst C (x := 1) dX4_lookAtAddress_53 (by decide) ?_
        refine r_putZ C hp1 fl_4_303 rfl (Or.inr rfl) rfl dX4_lookAtAddress_54 ?_
        refine r_aloadn C 1 dX4_lookAtAddress_57 rfl ?_
        refine r_getR C hp1 fl_4_53 rfl (hF.paceR hp1) dX4_lookAtAddress_58 ?_
        refine r_aloadn C 0 dX4_lookAtAddress_61 rfl ?_
        refine r_getI C (hF.k (by decide) rfl) fl_4_7 rfl dX4_lookAtAddress_62 ?_
        refine r_aloadn C 0 dX4_lookAtAddress_65 rfl ?_
        refine r_getI C (hF.k (by decide) rfl) fl_4_129 rfl dX4_lookAtAddress_66 ?_
        refine r_callVv C K0_startOver [vi (gI (pI (pI (pI (pI (pI S 0 9 (gI S p2 3)) 0 10 1) 0 11 0) 0 12 0) p1 11 1) 0 5), vi (gI (pI (pI (pI (pI (pI S 0 9 (gI S p2 3)) 0 10 1) 0 11 0) 0 12 0) p1 11 1) 0 4)] [] (hF.pace hp1) (by decide) rfl cl_4_344 rm_4_lookAtAddress_0_startOver ⟨rfl, rfl⟩ (by decide) (by decide) rfl (Nat.le_of_ble_eq_true rfl) dX4_lookAtAddress_69 h (fun S10 hF10 hn10 h => ?_)
        refine r_aloadn C 0 dX4_lookAtAddress_72 rfl ?_
        refine r_getI C (hF10.k (by decide) rfl) fl_4_120 rfl dX4_lookAtAddress_73 ?_
        refine r_if_eq C dX4_lookAtAddress_76 (tgt := 103) (by decide) (fun hc11 => ?_) (fun hc11 => ?_)
        · replace h := h.1 hc11
          exact rv O rfl dX4_lookAtAddress_103 (by decide) (by decide) hF10 (Nat.le_trans hn hn10) h
        · replace h := h.2 hc11
          refine r_aloadn C 2 dX4_lookAtAddress_79 rfl ?_
          refine r_getI C (al.mono hp2 hn10) fl_4_161 rfl dX4_lookAtAddress_80 ?_
          refine r_aloadn C 0 dX4_lookAtAddress_83 rfl ?_
          refine r_getI C (hF10.k (by decide) rfl) fl_4_132 rfl dX4_lookAtAddress_84 ?_
          refine r_icmp_ne C dX4_lookAtAddress_87 (tgt := 103) (by decide) (fun hc12 => ?_) (fun hc12 => ?_)
          · replace h := h.1 hc12
            exact rv O rfl dX4_lookAtAddress_103 (by decide) (by decide) hF10 (Nat.le_trans hn hn10) h
          · replace h := h.2 hc12
            refine r_aloadn C 0 dX4_lookAtAddress_90 rfl ?_
            refine r_dup C rfl dX4_lookAtAddress_91 ?_
            refine r_getI C (hF10.k (by decide) rfl) fl_4_126 rfl dX4_lookAtAddress_92 ?_
            refine r_aloadn C 2 dX4_lookAtAddress_95 rfl ?_
            refine r_getI C (al.mono hp2 hn10) fl_4_256 rfl dX4_lookAtAddress_96 ?_
            refine r_iadd C dX4_lookAtAddress_99 ?_
            refine r_putI C (hF10.k (by decide) rfl) fl_4_126 rfl rfl dX4_lookAtAddress_100 ?_
            exact rv O rfl dX4_lookAtAddress_103 (by decide) (by decide) hF10 (Nat.le_trans hn hn10) h
set_option maxHeartbeats 4000000 in
set_option maxRecDepth 100000 in
theorem e4_takeParts {S : Sto} {Q : Sto → Prop} (hF : Fx S) {p1 : Nat} {p2 : Nat} (hp1 : al S p1 2) (hp2 : al S p2 1) (h : ∀ X : Ctx, Ov X K4_takeParts S Q → WP X 2 [(0, vr 0), (1, vr p1), (2, vr p2), (3, vi 0)] [] S 0 0) : Cv K4_takeParts [vr 0, vr p1, vr p2] S Q := by
  refine Cv.intro rfl (Nat.le_of_ble_eq_true rfl) (fun X O => ?_)
  replace h := h X O
  have C := O.1
  have hn : sN S ≤ sN S := Nat.le_refl _
  show WP X 0 [(0, vr 0), (1, vr p1), (2, vr p2)] [] S 0 0
  refine r_iconst C (x := 0) dX4_takeParts_0 (by decide) ?_
  refine r_istoren C dX4_takeParts_1 (by decide) rfl rfl ?_
  refine r_perm [1, 2, 3, 0] rfl ?_
  exact h
set_option maxHeartbeats 4000000 in
set_option maxRecDepth 100000 in
theorem s4_takeParts_2 {X : Ctx} {S0 S : Sto} {Q : Sto → Prop} (hF : Fx S) (hn : sN S0 ≤ sN S) (O : Ov X K4_takeParts S0 Q) {l1 : Nat} {l2 : Nat} {l3 : Int32} (hl1 : al S l1 2) (hl2 : al S l2 1)  (h : ((gI S l2 7) ≤ l3 → (Q S)) ∧ (¬ (gI S l2 7) ≤ l3 → ((0 ≤ (((l3 * 4) + 1) : Int32).toInt ∧ (((l3 * 4) + 1) : Int32).toInt < (64 : Nat)) ∧ (Co K4_streamAt [vr 0, vi ((if ((l3 * 4) + 1) < 0 then 0 else (if ((l3 * 4) + 1) < 64 then (gI S (l2 + 1) ((l3 * 4) + 1).toNatClampNeg) else 0 : Int32) : Int32))] S (fun x4 S4 => (∀ b, x4 = some b → al S4 b 3) ∧ ((0 ≤ (((l3 * 4) + 2) : Int32).toInt ∧ (((l3 * 4) + 2) : Int32).toInt < (64 : Nat)) ∧ ((0 ≤ (((l3 * 4) + 3) : Int32).toInt ∧ (((l3 * 4) + 3) : Int32).toInt < (64 : Nat)) ∧ ((∀ b10 : Nat, x4 = some b10 → ((0 ≤ (((l3 * 4) + 0) : Int32).toInt ∧ (((l3 * 4) + 0) : Int32).toInt < (64 : Nat)) ∧ ((((if ((l3 * 4) + 0) < 0 then 0 else (if ((l3 * 4) + 0) < 64 then (gI S4 (l2 + 1) ((l3 * 4) + 0).toNatClampNeg) else 0 : Int32) : Int32)) = 1 → (Cv K4_takeTold [vr 0, vr l1, vr l2] S4 (fun S15 => WP X 2 [(0, vr 0), (1, vr l1), (2, vr l2), (3, vi (l3 + 1))] [] S15 0 0))) ∧ (((if ((l3 * 4) + 0) < 0 then 0 else (if ((l3 * 4) + 0) < 64 then (gI S4 (l2 + 1) ((l3 * 4) + 0).toNatClampNeg) else 0 : Int32) : Int32)) = 2 → (WP X 2 [(0, vr 0), (1, vr l1), (2, vr l2), (3, vi (l3 + 1))] [] (pI S4 b10 8 (if (gI S4 b10 8) < ((if ((l3 * 4) + 2) < 0 then 0 else (if ((l3 * 4) + 2) < 64 then (gI S4 (l2 + 1) ((l3 * 4) + 2).toNatClampNeg) else 0 : Int32) : Int32)) then ((if ((l3 * 4) + 2) < 0 then 0 else (if ((l3 * 4) + 2) < 64 then (gI S4 (l2 + 1) ((l3 * 4) + 2).toNatClampNeg) else 0 : Int32) : Int32)) else (gI S4 b10 8))) 0 0)) ∧ (((if ((l3 * 4) + 0) < 0 then 0 else (if ((l3 * 4) + 0) < 64 then (gI S4 (l2 + 1) ((l3 * 4) + 0).toNatClampNeg) else 0 : Int32) : Int32)) = 3 → (WP X 2 [(0, vr 0), (1, vr l1), (2, vr l2), (3, vi (l3 + 1))] [] (pI S4 l1 8 (if (gI S4 l1 8) < ((if ((l3 * 4) + 2) < 0 then 0 else (if ((l3 * 4) + 2) < 64 then (gI S4 (l2 + 1) ((l3 * 4) + 2).toNatClampNeg) else 0 : Int32) : Int32)) then ((if ((l3 * 4) + 2) < 0 then 0 else (if ((l3 * 4) + 2) < 64 then (gI S4 (l2 + 1) ((l3 * 4) + 2).toNatClampNeg) else 0 : Int32) : Int32)) else (gI S4 l1 8))) 0 0)) ∧ (((if ((l3 * 4) + 0) < 0 then 0 else (if ((l3 * 4) + 0) < 64 then (gI S4 (l2 + 1) ((l3 * 4) + 0).toNatClampNeg) else 0 : Int32) : Int32)) = 4 → (Cv K3_markCame [vr b10, vi ((if ((l3 * 4) + 2) < 0 then 0 else (if ((l3 * 4) + 2) < 64 then (gI S4 (l2 + 1) ((l3 * 4) + 2).toNatClampNeg) else 0 : Int32) : Int32)), vi (((if ((l3 * 4) + 3) < 0 then 0 else (if ((l3 * 4) + 3) < 64 then (gI S4 (l2 + 1) ((l3 * 4) + 3).toNatClampNeg) else 0 : Int32) : Int32)) - ((if ((l3 * 4) + 3) < 0 then 0 else (if ((l3 * 4) + 3) < 64 then (gI S4 (l2 + 1) ((l3 * 4) + 3).toNatClampNeg) else 0 : Int32) : Int32)) / 10000 * 10000)] S4 (fun S16 => (((if ((l3 * 4) + 3) < 0 then 0 else (if ((l3 * 4) + 3) < 64 then (gI S4 (l2 + 1) ((l3 * 4) + 3).toNatClampNeg) else 0 : Int32) : Int32)) < 10000 → (WP X 2 [(0, vr 0), (1, vr l1), (2, vr l2), (3, vi (l3 + 1))] [] S16 0 0)) ∧ (¬ ((if ((l3 * 4) + 3) < 0 then 0 else (if ((l3 * 4) + 3) < 64 then (gI S4 (l2 + 1) ((l3 * 4) + 3).toNatClampNeg) else 0 : Int32) : Int32)) < 10000 → (WP X 2 [(0, vr 0), (1, vr l1), (2, vr l2), (3, vi (l3 + 1))] [] (pI S16 b10 15 (((if ((l3 * 4) + 2) < 0 then 0 else (if ((l3 * 4) + 2) < 64 then (gI S4 (l2 + 1) ((l3 * 4) + 2).toNatClampNeg) else 0 : Int32) : Int32)) + (((if ((l3 * 4) + 3) < 0 then 0 else (if ((l3 * 4) + 3) < 64 then (gI S4 (l2 + 1) ((l3 * 4) + 3).toNatClampNeg) else 0 : Int32) : Int32)) - ((if ((l3 * 4) + 3) < 0 then 0 else (if ((l3 * 4) + 3) < 64 then (gI S4 (l2 + 1) ((l3 * 4) + 3).toNatClampNeg) else 0 : Int32) : Int32)) / 10000 * 10000))) 0 0))))) ∧ (((if ((l3 * 4) + 0) < 0 then 0 else (if ((l3 * 4) + 0) < 64 then (gI S4 (l2 + 1) ((l3 * 4) + 0).toNatClampNeg) else 0 : Int32) : Int32)) = 5 → (WP X 2 [(0, vr 0), (1, vr l1), (2, vr l2), (3, vi (l3 + 1))] [] (pI S4 b10 16 1) 0 0)) ∧ (((if ((l3 * 4) + 0) < 0 then 0 else (if ((l3 * 4) + 0) < 64 then (gI S4 (l2 + 1) ((l3 * 4) + 0).toNatClampNeg) else 0 : Int32) : Int32)) = 6 → (WP X 2 [(0, vr 0), (1, vr l1), (2, vr l2), (3, vi (l3 + 1))] [] (pI S4 l1 12 ((if ((l3 * 4) + 2) < 0 then 0 else (if ((l3 * 4) + 2) < 64 then (gI S4 (l2 + 1) ((l3 * 4) + 2).toNatClampNeg) else 0 : Int32) : Int32))) 0 0)) ∧ (((if ((l3 * 4) + 0) < 0 then 0 else (if ((l3 * 4) + 0) < 64 then (gI S4 (l2 + 1) ((l3 * 4) + 0).toNatClampNeg) else 0 : Int32) : Int32)) = 7 → ((¬ (gI S4 l1 0) = 1 → (WP X 2 [(0, vr 0), (1, vr l1), (2, vr l2), (3, vi (l3 + 1))] [] S4 0 0)) ∧ ((gI S4 l1 0) = 1 → ((¬ ((if ((l3 * 4) + 2) < 0 then 0 else (if ((l3 * 4) + 2) < 64 then (gI S4 (l2 + 1) ((l3 * 4) + 2).toNatClampNeg) else 0 : Int32) : Int32)) = (gI S4 0 9) → (WP X 2 [(0, vr 0), (1, vr l1), (2, vr l2), (3, vi (l3 + 1))] [] S4 0 0)) ∧ (((if ((l3 * 4) + 2) < 0 then 0 else (if ((l3 * 4) + 2) < 64 then (gI S4 (l2 + 1) ((l3 * 4) + 2).toNatClampNeg) else 0 : Int32) : Int32)) = (gI S4 0 9) → (WP X 2 [(0, vr 0), (1, vr l1), (2, vr l2), (3, vi (l3 + 1))] [] (pI S4 0 10 0) 0 0)))))) ∧ (¬ ((if ((l3 * 4) + 0) < 0 then 0 else (if ((l3 * 4) + 0) < 64 then (gI S4 (l2 + 1) ((l3 * 4) + 0).toNatClampNeg) else 0 : Int32) : Int32)) = 1 → ¬ ((if ((l3 * 4) + 0) < 0 then 0 else (if ((l3 * 4) + 0) < 64 then (gI S4 (l2 + 1) ((l3 * 4) + 0).toNatClampNeg) else 0 : Int32) : Int32)) = 2 → ¬ ((if ((l3 * 4) + 0) < 0 then 0 else (if ((l3 * 4) + 0) < 64 then (gI S4 (l2 + 1) ((l3 * 4) + 0).toNatClampNeg) else 0 : Int32) : Int32)) = 3 → ¬ ((if ((l3 * 4) + 0) < 0 then 0 else (if ((l3 * 4) + 0) < 64 then (gI S4 (l2 + 1) ((l3 * 4) + 0).toNatClampNeg) else 0 : Int32) : Int32)) = 4 → ¬ ((if ((l3 * 4) + 0) < 0 then 0 else (if ((l3 * 4) + 0) < 64 then (gI S4 (l2 + 1) ((l3 * 4) + 0).toNatClampNeg) else 0 : Int32) : Int32)) = 5 → ¬ ((if ((l3 * 4) + 0) < 0 then 0 else (if ((l3 * 4) + 0) < 64 then (gI S4 (l2 + 1) ((l3 * 4) + 0).toNatClampNeg) else 0 : Int32) : Int32)) = 6 → ¬ ((if ((l3 * 4) + 0) < 0 then 0 else (if ((l3 * 4) + 0) < 64 then (gI S4 (l2 + 1) ((l3 * 4) + 0).toNatClampNeg) else 0 : Int32) : Int32)) = 7 → (WP X 2 [(0, vr 0), (1, vr l1), (2, vr l2), (3, vi (l3 + 1))] [] S4 0 0))))) ∧ (x4 = none → (WP X 2 [(0, vr 0), (1, vr l1), (2, vr l2), (3, vi (l3 + 1))] [] S4 0 0)))))))))) : WP X 2 [(0, vr 0), (1, vr l1), (2, vr l2), (3, vi l3)] [] S 0 0 := by
  have C := O.1
  refine r_iloadn C 3 dX4_takeParts_2 rfl ?_
  refine r_aloadn C 2 dX4_takeParts_3 rfl ?_
  refine r_getI C hl2 fl_4_142 rfl dX4_takeParts_4 ?_
  refine r_icmp_ge C dX4_takeParts_7 (tgt := 226) (by decide) (fun hc1 => ?_) (fun hc1 => ?_)
  · replace h := h.1 hc1
    exact rv O rfl dX4_takeParts_226 (by decide) (by decide) hF hn h
  · replace h := h.2 hc1
    refine r_aloadn C 0 dX4_takeParts_10 rfl ?_
    refine r_aloadn C 2 dX4_takeParts_11 rfl ?_
    refine r_iloadn C 3 dX4_takeParts_12 rfl ?_
    refine r_iconst C (x := 1) dX4_takeParts_13 (by decide) ?_
    obtain ⟨ho2, h⟩ := h
    refine r_callVi C K1_partAt [vi l3, vi 1] [vr 0] hl2 (by decide) rfl cl_4_265 rm_4_takeParts_1_partAt ⟨rfl, rfl⟩ (by decide) (by decide) rfl (Nat.le_of_ble_eq_true rfl) dX4_takeParts_14 (q1_partAt (S := S) hF hl2 ho2) (fun x3 _ _ _ hq => ?_)
    obtain ⟨hqa, hqb⟩ := hq; obtain rfl := hqa.symm; obtain rfl := hqb.symm
    refine r_callVo C K4_streamAt [vi ((if ((l3 * 4) + 1) < 0 then 0 else (if ((l3 * 4) + 1) < 64 then (gI S (l2 + 1) ((l3 * 4) + 1).toNatClampNeg) else 0 : Int32) : Int32))] [] (hF.k (by decide) rfl) (by decide) rfl cl_4_68 rm_4_takeParts_4_streamAt ⟨rfl, rfl⟩ (by decide) (by decide) rfl (Nat.le_of_ble_eq_true rfl) dX4_takeParts_17 h (fun x4 S4 hF4 hn4 h => ?_)
    obtain ⟨hk5, h⟩ := h
    refine r_astore C dX4_takeParts_20 (by decide) rfl rfl ?_
    refine r_aloadn C 3 dX4_takeParts_22 rfl ?_
    refine r_iloadn C 4 dX4_takeParts_23 rfl ?_
    refine r_iconst C (x := 2) dX4_takeParts_24 (by decide) ?_
    obtain ⟨ho6, h⟩ := h
    refine r_callVi C K1_partAt [vi l3, vi 2] [] (al.mono hl2 hn4) (by decide) rfl cl_4_265 rm_4_takeParts_1_partAt ⟨rfl, rfl⟩ (by decide) (by decide) rfl (Nat.le_of_ble_eq_true rfl) dX4_takeParts_25 (q1_partAt (S := S4) hF4 (al.mono hl2 hn4) ho6) (fun x7 _ _ _ hq => ?_)
    obtain ⟨hqa, hqb⟩ := hq; obtain rfl := hqa.symm; obtain rfl := hqb.symm
    refine r_istore C dX4_takeParts_28 (by decide) rfl rfl ?_
    refine r_aloadn C 4 dX4_takeParts_30 rfl ?_
    refine r_iloadn C 5 dX4_takeParts_31 rfl ?_
    refine r_iconst C (x := 3) dX4_takeParts_32 (by decide) ?_
    obtain ⟨ho8, h⟩ := h
    refine r_callVi C K1_partAt [vi l3, vi 3] [] (al.mono hl2 hn4) (by decide) rfl cl_4_265 rm_4_takeParts_1_partAt ⟨rfl, rfl⟩ (by decide) (by decide) rfl (Nat.le_of_ble_eq_true rfl) dX4_takeParts_33 (q1_partAt (S := S4) hF4 (al.mono hl2 hn4) ho8) (fun x9 _ _ _ hq => ?_)
    obtain ⟨hqa, hqb⟩ := hq; obtain rfl := hqa.symm; obtain rfl := hqb.symm
    refine r_istore C dX4_takeParts_36 (by decide) rfl rfl ?_
    refine r_aload C 2 dX4_takeParts_38 rfl ?_
    refine r_ifnonnull C dX4_takeParts_40 (tgt := 47) (by decide) (fun b10 hb11 => ?_) (fun hb11 => ?_)
    · replace h := h.1 b10 hb11
      try rw [hb11]
      refine r_aloadn C 5 dX4_takeParts_47 rfl ?_
      refine r_iloadn C 6 dX4_takeParts_48 rfl ?_
      refine r_iconst C (x := 0) dX4_takeParts_49 (by decide) ?_
      obtain ⟨ho12, h⟩ := h
      refine r_callVi C K1_partAt [vi l3, vi 0] [] (al.mono hl2 hn4) (by decide) rfl cl_4_265 rm_4_takeParts_1_partAt ⟨rfl, rfl⟩ (by decide) (by decide) rfl (Nat.le_of_ble_eq_true rfl) dX4_takeParts_50 (q1_partAt (S := S4) hF4 (al.mono hl2 hn4) ho12) (fun x13 _ _ _ hq => ?_)
      obtain ⟨hqa, hqb⟩ := hq; obtain rfl := hqa.symm; obtain rfl := hqb.symm
      refine r_table C dX4_takeParts_53 rfl (by decide) (fun i off hi hx14 => ?_) (fun hx14 => ?_)
      · have hlt : i < 7 := (Array.getElem?_eq_some_iff.mp hi).1
        obtain rfl | rfl | rfl | rfl | rfl | rfl | rfl : i = 0 ∨ i = 1 ∨ i = 2 ∨ i = 3 ∨ i = 4 ∨ i = 5 ∨ i = 6 := by omega
        · obtain rfl := Option.some.inj hi
          replace h := h.1 (hx14.trans (by decide))
          refine ⟨96, by decide, ?_⟩
          refine r_aloadn C 3 dX4_takeParts_96 rfl ?_
          refine r_aloadn C 4 dX4_takeParts_97 rfl ?_
          refine r_aloadn C 5 dX4_takeParts_98 rfl ?_
          refine r_callVv C K4_takeTold [vr l1, vr l2] [] (hF4.k (by decide) rfl) (by decide) rfl cl_4_347 rm_4_takeParts_4_takeTold ⟨rfl, rfl⟩ (by decide) (by decide) rfl (Nat.le_of_ble_eq_true rfl) dX4_takeParts_99 h (fun S15 hF15 hn15 h => ?_)
          refine r_goto C dX4_takeParts_102 (tgt := 220) (by decide) ?_
          refine r_iinc C (y := (l3 + 1)) 6 dX4_takeParts_220 rfl rfl (by decide) rfl rfl ?_
          refine r_goto C dX4_takeParts_223 (tgt := 2) (by decide) ?_
          refine r_perm [4, 5, 6, 0] rfl ?_
          exact h
        · obtain rfl := Option.some.inj hi
          replace h := h.2.1 (hx14.trans (by decide))
          refine ⟨105, by decide, ?_⟩
          refine r_aload C 2 dX4_takeParts_105 rfl ?_
          refine r_aload C 2 dX4_takeParts_107 rfl ?_
          refine r_getI C (hk5 _ hb11) fl_4_47 rfl dX4_takeParts_109 ?_
          refine r_iload C 1 dX4_takeParts_112 rfl ?_
          refine r_max C mw_4_180 (by decide) (Nat.le_of_ble_eq_true rfl) (by decide) (by decide) dX4_takeParts_114 ?_
          refine r_putI C (hk5 _ hb11) fl_4_47 rfl rfl dX4_takeParts_117 ?_
          refine r_goto C dX4_takeParts_120 (tgt := 220) (by decide) ?_
          refine r_iinc C (y := (l3 + 1)) 6 dX4_takeParts_220 rfl rfl (by decide) rfl rfl ?_
          refine r_goto C dX4_takeParts_223 (tgt := 2) (by decide) ?_
          refine r_perm [4, 5, 6, 0] rfl ?_
          exact h
        · obtain rfl := Option.some.inj hi
          replace h := h.2.2.1 (hx14.trans (by decide))
          refine ⟨123, by decide, ?_⟩
          refine r_aloadn C 4 dX4_takeParts_123 rfl ?_
          refine r_aloadn C 4 dX4_takeParts_124 rfl ?_
          refine r_getI C (al.mono hl1 hn4) fl_4_62 rfl dX4_takeParts_125 ?_
          refine r_iload C 1 dX4_takeParts_128 rfl ?_
          refine r_max C mw_4_180 (by decide) (Nat.le_of_ble_eq_true rfl) (by decide) (by decide) dX4_takeParts_130 ?_
          refine r_putI C (al.mono hl1 hn4) fl_4_62 rfl rfl dX4_takeParts_133 ?_
          refine r_goto C dX4_takeParts_136 (tgt := 220) (by decide) ?_
          refine r_iinc C (y := (l3 + 1)) 6 dX4_takeParts_220 rfl rfl (by decide) rfl rfl ?_
          refine r_goto C dX4_takeParts_223 (tgt := 2) (by decide) ?_
          refine r_perm [4, 5, 6, 0] rfl ?_
          exact h
        · obtain rfl := Option.some.inj hi
          replace h := h.2.2.2.1 (hx14.trans (by decide))
          refine ⟨139, by decide, ?_⟩
          refine r_aload C 2 dX4_takeParts_139 rfl ?_
          refine r_iload C 1 dX4_takeParts_141 rfl ?_
          refine r_iload C 0 dX4_takeParts_143 rfl ?_
          refine r_sipush C (x := 10000) dX4_takeParts_145 (by decide) ?_
          refine r_irem C dX4_takeParts_148 (by decide) ?_
          refine r_callVv C K3_markCame [vi ((if ((l3 * 4) + 2) < 0 then 0 else (if ((l3 * 4) + 2) < 64 then (gI S4 (l2 + 1) ((l3 * 4) + 2).toNatClampNeg) else 0 : Int32) : Int32)), vi (((if ((l3 * 4) + 3) < 0 then 0 else (if ((l3 * 4) + 3) < 64 then (gI S4 (l2 + 1) ((l3 * 4) + 3).toNatClampNeg) else 0 : Int32) : Int32)) - ((if ((l3 * 4) + 3) < 0 then 0 else (if ((l3 * 4) + 3) < 64 then (gI S4 (l2 + 1) ((l3 * 4) + 3).toNatClampNeg) else 0 : Int32) : Int32)) / 10000 * 10000)] [] (hk5 _ hb11) (by decide) rfl cl_4_350 rm_4_takeParts_3_markCame ⟨rfl, rfl⟩ (by decide) (by decide) rfl (Nat.le_of_ble_eq_true rfl) dX4_takeParts_149 h (fun S16 hF16 hn16 h => ?_)
          refine r_iload C 0 dX4_takeParts_152 rfl ?_
          refine r_sipush C (x := 10000) dX4_takeParts_154 (by decide) ?_
          refine r_icmp_lt C dX4_takeParts_157 (tgt := 220) (by decide) (fun hc17 => ?_) (fun hc17 => ?_)
          · replace h := h.1 hc17
            refine r_iinc C (y := (l3 + 1)) 6 dX4_takeParts_220 rfl rfl (by decide) rfl rfl ?_
            refine r_goto C dX4_takeParts_223 (tgt := 2) (by decide) ?_
            refine r_perm [4, 5, 6, 0] rfl ?_
            exact h
          · replace h := h.2 hc17
            refine r_aload C 2 dX4_takeParts_160 rfl ?_
            refine r_iload C 1 dX4_takeParts_162 rfl ?_
            refine r_iload C 0 dX4_takeParts_164 rfl ?_
            refine r_sipush C (x := 10000) dX4_takeParts_166 (by decide) ?_
            refine r_irem C dX4_takeParts_169 (by decide) ?_
            refine r_iadd C dX4_takeParts_170 ?_
            refine r_putI C (al.mono (hk5 _ hb11) hn16) fl_4_211 rfl rfl dX4_takeParts_171 ?_
            refine r_goto C dX4_takeParts_174 (tgt := 220) (by decide) ?_
            refine r_iinc C (y := (l3 + 1)) 6 dX4_takeParts_220 rfl rfl (by decide) rfl rfl ?_
            refine r_goto C dX4_takeParts_223 (tgt := 2) (by decide) ?_
            refine r_perm [4, 5, 6, 0] rfl ?_
            exact h
        · obtain rfl := Option.some.inj hi
          replace h := h.2.2.2.2.1 (hx14.trans (by decide))
          refine ⟨177, by decide, ?_⟩
          refine r_aload C 2 dX4_takeParts_177 rfl ?_
          refine r_iconst C (x := 1) dX4_takeParts_179 (by decide) ?_
          refine r_putZ C (hk5 _ hb11) fl_4_214 rfl (Or.inr rfl) rfl dX4_takeParts_180 ?_
          refine r_goto C dX4_takeParts_183 (tgt := 220) (by decide) ?_
          refine r_iinc C (y := (l3 + 1)) 6 dX4_takeParts_220 rfl rfl (by decide) rfl rfl ?_
          refine r_goto C dX4_takeParts_223 (tgt := 2) (by decide) ?_
          refine r_perm [4, 5, 6, 0] rfl ?_
          exact h
        · obtain rfl := Option.some.inj hi
          replace h := h.2.2.2.2.2.1 (hx14.trans (by decide))
          refine ⟨186, by decide, ?_⟩
          refine r_aloadn C 4 dX4_takeParts_186 rfl ?_
          refine r_iload C 1 dX4_takeParts_187 rfl ?_
          refine r_putI C (al.mono hl1 hn4) fl_4_300 rfl rfl dX4_takeParts_189 ?_
          refine r_goto C dX4_takeParts_192 (tgt := 220) (by decide) ?_
          refine r_iinc C (y := (l3 + 1)) 6 dX4_takeParts_220 rfl rfl (by decide) rfl rfl ?_
          refine r_goto C dX4_takeParts_223 (tgt := 2) (by decide) ?_
          refine r_perm [4, 5, 6, 0] rfl ?_
          exact h
        · obtain rfl := Option.some.inj hi
          replace h := h.2.2.2.2.2.2.1 (hx14.trans (by decide))
          refine ⟨195, by decide, ?_⟩
          refine r_aloadn C 4 dX4_takeParts_195 rfl ?_
          refine r_getI C (al.mono hl1 hn4) fl_4_276 rfl dX4_takeParts_196 ?_
          refine r_iconst C (x := 1) dX4_takeParts_199 (by decide) ?_
          refine r_icmp_ne C dX4_takeParts_200 (tgt := 220) (by decide) (fun hc18 => ?_) (fun hc18 => ?_)
          · replace h := h.1 hc18
            refine r_iinc C (y := (l3 + 1)) 6 dX4_takeParts_220 rfl rfl (by decide) rfl rfl ?_
            refine r_goto C dX4_takeParts_223 (tgt := 2) (by decide) ?_
            refine r_perm [4, 5, 6, 0] rfl ?_
            exact h
          · replace h := h.2 hc18
            refine r_iload C 1 dX4_takeParts_203 rfl ?_
            refine r_aloadn C 3 dX4_takeParts_205 rfl ?_
            refine r_getI C (hF4.k (by decide) rfl) fl_4_132 rfl dX4_takeParts_206 ?_
            refine r_icmp_ne C dX4_takeParts_209 (tgt := 220) (by decide) (fun hc19 => ?_) (fun hc19 => ?_)
            · replace h := h.1 hc19
              refine r_iinc C (y := (l3 + 1)) 6 dX4_takeParts_220 rfl rfl (by decide) rfl rfl ?_
              refine r_goto C dX4_takeParts_223 (tgt := 2) (by decide) ?_
              refine r_perm [4, 5, 6, 0] rfl ?_
              exact h
            · replace h := h.2 hc19
              refine r_aloadn C 3 dX4_takeParts_212 rfl ?_
              refine r_iconst C (x := 0) dX4_takeParts_213 (by decide) ?_
              refine r_putZ C (hF4.k (by decide) rfl) fl_4_120 rfl (Or.inl rfl) rfl dX4_takeParts_214 ?_
              refine r_goto C dX4_takeParts_217 (tgt := 220) (by decide) ?_
              refine r_iinc C (y := (l3 + 1)) 6 dX4_takeParts_220 rfl rfl (by decide) rfl rfl ?_
              refine r_goto C dX4_takeParts_223 (tgt := 2) (by decide) ?_
              refine r_perm [4, 5, 6, 0] rfl ?_
              exact h
      · replace h := h.2.2.2.2.2.2.2 (fun e => hx14 0 (by decide) (e.trans (by decide))) (fun e => hx14 1 (by decide) (e.trans (by decide))) (fun e => hx14 2 (by decide) (e.trans (by decide))) (fun e => hx14 3 (by decide) (e.trans (by decide))) (fun e => hx14 4 (by decide) (e.trans (by decide))) (fun e => hx14 5 (by decide) (e.trans (by decide))) (fun e => hx14 6 (by decide) (e.trans (by decide)))
        refine ⟨220, by decide, ?_⟩
        refine r_iinc C (y := (l3 + 1)) 6 dX4_takeParts_220 rfl rfl (by decide) rfl rfl ?_
        refine r_goto C dX4_takeParts_223 (tgt := 2) (by decide) ?_
        refine r_perm [4, 5, 6, 0] rfl ?_
        exact h
    · replace h := h.2 hb11
      refine r_iconst C (x := 0) dX4_takeParts_43 (by decide) ?_
      refine r_goto C dX4_takeParts_44 (tgt := 53) (by decide) ?_
      refine r_table C dX4_takeParts_53 rfl (by decide) (fun i off hi hx20 => ?_) (fun hx20 => ?_)
      · have hlt : i < 7 := (Array.getElem?_eq_some_iff.mp hi).1
        obtain rfl | rfl | rfl | rfl | rfl | rfl | rfl : i = 0 ∨ i = 1 ∨ i = 2 ∨ i = 3 ∨ i = 4 ∨ i = 5 ∨ i = 6 := by omega
        · exact absurd hx20 (by decide)
        · exact absurd hx20 (by decide)
        · exact absurd hx20 (by decide)
        · exact absurd hx20 (by decide)
        · exact absurd hx20 (by decide)
        · exact absurd hx20 (by decide)
        · exact absurd hx20 (by decide)
      · refine ⟨220, by decide, ?_⟩
        refine r_iinc C (y := (l3 + 1)) 6 dX4_takeParts_220 rfl rfl (by decide) rfl rfl ?_
        refine r_goto C dX4_takeParts_223 (tgt := 2) (by decide) ?_
        refine r_perm [4, 5, 6, 0] rfl ?_
        exact h
set_option maxHeartbeats 4000000 in
set_option maxRecDepth 100000 in
theorem e4_takeTold {S : Sto} {Q : Sto → Prop} (hF : Fx S) {p1 : Nat} {p2 : Nat} (hp1 : al S p1 2) (hp2 : al S p2 1) (h : ∀ X : Ctx, Ov X K4_takeTold S Q → Co K2_packetAt [vr p1, vi (gI S (p2 + 2) 1)] S (fun x1 S1 => (∀ b, x1 = some b → al S1 b 1) ∧ ((∀ b3 : Nat, x1 = some b3 → (∀ w7 : Int32, w7 = (if (gI S1 b3 9) = 0 then 0 else (if (gI S1 b3 10) = 0 then 1 else 0 : Int32) : Int32) → (WP X 48 [(0, vr 0), (1, vr p1), (2, vr p2), (3, vi (gI S (p2 + 2) 1)), (4, vr b3), (5, vi w7), (6, vi 0), (7, vi 3)] [] S1 0 0))) ∧ (x1 = none → (WP X 48 [(0, vr 0), (1, vr p1), (2, vr p2), (3, vi (gI S (p2 + 2) 1)), (4, vo x1), (5, vi 0), (6, vi 0), (7, vi 3)] [] S1 0 0))))) : Cv K4_takeTold [vr 0, vr p1, vr p2] S Q := by
  refine Cv.intro rfl (Nat.le_of_ble_eq_true rfl) (fun X O => ?_)
  replace h := h X O
  have C := O.1
  have hn : sN S ≤ sN S := Nat.le_refl _
  show WP X 0 [(0, vr 0), (1, vr p1), (2, vr p2)] [] S 0 0
  refine r_aloadn C 2 dX4_takeTold_0 rfl ?_
  refine r_getR C hp2 fl_4_268 rfl (hF.spansR hp2) dX4_takeTold_1 ?_
  refine r_iconst C (x := 1) dX4_takeTold_4 (by decide) ?_
  refine r_iald C (hF.spans hp2) (ixL (n := 8) (Fx.spansL hp2) (ix_const (x := 1) (n := 8) (k := 1) (by decide) (by decide))) dX4_takeTold_5 ?_
  refine r_istoren C dX4_takeTold_6 (by decide) rfl rfl ?_
  refine r_aloadn C 2 dX4_takeTold_7 rfl ?_
  refine r_iloadn C 0 dX4_takeTold_8 rfl ?_
  refine r_callVo C K2_packetAt [vi (gI S (p2 + 2) 1)] [] hp1 (by decide) rfl cl_4_272 rm_4_takeTold_2_packetAt ⟨rfl, rfl⟩ (by decide) (by decide) rfl (Nat.le_of_ble_eq_true rfl) dX4_takeTold_9 h (fun x1 S1 hF1 hn1 h => ?_)
  obtain ⟨hk2, h⟩ := h
  refine r_astore C dX4_takeTold_12 (by decide) rfl rfl ?_
  refine r_aload C 0 dX4_takeTold_14 rfl ?_
  refine r_ifnull C dX4_takeTold_16 (tgt := 39) (by decide) (fun hb4 => ?_) (fun b3 hb4 => ?_)
  · replace h := h.2 hb4
    refine r_iconst C (x := 0) dX4_takeTold_39 (by decide) ?_
    refine r_istore C dX4_takeTold_40 (by decide) rfl rfl ?_
    refine r_iconst C (x := 0) dX4_takeTold_42 (by decide) ?_
    refine r_istore C dX4_takeTold_43 (by decide) rfl rfl ?_
    refine r_iconst C (x := 3) dX4_takeTold_45 (by decide) ?_
    refine r_istore C dX4_takeTold_46 (by decide) rfl rfl ?_
    refine r_perm [5, 6, 7, 4, 3, 2, 1, 0] rfl ?_
    exact h
  · replace h := h.1 b3 hb4
    try rw [hb4]
    refine r_aload C 0 dX4_takeTold_19 rfl ?_
    refine r_getI C (hk2 _ hb4) fl_4_165 rfl dX4_takeTold_21 ?_
    have kJ8 : ∀ (w7 : Int32) (_ : w7 = (if (gI S1 b3 9) = 0 then 0 else (if (gI S1 b3 10) = 0 then 1 else 0 : Int32) : Int32)), WP X 40 [(0, vr 0), (1, vr p1), (2, vr p2), (3, vi (gI S (p2 + 2) 1)), (4, vr b3)] [vi w7] S1 0 0 := by
      intro w7 hw7
      replace h := h w7 hw7
      have hz_w7 : w7 = 0 ∨ w7 = 1 := by rw [hw7]; repeat (first | exact Or.inl rfl | exact Or.inr rfl | assumption | split)
      refine r_istore C dX4_takeTold_40 (by decide) rfl rfl ?_
      refine r_iconst C (x := 0) dX4_takeTold_42 (by decide) ?_
      refine r_istore C dX4_takeTold_43 (by decide) rfl rfl ?_
      refine r_iconst C (x := 3) dX4_takeTold_45 (by decide) ?_
      refine r_istore C dX4_takeTold_46 (by decide) rfl rfl ?_
      refine r_perm [3, 4, 5, 6, 7, 2, 1, 0] rfl ?_
      exact h
    refine r_if_eq C dX4_takeTold_24 (tgt := 39) (by decide) (fun hc9 => ?_) (fun hc9 => ?_)
    · refine r_iconst C (x := 0) dX4_takeTold_39 (by decide) ?_
      refine r_perm [2, 3, 4, 1, 0] rfl ?_
      exact kJ8 _ (if_pos hc9).symm
    · refine r_aload C 0 dX4_takeTold_27 rfl ?_
      refine r_getI C (hk2 _ hb4) fl_4_259 rfl dX4_takeTold_29 ?_
      have kJ10 : WP X 40 [(0, vr 0), (1, vr p1), (2, vr p2), (3, vi (gI S (p2 + 2) 1)), (4, vr b3)] [vi (if (gI S1 b3 10) = 0 then 1 else 0 : Int32)] S1 0 0 := by
        refine r_perm [0, 1, 2, 3, 4] rfl ?_
        exact kJ8 _ (if_neg hc9).symm
      refine r_if_ne C dX4_takeTold_32 (tgt := 39) (by decide) (fun hc11 => ?_) (fun hc11 => ?_)
      · refine r_iconst C (x := 0) dX4_takeTold_39 (by decide) ?_
        refine r_perm [2, 3, 4, 1, 0] rfl ?_
        rw [show (if (gI S1 b3 10) = 0 then 1 else 0 : Int32) = 0 from if_neg hc11] at kJ10
        exact kJ10
      · refine r_iconst C (x := 1) dX4_takeTold_35 (by decide) ?_
        refine r_goto C dX4_takeTold_36 (tgt := 40) (by decide) ?_
        refine r_perm [2, 3, 4, 1, 0] rfl ?_
        rw [show (if (gI S1 b3 10) = 0 then 1 else 0 : Int32) = 1 from if_pos hc11] at kJ10
        exact kJ10
set_option maxHeartbeats 4000000 in
set_option maxRecDepth 100000 in
theorem s4_takeTold_48 {X : Ctx} {S0 S : Sto} {Q : Sto → Prop} (hF : Fx S) (hn : sN S0 ≤ sN S) (O : Ov X K4_takeTold S0 Q) {l1 : Nat} {l2 : Nat} {l3 : Int32} {l4 : Nat} {l5 : Int32} {l6 : Int32} {l7 : Int32} (hl1 : al S l1 2) (hl2 : al S l2 1) (hl4 : al S l4 1)  (h : (l7 < 0 → ((l5 = 0 → ((l6 = 0 → (Cv K4_lookForLost [vr 0, vr l1] (pI S l1 5 (if (gI S l1 5) < l3 then l3 else (gI S l1 5))) (fun S5 => Q S5))) ∧ (¬ l6 = 0 → (Cv K4_lookForLost [vr 0, vr l1] (pI (pI S l1 5 (if (gI S l1 5) < l3 then l3 else (gI S l1 5))) (l1 + 2) 7 0) (fun S6 => Q S6))))) ∧ (¬ l5 = 0 → (Cv K0_measure [vr (l1 + 2), vi ((gI (pI S l1 5 (if (gI S l1 5) < l3 then l3 else (gI S l1 5))) 0 4) - (gI (pI S l1 5 (if (gI S l1 5) < l3 then l3 else (gI S l1 5))) l4 2))] (pI S l1 5 (if (gI S l1 5) < l3 then l3 else (gI S l1 5))) (fun S7 => (l6 = 0 → (Cv K4_lookForLost [vr 0, vr l1] S7 (fun S9 => Q S9))) ∧ (¬ l6 = 0 → (Cv K4_lookForLost [vr 0, vr l1] (pI S7 (l1 + 2) 7 0) (fun S10 => Q S10)))))))) ∧ (¬ l7 < 0 → ((0 ≤ ((2 * l7) : Int32).toInt ∧ ((2 * l7) : Int32).toInt < (8 : Nat)) ∧ (WP X 68 [(0, vr 0), (1, vr l1), (2, vr l2), (3, vi l3), (4, vr l4), (5, vi l5), (6, vi l6), (7, vi l7), (8, vi (if 0 < (gI S (l2 + 2) (2 * l7).toNatClampNeg) then (gI S (l2 + 2) (2 * l7).toNatClampNeg) else 0))] [] S 0 0)))) : WP X 48 [(0, vr 0), (1, vr l1), (2, vr l2), (3, vi l3), (4, vr l4), (5, vi l5), (6, vi l6), (7, vi l7)] [] S 0 0 := by
  have C := O.1
  refine r_iload C 7 dX4_takeTold_48 rfl ?_
  refine r_if_lt C dX4_takeTold_50 (tgt := 144) (by decide) (fun hc2 => ?_) (fun hc2 => ?_)
  · replace h := h.1 hc2
    refine r_aloadn C 1 dX4_takeTold_144 rfl ?_
    refine r_aloadn C 1 dX4_takeTold_145 rfl ?_
    refine r_getI C hl1 fl_4_245 rfl dX4_takeTold_146 ?_
    refine r_iloadn C 3 dX4_takeTold_149 rfl ?_
    refine r_max C mw_4_180 (by decide) (Nat.le_of_ble_eq_true rfl) (by decide) (by decide) dX4_takeTold_150 ?_
    refine r_putI C hl1 fl_4_245 rfl rfl dX4_takeTold_153 ?_
    refine r_iload C 5 dX4_takeTold_156 rfl ?_
    refine r_if_eq C dX4_takeTold_158 (tgt := 178) (by decide) (fun hc3 => ?_) (fun hc3 => ?_)
    · replace h := h.1 hc3
      refine r_iload C 6 dX4_takeTold_178 rfl ?_
      refine r_if_eq C dX4_takeTold_180 (tgt := 191) (by decide) (fun hc4 => ?_) (fun hc4 => ?_)
      · replace h := h.1 hc4
        refine r_aloadn C 0 dX4_takeTold_191 rfl ?_
        refine r_aloadn C 1 dX4_takeTold_192 rfl ?_
        refine r_callVv C K4_lookForLost [vr l1] [] (hF.k (by decide) rfl) (by decide) rfl cl_4_186 rm_4_takeTold_4_lookForLost ⟨rfl, rfl⟩ (by decide) (by decide) rfl (Nat.le_of_ble_eq_true rfl) dX4_takeTold_193 h (fun S5 hF5 hn5 h => ?_)
        exact rv O rfl dX4_takeTold_196 (by decide) (by decide) hF5 (Nat.le_trans hn hn5) h
      · replace h := h.2 hc4
        refine r_aloadn C 1 dX4_takeTold_183 rfl ?_
        refine r_getR C hl1 fl_4_53 rfl (hF.paceR hl1) dX4_takeTold_184 ?_
        refine r_iconst C (x := 0) dX4_takeTold_187 (by decide) ?_
        refine r_putI C (hF.pace hl1) fl_4_239 rfl rfl dX4_takeTold_188 ?_
        refine r_aloadn C 0 dX4_takeTold_191 rfl ?_
        refine r_aloadn C 1 dX4_takeTold_192 rfl ?_
        refine r_callVv C K4_lookForLost [vr l1] [] (hF.k (by decide) rfl) (by decide) rfl cl_4_186 rm_4_takeTold_4_lookForLost ⟨rfl, rfl⟩ (by decide) (by decide) rfl (Nat.le_of_ble_eq_true rfl) dX4_takeTold_193 h (fun S6 hF6 hn6 h => ?_)
        exact rv O rfl dX4_takeTold_196 (by decide) (by decide) hF6 (Nat.le_trans hn hn6) h
    · replace h := h.2 hc3
      refine r_aloadn C 1 dX4_takeTold_161 rfl ?_
      refine r_getR C hl1 fl_4_53 rfl (hF.paceR hl1) dX4_takeTold_162 ?_
      refine r_aloadn C 0 dX4_takeTold_165 rfl ?_
      refine r_getI C (hF.k (by decide) rfl) fl_4_129 rfl dX4_takeTold_166 ?_
      refine r_aload C 4 dX4_takeTold_169 rfl ?_
      refine r_getI C hl4 fl_4_255 rfl dX4_takeTold_171 ?_
      refine r_isub C dX4_takeTold_174 ?_
      refine r_callVv C K0_measure [vi ((gI (pI S l1 5 (if (gI S l1 5) < l3 then l3 else (gI S l1 5))) 0 4) - (gI (pI S l1 5 (if (gI S l1 5) < l3 then l3 else (gI S l1 5))) l4 2))] [] (hF.pace hl1) (by decide) rfl cl_4_356 rm_4_takeTold_0_measure ⟨rfl, rfl⟩ (by decide) (by decide) rfl (Nat.le_of_ble_eq_true rfl) dX4_takeTold_175 h (fun S7 hF7 hn7 h => ?_)
      refine r_iload C 6 dX4_takeTold_178 rfl ?_
      refine r_if_eq C dX4_takeTold_180 (tgt := 191) (by decide) (fun hc8 => ?_) (fun hc8 => ?_)
      · replace h := h.1 hc8
        refine r_aloadn C 0 dX4_takeTold_191 rfl ?_
        refine r_aloadn C 1 dX4_takeTold_192 rfl ?_
        refine r_callVv C K4_lookForLost [vr l1] [] (hF7.k (by decide) rfl) (by decide) rfl cl_4_186 rm_4_takeTold_4_lookForLost ⟨rfl, rfl⟩ (by decide) (by decide) rfl (Nat.le_of_ble_eq_true rfl) dX4_takeTold_193 h (fun S9 hF9 hn9 h => ?_)
        exact rv O rfl dX4_takeTold_196 (by decide) (by decide) hF9 (Nat.le_trans (Nat.le_trans hn hn7) hn9) h
      · replace h := h.2 hc8
        refine r_aloadn C 1 dX4_takeTold_183 rfl ?_
        refine r_getR C (al.mono hl1 hn7) fl_4_53 rfl (hF7.paceR (al.mono hl1 hn7)) dX4_takeTold_184 ?_
        refine r_iconst C (x := 0) dX4_takeTold_187 (by decide) ?_
        refine r_putI C (hF7.pace (al.mono hl1 hn7)) fl_4_239 rfl rfl dX4_takeTold_188 ?_
        refine r_aloadn C 0 dX4_takeTold_191 rfl ?_
        refine r_aloadn C 1 dX4_takeTold_192 rfl ?_
        refine r_callVv C K4_lookForLost [vr l1] [] (hF7.k (by decide) rfl) (by decide) rfl cl_4_186 rm_4_takeTold_4_lookForLost ⟨rfl, rfl⟩ (by decide) (by decide) rfl (Nat.le_of_ble_eq_true rfl) dX4_takeTold_193 h (fun S10 hF10 hn10 h => ?_)
        exact rv O rfl dX4_takeTold_196 (by decide) (by decide) hF10 (Nat.le_trans (Nat.le_trans hn hn7) hn10) h
  · replace h := h.2 hc2
    refine r_iconst C (x := 0) dX4_takeTold_53 (by decide) ?_
    refine r_aloadn C 2 dX4_takeTold_54 rfl ?_
    refine r_getR C hl2 fl_4_268 rfl (hF.spansR hl2) dX4_takeTold_55 ?_
    refine r_iconst C (x := 2) dX4_takeTold_58 (by decide) ?_
    refine r_iload C 7 dX4_takeTold_59 rfl ?_
    refine r_imul C dX4_takeTold_61 ?_
    obtain ⟨hi11, h⟩ := h
    refine r_iald C (hF.spans hl2) (ixL (n := 8) (Fx.spansL hl2) hi11) dX4_takeTold_62 ?_
    refine r_max C mw_4_180 (by decide) (Nat.le_of_ble_eq_true rfl) (by decide) (by decide) dX4_takeTold_63 ?_
    refine r_istore C dX4_takeTold_66 (by decide) rfl rfl ?_
    refine r_perm [1, 2, 3, 4, 5, 6, 7, 8, 0] rfl ?_
    exact h
set_option maxHeartbeats 4000000 in
set_option maxRecDepth 100000 in
theorem s4_takeTold_68 {X : Ctx} {S0 S : Sto} {Q : Sto → Prop} (hF : Fx S) (hn : sN S0 ≤ sN S) (O : Ov X K4_takeTold S0 Q) {l1 : Nat} {l2 : Nat} {l3 : Int32} {l4 : Nat} {l5 : Int32} {l6 : Int32} {l7 : Int32} {l8 : Int32} (hl1 : al S l1 2) (hl2 : al S l2 1) (hl4 : al S l4 1)  (h : (0 ≤ (((2 * l7) + 1) : Int32).toInt ∧ (((2 * l7) + 1) : Int32).toInt < (8 : Nat)) ∧ (((gI S (l2 + 2) ((2 * l7) + 1).toNatClampNeg) < l8 → (WP X 48 [(0, vr 0), (1, vr l1), (2, vr l2), (3, vi l3), (4, vr l4), (5, vi l5), (6, vi l6), (7, vi (l7 + (-1)))] [] S 0 0)) ∧ (¬ (gI S (l2 + 2) ((2 * l7) + 1).toNatClampNeg) < l8 → (Co K2_packetAt [vr l1, vi l8] S (fun x3 S3 => (∀ b, x3 = some b → al S3 b 1) ∧ ((∀ b5 : Nat, x3 = some b5 → ((¬ (gI S3 b5 10) = 0 → (WP X 68 [(0, vr 0), (1, vr l1), (2, vr l2), (3, vi l3), (4, vr l4), (5, vi l5), (6, vi l6), (7, vi l7), (8, vi (l8 + 1))] [] S3 0 0)) ∧ ((gI S3 b5 10) = 0 → (∀ w14 : Int32, w14 = (if l6 = 0 then (if (gI S3 b5 9) = 0 then 0 else 1 : Int32) else 1 : Int32) → (Cv K4_settle [vr 0, vr l1, vr b5] S3 (fun S17 => WP X 68 [(0, vr 0), (1, vr l1), (2, vr l2), (3, vi l3), (4, vr l4), (5, vi l5), (6, vi w14), (7, vi l7), (8, vi (l8 + 1))] [] S17 0 0)))))) ∧ (x3 = none → (WP X 68 [(0, vr 0), (1, vr l1), (2, vr l2), (3, vi l3), (4, vr l4), (5, vi l5), (6, vi l6), (7, vi l7), (8, vi (l8 + 1))] [] S3 0 0)))))))) : WP X 68 [(0, vr 0), (1, vr l1), (2, vr l2), (3, vi l3), (4, vr l4), (5, vi l5), (6, vi l6), (7, vi l7), (8, vi l8)] [] S 0 0 := by
  have C := O.1
  refine r_iload C 8 dX4_takeTold_68 rfl ?_
  refine r_aloadn C 2 dX4_takeTold_70 rfl ?_
  refine r_getR C hl2 fl_4_268 rfl (hF.spansR hl2) dX4_takeTold_71 ?_
  refine r_iconst C (x := 2) dX4_takeTold_74 (by decide) ?_
  refine r_iload C 7 dX4_takeTold_75 rfl ?_
  refine r_imul C dX4_takeTold_77 ?_
  refine r_iconst C (x := 1) dX4_takeTold_78 (by decide) ?_
  refine r_iadd C dX4_takeTold_79 ?_
  obtain ⟨hi1, h⟩ := h
  refine r_iald C (hF.spans hl2) (ixL (n := 8) (Fx.spansL hl2) hi1) dX4_takeTold_80 ?_
  refine r_icmp_gt C dX4_takeTold_81 (tgt := 138) (by decide) (fun hc2 => ?_) (fun hc2 => ?_)
  · replace h := h.1 hc2
    refine r_iinc C (y := (l7 + (-1))) 7 dX4_takeTold_138 rfl rfl (by decide) rfl rfl ?_
    refine r_goto C dX4_takeTold_141 (tgt := 48) (by decide) ?_
    refine r_perm [1, 2, 3, 4, 5, 6, 7, 0] rfl ?_
    exact h
  · replace h := h.2 hc2
    refine r_aloadn C 1 dX4_takeTold_84 rfl ?_
    refine r_iload C 8 dX4_takeTold_85 rfl ?_
    refine r_callVo C K2_packetAt [vi l8] [] hl1 (by decide) rfl cl_4_272 rm_4_takeTold_2_packetAt ⟨rfl, rfl⟩ (by decide) (by decide) rfl (Nat.le_of_ble_eq_true rfl) dX4_takeTold_87 h (fun x3 S3 hF3 hn3 h => ?_)
    obtain ⟨hk4, h⟩ := h
    refine r_astore C dX4_takeTold_90 (by decide) rfl rfl ?_
    refine r_aload C 0 dX4_takeTold_92 rfl ?_
    refine r_ifnull C dX4_takeTold_94 (tgt := 132) (by decide) (fun hb6 => ?_) (fun b5 hb6 => ?_)
    · replace h := h.2 hb6
      refine r_iinc C (y := (l8 + 1)) 9 dX4_takeTold_132 rfl rfl (by decide) rfl rfl ?_
      refine r_goto C dX4_takeTold_135 (tgt := 68) (by decide) ?_
      refine r_perm [2, 3, 4, 5, 6, 7, 8, 9, 0] rfl ?_
      exact h
    · replace h := h.1 b5 hb6
      try rw [hb6]
      refine r_aload C 0 dX4_takeTold_97 rfl ?_
      refine r_getI C (hk4 _ hb6) fl_4_259 rfl dX4_takeTold_99 ?_
      refine r_if_ne C dX4_takeTold_102 (tgt := 132) (by decide) (fun hc11 => ?_) (fun hc11 => ?_)
      · replace h := h.1 hc11
        refine r_iinc C (y := (l8 + 1)) 9 dX4_takeTold_132 rfl rfl (by decide) rfl rfl ?_
        refine r_goto C dX4_takeTold_135 (tgt := 68) (by decide) ?_
        refine r_perm [2, 3, 4, 5, 6, 7, 8, 9, 0] rfl ?_
        exact h
      · replace h := h.2 hc11
        refine r_iload C 7 dX4_takeTold_105 rfl ?_
        have kJ15 : ∀ (w14 : Int32) (_ : w14 = (if l6 = 0 then (if (gI S3 b5 9) = 0 then 0 else 1 : Int32) else 1 : Int32)), WP X 123 [(0, vr 0), (1, vr l1), (2, vr l2), (3, vi l3), (4, vr l4), (5, vi l5), (7, vi l7), (8, vi l8), (9, vr b5)] [vi w14] S3 0 0 := by
          intro w14 hw14
          replace h := h w14 hw14
          have hz_w14 : w14 = 0 ∨ w14 = 1 := by rw [hw14]; repeat (first | exact Or.inl rfl | exact Or.inr rfl | assumption | split)
          refine r_istore C dX4_takeTold_123 (by decide) rfl rfl ?_
          refine r_aloadn C 1 dX4_takeTold_125 rfl ?_
          refine r_aloadn C 2 dX4_takeTold_126 rfl ?_
          refine r_aload C 9 dX4_takeTold_127 rfl ?_
          refine r_callVv C K4_settle [vr l1, vr b5] [] (hF3.k (by decide) rfl) (by decide) rfl cl_4_353 rm_4_takeTold_4_settle ⟨rfl, rfl⟩ (by decide) (by decide) rfl (Nat.le_of_ble_eq_true rfl) dX4_takeTold_129 h (fun S17 hF17 hn17 h => ?_)
          refine r_iinc C (y := (l8 + 1)) 8 dX4_takeTold_132 rfl rfl (by decide) rfl rfl ?_
          refine r_goto C dX4_takeTold_135 (tgt := 68) (by decide) ?_
          refine r_perm [2, 3, 4, 5, 6, 7, 1, 8, 0] rfl ?_
          exact h
        refine r_if_ne C dX4_takeTold_107 (tgt := 118) (by decide) (fun hc16 => ?_) (fun hc16 => ?_)
        · refine r_iconst C (x := 1) dX4_takeTold_118 (by decide) ?_
          refine r_goto C dX4_takeTold_119 (tgt := 123) (by decide) ?_
          refine r_perm [1, 2, 3, 4, 5, 6, 8, 9, 0] rfl ?_
          exact kJ15 _ (if_neg hc16).symm
        · refine r_aload C 0 dX4_takeTold_110 rfl ?_
          refine r_getI C (hk4 _ hb6) fl_4_165 rfl dX4_takeTold_112 ?_
          have kJ18 : WP X 123 [(0, vr 0), (1, vr l1), (2, vr l2), (3, vi l3), (4, vr l4), (5, vi l5), (7, vi l7), (8, vi l8), (9, vr b5)] [vi (if (gI S3 b5 9) = 0 then 0 else 1 : Int32)] S3 0 0 := by
            refine r_perm [0, 1, 2, 3, 4, 5, 6, 7, 8] rfl ?_
            exact kJ15 _ (if_pos hc16).symm
          refine r_if_eq C dX4_takeTold_115 (tgt := 122) (by decide) (fun hc19 => ?_) (fun hc19 => ?_)
          · refine r_iconst C (x := 0) dX4_takeTold_122 (by decide) ?_
            refine r_perm [1, 2, 3, 4, 5, 6, 8, 9, 0] rfl ?_
            rw [show (if (gI S3 b5 9) = 0 then 0 else 1 : Int32) = 0 from if_pos hc19] at kJ18
            exact kJ18
          · refine r_iconst C (x := 1) dX4_takeTold_118 (by decide) ?_
            refine r_goto C dX4_takeTold_119 (tgt := 123) (by decide) ?_
            refine r_perm [1, 2, 3, 4, 5, 6, 8, 9, 0] rfl ?_
            rw [show (if (gI S3 b5 9) = 0 then 0 else 1 : Int32) = 1 from if_neg hc19] at kJ18
            exact kJ18
set_option maxHeartbeats 4000000 in
set_option maxRecDepth 100000 in
theorem e4_settle {S : Sto} {Q : Sto → Prop} (hF : Fx S) {p1 : Nat} {p2 : Nat} (hp1 : al S p1 2) (hp2 : al S p2 1) (h : ∀ X : Ctx, Ov X K4_settle S Q → (((if (gI S p2 9) = 0 then 0 else (if (gI S p2 10) = 0 then (if (gI S p2 11) = 0 then 1 else 0 : Int32) else 0 : Int32) : Int32)) = 0 → (WP X 59 [(0, vr 0), (2, vr p2), (3, vi 0)] [] (pI S p2 10 1) 0 0)) ∧ (¬ ((if (gI S p2 9) = 0 then 0 else (if (gI S p2 10) = 0 then (if (gI S p2 11) = 0 then 1 else 0 : Int32) else 0 : Int32) : Int32)) = 0 → (((gI (pI S (p1 + 2) 0 ((gI S (p1 + 2) 0) - (gI S p2 8))) p2 2) ≤ (gI (pI S (p1 + 2) 0 ((gI S (p1 + 2) 0) - (gI S p2 8))) (p1 + 2) 3) → (WP X 59 [(0, vr 0), (2, vr p2), (3, vi 0)] [] (pI (pI S (p1 + 2) 0 ((gI S (p1 + 2) 0) - (gI S p2 8))) p2 10 1) 0 0)) ∧ (¬ (gI (pI S (p1 + 2) 0 ((gI S (p1 + 2) 0) - (gI S p2 8))) p2 2) ≤ (gI (pI S (p1 + 2) 0 ((gI S (p1 + 2) 0) - (gI S p2 8))) (p1 + 2) 3) → (Cv K0_grow [vr (p1 + 2), vi (gI (pI S (p1 + 2) 0 ((gI S (p1 + 2) 0) - (gI S p2 8))) p2 8), vi (gI (pI S (p1 + 2) 0 ((gI S (p1 + 2) 0) - (gI S p2 8))) 0 5)] (pI S (p1 + 2) 0 ((gI S (p1 + 2) 0) - (gI S p2 8))) (fun S4 => WP X 59 [(0, vr 0), (2, vr p2), (3, vi 0)] [] (pI S4 p2 10 1) 0 0)))))) : Cv K4_settle [vr 0, vr p1, vr p2] S Q := by
  refine Cv.intro rfl (Nat.le_of_ble_eq_true rfl) (fun X O => ?_)
  replace h := h X O
  have C := O.1
  have hn : sN S ≤ sN S := Nat.le_refl _
  show WP X 0 [(0, vr 0), (1, vr p1), (2, vr p2)] [] S 0 0
  refine r_aloadn C 2 dX4_settle_0 rfl ?_
  refine r_callVi C K1_isInFlight [] [] hp2 (by decide) rfl cl_4_359 rm_4_settle_1_isInFlight ⟨rfl, rfl⟩ (by decide) (by decide) rfl (Nat.le_of_ble_eq_true rfl) dX4_settle_1 (q1_isInFlight (S := S) hF hp2) (fun x1 _ _ _ hq => ?_)
  obtain ⟨hqa, hqb⟩ := hq; obtain rfl := hqa.symm; obtain rfl := hqb.symm
  refine r_if_eq C dX4_settle_4 (tgt := 52) (by decide) (fun hc2 => ?_) (fun hc2 => ?_)
  · replace h := h.1 hc2
    refine r_aloadn C 2 dX4_settle_52 rfl ?_
    refine r_iconst C (x := 1) dX4_settle_53 (by decide) ?_
    refine r_putZ C hp2 fl_4_259 rfl (Or.inr rfl) rfl dX4_settle_54 ?_
    refine r_iconst C (x := 0) dX4_settle_57 (by decide) ?_
    refine r_istoren C dX4_settle_58 (by decide) rfl rfl ?_
    refine r_perm [1, 3, 0] rfl ?_
    exact h
  · replace h := h.2 hc2
    refine r_aloadn C 1 dX4_settle_7 rfl ?_
    refine r_getR C hp1 fl_4_53 rfl (hF.paceR hp1) dX4_settle_8 ?_
    refine r_dup C rfl dX4_settle_11 ?_
    refine r_getI C (hF.pace hp1) fl_4_221 rfl dX4_settle_12 ?_
    refine r_aloadn C 2 dX4_settle_15 rfl ?_
    refine r_getI C hp2 fl_4_256 rfl dX4_settle_16 ?_
    refine r_isub C dX4_settle_19 ?_
    refine r_putI C (hF.pace hp1) fl_4_221 rfl rfl dX4_settle_20 ?_
    refine r_aloadn C 2 dX4_settle_23 rfl ?_
    refine r_getI C hp2 fl_4_255 rfl dX4_settle_24 ?_
    refine r_aloadn C 1 dX4_settle_27 rfl ?_
    refine r_getR C hp1 fl_4_53 rfl (hF.paceR hp1) dX4_settle_28 ?_
    refine r_getI C (hF.pace hp1) fl_4_227 rfl dX4_settle_31 ?_
    refine r_icmp_le C dX4_settle_34 (tgt := 52) (by decide) (fun hc3 => ?_) (fun hc3 => ?_)
    · replace h := h.1 hc3
      refine r_aloadn C 2 dX4_settle_52 rfl ?_
      refine r_iconst C (x := 1) dX4_settle_53 (by decide) ?_
      refine r_putZ C hp2 fl_4_259 rfl (Or.inr rfl) rfl dX4_settle_54 ?_
      refine r_iconst C (x := 0) dX4_settle_57 (by decide) ?_
      refine r_istoren C dX4_settle_58 (by decide) rfl rfl ?_
      refine r_perm [1, 3, 0] rfl ?_
      exact h
    · replace h := h.2 hc3
      refine r_aloadn C 1 dX4_settle_37 rfl ?_
      refine r_getR C hp1 fl_4_53 rfl (hF.paceR hp1) dX4_settle_38 ?_
      refine r_aloadn C 2 dX4_settle_41 rfl ?_
      refine r_getI C hp2 fl_4_256 rfl dX4_settle_42 ?_
      refine r_aloadn C 0 dX4_settle_45 rfl ?_
      refine r_getI C (hF.k (by decide) rfl) fl_4_7 rfl dX4_settle_46 ?_
      refine r_callVv C K0_grow [vi (gI (pI S (p1 + 2) 0 ((gI S (p1 + 2) 0) - (gI S p2 8))) p2 8), vi (gI (pI S (p1 + 2) 0 ((gI S (p1 + 2) 0) - (gI S p2 8))) 0 5)] [] (hF.pace hp1) (by decide) rfl cl_4_362 rm_4_settle_0_grow ⟨rfl, rfl⟩ (by decide) (by decide) rfl (Nat.le_of_ble_eq_true rfl) dX4_settle_49 h (fun S4 hF4 hn4 h => ?_)
      refine r_aloadn C 2 dX4_settle_52 rfl ?_
      refine r_iconst C (x := 1) dX4_settle_53 (by decide) ?_
      refine r_putZ C (al.mono hp2 hn4) fl_4_259 rfl (Or.inr rfl) rfl dX4_settle_54 ?_
      refine r_iconst C (x := 0) dX4_settle_57 (by decide) ?_
      refine r_istoren C dX4_settle_58 (by decide) rfl rfl ?_
      refine r_perm [1, 3, 0] rfl ?_
      exact h
set_option maxHeartbeats 4000000 in
set_option maxRecDepth 100000 in
theorem s4_settle_59 {X : Ctx} {S0 S : Sto} {Q : Sto → Prop} (hF : Fx S) (hn : sN S0 ≤ sN S) (O : Ov X K4_settle S0 Q) {l2 : Nat} {l3 : Int32} (hl2 : al S l2 1)  (h : ((gI S l2 7) ≤ l3 → (Q S)) ∧ (¬ (gI S l2 7) ≤ l3 → ((0 ≤ (((l3 * 4) + 1) : Int32).toInt ∧ (((l3 * 4) + 1) : Int32).toInt < (64 : Nat)) ∧ (Co K4_streamAt [vr 0, vi ((if ((l3 * 4) + 1) < 0 then 0 else (if ((l3 * 4) + 1) < 64 then (gI S (l2 + 1) ((l3 * 4) + 1).toNatClampNeg) else 0 : Int32) : Int32))] S (fun x4 S4 => (∀ b, x4 = some b → al S4 b 3) ∧ ((0 ≤ (((l3 * 4) + 0) : Int32).toInt ∧ (((l3 * 4) + 0) : Int32).toInt < (64 : Nat)) ∧ ((¬ ((if ((l3 * 4) + 0) < 0 then 0 else (if ((l3 * 4) + 0) < 64 then (gI S4 (l2 + 1) ((l3 * 4) + 0).toNatClampNeg) else 0 : Int32) : Int32)) = 4 → (WP X 59 [(0, vr 0), (2, vr l2), (3, vi (l3 + 1))] [] S4 0 0)) ∧ (((if ((l3 * 4) + 0) < 0 then 0 else (if ((l3 * 4) + 0) < 64 then (gI S4 (l2 + 1) ((l3 * 4) + 0).toNatClampNeg) else 0 : Int32) : Int32)) = 4 → ((∀ b9 : Nat, x4 = some b9 → ((0 ≤ (((l3 * 4) + 3) : Int32).toInt ∧ (((l3 * 4) + 3) : Int32).toInt < (64 : Nat)) ∧ ((0 ≤ (((l3 * 4) + 2) : Int32).toInt ∧ (((l3 * 4) + 2) : Int32).toInt < (64 : Nat)) ∧ (Cv K3_markArrived [vr b9, vi ((if ((l3 * 4) + 2) < 0 then 0 else (if ((l3 * 4) + 2) < 64 then (gI S4 (l2 + 1) ((l3 * 4) + 2).toNatClampNeg) else 0 : Int32) : Int32)), vi (((if ((l3 * 4) + 3) < 0 then 0 else (if ((l3 * 4) + 3) < 64 then (gI S4 (l2 + 1) ((l3 * 4) + 3).toNatClampNeg) else 0 : Int32) : Int32)) - ((if ((l3 * 4) + 3) < 0 then 0 else (if ((l3 * 4) + 3) < 64 then (gI S4 (l2 + 1) ((l3 * 4) + 3).toNatClampNeg) else 0 : Int32) : Int32)) / 10000 * 10000)] S4 (fun S15 => (((if ((l3 * 4) + 3) < 0 then 0 else (if ((l3 * 4) + 3) < 64 then (gI S4 (l2 + 1) ((l3 * 4) + 3).toNatClampNeg) else 0 : Int32) : Int32)) < 10000 → (WP X 59 [(0, vr 0), (2, vr l2), (3, vi (l3 + 1))] [] S15 0 0)) ∧ (¬ ((if ((l3 * 4) + 3) < 0 then 0 else (if ((l3 * 4) + 3) < 64 then (gI S4 (l2 + 1) ((l3 * 4) + 3).toNatClampNeg) else 0 : Int32) : Int32)) < 10000 → (WP X 59 [(0, vr 0), (2, vr l2), (3, vi (l3 + 1))] [] (pI S15 b9 9 3) 0 0))))))) ∧ (x4 = none → (WP X 59 [(0, vr 0), (2, vr l2), (3, vi (l3 + 1))] [] S4 0 0))))))))))) : WP X 59 [(0, vr 0), (2, vr l2), (3, vi l3)] [] S 0 0 := by
  have C := O.1
  refine r_iloadn C 2 dX4_settle_59 rfl ?_
  refine r_aloadn C 1 dX4_settle_60 rfl ?_
  refine r_getI C hl2 fl_4_142 rfl dX4_settle_61 ?_
  refine r_icmp_ge C dX4_settle_64 (tgt := 139) (by decide) (fun hc1 => ?_) (fun hc1 => ?_)
  · replace h := h.1 hc1
    exact rv O rfl dX4_settle_139 (by decide) (by decide) hF hn h
  · replace h := h.2 hc1
    refine r_aloadn C 0 dX4_settle_67 rfl ?_
    refine r_aloadn C 1 dX4_settle_68 rfl ?_
    refine r_iloadn C 2 dX4_settle_69 rfl ?_
    refine r_iconst C (x := 1) dX4_settle_70 (by decide) ?_
    obtain ⟨ho2, h⟩ := h
    refine r_callVi C K1_partAt [vi l3, vi 1] [vr 0] hl2 (by decide) rfl cl_4_265 rm_4_settle_1_partAt ⟨rfl, rfl⟩ (by decide) (by decide) rfl (Nat.le_of_ble_eq_true rfl) dX4_settle_71 (q1_partAt (S := S) hF hl2 ho2) (fun x3 _ _ _ hq => ?_)
    obtain ⟨hqa, hqb⟩ := hq; obtain rfl := hqa.symm; obtain rfl := hqb.symm
    refine r_callVo C K4_streamAt [vi ((if ((l3 * 4) + 1) < 0 then 0 else (if ((l3 * 4) + 1) < 64 then (gI S (l2 + 1) ((l3 * 4) + 1).toNatClampNeg) else 0 : Int32) : Int32))] [] (hF.k (by decide) rfl) (by decide) rfl cl_4_68 rm_4_settle_4_streamAt ⟨rfl, rfl⟩ (by decide) (by decide) rfl (Nat.le_of_ble_eq_true rfl) dX4_settle_74 h (fun x4 S4 hF4 hn4 h => ?_)
    obtain ⟨hk5, h⟩ := h
    refine r_astore C dX4_settle_77 (by decide) rfl rfl ?_
    refine r_aloadn C 2 dX4_settle_79 rfl ?_
    refine r_iloadn C 3 dX4_settle_80 rfl ?_
    refine r_iconst C (x := 0) dX4_settle_81 (by decide) ?_
    obtain ⟨ho6, h⟩ := h
    refine r_callVi C K1_partAt [vi l3, vi 0] [] (al.mono hl2 hn4) (by decide) rfl cl_4_265 rm_4_settle_1_partAt ⟨rfl, rfl⟩ (by decide) (by decide) rfl (Nat.le_of_ble_eq_true rfl) dX4_settle_82 (q1_partAt (S := S4) hF4 (al.mono hl2 hn4) ho6) (fun x7 _ _ _ hq => ?_)
    obtain ⟨hqa, hqb⟩ := hq; obtain rfl := hqa.symm; obtain rfl := hqb.symm
    refine r_iconst C (x := 4) dX4_settle_85 (by decide) ?_
    refine r_icmp_ne C dX4_settle_86 (tgt := 133) (by decide) (fun hc8 => ?_) (fun hc8 => ?_)
    · replace h := h.1 hc8
      refine r_iinc C (y := (l3 + 1)) 3 dX4_settle_133 rfl rfl (by decide) rfl rfl ?_
      refine r_goto C dX4_settle_136 (tgt := 59) (by decide) ?_
      refine r_perm [2, 3, 0] rfl ?_
      exact h
    · replace h := h.2 hc8
      refine r_aload C 0 dX4_settle_89 rfl ?_
      refine r_ifnull C dX4_settle_91 (tgt := 133) (by decide) (fun hb10 => ?_) (fun b9 hb10 => ?_)
      · replace h := h.2 hb10
        refine r_iinc C (y := (l3 + 1)) 3 dX4_settle_133 rfl rfl (by decide) rfl rfl ?_
        refine r_goto C dX4_settle_136 (tgt := 59) (by decide) ?_
        refine r_perm [2, 3, 0] rfl ?_
        exact h
      · replace h := h.1 b9 hb10
        try rw [hb10]
        refine r_aloadn C 2 dX4_settle_94 rfl ?_
        refine r_iloadn C 3 dX4_settle_95 rfl ?_
        refine r_iconst C (x := 3) dX4_settle_96 (by decide) ?_
        obtain ⟨ho11, h⟩ := h
        refine r_callVi C K1_partAt [vi l3, vi 3] [] (al.mono hl2 hn4) (by decide) rfl cl_4_265 rm_4_settle_1_partAt ⟨rfl, rfl⟩ (by decide) (by decide) rfl (Nat.le_of_ble_eq_true rfl) dX4_settle_97 (q1_partAt (S := S4) hF4 (al.mono hl2 hn4) ho11) (fun x12 _ _ _ hq => ?_)
        obtain ⟨hqa, hqb⟩ := hq; obtain rfl := hqa.symm; obtain rfl := hqb.symm
        refine r_istore C dX4_settle_100 (by decide) rfl rfl ?_
        refine r_aload C 1 dX4_settle_102 rfl ?_
        refine r_aloadn C 3 dX4_settle_104 rfl ?_
        refine r_iloadn C 4 dX4_settle_105 rfl ?_
        refine r_iconst C (x := 2) dX4_settle_106 (by decide) ?_
        obtain ⟨ho13, h⟩ := h
        refine r_callVi C K1_partAt [vi l3, vi 2] [vr b9] (al.mono hl2 hn4) (by decide) rfl cl_4_265 rm_4_settle_1_partAt ⟨rfl, rfl⟩ (by decide) (by decide) rfl (Nat.le_of_ble_eq_true rfl) dX4_settle_107 (q1_partAt (S := S4) hF4 (al.mono hl2 hn4) ho13) (fun x14 _ _ _ hq => ?_)
        obtain ⟨hqa, hqb⟩ := hq; obtain rfl := hqa.symm; obtain rfl := hqb.symm
        refine r_iload C 0 dX4_settle_110 rfl ?_
        refine r_sipush C (x := 10000) dX4_settle_112 (by decide) ?_
        refine r_irem C dX4_settle_115 (by decide) ?_
        refine r_callVv C K3_markArrived [vi ((if ((l3 * 4) + 2) < 0 then 0 else (if ((l3 * 4) + 2) < 64 then (gI S4 (l2 + 1) ((l3 * 4) + 2).toNatClampNeg) else 0 : Int32) : Int32)), vi (((if ((l3 * 4) + 3) < 0 then 0 else (if ((l3 * 4) + 3) < 64 then (gI S4 (l2 + 1) ((l3 * 4) + 3).toNatClampNeg) else 0 : Int32) : Int32)) - ((if ((l3 * 4) + 3) < 0 then 0 else (if ((l3 * 4) + 3) < 64 then (gI S4 (l2 + 1) ((l3 * 4) + 3).toNatClampNeg) else 0 : Int32) : Int32)) / 10000 * 10000)] [] (hk5 _ hb10) (by decide) rfl cl_4_365 rm_4_settle_3_markArrived ⟨rfl, rfl⟩ (by decide) (by decide) rfl (Nat.le_of_ble_eq_true rfl) dX4_settle_116 h (fun S15 hF15 hn15 h => ?_)
        refine r_iload C 0 dX4_settle_119 rfl ?_
        refine r_sipush C (x := 10000) dX4_settle_121 (by decide) ?_
        refine r_icmp_lt C dX4_settle_124 (tgt := 133) (by decide) (fun hc16 => ?_) (fun hc16 => ?_)
        · replace h := h.1 hc16
          refine r_iinc C (y := (l3 + 1)) 4 dX4_settle_133 rfl rfl (by decide) rfl rfl ?_
          refine r_goto C dX4_settle_136 (tgt := 59) (by decide) ?_
          refine r_perm [3, 4, 0] rfl ?_
          exact h
        · replace h := h.2 hc16
          refine r_aload C 1 dX4_settle_127 rfl ?_
          refine r_iconst C (x := 3) dX4_settle_129 (by decide) ?_
          refine r_putI C (al.mono (hk5 _ hb10) hn15) fl_4_206 rfl rfl dX4_settle_130 ?_
          refine r_iinc C (y := (l3 + 1)) 4 dX4_settle_133 rfl rfl (by decide) rfl rfl ?_
          refine r_goto C dX4_settle_136 (tgt := 59) (by decide) ?_
          refine r_perm [3, 4, 0] rfl ?_
          exact h
set_option maxHeartbeats 4000000 in
set_option maxRecDepth 100000 in
theorem e4_lookForLost {S : Sto} {Q : Sto → Prop} (hF : Fx S) {p1 : Nat} (hp1 : al S p1 2) (h : ∀ X : Ctx, Ov X K4_lookForLost S Q → WP X 19 [(0, vr 0), (1, vr p1), (2, vi (gI S p1 5)), (3, vi ((if (gI S (p1 + 2) 4) = (-6) then 8 else (if 1 < ((9 * (if (gI S (p1 + 2) 5) < (8 * (gI S (p1 + 2) 4)) then (8 * (gI S (p1 + 2) 4)) else (gI S (p1 + 2) 5))) / 64) then ((9 * (if (gI S (p1 + 2) 5) < (8 * (gI S (p1 + 2) 4)) then (8 * (gI S (p1 + 2) 4)) else (gI S (p1 + 2) 5))) / 64) else 1) : Int32))), (4, vi (gI S p1 4))] [] S 0 0) : Cv K4_lookForLost [vr 0, vr p1] S Q := by
  refine Cv.intro rfl (Nat.le_of_ble_eq_true rfl) (fun X O => ?_)
  replace h := h X O
  have C := O.1
  have hn : sN S ≤ sN S := Nat.le_refl _
  show WP X 0 [(0, vr 0), (1, vr p1)] [] S 0 0
  refine r_aloadn C 1 dX4_lookForLost_0 rfl ?_
  refine r_getI C hp1 fl_4_245 rfl dX4_lookForLost_1 ?_
  refine r_istoren C dX4_lookForLost_4 (by decide) rfl rfl ?_
  refine r_aloadn C 2 dX4_lookForLost_5 rfl ?_
  refine r_getR C hp1 fl_4_53 rfl (hF.paceR hp1) dX4_lookForLost_6 ?_
  refine r_callVi C K0_limit [] [] (hF.pace hp1) (by decide) rfl cl_4_368 rm_4_lookForLost_0_limit ⟨rfl, rfl⟩ (by decide) (by decide) rfl (Nat.le_of_ble_eq_true rfl) dX4_lookForLost_9 (q0_limit (S := S) hF (hF.pace hp1)) (fun x1 _ _ _ hq => ?_)
  obtain ⟨hqa, hqb⟩ := hq; obtain rfl := hqa.symm; obtain rfl := hqb.symm
  refine r_istoren C dX4_lookForLost_12 (by decide) rfl rfl ?_
  refine r_aloadn C 3 dX4_lookForLost_13 rfl ?_
  refine r_getI C hp1 fl_4_371 rfl dX4_lookForLost_14 ?_
  refine r_istore C dX4_lookForLost_17 (by decide) rfl rfl ?_
  refine r_perm [3, 4, 2, 1, 0] rfl ?_
  exact h
set_option maxHeartbeats 4000000 in
set_option maxRecDepth 100000 in
theorem s4_lookForLost_19 {X : Ctx} {S0 S : Sto} {Q : Sto → Prop} (hF : Fx S) (hn : sN S0 ≤ sN S) (O : Ov X K4_lookForLost S0 Q) {l1 : Nat} {l2 : Int32} {l3 : Int32} {l4 : Int32} (hl1 : al S l1 2)  (h : (l2 ≤ l4 → (Q (pI S l1 4 (if (gI S l1 4) < (l2 - 2) then (l2 - 2) else (gI S l1 4))))) ∧ (¬ l2 ≤ l4 → (Co K2_packetAt [vr l1, vi l4] S (fun x2 S2 => (∀ b, x2 = some b → al S2 b 1) ∧ ((∀ b4 : Nat, x2 = some b4 → ((((if (gI S2 b4 9) = 0 then 0 else (if (gI S2 b4 10) = 0 then (if (gI S2 b4 11) = 0 then 1 else 0 : Int32) else 0 : Int32) : Int32)) = 0 → (WP X 19 [(0, vr 0), (1, vr l1), (2, vi l2), (3, vi l3), (4, vi (l4 + 1))] [] S2 0 0)) ∧ (¬ ((if (gI S2 b4 9) = 0 then 0 else (if (gI S2 b4 10) = 0 then (if (gI S2 b4 11) = 0 then 1 else 0 : Int32) else 0 : Int32) : Int32)) = 0 → (((l4 + 3) ≤ l2 → (Cv K4_lose [vr 0, vr l1, vr b4] S2 (fun S9 => WP X 19 [(0, vr 0), (1, vr l1), (2, vi l2), (3, vi l3), (4, vi (l4 + 1))] [] S9 0 0))) ∧ (¬ (l4 + 3) ≤ l2 → ((((gI S2 0 4) - (gI S2 b4 2)) < l3 → (WP X 19 [(0, vr 0), (1, vr l1), (2, vi l2), (3, vi l3), (4, vi (l4 + 1))] [] S2 0 0)) ∧ (¬ ((gI S2 0 4) - (gI S2 b4 2)) < l3 → (Cv K4_lose [vr 0, vr l1, vr b4] S2 (fun S11 => WP X 19 [(0, vr 0), (1, vr l1), (2, vi l2), (3, vi l3), (4, vi (l4 + 1))] [] S11 0 0))))))))) ∧ (x2 = none → (WP X 19 [(0, vr 0), (1, vr l1), (2, vi l2), (3, vi l3), (4, vi (l4 + 1))] [] S2 0 0))))))) : WP X 19 [(0, vr 0), (1, vr l1), (2, vi l2), (3, vi l3), (4, vi l4)] [] S 0 0 := by
  have C := O.1
  refine r_iload C 4 dX4_lookForLost_19 rfl ?_
  refine r_iloadn C 2 dX4_lookForLost_21 rfl ?_
  refine r_icmp_ge C dX4_lookForLost_22 (tgt := 81) (by decide) (fun hc1 => ?_) (fun hc1 => ?_)
  · replace h := h.1 hc1
    refine r_aloadn C 1 dX4_lookForLost_81 rfl ?_
    refine r_aloadn C 1 dX4_lookForLost_82 rfl ?_
    refine r_getI C hl1 fl_4_371 rfl dX4_lookForLost_83 ?_
    refine r_iloadn C 2 dX4_lookForLost_86 rfl ?_
    refine r_iconst C (x := 2) dX4_lookForLost_87 (by decide) ?_
    refine r_isub C dX4_lookForLost_88 ?_
    refine r_max C mw_4_180 (by decide) (Nat.le_of_ble_eq_true rfl) (by decide) (by decide) dX4_lookForLost_89 ?_
    refine r_putI C hl1 fl_4_371 rfl rfl dX4_lookForLost_92 ?_
    exact rv O rfl dX4_lookForLost_95 (by decide) (by decide) hF hn h
  · replace h := h.2 hc1
    refine r_aloadn C 1 dX4_lookForLost_25 rfl ?_
    refine r_iload C 4 dX4_lookForLost_26 rfl ?_
    refine r_callVo C K2_packetAt [vi l4] [] hl1 (by decide) rfl cl_4_272 rm_4_lookForLost_2_packetAt ⟨rfl, rfl⟩ (by decide) (by decide) rfl (Nat.le_of_ble_eq_true rfl) dX4_lookForLost_28 h (fun x2 S2 hF2 hn2 h => ?_)
    obtain ⟨hk3, h⟩ := h
    refine r_astore C dX4_lookForLost_31 (by decide) rfl rfl ?_
    refine r_aload C 0 dX4_lookForLost_33 rfl ?_
    refine r_ifnull C dX4_lookForLost_35 (tgt := 75) (by decide) (fun hb5 => ?_) (fun b4 hb5 => ?_)
    · replace h := h.2 hb5
      refine r_iinc C (y := (l4 + 1)) 5 dX4_lookForLost_75 rfl rfl (by decide) rfl rfl ?_
      refine r_goto C dX4_lookForLost_78 (tgt := 19) (by decide) ?_
      refine r_perm [2, 3, 4, 5, 0] rfl ?_
      exact h
    · replace h := h.1 b4 hb5
      try rw [hb5]
      refine r_aload C 0 dX4_lookForLost_38 rfl ?_
      refine r_callVi C K1_isInFlight [] [] (hk3 _ hb5) (by decide) rfl cl_4_359 rm_4_lookForLost_1_isInFlight ⟨rfl, rfl⟩ (by decide) (by decide) rfl (Nat.le_of_ble_eq_true rfl) dX4_lookForLost_40 (q1_isInFlight (S := S2) hF2 (hk3 _ hb5)) (fun x6 _ _ _ hq => ?_)
      obtain ⟨hqa, hqb⟩ := hq; obtain rfl := hqa.symm; obtain rfl := hqb.symm
      refine r_if_eq C dX4_lookForLost_43 (tgt := 75) (by decide) (fun hc7 => ?_) (fun hc7 => ?_)
      · replace h := h.1 hc7
        refine r_iinc C (y := (l4 + 1)) 5 dX4_lookForLost_75 rfl rfl (by decide) rfl rfl ?_
        refine r_goto C dX4_lookForLost_78 (tgt := 19) (by decide) ?_
        refine r_perm [2, 3, 4, 5, 0] rfl ?_
        exact h
      · replace h := h.2 hc7
        refine r_iload C 5 dX4_lookForLost_46 rfl ?_
        refine r_iconst C (x := 3) dX4_lookForLost_48 (by decide) ?_
        refine r_iadd C dX4_lookForLost_49 ?_
        refine r_iloadn C 3 dX4_lookForLost_50 rfl ?_
        refine r_icmp_le C dX4_lookForLost_51 (tgt := 68) (by decide) (fun hc8 => ?_) (fun hc8 => ?_)
        · replace h := h.1 hc8
          refine r_aloadn C 1 dX4_lookForLost_68 rfl ?_
          refine r_aloadn C 2 dX4_lookForLost_69 rfl ?_
          refine r_aload C 0 dX4_lookForLost_70 rfl ?_
          refine r_callVv C K4_lose [vr l1, vr b4] [] (hF2.k (by decide) rfl) (by decide) rfl cl_4_374 rm_4_lookForLost_4_lose ⟨rfl, rfl⟩ (by decide) (by decide) rfl (Nat.le_of_ble_eq_true rfl) dX4_lookForLost_72 h (fun S9 hF9 hn9 h => ?_)
          refine r_iinc C (y := (l4 + 1)) 5 dX4_lookForLost_75 rfl rfl (by decide) rfl rfl ?_
          refine r_goto C dX4_lookForLost_78 (tgt := 19) (by decide) ?_
          refine r_perm [2, 3, 4, 5, 0] rfl ?_
          exact h
        · replace h := h.2 hc8
          refine r_aloadn C 1 dX4_lookForLost_54 rfl ?_
          refine r_getI C (hF2.k (by decide) rfl) fl_4_129 rfl dX4_lookForLost_55 ?_
          refine r_aload C 0 dX4_lookForLost_58 rfl ?_
          refine r_getI C (hk3 _ hb5) fl_4_255 rfl dX4_lookForLost_60 ?_
          refine r_isub C dX4_lookForLost_63 ?_
          refine r_iloadn C 4 dX4_lookForLost_64 rfl ?_
          refine r_icmp_lt C dX4_lookForLost_65 (tgt := 75) (by decide) (fun hc10 => ?_) (fun hc10 => ?_)
          · replace h := h.1 hc10
            refine r_iinc C (y := (l4 + 1)) 5 dX4_lookForLost_75 rfl rfl (by decide) rfl rfl ?_
            refine r_goto C dX4_lookForLost_78 (tgt := 19) (by decide) ?_
            refine r_perm [2, 3, 4, 5, 0] rfl ?_
            exact h
          · replace h := h.2 hc10
            refine r_aloadn C 1 dX4_lookForLost_68 rfl ?_
            refine r_aloadn C 2 dX4_lookForLost_69 rfl ?_
            refine r_aload C 0 dX4_lookForLost_70 rfl ?_
            refine r_callVv C K4_lose [vr l1, vr b4] [] (hF2.k (by decide) rfl) (by decide) rfl cl_4_374 rm_4_lookForLost_4_lose ⟨rfl, rfl⟩ (by decide) (by decide) rfl (Nat.le_of_ble_eq_true rfl) dX4_lookForLost_72 h (fun S11 hF11 hn11 h => ?_)
            refine r_iinc C (y := (l4 + 1)) 5 dX4_lookForLost_75 rfl rfl (by decide) rfl rfl ?_
            refine r_goto C dX4_lookForLost_78 (tgt := 19) (by decide) ?_
            refine r_perm [2, 3, 4, 5, 0] rfl ?_
            exact h
set_option maxHeartbeats 4000000 in
set_option maxRecDepth 100000 in
theorem e4_lose {S : Sto} {Q : Sto → Prop} (hF : Fx S) {p1 : Nat} {p2 : Nat} (hp1 : al S p1 2) (hp2 : al S p2 1) (h : ∀ X : Ctx, Ov X K4_lose S Q → WP X 23 [(0, vr 0), (1, vr p1), (2, vr p2), (3, vi 0)] [] (pI (pI S p2 11 1) (p1 + 2) 0 ((gI (pI S p2 11 1) (p1 + 2) 0) - (gI (pI S p2 11 1) p2 8))) 0 0) : Cv K4_lose [vr 0, vr p1, vr p2] S Q := by
  refine Cv.intro rfl (Nat.le_of_ble_eq_true rfl) (fun X O => ?_)
  replace h := h X O
  have C := O.1
  have hn : sN S ≤ sN S := Nat.le_refl _
  show WP X 0 [(0, vr 0), (1, vr p1), (2, vr p2)] [] S 0 0
  refine r_aloadn C 2 dX4_lose_0 rfl ?_
  refine r_iconst C (x := 1) dX4_lose_1 (by decide) ?_
  refine r_putZ C hp2 fl_4_262 rfl (Or.inr rfl) rfl dX4_lose_2 ?_
  refine r_aloadn C 1 dX4_lose_5 rfl ?_
  refine r_getR C hp1 fl_4_53 rfl (hF.paceR hp1) dX4_lose_6 ?_
  refine r_dup C rfl dX4_lose_9 ?_
  refine r_getI C (hF.pace hp1) fl_4_221 rfl dX4_lose_10 ?_
  refine r_aloadn C 2 dX4_lose_13 rfl ?_
  refine r_getI C hp2 fl_4_256 rfl dX4_lose_14 ?_
  refine r_isub C dX4_lose_17 ?_
  refine r_putI C (hF.pace hp1) fl_4_221 rfl rfl dX4_lose_18 ?_
  refine r_iconst C (x := 0) dX4_lose_21 (by decide) ?_
  refine r_istoren C dX4_lose_22 (by decide) rfl rfl ?_
  refine r_perm [1, 2, 3, 0] rfl ?_
  exact h
set_option maxHeartbeats 4000000 in
set_option maxRecDepth 100000 in
theorem s4_lose_23 {X : Ctx} {S0 S : Sto} {Q : Sto → Prop} (hF : Fx S) (hn : sN S0 ≤ sN S) (O : Ov X K4_lose S0 Q) {l1 : Nat} {l2 : Nat} {l3 : Int32} (hl1 : al S l1 2) (hl2 : al S l2 1)  (h : ((gI S l2 7) ≤ l3 → (((gI S l2 2) ≤ (gI S (l1 + 2) 3) → (Q S)) ∧ (¬ (gI S l2 2) ≤ (gI S (l1 + 2) 3) → (Cv K0_fallBack [vr (l1 + 2), vi (gI S 0 4), vi (gI S 0 5)] S (fun S3 => Q S3))))) ∧ (¬ (gI S l2 7) ≤ l3 → ((0 ≤ (((l3 * 4) + 1) : Int32).toInt ∧ (((l3 * 4) + 1) : Int32).toInt < (64 : Nat)) ∧ (Co K4_streamAt [vr 0, vi ((if ((l3 * 4) + 1) < 0 then 0 else (if ((l3 * 4) + 1) < 64 then (gI S (l2 + 1) ((l3 * 4) + 1).toNatClampNeg) else 0 : Int32) : Int32))] S (fun x6 S6 => (∀ b, x6 = some b → al S6 b 3) ∧ ((0 ≤ (((l3 * 4) + 2) : Int32).toInt ∧ (((l3 * 4) + 2) : Int32).toInt < (64 : Nat)) ∧ ((0 ≤ (((l3 * 4) + 3) : Int32).toInt ∧ (((l3 * 4) + 3) : Int32).toInt < (64 : Nat)) ∧ ((∀ b12 : Nat, x6 = some b12 → ((0 ≤ (((l3 * 4) + 0) : Int32).toInt ∧ (((l3 * 4) + 0) : Int32).toInt < (64 : Nat)) ∧ ((((if ((l3 * 4) + 0) < 0 then 0 else (if ((l3 * 4) + 0) < 64 then (gI S6 (l2 + 1) ((l3 * 4) + 0).toNatClampNeg) else 0 : Int32) : Int32)) = 2 → (WP X 23 [(0, vr 0), (1, vr l1), (2, vr l2), (3, vi (l3 + 1))] [] (pI S6 b12 14 1) 0 0)) ∧ (((if ((l3 * 4) + 0) < 0 then 0 else (if ((l3 * 4) + 0) < 64 then (gI S6 (l2 + 1) ((l3 * 4) + 0).toNatClampNeg) else 0 : Int32) : Int32)) = 3 → (WP X 23 [(0, vr 0), (1, vr l1), (2, vr l2), (3, vi (l3 + 1))] [] (pI S6 l1 10 1) 0 0)) ∧ (((if ((l3 * 4) + 0) < 0 then 0 else (if ((l3 * 4) + 0) < 64 then (gI S6 (l2 + 1) ((l3 * 4) + 0).toNatClampNeg) else 0 : Int32) : Int32)) = 4 → (Cv K3_markAgain [vr b12, vi ((if ((l3 * 4) + 2) < 0 then 0 else (if ((l3 * 4) + 2) < 64 then (gI S6 (l2 + 1) ((l3 * 4) + 2).toNatClampNeg) else 0 : Int32) : Int32)), vi (((if ((l3 * 4) + 3) < 0 then 0 else (if ((l3 * 4) + 3) < 64 then (gI S6 (l2 + 1) ((l3 * 4) + 3).toNatClampNeg) else 0 : Int32) : Int32)) - ((if ((l3 * 4) + 3) < 0 then 0 else (if ((l3 * 4) + 3) < 64 then (gI S6 (l2 + 1) ((l3 * 4) + 3).toNatClampNeg) else 0 : Int32) : Int32)) / 10000 * 10000)] S6 (fun S17 => (((if ((l3 * 4) + 3) < 0 then 0 else (if ((l3 * 4) + 3) < 64 then (gI S6 (l2 + 1) ((l3 * 4) + 3).toNatClampNeg) else 0 : Int32) : Int32)) < 10000 → (WP X 23 [(0, vr 0), (1, vr l1), (2, vr l2), (3, vi (l3 + 1))] [] S17 0 0)) ∧ (¬ ((if ((l3 * 4) + 3) < 0 then 0 else (if ((l3 * 4) + 3) < 64 then (gI S6 (l2 + 1) ((l3 * 4) + 3).toNatClampNeg) else 0 : Int32) : Int32)) < 10000 → (((gI S17 b12 9) = 3 → (WP X 23 [(0, vr 0), (1, vr l1), (2, vr l2), (3, vi (l3 + 1))] [] S17 0 0)) ∧ (¬ (gI S17 b12 9) = 3 → (WP X 23 [(0, vr 0), (1, vr l1), (2, vr l2), (3, vi (l3 + 1))] [] (pI S17 b12 9 2) 0 0))))))) ∧ (((if ((l3 * 4) + 0) < 0 then 0 else (if ((l3 * 4) + 0) < 64 then (gI S6 (l2 + 1) ((l3 * 4) + 0).toNatClampNeg) else 0 : Int32) : Int32)) = 5 → (WP X 23 [(0, vr 0), (1, vr l1), (2, vr l2), (3, vi (l3 + 1))] [] (pI S6 b12 4 1) 0 0)) ∧ (((if ((l3 * 4) + 0) < 0 then 0 else (if ((l3 * 4) + 0) < 64 then (gI S6 (l2 + 1) ((l3 * 4) + 0).toNatClampNeg) else 0 : Int32) : Int32)) = 6 → (∀ w26 : Int32, w26 = (if (gI S6 l1 11) = 0 then (if (gI S6 0 10) = 0 then 0 else (if ((if ((l3 * 4) + 2) < 0 then 0 else (if ((l3 * 4) + 2) < 64 then (gI S6 (l2 + 1) ((l3 * 4) + 2).toNatClampNeg) else 0 : Int32) : Int32)) = (gI S6 0 9) then 1 else 0 : Int32) : Int32) else 1 : Int32) → (WP X 23 [(0, vr 0), (1, vr l1), (2, vr l2), (3, vi (l3 + 1))] [] (pI S6 l1 11 w26) 0 0))) ∧ (((if ((l3 * 4) + 0) < 0 then 0 else (if ((l3 * 4) + 0) < 64 then (gI S6 (l2 + 1) ((l3 * 4) + 0).toNatClampNeg) else 0 : Int32) : Int32)) = 7 → (WP X 23 [(0, vr 0), (1, vr l1), (2, vr l2), (3, vi (l3 + 1))] [] (pI S6 l1 12 ((if ((l3 * 4) + 2) < 0 then 0 else (if ((l3 * 4) + 2) < 64 then (gI S6 (l2 + 1) ((l3 * 4) + 2).toNatClampNeg) else 0 : Int32) : Int32))) 0 0)) ∧ (¬ ((if ((l3 * 4) + 0) < 0 then 0 else (if ((l3 * 4) + 0) < 64 then (gI S6 (l2 + 1) ((l3 * 4) + 0).toNatClampNeg) else 0 : Int32) : Int32)) = 2 → ¬ ((if ((l3 * 4) + 0) < 0 then 0 else (if ((l3 * 4) + 0) < 64 then (gI S6 (l2 + 1) ((l3 * 4) + 0).toNatClampNeg) else 0 : Int32) : Int32)) = 3 → ¬ ((if ((l3 * 4) + 0) < 0 then 0 else (if ((l3 * 4) + 0) < 64 then (gI S6 (l2 + 1) ((l3 * 4) + 0).toNatClampNeg) else 0 : Int32) : Int32)) = 4 → ¬ ((if ((l3 * 4) + 0) < 0 then 0 else (if ((l3 * 4) + 0) < 64 then (gI S6 (l2 + 1) ((l3 * 4) + 0).toNatClampNeg) else 0 : Int32) : Int32)) = 5 → ¬ ((if ((l3 * 4) + 0) < 0 then 0 else (if ((l3 * 4) + 0) < 64 then (gI S6 (l2 + 1) ((l3 * 4) + 0).toNatClampNeg) else 0 : Int32) : Int32)) = 6 → ¬ ((if ((l3 * 4) + 0) < 0 then 0 else (if ((l3 * 4) + 0) < 64 then (gI S6 (l2 + 1) ((l3 * 4) + 0).toNatClampNeg) else 0 : Int32) : Int32)) = 7 → (WP X 23 [(0, vr 0), (1, vr l1), (2, vr l2), (3, vi (l3 + 1))] [] S6 0 0))))) ∧ (x6 = none → (WP X 23 [(0, vr 0), (1, vr l1), (2, vr l2), (3, vi (l3 + 1))] [] S6 0 0)))))))))) : WP X 23 [(0, vr 0), (1, vr l1), (2, vr l2), (3, vi l3)] [] S 0 0 := by
  have C := O.1
  refine r_iloadn C 3 dX4_lose_23 rfl ?_
  refine r_aloadn C 2 dX4_lose_24 rfl ?_
  refine r_getI C hl2 fl_4_142 rfl dX4_lose_25 ?_
  refine r_icmp_ge C dX4_lose_28 (tgt := 227) (by decide) (fun hc1 => ?_) (fun hc1 => ?_)
  · replace h := h.1 hc1
    refine r_aloadn C 2 dX4_lose_227 rfl ?_
    refine r_getI C hl2 fl_4_255 rfl dX4_lose_228 ?_
    refine r_aloadn C 1 dX4_lose_231 rfl ?_
    refine r_getR C hl1 fl_4_53 rfl (hF.paceR hl1) dX4_lose_232 ?_
    refine r_getI C (hF.pace hl1) fl_4_227 rfl dX4_lose_235 ?_
    refine r_icmp_le C dX4_lose_238 (tgt := 256) (by decide) (fun hc2 => ?_) (fun hc2 => ?_)
    · replace h := h.1 hc2
      exact rv O rfl dX4_lose_256 (by decide) (by decide) hF hn h
    · replace h := h.2 hc2
      refine r_aloadn C 1 dX4_lose_241 rfl ?_
      refine r_getR C hl1 fl_4_53 rfl (hF.paceR hl1) dX4_lose_242 ?_
      refine r_aloadn C 0 dX4_lose_245 rfl ?_
      refine r_getI C (hF.k (by decide) rfl) fl_4_129 rfl dX4_lose_246 ?_
      refine r_aloadn C 0 dX4_lose_249 rfl ?_
      refine r_getI C (hF.k (by decide) rfl) fl_4_7 rfl dX4_lose_250 ?_
      refine r_callVv C K0_fallBack [vi (gI S 0 4), vi (gI S 0 5)] [] (hF.pace hl1) (by decide) rfl cl_4_380 rm_4_lose_0_fallBack ⟨rfl, rfl⟩ (by decide) (by decide) rfl (Nat.le_of_ble_eq_true rfl) dX4_lose_253 h (fun S3 hF3 hn3 h => ?_)
      exact rv O rfl dX4_lose_256 (by decide) (by decide) hF3 (Nat.le_trans hn hn3) h
  · replace h := h.2 hc1
    refine r_aloadn C 0 dX4_lose_31 rfl ?_
    refine r_aloadn C 2 dX4_lose_32 rfl ?_
    refine r_iloadn C 3 dX4_lose_33 rfl ?_
    refine r_iconst C (x := 1) dX4_lose_34 (by decide) ?_
    obtain ⟨ho4, h⟩ := h
    refine r_callVi C K1_partAt [vi l3, vi 1] [vr 0] hl2 (by decide) rfl cl_4_265 rm_4_lose_1_partAt ⟨rfl, rfl⟩ (by decide) (by decide) rfl (Nat.le_of_ble_eq_true rfl) dX4_lose_35 (q1_partAt (S := S) hF hl2 ho4) (fun x5 _ _ _ hq => ?_)
    obtain ⟨hqa, hqb⟩ := hq; obtain rfl := hqa.symm; obtain rfl := hqb.symm
    refine r_callVo C K4_streamAt [vi ((if ((l3 * 4) + 1) < 0 then 0 else (if ((l3 * 4) + 1) < 64 then (gI S (l2 + 1) ((l3 * 4) + 1).toNatClampNeg) else 0 : Int32) : Int32))] [] (hF.k (by decide) rfl) (by decide) rfl cl_4_68 rm_4_lose_4_streamAt ⟨rfl, rfl⟩ (by decide) (by decide) rfl (Nat.le_of_ble_eq_true rfl) dX4_lose_38 h (fun x6 S6 hF6 hn6 h => ?_)
    obtain ⟨hk7, h⟩ := h
    refine r_astore C dX4_lose_41 (by decide) rfl rfl ?_
    refine r_aloadn C 3 dX4_lose_43 rfl ?_
    refine r_iloadn C 4 dX4_lose_44 rfl ?_
    refine r_iconst C (x := 2) dX4_lose_45 (by decide) ?_
    obtain ⟨ho8, h⟩ := h
    refine r_callVi C K1_partAt [vi l3, vi 2] [] (al.mono hl2 hn6) (by decide) rfl cl_4_265 rm_4_lose_1_partAt ⟨rfl, rfl⟩ (by decide) (by decide) rfl (Nat.le_of_ble_eq_true rfl) dX4_lose_46 (q1_partAt (S := S6) hF6 (al.mono hl2 hn6) ho8) (fun x9 _ _ _ hq => ?_)
    obtain ⟨hqa, hqb⟩ := hq; obtain rfl := hqa.symm; obtain rfl := hqb.symm
    refine r_istore C dX4_lose_49 (by decide) rfl rfl ?_
    refine r_aloadn C 4 dX4_lose_51 rfl ?_
    refine r_iloadn C 5 dX4_lose_52 rfl ?_
    refine r_iconst C (x := 3) dX4_lose_53 (by decide) ?_
    obtain ⟨ho10, h⟩ := h
    refine r_callVi C K1_partAt [vi l3, vi 3] [] (al.mono hl2 hn6) (by decide) rfl cl_4_265 rm_4_lose_1_partAt ⟨rfl, rfl⟩ (by decide) (by decide) rfl (Nat.le_of_ble_eq_true rfl) dX4_lose_54 (q1_partAt (S := S6) hF6 (al.mono hl2 hn6) ho10) (fun x11 _ _ _ hq => ?_)
    obtain ⟨hqa, hqb⟩ := hq; obtain rfl := hqa.symm; obtain rfl := hqb.symm
    refine r_istore C dX4_lose_57 (by decide) rfl rfl ?_
    refine r_aload C 2 dX4_lose_59 rfl ?_
    refine r_ifnonnull C dX4_lose_61 (tgt := 68) (by decide) (fun b12 hb13 => ?_) (fun hb13 => ?_)
    · replace h := h.1 b12 hb13
      try rw [hb13]
      refine r_aloadn C 5 dX4_lose_68 rfl ?_
      refine r_iloadn C 6 dX4_lose_69 rfl ?_
      refine r_iconst C (x := 0) dX4_lose_70 (by decide) ?_
      obtain ⟨ho14, h⟩ := h
      refine r_callVi C K1_partAt [vi l3, vi 0] [] (al.mono hl2 hn6) (by decide) rfl cl_4_265 rm_4_lose_1_partAt ⟨rfl, rfl⟩ (by decide) (by decide) rfl (Nat.le_of_ble_eq_true rfl) dX4_lose_71 (q1_partAt (S := S6) hF6 (al.mono hl2 hn6) ho14) (fun x15 _ _ _ hq => ?_)
      obtain ⟨hqa, hqb⟩ := hq; obtain rfl := hqa.symm; obtain rfl := hqb.symm
      refine r_table C dX4_lose_74 rfl (by decide) (fun i off hi hx16 => ?_) (fun hx16 => ?_)
      · have hlt : i < 6 := (Array.getElem?_eq_some_iff.mp hi).1
        obtain rfl | rfl | rfl | rfl | rfl | rfl : i = 0 ∨ i = 1 ∨ i = 2 ∨ i = 3 ∨ i = 4 ∨ i = 5 := by omega
        · obtain rfl := Option.some.inj hi
          replace h := h.1 (hx16.trans (by decide))
          refine ⟨112, by decide, ?_⟩
          refine r_aload C 2 dX4_lose_112 rfl ?_
          refine r_iconst C (x := 1) dX4_lose_114 (by decide) ?_
          refine r_putZ C (hk7 _ hb13) fl_4_97 rfl (Or.inr rfl) rfl dX4_lose_115 ?_
          refine r_goto C dX4_lose_118 (tgt := 221) (by decide) ?_
          refine r_iinc C (y := (l3 + 1)) 6 dX4_lose_221 rfl rfl (by decide) rfl rfl ?_
          refine r_goto C dX4_lose_224 (tgt := 23) (by decide) ?_
          refine r_perm [4, 5, 6, 0] rfl ?_
          exact h
        · obtain rfl := Option.some.inj hi
          replace h := h.2.1 (hx16.trans (by decide))
          refine ⟨121, by decide, ?_⟩
          refine r_aloadn C 4 dX4_lose_121 rfl ?_
          refine r_iconst C (x := 1) dX4_lose_122 (by decide) ?_
          refine r_putZ C (al.mono hl1 hn6) fl_4_104 rfl (Or.inr rfl) rfl dX4_lose_123 ?_
          refine r_goto C dX4_lose_126 (tgt := 221) (by decide) ?_
          refine r_iinc C (y := (l3 + 1)) 6 dX4_lose_221 rfl rfl (by decide) rfl rfl ?_
          refine r_goto C dX4_lose_224 (tgt := 23) (by decide) ?_
          refine r_perm [4, 5, 6, 0] rfl ?_
          exact h
        · obtain rfl := Option.some.inj hi
          replace h := h.2.2.1 (hx16.trans (by decide))
          refine ⟨129, by decide, ?_⟩
          refine r_aload C 2 dX4_lose_129 rfl ?_
          refine r_iload C 1 dX4_lose_131 rfl ?_
          refine r_iload C 0 dX4_lose_133 rfl ?_
          refine r_sipush C (x := 10000) dX4_lose_135 (by decide) ?_
          refine r_irem C dX4_lose_138 (by decide) ?_
          refine r_callVv C K3_markAgain [vi ((if ((l3 * 4) + 2) < 0 then 0 else (if ((l3 * 4) + 2) < 64 then (gI S6 (l2 + 1) ((l3 * 4) + 2).toNatClampNeg) else 0 : Int32) : Int32)), vi (((if ((l3 * 4) + 3) < 0 then 0 else (if ((l3 * 4) + 3) < 64 then (gI S6 (l2 + 1) ((l3 * 4) + 3).toNatClampNeg) else 0 : Int32) : Int32)) - ((if ((l3 * 4) + 3) < 0 then 0 else (if ((l3 * 4) + 3) < 64 then (gI S6 (l2 + 1) ((l3 * 4) + 3).toNatClampNeg) else 0 : Int32) : Int32)) / 10000 * 10000)] [] (hk7 _ hb13) (by decide) rfl cl_4_377 rm_4_lose_3_markAgain ⟨rfl, rfl⟩ (by decide) (by decide) rfl (Nat.le_of_ble_eq_true rfl) dX4_lose_139 h (fun S17 hF17 hn17 h => ?_)
          refine r_iload C 0 dX4_lose_142 rfl ?_
          refine r_sipush C (x := 10000) dX4_lose_144 (by decide) ?_
          refine r_icmp_lt C dX4_lose_147 (tgt := 221) (by decide) (fun hc18 => ?_) (fun hc18 => ?_)
          · replace h := h.1 hc18
            refine r_iinc C (y := (l3 + 1)) 6 dX4_lose_221 rfl rfl (by decide) rfl rfl ?_
            refine r_goto C dX4_lose_224 (tgt := 23) (by decide) ?_
            refine r_perm [4, 5, 6, 0] rfl ?_
            exact h
          · replace h := h.2 hc18
            refine r_aload C 2 dX4_lose_150 rfl ?_
            refine r_getI C (al.mono (hk7 _ hb13) hn17) fl_4_206 rfl dX4_lose_152 ?_
            refine r_iconst C (x := 3) dX4_lose_155 (by decide) ?_
            refine r_icmp_eq C dX4_lose_156 (tgt := 221) (by decide) (fun hc19 => ?_) (fun hc19 => ?_)
            · replace h := h.1 hc19
              refine r_iinc C (y := (l3 + 1)) 6 dX4_lose_221 rfl rfl (by decide) rfl rfl ?_
              refine r_goto C dX4_lose_224 (tgt := 23) (by decide) ?_
              refine r_perm [4, 5, 6, 0] rfl ?_
              exact h
            · replace h := h.2 hc19
              refine r_aload C 2 dX4_lose_159 rfl ?_
              refine r_iconst C (x := 2) dX4_lose_161 (by decide) ?_
              refine r_putI C (al.mono (hk7 _ hb13) hn17) fl_4_206 rfl rfl dX4_lose_162 ?_
              refine r_goto C dX4_lose_165 (tgt := 221) (by decide) ?_
              refine r_iinc C (y := (l3 + 1)) 6 dX4_lose_221 rfl rfl (by decide) rfl rfl ?_
              refine r_goto C dX4_lose_224 (tgt := 23) (by decide) ?_
              refine r_perm [4, 5, 6, 0] rfl ?_
              exact h
        · obtain rfl := Option.some.inj hi
          replace h := h.2.2.2.1 (hx16.trans (by decide))
          refine ⟨168, by decide, ?_⟩
          refine r_aload C 2 dX4_lose_168 rfl ?_
          refine r_iconst C (x := 1) dX4_lose_170 (by decide) ?_
          refine r_putZ C (hk7 _ hb13) fl_4_82 rfl (Or.inr rfl) rfl dX4_lose_171 ?_
          refine r_goto C dX4_lose_174 (tgt := 221) (by decide) ?_
          refine r_iinc C (y := (l3 + 1)) 6 dX4_lose_221 rfl rfl (by decide) rfl rfl ?_
          refine r_goto C dX4_lose_224 (tgt := 23) (by decide) ?_
          refine r_perm [4, 5, 6, 0] rfl ?_
          exact h
        · obtain rfl := Option.some.inj hi
          replace h := h.2.2.2.2.1 (hx16.trans (by decide))
          refine ⟨177, by decide, ?_⟩
          refine r_aloadn C 4 dX4_lose_177 rfl ?_
          refine r_aloadn C 4 dX4_lose_178 rfl ?_
          refine r_getI C (al.mono hl1 hn6) fl_4_303 rfl dX4_lose_179 ?_
          have kJ27 : ∀ (w26 : Int32) (_ : w26 = (if (gI S6 l1 11) = 0 then (if (gI S6 0 10) = 0 then 0 else (if ((if ((l3 * 4) + 2) < 0 then 0 else (if ((l3 * 4) + 2) < 64 then (gI S6 (l2 + 1) ((l3 * 4) + 2).toNatClampNeg) else 0 : Int32) : Int32)) = (gI S6 0 9) then 1 else 0 : Int32) : Int32) else 1 : Int32)), WP X 206 [(0, vr 0), (1, vr l1), (2, vr l2), (3, vi l3)] [vi w26, vr l1] S6 0 0 := by
            intro w26 hw26
            replace h := h w26 hw26
            have hz_w26 : w26 = 0 ∨ w26 = 1 := by rw [hw26]; repeat (first | exact Or.inl rfl | exact Or.inr rfl | assumption | split)
            refine r_putZ C (al.mono hl1 hn6) fl_4_303 rfl hz_w26 rfl dX4_lose_206 ?_
            refine r_goto C dX4_lose_209 (tgt := 221) (by decide) ?_
            refine r_iinc C (y := (l3 + 1)) 3 dX4_lose_221 rfl rfl (by decide) rfl rfl ?_
            refine r_goto C dX4_lose_224 (tgt := 23) (by decide) ?_
            refine r_perm [1, 2, 3, 0] rfl ?_
            exact h
          refine r_if_ne C dX4_lose_182 (tgt := 201) (by decide) (fun hc28 => ?_) (fun hc28 => ?_)
          · refine r_iconst C (x := 1) dX4_lose_201 (by decide) ?_
            refine r_goto C dX4_lose_202 (tgt := 206) (by decide) ?_
            refine r_perm [3, 4, 5, 6] rfl ?_
            exact kJ27 _ (if_neg hc28).symm
          · refine r_aloadn C 3 dX4_lose_185 rfl ?_
            refine r_getI C (hF6.k (by decide) rfl) fl_4_120 rfl dX4_lose_186 ?_
            have kJ31 : WP X 206 [(0, vr 0), (1, vr l1), (2, vr l2), (3, vi l3)] [vi (if (gI S6 0 10) = 0 then 0 else (if ((if ((l3 * 4) + 2) < 0 then 0 else (if ((l3 * 4) + 2) < 64 then (gI S6 (l2 + 1) ((l3 * 4) + 2).toNatClampNeg) else 0 : Int32) : Int32)) = (gI S6 0 9) then 1 else 0 : Int32) : Int32), vr l1] S6 0 0 := by
              refine r_perm [0, 1, 2, 3] rfl ?_
              exact kJ27 _ (if_pos hc28).symm
            refine r_if_eq C dX4_lose_189 (tgt := 205) (by decide) (fun hc32 => ?_) (fun hc32 => ?_)
            · refine r_iconst C (x := 0) dX4_lose_205 (by decide) ?_
              refine r_perm [3, 4, 5, 6] rfl ?_
              rw [show (if (gI S6 0 10) = 0 then 0 else (if ((if ((l3 * 4) + 2) < 0 then 0 else (if ((l3 * 4) + 2) < 64 then (gI S6 (l2 + 1) ((l3 * 4) + 2).toNatClampNeg) else 0 : Int32) : Int32)) = (gI S6 0 9) then 1 else 0 : Int32) : Int32) = 0 from if_pos hc32] at kJ31
              exact kJ31
            · refine r_iload C 1 dX4_lose_192 rfl ?_
              refine r_aloadn C 3 dX4_lose_194 rfl ?_
              refine r_getI C (hF6.k (by decide) rfl) fl_4_132 rfl dX4_lose_195 ?_
              have kJ33 : WP X 206 [(0, vr 0), (1, vr l1), (2, vr l2), (3, vi l3)] [vi (if ((if ((l3 * 4) + 2) < 0 then 0 else (if ((l3 * 4) + 2) < 64 then (gI S6 (l2 + 1) ((l3 * 4) + 2).toNatClampNeg) else 0 : Int32) : Int32)) = (gI S6 0 9) then 1 else 0 : Int32), vr l1] S6 0 0 := by
                refine r_perm [0, 1, 2, 3] rfl ?_
                rw [show (if (gI S6 0 10) = 0 then 0 else (if ((if ((l3 * 4) + 2) < 0 then 0 else (if ((l3 * 4) + 2) < 64 then (gI S6 (l2 + 1) ((l3 * 4) + 2).toNatClampNeg) else 0 : Int32) : Int32)) = (gI S6 0 9) then 1 else 0 : Int32) : Int32) = (if ((if ((l3 * 4) + 2) < 0 then 0 else (if ((l3 * 4) + 2) < 64 then (gI S6 (l2 + 1) ((l3 * 4) + 2).toNatClampNeg) else 0 : Int32) : Int32)) = (gI S6 0 9) then 1 else 0 : Int32) from if_neg hc32] at kJ31
                exact kJ31
              refine r_icmp_ne C dX4_lose_198 (tgt := 205) (by decide) (fun hc34 => ?_) (fun hc34 => ?_)
              · refine r_iconst C (x := 0) dX4_lose_205 (by decide) ?_
                refine r_perm [3, 4, 5, 6] rfl ?_
                rw [show (if ((if ((l3 * 4) + 2) < 0 then 0 else (if ((l3 * 4) + 2) < 64 then (gI S6 (l2 + 1) ((l3 * 4) + 2).toNatClampNeg) else 0 : Int32) : Int32)) = (gI S6 0 9) then 1 else 0 : Int32) = 0 from if_neg hc34] at kJ33
                exact kJ33
              · refine r_iconst C (x := 1) dX4_lose_201 (by decide) ?_
                refine r_goto C dX4_lose_202 (tgt := 206) (by decide) ?_
                refine r_perm [3, 4, 5, 6] rfl ?_
                rw [show (if ((if ((l3 * 4) + 2) < 0 then 0 else (if ((l3 * 4) + 2) < 64 then (gI S6 (l2 + 1) ((l3 * 4) + 2).toNatClampNeg) else 0 : Int32) : Int32)) = (gI S6 0 9) then 1 else 0 : Int32) = 1 from if_pos hc34] at kJ33
                exact kJ33
        · obtain rfl := Option.some.inj hi
          replace h := h.2.2.2.2.2.1 (hx16.trans (by decide))
          refine ⟨212, by decide, ?_⟩
          refine r_aloadn C 4 dX4_lose_212 rfl ?_
          refine r_iload C 1 dX4_lose_213 rfl ?_
          refine r_putI C (al.mono hl1 hn6) fl_4_300 rfl rfl dX4_lose_215 ?_
          refine r_goto C dX4_lose_218 (tgt := 221) (by decide) ?_
          refine r_iinc C (y := (l3 + 1)) 6 dX4_lose_221 rfl rfl (by decide) rfl rfl ?_
          refine r_goto C dX4_lose_224 (tgt := 23) (by decide) ?_
          refine r_perm [4, 5, 6, 0] rfl ?_
          exact h
      · replace h := h.2.2.2.2.2.2 (fun e => hx16 0 (by decide) (e.trans (by decide))) (fun e => hx16 1 (by decide) (e.trans (by decide))) (fun e => hx16 2 (by decide) (e.trans (by decide))) (fun e => hx16 3 (by decide) (e.trans (by decide))) (fun e => hx16 4 (by decide) (e.trans (by decide))) (fun e => hx16 5 (by decide) (e.trans (by decide)))
        refine ⟨221, by decide, ?_⟩
        refine r_iinc C (y := (l3 + 1)) 6 dX4_lose_221 rfl rfl (by decide) rfl rfl ?_
        refine r_goto C dX4_lose_224 (tgt := 23) (by decide) ?_
        refine r_perm [4, 5, 6, 0] rfl ?_
        exact h
    · replace h := h.2 hb13
      refine r_iconst C (x := 0) dX4_lose_64 (by decide) ?_
      refine r_goto C dX4_lose_65 (tgt := 74) (by decide) ?_
      refine r_table C dX4_lose_74 rfl (by decide) (fun i off hi hx35 => ?_) (fun hx35 => ?_)
      · have hlt : i < 6 := (Array.getElem?_eq_some_iff.mp hi).1
        obtain rfl | rfl | rfl | rfl | rfl | rfl : i = 0 ∨ i = 1 ∨ i = 2 ∨ i = 3 ∨ i = 4 ∨ i = 5 := by omega
        · exact absurd hx35 (by decide)
        · exact absurd hx35 (by decide)
        · exact absurd hx35 (by decide)
        · exact absurd hx35 (by decide)
        · exact absurd hx35 (by decide)
        · exact absurd hx35 (by decide)
      · refine ⟨221, by decide, ?_⟩
        refine r_iinc C (y := (l3 + 1)) 6 dX4_lose_221 rfl rfl (by decide) rfl rfl ?_
        refine r_goto C dX4_lose_224 (tgt := 23) (by decide) ?_
        refine r_perm [4, 5, 6, 0] rfl ?_
        exact h
set_option maxHeartbeats 4000000 in
set_option maxRecDepth 100000 in
theorem e4_come {S : Sto} {Q : Int32 → Sto → Prop} (hF : Fx S) {p1 : Int32}  (h : Co K4_underWayAt [vr 0, vi p1] S (fun x1 S1 => (∀ b, x1 = some b → al S1 b 1) ∧ ((∀ b3 : Nat, x1 = some b3 → (Cv K4_takeOffNet [vr 0, vi p1] S1 (fun S5 => (¬ (gI S5 b3 0) = 1 → (∀ w7 : Int32, w7 = (if (gI S5 b3 0) = 0 then 1 else 0 : Int32) → ((0 ≤ (w7 : Int32).toInt ∧ (w7 : Int32).toInt < (2 : Nat)) ∧ (((gI S5 b3 9) = 0 → (((gI S5 b3 12) = 0 → ((¬ (gI (pI S5 b3 12 1) b3 0) = 0 → (Cv K4_takeParts [vr 0, vr (20 + 3 * w7.toNatClampNeg), vr b3] (pI (pI S5 b3 12 1) (20 + 3 * w7.toNatClampNeg) 6 (if (gI (pI S5 b3 12 1) (20 + 3 * w7.toNatClampNeg) 6) < (gI (pI S5 b3 12 1) b3 1) then (gI (pI S5 b3 12 1) b3 1) else (gI (pI S5 b3 12 1) (20 + 3 * w7.toNatClampNeg) 6))) (fun S14 => Q 1 S14))) ∧ ((gI (pI S5 b3 12 1) b3 0) = 0 → (Cv K4_lookAtAddress [vr 0, vr (20 + 3 * w7.toNatClampNeg), vr b3] (pI S5 b3 12 1) (fun S15 => Cv K4_takeParts [vr 0, vr (20 + 3 * w7.toNatClampNeg), vr b3] (pI S15 (20 + 3 * w7.toNatClampNeg) 6 (if (gI S15 (20 + 3 * w7.toNatClampNeg) 6) < (gI S15 b3 1) then (gI S15 b3 1) else (gI S15 (20 + 3 * w7.toNatClampNeg) 6))) (fun S16 => Q 1 S16)))))) ∧ (¬ (gI S5 b3 12) = 0 → (Q 0 S5)))) ∧ (¬ (gI S5 b3 9) = 0 → (((gI (pI S5 (20 + 3 * w7.toNatClampNeg) 7 1) b3 12) = 0 → ((¬ (gI (pI (pI S5 (20 + 3 * w7.toNatClampNeg) 7 1) b3 12 1) b3 0) = 0 → (Cv K4_takeParts [vr 0, vr (20 + 3 * w7.toNatClampNeg), vr b3] (pI (pI (pI S5 (20 + 3 * w7.toNatClampNeg) 7 1) b3 12 1) (20 + 3 * w7.toNatClampNeg) 6 (if (gI (pI (pI S5 (20 + 3 * w7.toNatClampNeg) 7 1) b3 12 1) (20 + 3 * w7.toNatClampNeg) 6) < (gI (pI (pI S5 (20 + 3 * w7.toNatClampNeg) 7 1) b3 12 1) b3 1) then (gI (pI (pI S5 (20 + 3 * w7.toNatClampNeg) 7 1) b3 12 1) b3 1) else (gI (pI (pI S5 (20 + 3 * w7.toNatClampNeg) 7 1) b3 12 1) (20 + 3 * w7.toNatClampNeg) 6))) (fun S19 => Q 1 S19))) ∧ ((gI (pI (pI S5 (20 + 3 * w7.toNatClampNeg) 7 1) b3 12 1) b3 0) = 0 → (Cv K4_lookAtAddress [vr 0, vr (20 + 3 * w7.toNatClampNeg), vr b3] (pI (pI S5 (20 + 3 * w7.toNatClampNeg) 7 1) b3 12 1) (fun S20 => Cv K4_takeParts [vr 0, vr (20 + 3 * w7.toNatClampNeg), vr b3] (pI S20 (20 + 3 * w7.toNatClampNeg) 6 (if (gI S20 (20 + 3 * w7.toNatClampNeg) 6) < (gI S20 b3 1) then (gI S20 b3 1) else (gI S20 (20 + 3 * w7.toNatClampNeg) 6))) (fun S21 => Q 1 S21)))))) ∧ (¬ (gI (pI S5 (20 + 3 * w7.toNatClampNeg) 7 1) b3 12) = 0 → (Q 0 (pI S5 (20 + 3 * w7.toNatClampNeg) 7 1))))))))) ∧ ((gI S5 b3 0) = 1 → (((gI S5 b3 3) = (gI S5 0 8) → (∀ w23 : Int32, w23 = (if (gI S5 b3 0) = 0 then 1 else 0 : Int32) → ((0 ≤ (w23 : Int32).toInt ∧ (w23 : Int32).toInt < (2 : Nat)) ∧ (((gI S5 b3 9) = 0 → (((gI S5 b3 12) = 0 → ((¬ (gI (pI S5 b3 12 1) b3 0) = 0 → (Cv K4_takeParts [vr 0, vr (20 + 3 * w23.toNatClampNeg), vr b3] (pI (pI S5 b3 12 1) (20 + 3 * w23.toNatClampNeg) 6 (if (gI (pI S5 b3 12 1) (20 + 3 * w23.toNatClampNeg) 6) < (gI (pI S5 b3 12 1) b3 1) then (gI (pI S5 b3 12 1) b3 1) else (gI (pI S5 b3 12 1) (20 + 3 * w23.toNatClampNeg) 6))) (fun S30 => Q 1 S30))) ∧ ((gI (pI S5 b3 12 1) b3 0) = 0 → (Cv K4_lookAtAddress [vr 0, vr (20 + 3 * w23.toNatClampNeg), vr b3] (pI S5 b3 12 1) (fun S31 => Cv K4_takeParts [vr 0, vr (20 + 3 * w23.toNatClampNeg), vr b3] (pI S31 (20 + 3 * w23.toNatClampNeg) 6 (if (gI S31 (20 + 3 * w23.toNatClampNeg) 6) < (gI S31 b3 1) then (gI S31 b3 1) else (gI S31 (20 + 3 * w23.toNatClampNeg) 6))) (fun S32 => Q 1 S32)))))) ∧ (¬ (gI S5 b3 12) = 0 → (Q 0 S5)))) ∧ (¬ (gI S5 b3 9) = 0 → (((gI (pI S5 (20 + 3 * w23.toNatClampNeg) 7 1) b3 12) = 0 → ((¬ (gI (pI (pI S5 (20 + 3 * w23.toNatClampNeg) 7 1) b3 12 1) b3 0) = 0 → (Cv K4_takeParts [vr 0, vr (20 + 3 * w23.toNatClampNeg), vr b3] (pI (pI (pI S5 (20 + 3 * w23.toNatClampNeg) 7 1) b3 12 1) (20 + 3 * w23.toNatClampNeg) 6 (if (gI (pI (pI S5 (20 + 3 * w23.toNatClampNeg) 7 1) b3 12 1) (20 + 3 * w23.toNatClampNeg) 6) < (gI (pI (pI S5 (20 + 3 * w23.toNatClampNeg) 7 1) b3 12 1) b3 1) then (gI (pI (pI S5 (20 + 3 * w23.toNatClampNeg) 7 1) b3 12 1) b3 1) else (gI (pI (pI S5 (20 + 3 * w23.toNatClampNeg) 7 1) b3 12 1) (20 + 3 * w23.toNatClampNeg) 6))) (fun S35 => Q 1 S35))) ∧ ((gI (pI (pI S5 (20 + 3 * w23.toNatClampNeg) 7 1) b3 12 1) b3 0) = 0 → (Cv K4_lookAtAddress [vr 0, vr (20 + 3 * w23.toNatClampNeg), vr b3] (pI (pI S5 (20 + 3 * w23.toNatClampNeg) 7 1) b3 12 1) (fun S36 => Cv K4_takeParts [vr 0, vr (20 + 3 * w23.toNatClampNeg), vr b3] (pI S36 (20 + 3 * w23.toNatClampNeg) 6 (if (gI S36 (20 + 3 * w23.toNatClampNeg) 6) < (gI S36 b3 1) then (gI S36 b3 1) else (gI S36 (20 + 3 * w23.toNatClampNeg) 6))) (fun S37 => Q 1 S37)))))) ∧ (¬ (gI (pI S5 (20 + 3 * w23.toNatClampNeg) 7 1) b3 12) = 0 → (Q 0 (pI S5 (20 + 3 * w23.toNatClampNeg) 7 1))))))))) ∧ (¬ (gI S5 b3 3) = (gI S5 0 8) → (Q 2 (pI S5 0 13 ((gI S5 0 13) + 1))))))))) ∧ (x1 = none → (Q (-1) S1))))) : Ci K4_come [vr 0, vi p1] S Q := by
  refine Ci.intro rfl (Nat.le_of_ble_eq_true rfl) (fun X O => ?_)
  have C := O.1
  have hn : sN S ≤ sN S := Nat.le_refl _
  show WP X 0 [(0, vr 0), (1, vi p1)] [] S 0 0
  refine r_aloadn C 0 dX4_come_0 rfl ?_
  refine r_iloadn C 1 dX4_come_1 rfl ?_
  refine r_callVo C K4_underWayAt [vi p1] [] (hF.k (by decide) rfl) (by decide) rfl cl_4_151 rm_4_come_4_underWayAt ⟨rfl, rfl⟩ (by decide) (by decide) rfl (Nat.le_of_ble_eq_true rfl) dX4_come_2 h (fun x1 S1 hF1 hn1 h => ?_)
  obtain ⟨hk2, h⟩ := h
  refine r_astoren C dX4_come_5 (by decide) rfl rfl ?_
  refine r_aloadn C 0 dX4_come_6 rfl ?_
  refine r_ifnonnull C dX4_come_7 (tgt := 12) (by decide) (fun b3 hb4 => ?_) (fun hb4 => ?_)
  · replace h := h.1 b3 hb4
    try rw [hb4]
    refine r_aloadn C 1 dX4_come_12 rfl ?_
    refine r_iloadn C 2 dX4_come_13 rfl ?_
    refine r_callVv C K4_takeOffNet [vi p1] [] (hF1.k (by decide) rfl) (by decide) rfl cl_4_155 rm_4_come_4_takeOffNet ⟨rfl, rfl⟩ (by decide) (by decide) rfl (Nat.le_of_ble_eq_true rfl) dX4_come_14 h (fun S5 hF5 hn5 h => ?_)
    refine r_aloadn C 0 dX4_come_17 rfl ?_
    refine r_getI C (al.mono (hk2 _ hb4) hn5) fl_4_158 rfl dX4_come_18 ?_
    refine r_iconst C (x := 1) dX4_come_21 (by decide) ?_
    refine r_icmp_ne C dX4_come_22 (tgt := 48) (by decide) (fun hc6 => ?_) (fun hc6 => ?_)
    · replace h := h.1 hc6
      refine r_aloadn C 1 dX4_come_48 rfl ?_
      refine r_getR C (hF5.k (by decide) rfl) fl_4_36 rfl (o := some 19) hF5.c1 dX4_come_49 ?_
      refine r_aloadn C 0 dX4_come_52 rfl ?_
      refine r_getI C (al.mono (hk2 _ hb4) hn5) fl_4_158 rfl dX4_come_53 ?_
      have kJ8 : ∀ (w7 : Int32) (_ : w7 = (if (gI S5 b3 0) = 0 then 1 else 0 : Int32)), WP X 64 [(0, vr 0), (2, vr b3)] [vi w7, vr 19] S5 0 0 := by
        intro w7 hw7
        replace h := h w7 hw7
        have hz_w7 : w7 = 0 ∨ w7 = 1 := by rw [hw7]; repeat (first | exact Or.inl rfl | exact Or.inr rfl | assumption | split)
        obtain ⟨hi10, h⟩ := h
        refine r_aald C (o := some (20 + 3 * w7.toNatClampNeg)) (hF5.k (by decide) rfl) (by decide) (ixL (n := 2) rfl hi10) (hF5.sdRI hi10) dX4_come_64 ?_
        refine r_astoren C dX4_come_65 (by decide) rfl rfl ?_
        refine r_aloadn C 2 dX4_come_66 rfl ?_
        refine r_getI C (al.mono (hk2 _ hb4) hn5) fl_4_165 rfl dX4_come_67 ?_
        refine r_if_eq C dX4_come_70 (tgt := 78) (by decide) (fun hc11 => ?_) (fun hc11 => ?_)
        · replace h := h.1 hc11
          refine r_aloadn C 2 dX4_come_78 rfl ?_
          refine r_getI C (al.mono (hk2 _ hb4) hn5) fl_4_171 rfl dX4_come_79 ?_
          refine r_if_eq C dX4_come_82 (tgt := 87) (by decide) (fun hc12 => ?_) (fun hc12 => ?_)
          · replace h := h.1 hc12
            refine r_aloadn C 2 dX4_come_87 rfl ?_
            refine r_iconst C (x := 1) dX4_come_88 (by decide) ?_
            refine r_putZ C (al.mono (hk2 _ hb4) hn5) fl_4_171 rfl (Or.inr rfl) rfl dX4_come_89 ?_
            refine r_aloadn C 2 dX4_come_92 rfl ?_
            refine r_getI C (al.mono (hk2 _ hb4) hn5) fl_4_158 rfl dX4_come_93 ?_
            refine r_if_ne C dX4_come_96 (tgt := 105) (by decide) (fun hc13 => ?_) (fun hc13 => ?_)
            · replace h := h.1 hc13
              refine r_aloadn C 0 dX4_come_105 rfl ?_
              refine r_aloadn C 0 dX4_come_106 rfl ?_
              refine r_getI C (hF5.sdI hi10) fl_4_177 rfl dX4_come_107 ?_
              refine r_aloadn C 2 dX4_come_110 rfl ?_
              refine r_getI C (al.mono (hk2 _ hb4) hn5) fl_4_148 rfl dX4_come_111 ?_
              refine r_max C mw_4_180 (by decide) (Nat.le_of_ble_eq_true rfl) (by decide) (by decide) dX4_come_114 ?_
              refine r_putI C (hF5.sdI hi10) fl_4_177 rfl rfl dX4_come_117 ?_
              refine r_aloadn C 1 dX4_come_120 rfl ?_
              refine r_aloadn C 0 dX4_come_121 rfl ?_
              refine r_aloadn C 2 dX4_come_122 rfl ?_
              refine r_callVv C K4_takeParts [vr (20 + 3 * w7.toNatClampNeg), vr b3] [] (hF5.k (by decide) rfl) (by decide) rfl cl_4_183 rm_4_come_4_takeParts ⟨rfl, rfl⟩ (by decide) (by decide) rfl (Nat.le_of_ble_eq_true rfl) dX4_come_123 h (fun S14 hF14 hn14 h => ?_)
              refine r_iconst C (x := 1) dX4_come_126 (by decide) ?_
              exact ri O ⟨_, rfl, rfl⟩ dX4_come_127 (by decide) (by decide) hF14 (Nat.le_trans (Nat.le_trans (Nat.le_trans hn hn1) hn5) hn14) h
            · replace h := h.2 hc13
              refine r_aloadn C 1 dX4_come_99 rfl ?_
              refine r_aloadn C 0 dX4_come_100 rfl ?_
              refine r_aloadn C 2 dX4_come_101 rfl ?_
              refine r_callVv C K4_lookAtAddress [vr (20 + 3 * w7.toNatClampNeg), vr b3] [] (hF5.k (by decide) rfl) (by decide) rfl cl_4_174 rm_4_come_4_lookAtAddress ⟨rfl, rfl⟩ (by decide) (by decide) rfl (Nat.le_of_ble_eq_true rfl) dX4_come_102 h (fun S15 hF15 hn15 h => ?_)
              refine r_aloadn C 0 dX4_come_105 rfl ?_
              refine r_aloadn C 0 dX4_come_106 rfl ?_
              refine r_getI C (hF15.sdI hi10) fl_4_177 rfl dX4_come_107 ?_
              refine r_aloadn C 2 dX4_come_110 rfl ?_
              refine r_getI C (al.mono (al.mono (hk2 _ hb4) hn5) hn15) fl_4_148 rfl dX4_come_111 ?_
              refine r_max C mw_4_180 (by decide) (Nat.le_of_ble_eq_true rfl) (by decide) (by decide) dX4_come_114 ?_
              refine r_putI C (hF15.sdI hi10) fl_4_177 rfl rfl dX4_come_117 ?_
              refine r_aloadn C 1 dX4_come_120 rfl ?_
              refine r_aloadn C 0 dX4_come_121 rfl ?_
              refine r_aloadn C 2 dX4_come_122 rfl ?_
              refine r_callVv C K4_takeParts [vr (20 + 3 * w7.toNatClampNeg), vr b3] [] (hF15.k (by decide) rfl) (by decide) rfl cl_4_183 rm_4_come_4_takeParts ⟨rfl, rfl⟩ (by decide) (by decide) rfl (Nat.le_of_ble_eq_true rfl) dX4_come_123 h (fun S16 hF16 hn16 h => ?_)
              refine r_iconst C (x := 1) dX4_come_126 (by decide) ?_
              exact ri O ⟨_, rfl, rfl⟩ dX4_come_127 (by decide) (by decide) hF16 (Nat.le_trans (Nat.le_trans (Nat.le_trans (Nat.le_trans hn hn1) hn5) hn15) hn16) h
          · replace h := h.2 hc12
            refine r_iconst C (x := 0) dX4_come_85 (by decide) ?_
            exact ri O ⟨_, rfl, rfl⟩ dX4_come_86 (by decide) (by decide) hF5 (Nat.le_trans (Nat.le_trans hn hn1) hn5) h
        · replace h := h.2 hc11
          refine r_aloadn C 0 dX4_come_73 rfl ?_
          refine r_iconst C (x := 1) dX4_come_74 (by decide) ?_
          refine r_putZ C (hF5.sdI hi10) fl_4_168 rfl (Or.inr rfl) rfl dX4_come_75 ?_
          refine r_aloadn C 2 dX4_come_78 rfl ?_
          refine r_getI C (al.mono (hk2 _ hb4) hn5) fl_4_171 rfl dX4_come_79 ?_
          refine r_if_eq C dX4_come_82 (tgt := 87) (by decide) (fun hc17 => ?_) (fun hc17 => ?_)
          · replace h := h.1 hc17
            refine r_aloadn C 2 dX4_come_87 rfl ?_
            refine r_iconst C (x := 1) dX4_come_88 (by decide) ?_
            refine r_putZ C (al.mono (hk2 _ hb4) hn5) fl_4_171 rfl (Or.inr rfl) rfl dX4_come_89 ?_
            refine r_aloadn C 2 dX4_come_92 rfl ?_
            refine r_getI C (al.mono (hk2 _ hb4) hn5) fl_4_158 rfl dX4_come_93 ?_
            refine r_if_ne C dX4_come_96 (tgt := 105) (by decide) (fun hc18 => ?_) (fun hc18 => ?_)
            · replace h := h.1 hc18
              refine r_aloadn C 0 dX4_come_105 rfl ?_
              refine r_aloadn C 0 dX4_come_106 rfl ?_
              refine r_getI C (hF5.sdI hi10) fl_4_177 rfl dX4_come_107 ?_
              refine r_aloadn C 2 dX4_come_110 rfl ?_
              refine r_getI C (al.mono (hk2 _ hb4) hn5) fl_4_148 rfl dX4_come_111 ?_
              refine r_max C mw_4_180 (by decide) (Nat.le_of_ble_eq_true rfl) (by decide) (by decide) dX4_come_114 ?_
              refine r_putI C (hF5.sdI hi10) fl_4_177 rfl rfl dX4_come_117 ?_
              refine r_aloadn C 1 dX4_come_120 rfl ?_
              refine r_aloadn C 0 dX4_come_121 rfl ?_
              refine r_aloadn C 2 dX4_come_122 rfl ?_
              refine r_callVv C K4_takeParts [vr (20 + 3 * w7.toNatClampNeg), vr b3] [] (hF5.k (by decide) rfl) (by decide) rfl cl_4_183 rm_4_come_4_takeParts ⟨rfl, rfl⟩ (by decide) (by decide) rfl (Nat.le_of_ble_eq_true rfl) dX4_come_123 h (fun S19 hF19 hn19 h => ?_)
              refine r_iconst C (x := 1) dX4_come_126 (by decide) ?_
              exact ri O ⟨_, rfl, rfl⟩ dX4_come_127 (by decide) (by decide) hF19 (Nat.le_trans (Nat.le_trans (Nat.le_trans hn hn1) hn5) hn19) h
            · replace h := h.2 hc18
              refine r_aloadn C 1 dX4_come_99 rfl ?_
              refine r_aloadn C 0 dX4_come_100 rfl ?_
              refine r_aloadn C 2 dX4_come_101 rfl ?_
              refine r_callVv C K4_lookAtAddress [vr (20 + 3 * w7.toNatClampNeg), vr b3] [] (hF5.k (by decide) rfl) (by decide) rfl cl_4_174 rm_4_come_4_lookAtAddress ⟨rfl, rfl⟩ (by decide) (by decide) rfl (Nat.le_of_ble_eq_true rfl) dX4_come_102 h (fun S20 hF20 hn20 h => ?_)
              refine r_aloadn C 0 dX4_come_105 rfl ?_
              refine r_aloadn C 0 dX4_come_106 rfl ?_
              refine r_getI C (hF20.sdI hi10) fl_4_177 rfl dX4_come_107 ?_
              refine r_aloadn C 2 dX4_come_110 rfl ?_
              refine r_getI C (al.mono (al.mono (hk2 _ hb4) hn5) hn20) fl_4_148 rfl dX4_come_111 ?_
              refine r_max C mw_4_180 (by decide) (Nat.le_of_ble_eq_true rfl) (by decide) (by decide) dX4_come_114 ?_
              refine r_putI C (hF20.sdI hi10) fl_4_177 rfl rfl dX4_come_117 ?_
              refine r_aloadn C 1 dX4_come_120 rfl ?_
              refine r_aloadn C 0 dX4_come_121 rfl ?_
              refine r_aloadn C 2 dX4_come_122 rfl ?_
              refine r_callVv C K4_takeParts [vr (20 + 3 * w7.toNatClampNeg), vr b3] [] (hF20.k (by decide) rfl) (by decide) rfl cl_4_183 rm_4_come_4_takeParts ⟨rfl, rfl⟩ (by decide) (by decide) rfl (Nat.le_of_ble_eq_true rfl) dX4_come_123 h (fun S21 hF21 hn21 h => ?_)
              refine r_iconst C (x := 1) dX4_come_126 (by decide) ?_
              exact ri O ⟨_, rfl, rfl⟩ dX4_come_127 (by decide) (by decide) hF21 (Nat.le_trans (Nat.le_trans (Nat.le_trans (Nat.le_trans hn hn1) hn5) hn20) hn21) h
          · replace h := h.2 hc17
            refine r_iconst C (x := 0) dX4_come_85 (by decide) ?_
            exact ri O ⟨_, rfl, rfl⟩ dX4_come_86 (by decide) (by decide) hF5 (Nat.le_trans (Nat.le_trans hn hn1) hn5) h
      refine r_if_ne C dX4_come_56 (tgt := 63) (by decide) (fun hc9 => ?_) (fun hc9 => ?_)
      · refine r_iconst C (x := 0) dX4_come_63 (by decide) ?_
        refine r_perm [1, 0] rfl ?_
        exact kJ8 _ (if_neg hc9).symm
      · refine r_iconst C (x := 1) dX4_come_59 (by decide) ?_
        refine r_goto C dX4_come_60 (tgt := 64) (by decide) ?_
        refine r_perm [1, 0] rfl ?_
        exact kJ8 _ (if_pos hc9).symm
    · replace h := h.2 hc6
      refine r_aloadn C 0 dX4_come_25 rfl ?_
      refine r_getI C (al.mono (hk2 _ hb4) hn5) fl_4_161 rfl dX4_come_26 ?_
      refine r_aloadn C 1 dX4_come_29 rfl ?_
      refine r_getI C (hF5.k (by decide) rfl) fl_4_107 rfl dX4_come_30 ?_
      refine r_icmp_eq C dX4_come_33 (tgt := 48) (by decide) (fun hc22 => ?_) (fun hc22 => ?_)
      · replace h := h.1 hc22
        refine r_aloadn C 1 dX4_come_48 rfl ?_
        refine r_getR C (hF5.k (by decide) rfl) fl_4_36 rfl (o := some 19) hF5.c1 dX4_come_49 ?_
        refine r_aloadn C 0 dX4_come_52 rfl ?_
        refine r_getI C (al.mono (hk2 _ hb4) hn5) fl_4_158 rfl dX4_come_53 ?_
        have kJ24 : ∀ (w23 : Int32) (_ : w23 = (if (gI S5 b3 0) = 0 then 1 else 0 : Int32)), WP X 64 [(0, vr 0), (2, vr b3)] [vi w23, vr 19] S5 0 0 := by
          intro w23 hw23
          replace h := h w23 hw23
          have hz_w23 : w23 = 0 ∨ w23 = 1 := by rw [hw23]; repeat (first | exact Or.inl rfl | exact Or.inr rfl | assumption | split)
          obtain ⟨hi26, h⟩ := h
          refine r_aald C (o := some (20 + 3 * w23.toNatClampNeg)) (hF5.k (by decide) rfl) (by decide) (ixL (n := 2) rfl hi26) (hF5.sdRI hi26) dX4_come_64 ?_
          refine r_astoren C dX4_come_65 (by decide) rfl rfl ?_
          refine r_aloadn C 2 dX4_come_66 rfl ?_
          refine r_getI C (al.mono (hk2 _ hb4) hn5) fl_4_165 rfl dX4_come_67 ?_
          refine r_if_eq C dX4_come_70 (tgt := 78) (by decide) (fun hc27 => ?_) (fun hc27 => ?_)
          · replace h := h.1 hc27
            refine r_aloadn C 2 dX4_come_78 rfl ?_
            refine r_getI C (al.mono (hk2 _ hb4) hn5) fl_4_171 rfl dX4_come_79 ?_
            refine r_if_eq C dX4_come_82 (tgt := 87) (by decide) (fun hc28 => ?_) (fun hc28 => ?_)
            · replace h := h.1 hc28
              refine r_aloadn C 2 dX4_come_87 rfl ?_
              refine r_iconst C (x := 1) dX4_come_88 (by decide) ?_
              refine r_putZ C (al.mono (hk2 _ hb4) hn5) fl_4_171 rfl (Or.inr rfl) rfl dX4_come_89 ?_
              refine r_aloadn C 2 dX4_come_92 rfl ?_
              refine r_getI C (al.mono (hk2 _ hb4) hn5) fl_4_158 rfl dX4_come_93 ?_
              refine r_if_ne C dX4_come_96 (tgt := 105) (by decide) (fun hc29 => ?_) (fun hc29 => ?_)
              · replace h := h.1 hc29
                refine r_aloadn C 0 dX4_come_105 rfl ?_
                refine r_aloadn C 0 dX4_come_106 rfl ?_
                refine r_getI C (hF5.sdI hi26) fl_4_177 rfl dX4_come_107 ?_
                refine r_aloadn C 2 dX4_come_110 rfl ?_
                refine r_getI C (al.mono (hk2 _ hb4) hn5) fl_4_148 rfl dX4_come_111 ?_
                refine r_max C mw_4_180 (by decide) (Nat.le_of_ble_eq_true rfl) (by decide) (by decide) dX4_come_114 ?_
                refine r_putI C (hF5.sdI hi26) fl_4_177 rfl rfl dX4_come_117 ?_
                refine r_aloadn C 1 dX4_come_120 rfl ?_
                refine r_aloadn C 0 dX4_come_121 rfl ?_
                refine r_aloadn C 2 dX4_come_122 rfl ?_
                refine r_callVv C K4_takeParts [vr (20 + 3 * w23.toNatClampNeg), vr b3] [] (hF5.k (by decide) rfl) (by decide) rfl cl_4_183 rm_4_come_4_takeParts ⟨rfl, rfl⟩ (by decide) (by decide) rfl (Nat.le_of_ble_eq_true rfl) dX4_come_123 h (fun S30 hF30 hn30 h => ?_)
                refine r_iconst C (x := 1) dX4_come_126 (by decide) ?_
                exact ri O ⟨_, rfl, rfl⟩ dX4_come_127 (by decide) (by decide) hF30 (Nat.le_trans (Nat.le_trans (Nat.le_trans hn hn1) hn5) hn30) h
              · replace h := h.2 hc29
                refine r_aloadn C 1 dX4_come_99 rfl ?_
                refine r_aloadn C 0 dX4_come_100 rfl ?_
                refine r_aloadn C 2 dX4_come_101 rfl ?_
                refine r_callVv C K4_lookAtAddress [vr (20 + 3 * w23.toNatClampNeg), vr b3] [] (hF5.k (by decide) rfl) (by decide) rfl cl_4_174 rm_4_come_4_lookAtAddress ⟨rfl, rfl⟩ (by decide) (by decide) rfl (Nat.le_of_ble_eq_true rfl) dX4_come_102 h (fun S31 hF31 hn31 h => ?_)
                refine r_aloadn C 0 dX4_come_105 rfl ?_
                refine r_aloadn C 0 dX4_come_106 rfl ?_
                refine r_getI C (hF31.sdI hi26) fl_4_177 rfl dX4_come_107 ?_
                refine r_aloadn C 2 dX4_come_110 rfl ?_
                refine r_getI C (al.mono (al.mono (hk2 _ hb4) hn5) hn31) fl_4_148 rfl dX4_come_111 ?_
                refine r_max C mw_4_180 (by decide) (Nat.le_of_ble_eq_true rfl) (by decide) (by decide) dX4_come_114 ?_
                refine r_putI C (hF31.sdI hi26) fl_4_177 rfl rfl dX4_come_117 ?_
                refine r_aloadn C 1 dX4_come_120 rfl ?_
                refine r_aloadn C 0 dX4_come_121 rfl ?_
                refine r_aloadn C 2 dX4_come_122 rfl ?_
                refine r_callVv C K4_takeParts [vr (20 + 3 * w23.toNatClampNeg), vr b3] [] (hF31.k (by decide) rfl) (by decide) rfl cl_4_183 rm_4_come_4_takeParts ⟨rfl, rfl⟩ (by decide) (by decide) rfl (Nat.le_of_ble_eq_true rfl) dX4_come_123 h (fun S32 hF32 hn32 h => ?_)
                refine r_iconst C (x := 1) dX4_come_126 (by decide) ?_
                exact ri O ⟨_, rfl, rfl⟩ dX4_come_127 (by decide) (by decide) hF32 (Nat.le_trans (Nat.le_trans (Nat.le_trans (Nat.le_trans hn hn1) hn5) hn31) hn32) h
            · replace h := h.2 hc28
              refine r_iconst C (x := 0) dX4_come_85 (by decide) ?_
              exact ri O ⟨_, rfl, rfl⟩ dX4_come_86 (by decide) (by decide) hF5 (Nat.le_trans (Nat.le_trans hn hn1) hn5) h
          · replace h := h.2 hc27
            refine r_aloadn C 0 dX4_come_73 rfl ?_
            refine r_iconst C (x := 1) dX4_come_74 (by decide) ?_
            refine r_putZ C (hF5.sdI hi26) fl_4_168 rfl (Or.inr rfl) rfl dX4_come_75 ?_
            refine r_aloadn C 2 dX4_come_78 rfl ?_
            refine r_getI C (al.mono (hk2 _ hb4) hn5) fl_4_171 rfl dX4_come_79 ?_
            refine r_if_eq C dX4_come_82 (tgt := 87) (by decide) (fun hc33 => ?_) (fun hc33 => ?_)
            · replace h := h.1 hc33
              refine r_aloadn C 2 dX4_come_87 rfl ?_
              refine r_iconst C (x := 1) dX4_come_88 (by decide) ?_
              refine r_putZ C (al.mono (hk2 _ hb4) hn5) fl_4_171 rfl (Or.inr rfl) rfl dX4_come_89 ?_
              refine r_aloadn C 2 dX4_come_92 rfl ?_
              refine r_getI C (al.mono (hk2 _ hb4) hn5) fl_4_158 rfl dX4_come_93 ?_
              refine r_if_ne C dX4_come_96 (tgt := 105) (by decide) (fun hc34 => ?_) (fun hc34 => ?_)
              · replace h := h.1 hc34
                refine r_aloadn C 0 dX4_come_105 rfl ?_
                refine r_aloadn C 0 dX4_come_106 rfl ?_
                refine r_getI C (hF5.sdI hi26) fl_4_177 rfl dX4_come_107 ?_
                refine r_aloadn C 2 dX4_come_110 rfl ?_
                refine r_getI C (al.mono (hk2 _ hb4) hn5) fl_4_148 rfl dX4_come_111 ?_
                refine r_max C mw_4_180 (by decide) (Nat.le_of_ble_eq_true rfl) (by decide) (by decide) dX4_come_114 ?_
                refine r_putI C (hF5.sdI hi26) fl_4_177 rfl rfl dX4_come_117 ?_
                refine r_aloadn C 1 dX4_come_120 rfl ?_
                refine r_aloadn C 0 dX4_come_121 rfl ?_
                refine r_aloadn C 2 dX4_come_122 rfl ?_
                refine r_callVv C K4_takeParts [vr (20 + 3 * w23.toNatClampNeg), vr b3] [] (hF5.k (by decide) rfl) (by decide) rfl cl_4_183 rm_4_come_4_takeParts ⟨rfl, rfl⟩ (by decide) (by decide) rfl (Nat.le_of_ble_eq_true rfl) dX4_come_123 h (fun S35 hF35 hn35 h => ?_)
                refine r_iconst C (x := 1) dX4_come_126 (by decide) ?_
                exact ri O ⟨_, rfl, rfl⟩ dX4_come_127 (by decide) (by decide) hF35 (Nat.le_trans (Nat.le_trans (Nat.le_trans hn hn1) hn5) hn35) h
              · replace h := h.2 hc34
                refine r_aloadn C 1 dX4_come_99 rfl ?_
                refine r_aloadn C 0 dX4_come_100 rfl ?_
                refine r_aloadn C 2 dX4_come_101 rfl ?_
                refine r_callVv C K4_lookAtAddress [vr (20 + 3 * w23.toNatClampNeg), vr b3] [] (hF5.k (by decide) rfl) (by decide) rfl cl_4_174 rm_4_come_4_lookAtAddress ⟨rfl, rfl⟩ (by decide) (by decide) rfl (Nat.le_of_ble_eq_true rfl) dX4_come_102 h (fun S36 hF36 hn36 h => ?_)
                refine r_aloadn C 0 dX4_come_105 rfl ?_
                refine r_aloadn C 0 dX4_come_106 rfl ?_
                refine r_getI C (hF36.sdI hi26) fl_4_177 rfl dX4_come_107 ?_
                refine r_aloadn C 2 dX4_come_110 rfl ?_
                refine r_getI C (al.mono (al.mono (hk2 _ hb4) hn5) hn36) fl_4_148 rfl dX4_come_111 ?_
                refine r_max C mw_4_180 (by decide) (Nat.le_of_ble_eq_true rfl) (by decide) (by decide) dX4_come_114 ?_
                refine r_putI C (hF36.sdI hi26) fl_4_177 rfl rfl dX4_come_117 ?_
                refine r_aloadn C 1 dX4_come_120 rfl ?_
                refine r_aloadn C 0 dX4_come_121 rfl ?_
                refine r_aloadn C 2 dX4_come_122 rfl ?_
                refine r_callVv C K4_takeParts [vr (20 + 3 * w23.toNatClampNeg), vr b3] [] (hF36.k (by decide) rfl) (by decide) rfl cl_4_183 rm_4_come_4_takeParts ⟨rfl, rfl⟩ (by decide) (by decide) rfl (Nat.le_of_ble_eq_true rfl) dX4_come_123 h (fun S37 hF37 hn37 h => ?_)
                refine r_iconst C (x := 1) dX4_come_126 (by decide) ?_
                exact ri O ⟨_, rfl, rfl⟩ dX4_come_127 (by decide) (by decide) hF37 (Nat.le_trans (Nat.le_trans (Nat.le_trans (Nat.le_trans hn hn1) hn5) hn36) hn37) h
            · replace h := h.2 hc33
              refine r_iconst C (x := 0) dX4_come_85 (by decide) ?_
              exact ri O ⟨_, rfl, rfl⟩ dX4_come_86 (by decide) (by decide) hF5 (Nat.le_trans (Nat.le_trans hn hn1) hn5) h
        refine r_if_ne C dX4_come_56 (tgt := 63) (by decide) (fun hc25 => ?_) (fun hc25 => ?_)
        · refine r_iconst C (x := 0) dX4_come_63 (by decide) ?_
          refine r_perm [1, 0] rfl ?_
          exact kJ24 _ (if_neg hc25).symm
        · refine r_iconst C (x := 1) dX4_come_59 (by decide) ?_
          refine r_goto C dX4_come_60 (tgt := 64) (by decide) ?_
          refine r_perm [1, 0] rfl ?_
          exact kJ24 _ (if_pos hc25).symm
      · replace h := h.2 hc22
        refine r_aloadn C 1 dX4_come_36 rfl ?_
        refine r_dup C rfl dX4_come_37 ?_
        refine r_getI C (hF5.k (by decide) rfl) fl_4_162 rfl dX4_come_38 ?_
        refine r_iconst C (x := 1) dX4_come_41 (by decide) ?_
        refine r_iadd C dX4_come_42 ?_
        refine r_putI C (hF5.k (by decide) rfl) fl_4_162 rfl rfl dX4_come_43 ?_
        refine r_iconst C (x := 2) dX4_come_46 (by decide) ?_
        exact ri O ⟨_, rfl, rfl⟩ dX4_come_47 (by decide) (by decide) hF5 (Nat.le_trans (Nat.le_trans hn hn1) hn5) h
  · replace h := h.2 hb4
    refine r_iconst C (x := (-1)) dX4_come_10 (by decide) ?_
    exact ri O ⟨_, rfl, rfl⟩ dX4_come_11 (by decide) (by decide) hF1 (Nat.le_trans hn hn1) h
set_option maxHeartbeats 4000000 in
set_option maxRecDepth 100000 in
theorem e4_tick {S : Sto} {Q : Int32 → Sto → Prop} (hF : Fx S) {p1 : Int32}  (h : ∀ X : Ctx, Oi X K4_tick S Q → (p1 < 1 → (Q (-2) S)) ∧ (¬ p1 < 1 → ((p1 ≤ 1000 → (WP X 17 [(0, vr 0), (1, vi p1), (2, vi 0)] [] S 0 0)) ∧ (¬ p1 ≤ 1000 → (Q (-2) S))))) : Ci K4_tick [vr 0, vi p1] S Q := by
  refine Ci.intro rfl (Nat.le_of_ble_eq_true rfl) (fun X O => ?_)
  replace h := h X O
  have C := O.1
  have hn : sN S ≤ sN S := Nat.le_refl _
  show WP X 0 [(0, vr 0), (1, vi p1)] [] S 0 0
  refine r_iloadn C 1 dX4_tick_0 rfl ?_
  refine r_iconst C (x := 1) dX4_tick_1 (by decide) ?_
  refine r_icmp_lt C dX4_tick_2 (tgt := 12) (by decide) (fun hc1 => ?_) (fun hc1 => ?_)
  · replace h := h.1 hc1
    refine r_bipush C (x := (-2)) dX4_tick_12 (by decide) ?_
    exact ri O ⟨_, rfl, rfl⟩ dX4_tick_14 (by decide) (by decide) hF hn h
  · replace h := h.2 hc1
    refine r_iloadn C 1 dX4_tick_5 rfl ?_
    refine r_sipush C (x := 1000) dX4_tick_6 (by decide) ?_
    refine r_icmp_le C dX4_tick_9 (tgt := 15) (by decide) (fun hc2 => ?_) (fun hc2 => ?_)
    · replace h := h.1 hc2
      refine r_iconst C (x := 0) dX4_tick_15 (by decide) ?_
      refine r_istoren C dX4_tick_16 (by decide) rfl rfl ?_
      refine r_perm [1, 2, 0] rfl ?_
      exact h
    · replace h := h.2 hc2
      refine r_bipush C (x := (-2)) dX4_tick_12 (by decide) ?_
      exact ri O ⟨_, rfl, rfl⟩ dX4_tick_14 (by decide) (by decide) hF hn h
set_option maxHeartbeats 4000000 in
set_option maxRecDepth 100000 in
theorem s4_tick_17 {X : Ctx} {S0 S : Sto} {Q : Int32 → Sto → Prop} (hF : Fx S) (hn : sN S0 ≤ sN S) (O : Oi X K4_tick S0 Q) {l1 : Int32} {l2 : Int32}   (h : (l1 ≤ l2 → (Q (gI S 0 4) S)) ∧ (¬ l1 ≤ l2 → (WP X 34 [(0, vr 0), (1, vi l1), (2, vi l2), (3, vi 0)] [] (pI S 0 4 ((gI S 0 4) + 1)) 0 0))) : WP X 17 [(0, vr 0), (1, vi l1), (2, vi l2)] [] S 0 0 := by
  have C := O.1
  refine r_iloadn C 2 dX4_tick_17 rfl ?_
  refine r_iloadn C 1 dX4_tick_18 rfl ?_
  refine r_icmp_ge C dX4_tick_19 (tgt := 77) (by decide) (fun hc1 => ?_) (fun hc1 => ?_)
  · replace h := h.1 hc1
    refine r_aloadn C 0 dX4_tick_77 rfl ?_
    refine r_getI C (hF.k (by decide) rfl) fl_4_129 rfl dX4_tick_78 ?_
    exact ri O ⟨_, rfl, rfl⟩ dX4_tick_81 (by decide) (by decide) hF hn h
  · replace h := h.2 hc1
    refine r_aloadn C 0 dX4_tick_22 rfl ?_
    refine r_dup C rfl dX4_tick_23 ?_
    refine r_getI C (hF.k (by decide) rfl) fl_4_129 rfl dX4_tick_24 ?_
    refine r_iconst C (x := 1) dX4_tick_27 (by decide) ?_
    refine r_iadd C dX4_tick_28 ?_
    refine r_putI C (hF.k (by decide) rfl) fl_4_129 rfl rfl dX4_tick_29 ?_
    refine r_iconst C (x := 0) dX4_tick_32 (by decide) ?_
    refine r_istoren C dX4_tick_33 (by decide) rfl rfl ?_
    refine r_perm [1, 2, 3, 0] rfl ?_
    exact h
set_option maxHeartbeats 4000000 in
set_option maxRecDepth 100000 in
theorem s4_tick_34 {X : Ctx} {S0 S : Sto} {Q : Int32 → Sto → Prop} (hF : Fx S) (hn : sN S0 ≤ sN S) (O : Oi X K4_tick S0 Q) {l1 : Int32} {l2 : Int32} {l3 : Int32}   (h : (2 ≤ l3 → (WP X 17 [(0, vr 0), (1, vi l1), (2, vi (l2 + 1))] [] S 0 0)) ∧ (¬ 2 ≤ l3 → ((0 ≤ (l3 : Int32).toInt ∧ (l3 : Int32).toInt < (2 : Nat)) ∧ (Cv K4_lookForLost [vr 0, vr (20 + 3 * l3.toNatClampNeg)] S (fun S4 => Cv K0_probeIfLate [vr ((20 + 3 * l3.toNatClampNeg) + 2), vi (gI S4 0 4)] S4 (fun S5 => WP X 34 [(0, vr 0), (1, vi l1), (2, vi l2), (3, vi (l3 + 1))] [] S5 0 0)))))) : WP X 34 [(0, vr 0), (1, vi l1), (2, vi l2), (3, vi l3)] [] S 0 0 := by
  have C := O.1
  refine r_iloadn C 3 dX4_tick_34 rfl ?_
  refine r_iconst C (x := 2) dX4_tick_35 (by decide) ?_
  refine r_icmp_ge C dX4_tick_36 (tgt := 71) (by decide) (fun hc2 => ?_) (fun hc2 => ?_)
  · replace h := h.1 hc2
    refine r_iinc C (y := (l2 + 1)) 2 dX4_tick_71 rfl rfl (by decide) rfl rfl ?_
    refine r_goto C dX4_tick_74 (tgt := 17) (by decide) ?_
    refine r_perm [1, 2, 0] rfl ?_
    exact h
  · replace h := h.2 hc2
    refine r_aloadn C 0 dX4_tick_39 rfl ?_
    refine r_aloadn C 0 dX4_tick_40 rfl ?_
    refine r_getR C (hF.k (by decide) rfl) fl_4_36 rfl (o := some 19) hF.c1 dX4_tick_41 ?_
    refine r_iloadn C 3 dX4_tick_44 rfl ?_
    obtain ⟨hi3, h⟩ := h
    refine r_aald C (o := some (20 + 3 * l3.toNatClampNeg)) (hF.k (by decide) rfl) (by decide) (ixL (n := 2) rfl hi3) (hF.sdRI hi3) dX4_tick_45 ?_
    refine r_callVv C K4_lookForLost [vr (20 + 3 * l3.toNatClampNeg)] [] (hF.k (by decide) rfl) (by decide) rfl cl_4_186 rm_4_tick_4_lookForLost ⟨rfl, rfl⟩ (by decide) (by decide) rfl (Nat.le_of_ble_eq_true rfl) dX4_tick_46 h (fun S4 hF4 hn4 h => ?_)
    refine r_aloadn C 0 dX4_tick_49 rfl ?_
    refine r_getR C (hF4.k (by decide) rfl) fl_4_36 rfl (o := some 19) hF4.c1 dX4_tick_50 ?_
    refine r_iloadn C 3 dX4_tick_53 rfl ?_
    refine r_aald C (o := some (20 + 3 * l3.toNatClampNeg)) (hF4.k (by decide) rfl) (by decide) (ixL (n := 2) rfl hi3) (hF4.sdRI hi3) dX4_tick_54 ?_
    refine r_getR C (hF4.sdI hi3) fl_4_53 rfl (hF4.paceR (hF4.sdI hi3)) dX4_tick_55 ?_
    refine r_aloadn C 0 dX4_tick_58 rfl ?_
    refine r_getI C (hF4.k (by decide) rfl) fl_4_129 rfl dX4_tick_59 ?_
    refine r_callVv C K0_probeIfLate [vi (gI S4 0 4)] [] (hF4.pace (hF4.sdI hi3)) (by decide) rfl cl_4_190 rm_4_tick_0_probeIfLate ⟨rfl, rfl⟩ (by decide) (by decide) rfl (Nat.le_of_ble_eq_true rfl) dX4_tick_62 h (fun S5 hF5 hn5 h => ?_)
    refine r_iinc C (y := (l3 + 1)) 3 dX4_tick_65 rfl rfl (by decide) rfl rfl ?_
    refine r_goto C dX4_tick_68 (tgt := 34) (by decide) ?_
    refine r_perm [1, 2, 3, 0] rfl ?_
    exact h
