section INITS
variable {T A : Sto}
def A0 : Sto := (0, fun _ _ => 0, fun _ _ => none)
def stmN (S : Sto) (w : Int32) : Sto := pI (pI (pI (pR (nw (nw S)) (sN S) 0 (some (sN S + 1))) (sN S) 15 (-6)) (sN S) 8 w) (sN S) 13 w
def pcN (S : Sto) (r : Int32) : Sto := pI (pI (pI (pI (pI (pI (nw S) (sN S) 1 (10 * r)) (sN S) 2 1000000) (sN S) 3 (-1)) (sN S) 4 (-6)) (sN S) 5 (-6)) (sN S) 6 (-6)
def sd0 (S : Sto) (d : Int32) : Sto := pI (pI (pI (pI (pR (nw (nw S)) (sN S) 1 (some (sN S + 1))) (sN S) 5 (-6)) (sN S) 6 (-6)) (sN S) 12 (-6)) (sN S) 0 d
def sdN (S : Sto) (d r w : Int32) : Sto := pI (pI (pR (pcN (sd0 S d) r) (sN S) 2 (some (sN S + 2))) (sN S) 8 w) (sN S) 9 w
theorem sd0_n {S : Sto} {d : Int32} : sN (sd0 S d) = sN S + 2 := rfl
theorem tyQ : ∀ k, k < NC 0 → (∃ n, tyC 0 k = .object n) ∨ (∃ t, tyC 0 k = .array t) ∨ tyC 0 k = .int ∨ tyC 0 k = .boolean ∨ tyC 0 k = .byte := fun k hk => by
  have hk' : k < 10 := hk
  rcases (show k = 0 ∨ k = 1 ∨ k = 2 ∨ k = 3 ∨ k = 4 ∨ k = 5 ∨ k = 6 ∨ k = 7 ∨ k = 8 ∨ k = 9 by omega) with rfl | rfl | rfl | rfl | rfl | rfl | rfl | rfl | rfl | rfl
  · exact Or.inr (Or.inr (Or.inl rfl))
  · exact Or.inr (Or.inr (Or.inl rfl))
  · exact Or.inr (Or.inr (Or.inl rfl))
  · exact Or.inr (Or.inr (Or.inl rfl))
  · exact Or.inr (Or.inr (Or.inl rfl))
  · exact Or.inr (Or.inr (Or.inl rfl))
  · exact Or.inr (Or.inr (Or.inl rfl))
  · exact Or.inr (Or.inr (Or.inl rfl))
  · exact Or.inr (Or.inr (Or.inr (Or.inl rfl)))
  · exact Or.inr (Or.inr (Or.inl rfl))
theorem tyS2 : ∀ k, k < NC 2 → (∃ n, tyC 2 k = .object n) ∨ (∃ t, tyC 2 k = .array t) ∨ tyC 2 k = .int ∨ tyC 2 k = .boolean ∨ tyC 2 k = .byte := fun k hk => by
  have hk' : k < 14 := hk
  rcases (show k = 0 ∨ k = 1 ∨ k = 2 ∨ k = 3 ∨ k = 4 ∨ k = 5 ∨ k = 6 ∨ k = 7 ∨ k = 8 ∨ k = 9 ∨ k = 10 ∨ k = 11 ∨ k = 12 ∨ k = 13 by omega) with rfl | rfl | rfl | rfl | rfl | rfl | rfl | rfl | rfl | rfl | rfl | rfl | rfl | rfl
  · exact Or.inr (Or.inr (Or.inl rfl))
  · exact Or.inr (Or.inl ⟨_, rfl⟩)
  · exact Or.inl ⟨_, rfl⟩
  · exact Or.inr (Or.inr (Or.inl rfl))
  · exact Or.inr (Or.inr (Or.inl rfl))
  · exact Or.inr (Or.inr (Or.inl rfl))
  · exact Or.inr (Or.inr (Or.inl rfl))
  · exact Or.inr (Or.inr (Or.inr (Or.inl rfl)))
  · exact Or.inr (Or.inr (Or.inl rfl))
  · exact Or.inr (Or.inr (Or.inl rfl))
  · exact Or.inr (Or.inr (Or.inr (Or.inl rfl)))
  · exact Or.inr (Or.inr (Or.inr (Or.inl rfl)))
  · exact Or.inr (Or.inr (Or.inl rfl))
  · exact Or.inr (Or.inr (Or.inl rfl))
theorem tyS3 : ∀ k, k < NC 3 → (∃ n, tyC 3 k = .object n) ∨ (∃ t, tyC 3 k = .array t) ∨ tyC 3 k = .int ∨ tyC 3 k = .boolean ∨ tyC 3 k = .byte := fun k hk => by
  have hk' : k < 17 := hk
  rcases (show k = 0 ∨ k = 1 ∨ k = 2 ∨ k = 3 ∨ k = 4 ∨ k = 5 ∨ k = 6 ∨ k = 7 ∨ k = 8 ∨ k = 9 ∨ k = 10 ∨ k = 11 ∨ k = 12 ∨ k = 13 ∨ k = 14 ∨ k = 15 ∨ k = 16 by omega) with rfl | rfl | rfl | rfl | rfl | rfl | rfl | rfl | rfl | rfl | rfl | rfl | rfl | rfl | rfl | rfl | rfl
  · exact Or.inr (Or.inl ⟨_, rfl⟩)
  · exact Or.inr (Or.inr (Or.inl rfl))
  · exact Or.inr (Or.inr (Or.inr (Or.inl rfl)))
  · exact Or.inr (Or.inr (Or.inr (Or.inl rfl)))
  · exact Or.inr (Or.inr (Or.inr (Or.inl rfl)))
  · exact Or.inr (Or.inr (Or.inl rfl))
  · exact Or.inr (Or.inr (Or.inl rfl))
  · exact Or.inr (Or.inr (Or.inl rfl))
  · exact Or.inr (Or.inr (Or.inl rfl))
  · exact Or.inr (Or.inr (Or.inl rfl))
  · exact Or.inr (Or.inr (Or.inl rfl))
  · exact Or.inr (Or.inr (Or.inl rfl))
  · exact Or.inr (Or.inr (Or.inl rfl))
  · exact Or.inr (Or.inr (Or.inl rfl))
  · exact Or.inr (Or.inr (Or.inr (Or.inl rfl)))
  · exact Or.inr (Or.inr (Or.inl rfl))
  · exact Or.inr (Or.inr (Or.inr (Or.inl rfl)))
theorem tyS4 : ∀ k, k < NC 4 → (∃ n, tyC 4 k = .object n) ∨ (∃ t, tyC 4 k = .array t) ∨ tyC 4 k = .int ∨ tyC 4 k = .boolean ∨ tyC 4 k = .byte := fun k hk => by
  have hk' : k < 14 := hk
  rcases (show k = 0 ∨ k = 1 ∨ k = 2 ∨ k = 3 ∨ k = 4 ∨ k = 5 ∨ k = 6 ∨ k = 7 ∨ k = 8 ∨ k = 9 ∨ k = 10 ∨ k = 11 ∨ k = 12 ∨ k = 13 by omega) with rfl | rfl | rfl | rfl | rfl | rfl | rfl | rfl | rfl | rfl | rfl | rfl | rfl | rfl
  · exact Or.inr (Or.inl ⟨_, rfl⟩)
  · exact Or.inr (Or.inl ⟨_, rfl⟩)
  · exact Or.inr (Or.inl ⟨_, rfl⟩)
  · exact Or.inr (Or.inr (Or.inl rfl))
  · exact Or.inr (Or.inr (Or.inl rfl))
  · exact Or.inr (Or.inr (Or.inl rfl))
  · exact Or.inr (Or.inr (Or.inl rfl))
  · exact Or.inr (Or.inr (Or.inl rfl))
  · exact Or.inr (Or.inr (Or.inl rfl))
  · exact Or.inr (Or.inr (Or.inl rfl))
  · exact Or.inr (Or.inr (Or.inr (Or.inl rfl)))
  · exact Or.inr (Or.inr (Or.inl rfl))
  · exact Or.inr (Or.inr (Or.inl rfl))
  · exact Or.inr (Or.inr (Or.inl rfl))
set_option maxHeartbeats 4000000 in
set_option maxRecDepth 100000 in
theorem c_newStream {p : Nat} {w : Int32} {Q : Option AV → Sto → Prop} (hp : p = sN T) (k3 : kd p = 3) (h : Q none (stmN T w)) : CALL K3_init [vr p, vi w] (nw T) Q := by
  obtain ⟨k6, l6⟩ := kd3 k3
  have s1 : sN (nw T) = p + 1 := by rw [hp]; rfl
  have n2 : sN (nw (nw T)) = p + 2 := by rw [hp]; rfl
  refine CALL.intro rfl (Nat.le_of_ble_eq_true rfl) (fun X O => ?_)
  have C := O.1
  show WP X 0 [(0, vr p), (1, vi w)] [] (nw T) 0 0
  refine r_aloadn C 0 dX3_init_0 rfl ?_
  refine r_objInit C oi_3 oi_m oi_c (by decide) (by decide) dX3_init_1 ?_
  refine r_aloadn C 0 dX3_init_4 rfl ?_
  refine r_sipush C (x := 1000) dX3_init_5 (by decide) ?_
  refine r_newa C (c := 6) (by decide) rfl (mB 90 (by decide +kernel) rfl) (by rw [s1]; exact k6) (by rw [s1, l6]; rfl) (by rw [s1, l6]; decide) (by decide) (by rw [s1, l6]; decide) dX3_init_8 ?_
  rw [s1, l6]
  have A2 : al (nw (nw T)) p 3 := ⟨by rw [n2]; omega, k3⟩
  refine r_putFR C A2 fl_3_9 (Or.inr ⟨_, rfl⟩) ⟨rfl, rfl, rfl⟩ dX3_init_10 ?_
  refine r_aloadn C 0 dX3_init_13 rfl ?_
  refine r_bipush C (x := -6) dX3_init_14 (by decide) ?_
  refine r_putI C (c := 3) A2 fl_3_15 rfl rfl dX3_init_16 ?_
  refine r_aloadn C 0 dX3_init_19 rfl ?_
  refine r_iloadn C 1 dX3_init_20 rfl ?_
  refine r_putI C (c := 3) A2 fl_3_19 rfl rfl dX3_init_21 ?_
  refine r_aloadn C 0 dX3_init_24 rfl ?_
  refine r_iloadn C 1 dX3_init_25 rfl ?_
  refine r_putI C (c := 3) A2 fl_3_22 rfl rfl dX3_init_26 ?_
  subst hp
  exact r_vret O rfl dX3_init_29 (by decide) (by decide) h
set_option maxHeartbeats 4000000 in
set_option maxRecDepth 100000 in
theorem c_startOverR {q : Nat} {a b : Int32} {Q : Option AV → Sto → Prop} (hp0 : al T q 0) (h : Q none (pI (pI (pI (pI (pI (pI T q 1 (10 * a)) q 2 1000000) q 3 b) q 4 (-6)) q 5 (-6)) q 6 (-6))) : CALL K0_startOver [vr q, vi a, vi b] T Q := by
  refine CALL.intro rfl (Nat.le_of_ble_eq_true rfl) (fun X O => ?_)
  have C := O.1
  show WP X 0 [(0, vr q), (1, vi a), (2, vi b)] [] T 0 0
  refine r_aloadn C 0 dX0_startOver_0 rfl ?_
  refine r_bipush C (x := 10) dX0_startOver_1 (by decide) ?_
  refine r_iloadn C 1 dX0_startOver_3 rfl ?_
  refine r_imul C dX0_startOver_4 ?_
  refine r_putI C hp0 fl_0_15 rfl rfl dX0_startOver_5 ?_
  refine r_aloadn C 0 dX0_startOver_8 rfl ?_
  refine r_ldc C (x := 1000000) (mB 109 (by decide +kernel) rfl) dX0_startOver_9 ?_
  refine r_putI C (c := 0) hp0 fl_0_20 rfl rfl dX0_startOver_11 ?_
  refine r_aloadn C 0 dX0_startOver_14 rfl ?_
  refine r_iloadn C 2 dX0_startOver_15 rfl ?_
  refine r_putI C (c := 0) hp0 fl_0_23 rfl rfl dX0_startOver_16 ?_
  refine r_aloadn C 0 dX0_startOver_19 rfl ?_
  refine r_bipush C (x := (-6)) dX0_startOver_20 (by decide) ?_
  refine r_putI C (c := 0) hp0 fl_0_26 rfl rfl dX0_startOver_22 ?_
  refine r_aloadn C 0 dX0_startOver_25 rfl ?_
  refine r_bipush C (x := (-6)) dX0_startOver_26 (by decide) ?_
  refine r_putI C (c := 0) hp0 fl_0_29 rfl rfl dX0_startOver_28 ?_
  refine r_aloadn C 0 dX0_startOver_31 rfl ?_
  refine r_bipush C (x := (-6)) dX0_startOver_32 (by decide) ?_
  refine r_putI C (c := 0) hp0 fl_0_32 rfl rfl dX0_startOver_34 ?_
  exact r_vret O rfl dX0_startOver_37 (by decide) (by decide) h
set_option maxHeartbeats 4000000 in
set_option maxRecDepth 100000 in
theorem c_newPace {q : Nat} {r : Int32} {Q : Option AV → Sto → Prop} (hq : q = sN T) (k0 : kd q = 0) (h : Q none (pcN T r)) : CALL K0_init [vr q, vi r] (nw T) Q := by
  have A1 : al (nw T) q 0 := ⟨by rw [sN_nw, hq]; exact Nat.lt_succ_self _, k0⟩
  refine CALL.intro rfl (Nat.le_of_ble_eq_true rfl) (fun X O => ?_)
  have C := O.1
  show WP X 0 [(0, vr q), (1, vi r)] [] (nw T) 0 0
  refine r_aloadn C 0 dX0_init_0 rfl ?_
  refine r_objInit C oi_0 oi_m oi_c (by decide) (by decide) dX0_init_1 ?_
  refine r_aloadn C 0 dX0_init_4 rfl ?_
  refine r_iloadn C 1 dX0_init_5 rfl ?_
  refine r_iconst C (x := -1) dX0_init_6 (by decide) ?_
  refine r_callV C K0_startOver (av := [vi r, vi (-1)]) [] A1 (by decide) rfl cl_0_9 rm_0_init_0_startOver (by decide) (by decide) rfl (Nat.le_of_ble_eq_true rfl) dX0_init_7 (c_startOverR A1 ?_)
  subst hq
  exact r_vret O rfl dX0_init_10 (by decide) (by decide) h
set_option maxHeartbeats 4000000 in
set_option maxRecDepth 100000 in
theorem c_newSide {p : Nat} {d r w : Int32} {Q : Option AV → Sto → Prop} (hp : p = sN T) (k2 : kd p = 2) (h : Q none (sdN T d r w)) : CALL K2_init [vr p, vi d, vi r, vi w] (nw T) Q := by
  obtain ⟨k9, l9, k0⟩ := kd2 k2
  have s1 : sN (nw T) = p + 1 := by rw [hp]; rfl
  have n2 : sN (nw (nw T)) = p + 2 := by rw [hp]; rfl
  refine CALL.intro rfl (Nat.le_of_ble_eq_true rfl) (fun X O => ?_)
  have C := O.1
  show WP X 0 [(0, vr p), (1, vi d), (2, vi r), (3, vi w)] [] (nw T) 0 0
  refine r_aloadn C 0 dX2_init_0 rfl ?_
  refine r_objInit C oi_2 oi_m oi_c (by decide) (by decide) dX2_init_1 ?_
  refine r_aloadn C 0 dX2_init_4 rfl ?_
  refine r_sipush C (x := 300) dX2_init_5 (by decide) ?_
  refine r_newq C (c := 9) (by decide) ⟨_, rfl, mB 98 (by decide +kernel) rfl, C.dk.2.2.1⟩ (by rw [s1]; exact k9) (by rw [s1, l9]; rfl) (by rw [s1, l9]; decide) (by decide) (by rw [s1, l9]; decide) dX2_init_8 ?_
  rw [s1, l9]
  have A2 : al (nw (nw T)) p 2 := ⟨by rw [n2]; omega, k2⟩
  refine r_putFR C A2 fl_2_11 (Or.inr ⟨_, rfl⟩) ⟨rfl, rfl, rfl⟩ dX2_init_11 ?_
  refine r_aloadn C 0 dX2_init_14 rfl ?_
  refine r_bipush C (x := -6) dX2_init_15 (by decide) ?_
  refine r_putI C (c := 2) A2 fl_2_17 rfl rfl dX2_init_17 ?_
  refine r_aloadn C 0 dX2_init_20 rfl ?_
  refine r_bipush C (x := -6) dX2_init_21 (by decide) ?_
  refine r_putI C (c := 2) A2 fl_2_21 rfl rfl dX2_init_23 ?_
  refine r_aloadn C 0 dX2_init_26 rfl ?_
  refine r_bipush C (x := -6) dX2_init_27 (by decide) ?_
  refine r_putI C (c := 2) A2 fl_2_24 rfl rfl dX2_init_29 ?_
  refine r_aloadn C 0 dX2_init_32 rfl ?_
  refine r_iloadn C 1 dX2_init_33 rfl ?_
  refine r_putFI C (c := 2) A2 fl_2_27 rfl ⟨rfl, rfl, rfl⟩ dX2_init_34 ?_
  have e0 : pI (pI (pI (pI (pR (nw (nw T)) p 1 (some (p + 1))) p 5 (-6)) p 6 (-6)) p 12 (-6)) p 0 d = sd0 T d := by rw [hp]; rfl
  rw [e0]
  have e2 : sN (sd0 T d) = p + 2 := by rw [sd0_n, hp]
  refine r_aloadn C 0 dX2_init_37 rfl ?_
  refine r_new C (c := 0) ⟨by decide, mB 99 (by decide +kernel) rfl, mB 100 (by decide +kernel) rfl, mB 4 (by decide +kernel) rfl⟩ tyQ (by rw [e2]; exact k0) (by decide) (by decide) dX2_init_38 ?_
  rw [e2]
  refine r_dup C rfl dX2_init_41 ?_
  refine r_iloadn C 2 dX2_init_42 rfl ?_
  refine r_callI C K0_init (a := p + 2) (av := [vi r]) [vr (p + 2), vr p] cl_2_32 rm_2_init_0_init (by decide) (by decide) rfl (Nat.le_of_ble_eq_true rfl) dX2_init_43 (c_newPace e2.symm k0 ?_)
  show WP X 46 [(0, vr p), (1, vi d), (2, vi r), (3, vi w)] [vr (p + 2), vr p] (pcN (sd0 T d) r) (0 + 1 + 1 + 0) (0 + 300 + NC 0 + 0)
  have A3 : al (pcN (sd0 T d) r) p 2 := ⟨by show p < sN (sd0 T d) + 1; rw [e2]; omega, k2⟩
  refine r_putFR C A3 fl_2_35 (Or.inl ⟨_, rfl⟩) ⟨rfl, rfl, rfl⟩ dX2_init_46 ?_
  refine r_aloadn C 0 dX2_init_49 rfl ?_
  refine r_iloadn C 3 dX2_init_50 rfl ?_
  refine r_putI C (c := 2) A3 fl_2_39 rfl rfl dX2_init_51 ?_
  refine r_aloadn C 0 dX2_init_54 rfl ?_
  refine r_iloadn C 3 dX2_init_55 rfl ?_
  refine r_putI C (c := 2) A3 fl_2_42 rfl rfl dX2_init_56 ?_
  subst hp
  exact r_vret O rfl dX2_init_59 (by decide) (by decide) h
def B1 (A : Sto) : Sto := pI (pI (pI (nw A) 0 5 200) 0 6 300) 0 7 600
def B2 (A : Sto) : Sto := pR (nw (B1 A)) 0 2 (some 1)
def B3 (A : Sto) : Sto := pR (nw (B2 A)) 0 0 (some 2)
def BSt (A : Sto) : Nat → Sto
  | 0 => B3 A
  | i + 1 => pR (stmN (BSt A i) 300) 2 i (some (3 + 2 * i))
theorem BSt_n (hA : sN A = 0) : ∀ i, sN (BSt A i) = 3 + 2 * i := fun i => by
  induction i with
  | zero => show sN A + 1 + 1 + 1 = _; rw [hA]
  | succ i ih =>
    show sN (BSt A i) + 1 + 1 = _
    rw [ih]; omega
theorem stmN_lo {S : Sto} {w : Int32} {a : Nat} (h : a < sN S) : gI (stmN S w) a = gI S a ∧ gR (stmN S w) a = gR S a := by
  unfold stmN
  have h1 : ¬ a = sN (nw S) := by rw [sN_nw]; omega
  have h0 : ¬ a = sN S := by omega
  constructor
  · rw [gI_ne h0, gI_ne h0, gI_ne h0, gI_pR, gI_nw, if_neg h1, gI_nw, if_neg h0]
  · rw [gR_pI, gR_pI, gR_pI, gR_pR, if_neg h0, gR_nw, if_neg h1, gR_nw, if_neg h0]
theorem BSt_0 (hA : sN A = 0) : ∀ i, gI (BSt A i) 0 = gI (B3 A) 0 ∧ gR (BSt A i) 0 = gR (B3 A) 0 := fun i => by
  induction i with
  | zero => exact ⟨rfl, rfl⟩
  | succ i ih =>
    have := stmN_lo (S := BSt A i) (w := 300) (a := 0) (by rw [BSt_n hA]; omega)
    constructor
    · show gI (stmN (BSt A i) 300) 0 = _
      rw [this.1]; exact ih.1
    · show gR (pR (stmN (BSt A i) 300) 2 i (some (3 + 2 * i))) 0 = _
      rw [gR_pR, if_neg (by decide), this.2]; exact ih.2
def B4 (A : Sto) : Sto := pR (nw (BSt A 8)) 0 1 (some 19)
def B5 (A : Sto) : Sto := pR (sdN (B4 A) 0 200 600) 19 0 (some 20)
def CS (A : Sto) : Sto := pR (sdN (B5 A) 1 200 600) 19 1 (some 23)
theorem B1_n (hA : sN A = 0) : sN (B1 A) = 1 := by show sN A + 1 = 1; rw [hA]
theorem B2_n (hA : sN A = 0) : sN (B2 A) = 2 := by show sN (B1 A) + 1 = 2; rw [B1_n hA]
theorem B3_i (hA : sN A = 0) : gI (B3 A) 0 = upd (upd (upd (gI (nw A) 0) 5 200) 6 300) 7 600 := by
  unfold B3
  rw [gI_pR, gI_nw, if_neg (by rw [B2_n hA]; decide)]
  unfold B2
  rw [gI_pR, gI_nw, if_neg (by rw [B1_n hA]; decide)]
  unfold B1
  rw [gI_eq, gI_eq, gI_eq]
theorem B3_5 (hA : sN A = 0) : gI (B3 A) 0 5 = 200 := by rw [B3_i hA]; rfl
theorem B3_6 (hA : sN A = 0) : gI (B3 A) 0 6 = 300 := by rw [B3_i hA]; rfl
theorem B3_7 (hA : sN A = 0) : gI (B3 A) 0 7 = 600 := by rw [B3_i hA]; rfl
theorem B3_r : gR (B3 A) 0 0 = some 2 := by
  unfold B3
  rw [gR_pR, if_pos rfl]; rfl
set_option maxHeartbeats 4000000 in
set_option maxRecDepth 100000 in
theorem t_side1 {X : Ctx} {S : Sto} {Q : Option AV → Sto → Prop} (O : Ok X K4_init Q) (m5 : sN S = 23) (g5 : gI S 0 5 = 200) (g7 : gI S 0 7 = 600) (q5 : gR S 0 1 = some 19) (h : Q none (pR (sdN S 1 200 600) 19 1 (some 23))) : WP X 105 [(1, vi 8), (0, vr 0)] [] S 22 8870 := by
  have C := O.1
  refine r_aloadn C 1 dX4_init_105 rfl ?_
  refine r_getR C (c := 4) ⟨by rw [m5]; decide, rfl⟩ fl_4_36 rfl q5 dX4_init_106 ?_
  refine r_iconst C (x := 1) dX4_init_109 (by decide) ?_
  refine r_new C (c := 2) ⟨by decide, mB 91 (by decide +kernel) rfl, mB 93 (by decide +kernel) rfl, mB 3 (by decide +kernel) rfl⟩ tyS2 (by rw [m5]; decide) (by decide) (by decide) dX4_init_110 ?_
  rw [m5]
  refine r_dup C rfl dX4_init_113 ?_
  refine r_iconst C (x := 1) dX4_init_114 (by decide) ?_
  refine r_aloadn C 1 dX4_init_115 rfl ?_
  have z5 : gI (nw S) 0 = gI S 0 := by rw [gI_nw, if_neg (by rw [m5]; decide)]
  have yr : gI (nw S) 0 5 = 200 := by rw [z5]; exact g5
  have yw : gI (nw S) 0 7 = 600 := by rw [z5]; exact g7
  have an5 : al (nw S) 0 4 := ⟨by rw [sN_nw, m5]; decide, rfl⟩
  refine r_getI C an5 fl_4_7 rfl dX4_init_116 ?_
  refine r_aloadn C 1 dX4_init_119 rfl ?_
  refine r_getI C an5 fl_4_16 rfl dX4_init_120 ?_
  rw [yr, yw]
  refine r_callI C K2_init (a := 23) (av := [vi 1, vi 200, vi 600]) [vr 23, vi 1, vr 19] cl_4_40 rm_4_init_2_init (by decide) (by decide) rfl (Nat.le_of_ble_eq_true rfl) dX4_init_123 (c_newSide m5.symm (by decide) ?_)
  have n6 : sN (sdN S 1 200 600) = 26 := by show sN (sd0 S 1) + 1 = 26; rw [sd0_n, m5]
  refine r_aast C (a := 19) (c := 10) (b := 23) (d := 2) ⟨by rw [n6]; decide, by decide⟩ (by decide) ⟨by rw [n6]; decide, by decide⟩ (by decide) rfl (by decide) dX4_init_126 ?_
  exact r_vret O rfl dX4_init_127 (by decide) (by decide) h
theorem sdN_lo {S : Sto} {d r w : Int32} {a : Nat} (ha : a < sN S) : gI (sdN S d r w) a = gI S a ∧ gR (sdN S d r w) a = gR S a := by
  have e1 : ¬ a = sN (nw S) := by rw [sN_nw]; omega
  have e0 : ¬ a = sN S := by omega
  have e2 : ¬ a = sN (sd0 S d) := by rw [sd0_n]; omega
  have x1 : gI (sd0 S d) a = gI S a := by
    unfold sd0
    rw [gI_ne e0, gI_ne e0, gI_ne e0, gI_ne e0, gI_pR, gI_nw, if_neg e1, gI_nw, if_neg e0]
  have x2 : gR (sd0 S d) a = gR S a := by
    unfold sd0
    rw [gR_pI, gR_pI, gR_pI, gR_pI, gR_pR, if_neg e0, gR_nw, if_neg e1, gR_nw, if_neg e0]
  constructor
  · unfold sdN pcN
    rw [gI_ne e0, gI_ne e0, gI_pR, gI_ne e2, gI_ne e2, gI_ne e2, gI_ne e2, gI_ne e2, gI_ne e2, gI_nw, if_neg e2, x1]
  · unfold sdN pcN
    rw [gR_pI, gR_pI, gR_pR, if_neg e0, gR_pI, gR_pI, gR_pI, gR_pI, gR_pI, gR_pI, gR_nw, if_neg e2, x2]
set_option maxHeartbeats 4000000 in
set_option maxRecDepth 100000 in
theorem t_side0 {X : Ctx} {S : Sto} {Q : Option AV → Sto → Prop} (O : Ok X K4_init Q) (m4 : sN S = 20) (g5 : gI S 0 5 = 200) (g7 : gI S 0 7 = 600) (q4 : gR S 0 1 = some 19) (h : Q none (pR (sdN (pR (sdN S 0 200 600) 19 0 (some 20)) 1 200 600) 19 1 (some 23))) : WP X 83 [(1, vi 8), (0, vr 0)] [] S 19 8546 := by
  have C := O.1
  refine r_aloadn C 1 dX4_init_83 rfl ?_
  refine r_getR C (c := 4) ⟨by rw [m4]; decide, rfl⟩ fl_4_36 rfl q4 dX4_init_84 ?_
  refine r_iconst C (x := 0) dX4_init_87 (by decide) ?_
  refine r_new C (c := 2) ⟨by decide, mB 91 (by decide +kernel) rfl, mB 93 (by decide +kernel) rfl, mB 3 (by decide +kernel) rfl⟩ tyS2 (by rw [m4]; decide) (by decide) (by decide) dX4_init_88 ?_
  rw [m4]
  refine r_dup C rfl dX4_init_91 ?_
  refine r_iconst C (x := 0) dX4_init_92 (by decide) ?_
  refine r_aloadn C 1 dX4_init_93 rfl ?_
  have z4 : gI (nw S) 0 = gI S 0 := by rw [gI_nw, if_neg (by rw [m4]; decide)]
  have zr : gI (nw S) 0 5 = 200 := by rw [z4]; exact g5
  have zw : gI (nw S) 0 7 = 600 := by rw [z4]; exact g7
  have an : al (nw S) 0 4 := ⟨by rw [sN_nw, m4]; decide, rfl⟩
  refine r_getI C an fl_4_7 rfl dX4_init_94 ?_
  refine r_aloadn C 1 dX4_init_97 rfl ?_
  refine r_getI C an fl_4_16 rfl dX4_init_98 ?_
  rw [zr, zw]
  refine r_callI C K2_init (a := 20) (av := [vi 0, vi 200, vi 600]) [vr 20, vi 0, vr 19] cl_4_40 rm_4_init_2_init (by decide) (by decide) rfl (Nat.le_of_ble_eq_true rfl) dX4_init_101 (c_newSide m4.symm (by decide) ?_)
  have n5 : sN (sdN S 0 200 600) = 23 := by show sN (sd0 S 0) + 1 = 23; rw [sd0_n, m4]
  refine r_aast C (a := 19) (c := 10) (b := 20) (d := 2) ⟨by rw [n5]; decide, by decide⟩ (by decide) ⟨by rw [n5]; decide, by decide⟩ (by decide) rfl (by decide) dX4_init_104 ?_
  have lo := sdN_lo (S := S) (d := 0) (r := 200) (w := 600) (a := 0) (by rw [m4]; decide)
  refine t_side1 O (by rw [sN_pR]; exact n5) ?_ ?_ ?_ h
  · rw [gI_pR, lo.1]; exact g5
  · rw [gI_pR, lo.1]; exact g7
  · rw [gR_pR, if_neg (by decide), lo.2]; exact q4
set_option maxHeartbeats 4000000 in
set_option maxRecDepth 100000 in
theorem c_newCarrier {Q : Option AV → Sto → Prop} (hA : sN A = 0) (h : Q none (CS A)) : CALL K4_init [vr 0] (nw A) Q := by
  refine CALL.intro rfl (Nat.le_of_ble_eq_true rfl) (fun X O => ?_)
  have C := O.1
  show WP X 0 [(0, vr 0)] [] (nw A) 0 0
  have a0 : al (nw A) 0 4 := ⟨Nat.succ_pos _, rfl⟩
  refine r_aloadn C 0 dX4_init_0 rfl ?_
  refine r_objInit C oi_4 oi_m oi_c (by decide) (by decide) dX4_init_1 ?_
  refine r_aloadn C 0 dX4_init_4 rfl ?_
  refine r_sipush C (x := 200) dX4_init_5 (by decide) ?_
  refine r_putI C (c := 4) a0 fl_4_7 rfl rfl dX4_init_8 ?_
  refine r_aloadn C 0 dX4_init_11 rfl ?_
  refine r_sipush C (x := 300) dX4_init_12 (by decide) ?_
  refine r_putI C (c := 4) a0 fl_4_13 rfl rfl dX4_init_15 ?_
  refine r_aloadn C 0 dX4_init_18 rfl ?_
  refine r_sipush C (x := 600) dX4_init_19 (by decide) ?_
  refine r_putI C (c := 4) a0 fl_4_16 rfl rfl dX4_init_22 ?_
  show WP X 25 [(0, vr 0)] [] (B1 A) 0 0
  have n1 := B1_n hA
  refine r_aloadn C 0 dX4_init_25 rfl ?_
  refine r_sipush C (x := 400) dX4_init_26 (by decide) ?_
  refine r_newq C (c := 9) (by decide) ⟨_, rfl, mB 16 (by decide +kernel) rfl, C.dk.2.2.1⟩ (by rw [n1]; decide) (by rw [n1]; decide) (by rw [n1]; decide) (by decide) (by rw [n1]; decide) dX4_init_29 ?_
  rw [n1]
  refine r_putFR C (c := 4) (a := 0) ⟨Nat.succ_pos _, rfl⟩ fl_4_21 (Or.inr ⟨_, rfl⟩) ⟨rfl, rfl, rfl⟩ dX4_init_32 ?_
  show WP X 35 [(0, vr 0)] [] (B2 A) 1 400
  have n2 := B2_n hA
  refine r_aloadn C 0 dX4_init_35 rfl ?_
  refine r_bipush C (x := 8) dX4_init_36 (by decide) ?_
  refine r_newq C (c := 11) (by decide) ⟨_, rfl, mB 18 (by decide +kernel) rfl, C.dk.2.2.2.2⟩ (by rw [n2]; decide) (by rw [n2]; decide) (by rw [n2]; decide) (by decide) (by rw [n2]; decide) dX4_init_38 ?_
  rw [n2]
  refine r_putFR C (c := 4) (a := 0) ⟨Nat.succ_pos _, rfl⟩ fl_4_27 (Or.inr ⟨_, rfl⟩) ⟨rfl, rfl, rfl⟩ dX4_init_41 ?_
  show WP X 44 [(0, vr 0)] [] (BSt A 0) 2 408
  refine r_iconst C (x := 0) dX4_init_44 (by decide) ?_
  refine r_istoren C dX4_init_45 (by decide) rfl rfl ?_
  have g6 : ∀ i, gI (BSt A i) 0 6 = 300 := fun i => by rw [(BSt_0 hA i).1]; exact B3_6 hA
  have r0 : ∀ i, gR (BSt A i) 0 0 = some 2 := fun i => by rw [(BSt_0 hA i).2]; exact B3_r
  have aB : ∀ i a c, a < 3 → kd a = c → al (BSt A i) a c := fun i a c ha hk => ⟨by rw [BSt_n hA]; omega, hk⟩
  -- behind the loop
  have rest : WP X 75 [(1, vi 8), (0, vr 0)] [] (BSt A 8) 18 8544 := by
    have n8 : sN (BSt A 8) = 19 := by rw [BSt_n hA]
    refine r_aloadn C 1 dX4_init_75 rfl ?_
    refine r_iconst C (x := 2) dX4_init_76 (by decide) ?_
    refine r_newq C (c := 10) (by decide) ⟨_, rfl, mB 91 (by decide +kernel) rfl, C.dk.2.2.2.1⟩ (by rw [n8]; decide) (by rw [n8]; decide) (by rw [n8]; decide) (by decide) (by rw [n8]; decide) dX4_init_77 ?_
    rw [n8]
    refine r_putFR C (c := 4) (a := 0) ⟨by rw [sN_nw, n8]; decide, rfl⟩ fl_4_36 (Or.inr ⟨_, rfl⟩) ⟨rfl, rfl, rfl⟩ dX4_init_80 ?_
    show WP X 83 [(1, vi 8), (0, vr 0)] [] (B4 A) 19 8546
    have m4 : sN (B4 A) = 20 := by show sN (BSt A 8) + 1 = 20; rw [n8]
    have i4 : gI (B4 A) 0 = gI (B3 A) 0 := by
      show gI (nw (BSt A 8)) 0 = _
      rw [gI_nw, if_neg (by rw [n8]; decide)]; exact (BSt_0 hA 8).1
    have q4 : gR (B4 A) 0 1 = some 19 := by
      show gR (pR (nw (BSt A 8)) 0 1 (some 19)) 0 1 = some 19
      rw [gR_pR, if_pos rfl]; rfl
    have a4 : ∀ a c, a < 20 → kd a = c → al (B4 A) a c := fun a c ha hk => ⟨by rw [m4]; exact ha, hk⟩
    exact t_side0 O m4 (by rw [i4]; exact B3_5 hA) (by rw [i4]; exact B3_7 hA) q4 h
  have loop : ∀ (b i : Nat), i + b = 8 → WP X 46 [(1, vi (nI i)), (0, vr 0)] [] (BSt A i) (2 + 2 * i) (408 + 1017 * i) := by
    intro b
    induction b with
    | zero =>
      intro i hi
      obtain rfl : i = 8 := by omega
      refine r_iloadn C 0 dX4_init_46 rfl ?_
      refine r_bipush C (x := 8) dX4_init_47 (by decide) ?_
      exact r_icmp_ge C dX4_init_49 (tgt := 75) (by decide) (fun _ => rest) (fun hc => absurd (by decide) hc)
    | succ b ih =>
      intro i hi
      have ih2 := ih (i + 1) (by omega)
      have hi8 : i < 8 := by omega
      refine r_iloadn C 0 dX4_init_46 rfl ?_
      refine r_bipush C (x := 8) dX4_init_47 (by decide) ?_
      refine r_icmp_ge C dX4_init_49 (tgt := 75) (by decide) (fun hc => absurd hc (nge (N := 8) hi8 (by decide))) (fun _ => ?_)
      refine r_aloadn C 1 dX4_init_52 rfl ?_
      refine r_getR C (aB i 0 4 (by decide) rfl) fl_4_27 rfl (r0 i) dX4_init_53 ?_
      refine r_iloadn C 0 dX4_init_56 rfl ?_
      refine r_new C (c := 3) ⟨by decide, mB 18 (by decide +kernel) rfl, mB 20 (by decide +kernel) rfl, mB 2 (by decide +kernel) rfl⟩ tyS3 (by rw [BSt_n hA]; exact kd_st i hi8) (by show 2 + 2 * i + 1 ≤ 25; omega) (by show 408 + 1017 * i + 17 ≤ 9194; omega) dX4_init_57 ?_
      rw [BSt_n hA]
      refine r_dup C rfl dX4_init_60 ?_
      refine r_aloadn C 1 dX4_init_61 rfl ?_
      refine r_getI C (c := 4) (a := 0) ⟨by rw [sN_nw, BSt_n hA]; omega, rfl⟩ fl_4_13 rfl dX4_init_62 ?_
      have e6 : gI (nw (BSt A i)) 0 6 = 300 := by rw [gI_nw, if_neg (by rw [BSt_n hA]; omega)]; exact g6 i
      rw [e6]
      refine r_callI C K3_init (a := 3 + 2 * i) (av := [vi 300]) [vr (3 + 2 * i), vi (nI i), vr 2] cl_4_31 rm_4_init_3_init (by show 2 + 2 * i + 1 + 1 ≤ 25; omega) (by show 408 + 1017 * i + 17 + 1000 ≤ 9194; omega) rfl (Nat.le_of_ble_eq_true rfl) dX4_init_65 (c_newStream (BSt_n hA i).symm (kd_st i hi8) ?_)
      have sn : sN (stmN (BSt A i) 300) = 5 + 2 * i := by show sN (BSt A i) + 1 + 1 = _; rw [BSt_n hA]; omega
      refine r_aast C (a := 2) (c := 11) (b := 3 + 2 * i) (d := 3) ⟨by rw [sn]; omega, by decide⟩ (by decide) ⟨by rw [sn]; omega, kd_st i hi8⟩ (by decide) rfl (by show 0 ≤ (nI i).toInt ∧ (nI i).toInt < (8 : Nat); exact ixN hi8 (by decide)) dX4_init_68 ?_
      rw [tnN (show i < 2 ^ 31 by omega)]
      refine r_iinc C 0 (y := nI (i + 1)) dX4_init_69 rfl (nI_suc i) (by decide) rfl rfl ?_
      refine r_goto C dX4_init_72 (tgt := 46) (by decide) ?_
      have e1 : 2 + 2 * i + 1 + (kR K3_init).cells = 2 + 2 * (i + 1) := by show 2 + 2 * i + 1 + 1 = _; omega
      have e2 : 408 + 1017 * i + NC 3 + (kR K3_init).slots = 408 + 1017 * (i + 1) := by show 408 + 1017 * i + 17 + 1000 = _; omega
      rw [e1, e2]
      exact ih2
  exact loop 8 0 (by omega)
end INITS
