section CSEND
variable {T : Sto} {J : Rows}
def zF : List Nat := [75, 74, 69, 68, 70, 56, 64, 62, 41, 40, 58, 59, 30, 31, 36, 32, 33, 61]
theorem zF_o : ∀ r, ¬ r ∈ zF → r ≠ 75 ∧ r ≠ 74 ∧ r ≠ 69 ∧ r ≠ 68 ∧ r ≠ 70 ∧ r ≠ 56 ∧ r ≠ 64 ∧ r ≠ 62 ∧ r ≠ 41 ∧ r ≠ 40 ∧ r ≠ 58 ∧ r ≠ 59 ∧ r ≠ 30 ∧ r ≠ 31 ∧ r ≠ 36 ∧ r ≠ 32 ∧ r ≠ 33 ∧ r ≠ 61 := fun r h => by
  simp only [zF, List.mem_cons, List.not_mem_nil, or_false, not_or] at h
  exact h
section ROWSF
variable {d q n4 r : Nat}
theorem spTo_ne (h : ¬ r ∈ zF) : spTo J d q r = J r := by
  obtain ⟨h1, h2, h3, h4, h5, h6, h7, h8, h9, h10, h11, h12, h13, h14, h15, h16, h17, h18⟩ := zF_o r h
  unfold spTo
  split
  · rfl
  · unfold spTl
    rw [uJ_ne h6, spPut_ne h2 h3 h4 h5, spSp_ne h1]
theorem spAns_ne (h : ¬ r ∈ zF) : spAns J d q r = J r := by
  obtain ⟨h1, h2, h3, h4, h5, h6, h7, h8, h9, h10, h11, h12, h13, h14, h15, h16, h17, h18⟩ := zF_o r h
  unfold spAns
  split
  · rfl
  split
  · rw [uJ_ne h7, spPut_ne h2 h3 h4 h5]
  · rfl
theorem spAsk_ne (h : ¬ r ∈ zF) : spAsk J d q r = J r := by
  obtain ⟨h1, h2, h3, h4, h5, h6, h7, h8, h9, h10, h11, h12, h13, h14, h15, h16, h17, h18⟩ := zF_o r h
  unfold spAsk
  split
  · rfl
  split
  · rw [uJ_ne h8, spPut_ne h2 h3 h4 h5]
  · rfl
theorem spBnds_ne {i : Nat} (h : ¬ r ∈ zF) : ∀ k, spBnds J q i k r = J r := fun k => by
  obtain ⟨h1, h2, h3, h4, h5, h6, h7, h8, h9, h10, h11, h12, h13, h14, h15, h16, h17, h18⟩ := zF_o r h
  induction k with
  | zero => rfl
  | succ k ih =>
    show spBnd (spBnds J q i k) q (i + 2 * k) r = J r
    unfold spBnd
    split
    · exact ih
    split
    · rw [uJ_ne h10, uJ_ne h9, spPut_ne h2 h3 h4 h5]; exact ih
    · exact ih
theorem spAll_ne (h : ¬ r ∈ zF) : spAll J d q r = J r := by
  obtain ⟨h1, h2, h3, h4, h5, h6, h7, h8, h9, h10, h11, h12, h13, h14, h15, h16, h17, h18⟩ := zF_o r h
  unfold spAll
  split
  · rfl
  split
  · rw [uJ_ne h12, uJ_ne h11, spPut_ne h2 h3 h4 h5]
  · rfl
theorem spCuts_ne {i : Nat} (h : ¬ r ∈ zF) : ∀ k, spCuts J q i k r = J r := fun k => by
  obtain ⟨h1, h2, h3, h4, h5, h6, h7, h8, h9, h10, h11, h12, h13, h14, h15, h16, h17, h18⟩ := zF_o r h
  induction k with
  | zero => rfl
  | succ k ih =>
    show spCut (spCuts J q i k) q (i + 2 * k) r = J r
    unfold spCut
    split
    · exact ih
    split
    · rw [uJ_ne h13, spPut_ne h2 h3 h4 h5]; exact ih
    · exact ih
theorem spBys_ne {t : Nat} (h : ¬ r ∈ zF) : ∀ k, spBys J d q t k r = J r := fun k => by
  obtain ⟨h1, h2, h3, h4, h5, h6, h7, h8, h9, h10, h11, h12, h13, h14, h15, h16, h17, h18⟩ := zF_o r h
  induction k with
  | zero => rfl
  | succ k ih =>
    show spByt (spBys J d q t k) d q (stN d t k) r = J r
    unfold spByt
    split
    · rw [uJ_ne h18]
      unfold spB1
      rw [spPut_ne h2 h3 h4 h5, spBE_ne h14 h15 h16 h17]; exact ih
    · exact ih
theorem spPng_ne (h : ¬ r ∈ zF) : spPng J d q r = J r := by
  obtain ⟨h1, h2, h3, h4, h5, h6, h7, h8, h9, h10, h11, h12, h13, h14, h15, h16, h17, h18⟩ := zF_o r h
  unfold spPng
  split
  · rfl
  split
  · rfl
  split
  · rw [spPut_ne h2 h3 h4 h5]
  · rfl
theorem spFill_ne (h : ¬ r ∈ zF) : spFill J d q n4 r = J r := by
  unfold spFill
  split
  · unfold spRest
    rw [spPng_ne h, spBys_ne h]
    unfold spRes
    rw [spCuts_ne h, spAll_ne h, spBnds_ne h, spAsk_ne h, spAns_ne h, spTo_ne h]
  · exact spTo_ne h
end ROWSF
abbrev shutP (J : Rows) (d : Nat) : Prop := d = 1 ∧ ¬ J 26 46 = 0 ∧ ¬ J 26 48 + J 26 0 ≤ 3 * J 26 47
def spSF (J : Rows) (d n4 : Nat) : Rows := spFill (spNew J (300 * d + num J d)) d (300 * d + num J d) n4
def spSG (J : Rows) (d n4 N : Nat) : Rows := spGo (spSF J d n4) d (300 * d + num J d) (num J d) N
theorem tyP : ∀ k, k < NC 1 → (∃ n, tyC 1 k = .object n) ∨ (∃ t, tyC 1 k = .array t) ∨ tyC 1 k = .int ∨ tyC 1 k = .boolean ∨ tyC 1 k = .byte := fun k hk => by
  have hk' : k < 13 := hk
  rcases (show k = 0 ∨ k = 1 ∨ k = 2 ∨ k = 3 ∨ k = 4 ∨ k = 5 ∨ k = 6 ∨ k = 7 ∨ k = 8 ∨ k = 9 ∨ k = 10 ∨ k = 11 ∨ k = 12 by omega) with rfl | rfl | rfl | rfl | rfl | rfl | rfl | rfl | rfl | rfl | rfl | rfl | rfl
  · exact Or.inr (Or.inr (Or.inl rfl))
  · exact Or.inr (Or.inr (Or.inl rfl))
  · exact Or.inr (Or.inr (Or.inl rfl))
  · exact Or.inr (Or.inr (Or.inl rfl))
  · exact Or.inr (Or.inr (Or.inl rfl))
  · exact Or.inr (Or.inl ⟨_, rfl⟩)
  · exact Or.inr (Or.inl ⟨_, rfl⟩)
  · exact Or.inr (Or.inr (Or.inl rfl))
  · exact Or.inr (Or.inr (Or.inl rfl))
  · exact Or.inr (Or.inr (Or.inr (Or.inl rfl)))
  · exact Or.inr (Or.inr (Or.inr (Or.inl rfl)))
  · exact Or.inr (Or.inr (Or.inr (Or.inl rfl)))
  · exact Or.inr (Or.inr (Or.inr (Or.inl rfl)))
set_option maxHeartbeats 4000000 in
set_option maxRecDepth 100000 in
theorem c_send {N n4 : Nat} {p : Int32} {Q : Int32 → Sto → Prop} (h4 : n4 = 4) (hR : Rel T J) (hN : J 26 62 = nI N) (hN4 : N ≤ 400) (hC : ∀ d n, d < 2 → num J d ≤ n → n < 300 → J 71 (300 * d + n) = 0 ∧ J 72 (300 * d + n) = 0 ∧ J 73 (300 * d + n) = 0)
    (h1 : ¬ (0 ≤ p.toInt ∧ p.toInt < 2) → Q (-1) T)
    (h2 : ∀ d, d < 2 → p = nI d → (num J d = 300 ∨ N = 400 → Q (-4) T) ∧ (num J d < 300 → N < 400 → (shutP J d → Q (-5) T) ∧ (¬ shutP J d → ∀ T', Fr T T' → (spSF J d n4 69 (300 * d + num J d) = 0 → Rel T' (spSF J d n4) → Q (-5) T') ∧ (¬ spSF J d n4 69 (300 * d + num J d) = 0 → Rel T' (spSG J d n4 N) → Q (nI (num J d)) T')))) :
    Ci K4_send [vr 0, vi p] T Q := by
  have hF := hR.f
  have g3 : gI T 0 3 = nI N := by rw [← hN]; exact hR.g 3 (by decide)
  have g10 : gI T 0 10 = J 26 46 := hR.g 10 (by decide)
  have g12 : gI T 0 12 = J 26 48 := hR.g 12 (by decide)
  have g5 : gI T 0 5 = J 26 0 := hR.g 5 (by decide)
  have g11 : gI T 0 11 = J 26 47 := hR.g 11 (by decide)
  have g4 : gI T 0 4 = J 26 3 := hR.g 4 (by decide)
  have g8 : gI T 0 8 = J 26 44 := hR.g 8 (by decide)
  have g9 : gI T 0 9 = J 26 45 := hR.g 9 (by decide)
  have h79 := hF.1
  obtain ⟨k0, -, -, -, -⟩ := kdP h79 hF.2.1
  refine Ci.intro rfl (Nat.le_of_ble_eq_true rfl) (fun X O => ?_)
  have C := O.1
  show WP X 0 [(0, vr 0), (1, vi p)] [] T 0 0
  refine r_aloadn C 0 dX4_send_0 rfl ?_
  refine r_iloadn C 1 dX4_send_1 rfl ?_
  refine r_callVo C K4_sideAt [vi p] [] (hF.k (by decide) rfl) (by decide) rfl cl_4_110 rm_4_send_4_sideAt ⟨rfl, rfl⟩ (by decide) (by decide) rfl (Nat.le_of_ble_eq_true rfl) dX4_send_2 (c_sideAt (Q := fun x S => S = T ∧ ((x = none ∧ ¬ (0 ≤ p.toInt ∧ p.toInt < 2)) ∨ ∃ d, d < 2 ∧ p = nI d ∧ x = some (20 + 3 * d))) hF (fun hc => ⟨rfl, Or.inl ⟨rfl, hc⟩⟩) (fun d hd e => ⟨rfl, Or.inr ⟨d, hd, e, rfl⟩⟩)) (fun x S1 hF1 hn1 hq => ?_)
  obtain ⟨hS, hq⟩ := hq
  subst hS
  rcases hq with ⟨hx, hc⟩ | ⟨d, hd, hp, hx⟩
  · subst hx
    refine r_astoren C dX4_send_5 (by decide) rfl rfl ?_
    refine r_aloadn C 0 dX4_send_6 rfl ?_
    refine r_ifnonnull C dX4_send_7 (tgt := 12) (by decide) (fun b hb => by cases hb) (fun _ => ?_)
    refine r_iconst C (x := -1) dX4_send_10 (by decide) ?_
    exact ri O ⟨_, rfl, rfl⟩ dX4_send_11 (by decide) (by decide) hF (Nat.le_refl _) (h1 hc)
  subst hx
  obtain ⟨h2a, h2b⟩ := h2 d hd hp
  subst hp
  have e3 : gI S1 (20 + 3 * d) 3 = nI (num J d) := ((hR.d hd).1 3 (by decide)).trans (hR.vd hd).nm.1
  have n3 := hR.nle hd
  refine r_astoren C dX4_send_5 (by decide) rfl rfl ?_
  refine r_aloadn C 0 dX4_send_6 rfl ?_
  refine r_ifnonnull C dX4_send_7 (tgt := 12) (by decide) (fun b hb => ?_) (fun hb => by cases hb)
  refine r_aloadn C 0 dX4_send_12 rfl ?_
  refine r_getI C (hF.sd hd) fl_4_114 rfl dX4_send_13 ?_
  refine r_sipush C (x := 300) dX4_send_16 (by decide) ?_
  have full : (num J d = 300 ∨ N = 400) → WP X 32 [(2, vr (20 + 3 * d)), (0, vr 0), (1, vi (nI d))] [] S1 0 0 := fun hf => by
    refine r_bipush C (x := -4) dX4_send_32 (by decide) ?_
    exact ri O ⟨_, rfl, rfl⟩ dX4_send_34 (by decide) (by decide) hF (Nat.le_refl _) (h2a hf)
  refine r_icmp_ge C dX4_send_19 (tgt := 32) (by decide) (fun hc => full (Or.inl ?_)) (fun hc => ?_)
  · rw [e3, show (300 : Int32) = nI 300 from rfl, nI_leI (by omega) (by omega)] at hc; omega
  have hn : num J d < 300 := by
    rw [e3, show (300 : Int32) = nI 300 from rfl, nI_leI (by omega) (by omega)] at hc; omega
  refine r_aloadn C 1 dX4_send_22 rfl ?_
  refine r_getI C (hF.k (by decide) rfl) fl_4_117 rfl dX4_send_23 ?_
  refine r_sipush C (x := 400) dX4_send_26 (by decide) ?_
  refine r_icmp_lt C dX4_send_29 (tgt := 35) (by decide) (fun hc2 => ?_) (fun hc2 => full (Or.inr ?_))
  rotate_left
  · rw [g3, show (400 : Int32) = nI 400 from rfl, nI_ltI (by omega) (by omega)] at hc2; omega
  have hNl : N < 400 := by
    rw [g3, show (400 : Int32) = nI 400 from rfl, nI_ltI (by omega) (by omega)] at hc2; exact hc2
  obtain ⟨h2c, h2d⟩ := h2b hn hNl
  -- the packet is made, filled, put under way
  have at68 : ¬ shutP J d → WP X 68 [(2, vr (20 + 3 * d)), (0, vr 0), (1, vi (nI d))] [] S1 0 0 := fun hs => by
    have h2e := h2d hs
    have hNew := hR.newQ hd hn
    have F0 := hNew
    have hFn : Fx (nwP S1 (nI d) (nI (num J d)) (J 26 3) (J 26 (if d = 0 then 44 else 45)) (J 26 0)) := hNew.2.1.f
    have i0 : ∀ a k, a < 79 → gI (nw S1) a k = gI S1 a k := fun a k ha => by rw [gI_nw, if_neg (by omega)]
    have al0 : ∀ a c, a < 79 → kd a = c → al (nw S1) a c := fun a c ha hk => ⟨by rw [sN_nw]; omega, hk⟩
    refine r_new C (c := 1) ⟨by decide, mB 16 (by decide +kernel) rfl, mB 297 (by decide +kernel) rfl, mB 7 (by decide +kernel) rfl⟩ tyP k0 (by decide) (by decide) dX4_send_68 ?_
    refine r_dup C rfl dX4_send_71 ?_
    refine r_iloadn C 2 dX4_send_72 rfl ?_
    refine r_aloadn C 0 dX4_send_73 rfl ?_
    refine r_getI C (al0 (20 + 3 * d) 2 (by omega) (hF.sd hd).2) fl_4_114 rfl dX4_send_74 ?_
    refine r_aloadn C 1 dX4_send_77 rfl ?_
    refine r_getI C (al0 0 4 (by omega) rfl) fl_4_129 rfl dX4_send_78 ?_
    refine r_iloadn C 2 dX4_send_81 rfl ?_
    rw [i0 _ _ (by omega), i0 _ _ (by omega), e3, g4]
    have at96 : WP X 96 [(2, vr (20 + 3 * d)), (0, vr 0), (1, vi (nI d))] [vi (J 26 (if d = 0 then 44 else 45)), vi (J 26 3), vi (nI (num J d)), vi (nI d), vr (sN S1), vr (sN S1)] (nw S1) (0 + 1) (0 + NC 1) := by
      refine r_aloadn C 1 dX4_send_96 rfl ?_
      refine r_getI C (al0 0 4 (by omega) rfl) fl_4_7 rfl dX4_send_97 ?_
      rw [i0 _ _ (by omega), g5]
      refine r_callI C K1_init (a := sN S1) (av := [vi (nI d), vi (nI (num J d)), vi (J 26 3), vi (J 26 (if d = 0 then 44 else 45)), vi (J 26 0)]) [vr (sN S1)] cl_4_135 rm_4_send_1_init (by decide) (by decide) rfl (Nat.le_of_ble_eq_true rfl) dX4_send_100 ?_
      refine c_newPacket rfl h79 hF.2.1 ?_
      show WP X 103 [(2, vr (20 + 3 * d)), (0, vr 0), (1, vi (nI d))] [vr (sN S1)] (nwP S1 (nI d) (nI (num J d)) (J 26 3) (J 26 (if d = 0 then 44 else 45)) (J 26 0)) (0 + 1 + 2) (0 + NC 1 + 72)
      refine r_astoren C dX4_send_103 (by decide) rfl rfl ?_
      refine r_aloadn C 2 dX4_send_104 rfl ?_
      refine r_aloadn C 1 dX4_send_105 rfl ?_
      refine r_aloadn C 0 dX4_send_106 rfl ?_
      have e68 : spNew J (300 * d + num J d) 68 (300 * d + num J d) = nI 10 := by rw [spNew_68, if_pos rfl]; rfl
      have hsp : ∀ j, j < 8 → gI (nwP S1 (nI d) (nI (num J d)) (J 26 3) (J 26 (if d = 0 then 44 else 45)) (J 26 0)) (sN S1 + 2) j = -6 := fun j hj => by unfold nwP; rw [nwL_2, if_pos hj]
      refine r_callVv C K4_fill [vr (20 + 3 * d), vr (sN S1)] [] (hFn.k (by decide) rfl) (by decide) rfl cl_4_138 rm_4_send_4_fill ⟨rfl, rfl⟩ (by decide) (by decide) rfl (Nat.le_of_ble_eq_true rfl) dX4_send_107 (c_fill (Q := fun S => ∃ m', Ev (nwP S1 (nI d) (nI (num J d)) (J 26 3) (J 26 (if d = 0 then 44 else 45)) (J 26 0)) S ∧ FQ S (spSF J d n4) d (sN S1) (300 * d + num J d) m') h4 F0 hd hsp e68 (fun T' m' E F => ⟨m', E, F⟩)) (fun S2 hF2 hn2 hq2 => ?_)
      obtain ⟨m', E, F⟩ := hq2
      have hfr : Fr S1 (nwP S1 (nI d) (nI (num J d)) (J 26 3) (J 26 (if d = 0 then 44 else 45)) (J 26 0)) := fun a q1 q2 => nwP_I (by omega) (by omega) (by omega)
      have hs2 : sN S1 ≤ sN S2 := by rw [E.2.1, nwP_n]; omega
      have hP := F.2.2.1
      have hnum : num (spSF J d n4) d = num J d := by have := F.1; omega
      have c7 : gI S2 (sN S1) 7 = nI m' := hP.2.2.2.2.2.2.2.1.1
      have c1 : gI S2 (sN S1) 1 = nI (num J d) := by rw [← hnum]; exact hP.2.2.2.2.2.1.2.1
      have r69 : spSF J d n4 69 (300 * d + num J d) = nI m' := by
        have := hP.2.2.2.2.2.2.2.1.2.1
        rw [hnum] at this; exact this
      have m16 := hP.2.2.2.1
      refine r_aloadn C 0 dX4_send_110 rfl ?_
      refine r_getI C hP.1 fl_4_142 rfl dX4_send_111 ?_
      rw [c7]
      refine r_if_ne C dX4_send_114 (tgt := 120) (by decide) (fun hc3 => ?_) (fun hc3 => ?_)
      rotate_left
      · refine r_bipush C (x := -5) dX4_send_117 (by decide) ?_
        exact ri O ⟨_, rfl, rfl⟩ dX4_send_119 (by decide) (by decide) hF2 hs2 ((h2e S2 (hfr.tr E.1)).1 (by rw [r69]; exact hc3) F.2.1)
      have m1 : 1 ≤ m' := by
        rcases Nat.eq_zero_or_pos m' with z | z
        · subst z; exact absurd rfl hc3
        · exact z
      refine r_aloadn C 2 dX4_send_120 rfl ?_
      refine r_aloadn C 1 dX4_send_121 rfl ?_
      refine r_aloadn C 0 dX4_send_122 rfl ?_
      have f26 : ∀ j, j ≠ 63 → spSF J d n4 26 j = J 26 j := fun j hj => by unfold spSF; rw [spFill_ne (by decide), spNew_26, if_neg hj]
      have fr' : ∀ r, r = 71 ∨ r = 72 ∨ r = 73 → spSF J d n4 r = J r := fun r hr => by
        unfold spSF
        rw [spFill_ne (by rcases hr with rfl | rfl | rfl <;> decide), spNew_ne (by omega)]
      have hz : spSF J d n4 71 (300 * d + num J d) = 0 ∧ spSF J d n4 72 (300 * d + num J d) = 0 ∧ spSF J d n4 73 (300 * d + num J d) = 0 := by
        rw [fr' 71 (by omega), fr' 72 (by omega), fr' 73 (by omega)]
        exact hC d (num J d) hd (Nat.le_refl _) hn
      refine r_callVv C K4_putUnderWay [vr (20 + 3 * d), vr (sN S1)] [] (hF2.k (by decide) rfl) (by decide) rfl cl_4_145 rm_4_send_4_putUnderWay ⟨rfl, rfl⟩ (by decide) (by decide) rfl (Nat.le_of_ble_eq_true rfl) dX4_send_123 (c_putUnderWay (Q := fun S => Fr S2 S ∧ gI S (sN S1) = gI S2 (sN S1) ∧ Rel S (spGo (spSF J d n4) d (300 * d + num J d) (num (spSF J d n4) d) N)) F hd m1 (by rw [f26 62 (by decide)]; exact hN) hNl hz (fun T' a1 _ a3 a4 => ⟨a1, a3, a4⟩)) (fun S3 hF3 hn3 hq3 => ?_)
      obtain ⟨b1, b2, b3⟩ := hq3
      rw [hnum] at b3
      refine r_aloadn C 0 dX4_send_126 rfl ?_
      refine r_getI C (hP.1.mono hn3) fl_4_148 rfl dX4_send_127 ?_
      rw [b2, c1]
      refine ri O ⟨_, rfl, rfl⟩ dX4_send_130 (by decide) (by decide) hF3 (Nat.le_trans hs2 hn3) ((h2e S3 ((hfr.tr E.1).tr b1)).2 ?_ b3)
      rw [r69]; exact hc3
    refine r_if_ne C dX4_send_82 (tgt := 92) (by decide) (fun hc3 => ?_) (fun hc3 => ?_)
    · have hd1 : d = 1 := by
        rcases (show d = 0 ∨ d = 1 by omega) with z | z
        · subst z; exact absurd rfl hc3
        · exact z
      refine r_aloadn C 1 dX4_send_92 rfl ?_
      refine r_getI C (al0 0 4 (by omega) rfl) fl_4_132 rfl dX4_send_93 ?_
      rw [i0 _ _ (by omega), g9]
      rw [if_neg (show ¬ d = 0 by omega)] at at96
      exact at96
    · have hd0 : d = 0 := by
        rcases (show d = 0 ∨ d = 1 by omega) with z | z
        · exact z
        · subst z; exact absurd hc3 (by decide)
      refine r_aloadn C 1 dX4_send_85 rfl ?_
      refine r_getI C (al0 0 4 (by omega) rfl) fl_4_107 rfl dX4_send_86 ?_
      rw [i0 _ _ (by omega), g8]
      refine r_goto C dX4_send_89 (tgt := 96) (by decide) ?_
      rw [if_pos hd0] at at96
      exact at96
  refine r_iloadn C 2 dX4_send_35 rfl ?_
  refine r_iconst C (x := 1) dX4_send_36 (by decide) ?_
  have d1 : nI d = 1 ↔ d = 1 := ⟨fun z => nI_nj (b := 1) (by omega) (by omega) z, fun z => by rw [z]; rfl⟩
  refine r_icmp_ne C dX4_send_37 (tgt := 68) (by decide) (fun hc3 => at68 (fun z => hc3 (d1.mpr z.1))) (fun hc3 => ?_)
  refine r_aloadn C 1 dX4_send_40 rfl ?_
  refine r_getI C (hF.k (by decide) rfl) fl_4_120 rfl dX4_send_41 ?_
  rw [g10]
  refine r_if_eq C dX4_send_44 (tgt := 68) (by decide) (fun hc4 => at68 (fun z => z.2.1 hc4)) (fun hc4 => ?_)
  refine r_aloadn C 1 dX4_send_47 rfl ?_
  refine r_getI C (hF.k (by decide) rfl) fl_4_123 rfl dX4_send_48 ?_
  refine r_aloadn C 1 dX4_send_51 rfl ?_
  refine r_getI C (hF.k (by decide) rfl) fl_4_7 rfl dX4_send_52 ?_
  refine r_iadd C dX4_send_55 ?_
  refine r_iconst C (x := 3) dX4_send_56 (by decide) ?_
  refine r_aloadn C 1 dX4_send_57 rfl ?_
  refine r_getI C (hF.k (by decide) rfl) fl_4_126 rfl dX4_send_58 ?_
  refine r_imul C dX4_send_61 ?_
  rw [g12, g5, g11]
  refine r_icmp_le C dX4_send_62 (tgt := 68) (by decide) (fun hc5 => at68 (fun z => z.2.2 hc5)) (fun hc5 => ?_)
  refine r_bipush C (x := -5) dX4_send_65 (by decide) ?_
  exact ri O ⟨_, rfl, rfl⟩ dX4_send_67 (by decide) (by decide) hF (Nat.le_refl _) (h2c ⟨d1.mp hc3, hc4, hc5⟩)
end CSEND
