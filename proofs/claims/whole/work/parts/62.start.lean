section START
variable {T A S : Sto} {J K : Rows}
def bgS (K : Rows) (b : Int32) : Nat → Rows
  | 0 => K
  | i + 1 => uJ (uJ (uJ (bgS K b i) 35 i b) 40 i b) 42 i (-6)
def bgD (K : Rows) (d : Nat) (a c : Int32) : Rows := uJ (uJ (uJ (uJ (uJ (uJ (uJ (uJ (uJ (uJ (uJ K 46 d (10 * a)) 47 d 1000000) 48 d (-1)) 49 d (-6)) 50 d (-6)) 51 d (-6)) 54 d (-6)) 55 d (-6)) 57 d c) 59 d c) 61 d (nI (d + 6))
theorem bgS_ne {b : Int32} {r : Nat} (h1 : r ≠ 35) (h2 : r ≠ 40) (h3 : r ≠ 42) : ∀ i, bgS K b i r = K r := fun i => by
  induction i with
  | zero => rfl
  | succ i ih =>
    show uJ (uJ (uJ (bgS K b i) 35 i b) 40 i b) 42 i (-6) r = K r
    rw [uJ_ne h3, uJ_ne h2, uJ_ne h1]; exact ih
theorem bgD_ne {d r : Nat} {a c : Int32} (h : r ≠ 46 ∧ r ≠ 47 ∧ r ≠ 48 ∧ r ≠ 49 ∧ r ≠ 50 ∧ r ≠ 51 ∧ r ≠ 54 ∧ r ≠ 55 ∧ r ≠ 57 ∧ r ≠ 59 ∧ r ≠ 61) : bgD K d a c r = K r := by
  obtain ⟨h1, h2, h3, h4, h5, h6, h7, h8, h9, h10, h11⟩ := h
  unfold bgD
  rw [uJ_ne h11, uJ_ne h10, uJ_ne h9, uJ_ne h8, uJ_ne h7, uJ_ne h6, uJ_ne h5, uJ_ne h4, uJ_ne h3, uJ_ne h2, uJ_ne h1]
set_option maxHeartbeats 4000000 in
set_option maxRecDepth 100000 in
theorem m_begin0 {a b c : Int32} {n8 : Nat} {Q : Sto → Prop} (h8 : n8 = 8) (hF : Fx T) (e0 : K 26 0 = a) (e1 : K 26 1 = b) (e2 : K 26 2 = c) (h : Q (wJ T (bgD (bgD (bgS K b n8) 0 a c) 1 a c))) : Cv K5_begin [vr 26] (wJ T K) Q := by
  refine e5_begin (FxJ hF) (fun X O => ?_)
  have side : ∀ (d : Nat) (A : Rows), d < 2 → A 26 0 = a → A 26 2 = c → WP X 44 [(0, vr 26), (1, vi (nI (d + 1)))] [] (wJ T (bgD A d a c)) 0 0 → WP X 44 [(0, vr 26), (1, vi (nI d))] [] (wJ T A) 0 0 := by
    intro d A hd a0 a2 go
    refine s5_begin_44 (S := wJ T A) (FxJ hF) (Nat.le_refl _) O ⟨fun y => absurd y (nge (N := 2) hd (by decide)), fun _ => ⟨ixN hd (by decide), ?_⟩⟩
    rw [tnN (show d < 2 ^ 31 by omega), gI_wm (a := 26) (by decide), a0, a2, nI_suc, pI_wJ (by decide), pI_wJ (by decide), pI_wJ (by decide), pI_wJ (by decide), pI_wJ (by decide), pI_wJ (by decide), pI_wJ (by decide), pI_wJ (by decide), pI_wJ (by decide), pI_wJ (by decide), pI_wJ (by decide), show nI d + 6 = nI (d + 6) from nI_add d 6]
    exact go
  have kS : ∀ i, bgS K b i 26 = K 26 := fun i => bgS_ne (by decide) (by decide) (by decide) i
  have last : ∀ B : Rows, Q (wJ T B) → WP X 44 [(0, vr 26), (1, vi (nI (1 + 1)))] [] (wJ T B) 0 0 := fun B hB =>
    s5_begin_44 (S := wJ T B) (FxJ hF) (Nat.le_refl _) O ⟨fun _ => hB, fun y => absurd (by decide) y⟩
  have loop : ∀ (m i : Nat), i + m = n8 → WP X 2 [(0, vr 26), (1, vi (nI i))] [] (wJ T (bgS K b i)) 0 0 := by
    intro m
    induction m with
    | zero =>
      intro i hi
      obtain rfl : i = n8 := by omega
      have k1 := kS i
      revert h k1
      generalize bgS K b i = A
      intro h k1
      refine s5_begin_2 (S := wJ T A) (FxJ hF) (Nat.le_refl _) O ⟨fun _ => ?_, fun y => absurd (nle (N := 8) (by omega) (by omega)) y⟩
      refine side 0 A (by decide) (by rw [k1]; exact e0) (by rw [k1]; exact e2) ?_
      refine side 1 (bgD A 0 a c) (by decide) (by rw [bgD_ne (by decide), k1]; exact e0) (by rw [bgD_ne (by decide), k1]; exact e2) ?_
      exact last _ h
    | succ m ih =>
      intro i hi
      have hi8 : i < 8 := by omega
      have ih2 := ih (i + 1) (by omega)
      have k1 := kS i
      have ek : bgS K b (i + 1) = uJ (uJ (uJ (bgS K b i) 35 i b) 40 i b) 42 i (-6) := rfl
      rw [ek] at ih2
      revert ih2 k1
      generalize bgS K b i = A
      intro ih2 k1
      refine s5_begin_2 (S := wJ T A) (FxJ hF) (Nat.le_refl _) O ⟨fun y => absurd y (nge (N := 8) hi8 (by decide)), fun _ => ⟨ixN hi8 (by decide), ?_⟩⟩
      rw [tnN (show i < 2 ^ 31 by omega), gI_wm (a := 26) (by decide), k1, e1, nI_suc, pI_wJ (by decide), pI_wJ (by decide), pI_wJ (by decide)]
      exact ih2
  exact loop n8 0 (by omega)
/-! what the constructors leave -/
theorem Mn_lo (hS : sN S = 26) : ∀ n a, a < 26 → gI (Mn S n) a = gI S a ∧ gR (Mn S n) a = gR S a := fun n a ha => by
  induction n with
  | zero =>
    have e : ¬ a = 26 := by omega
    have e1 : ¬ a = sN S := by omega
    constructor
    · show gI (pI (pI (pI (nw S) 26 0 200) 26 1 300) 26 2 600) a = gI S a
      rw [gI_ne e, gI_ne e, gI_ne e, gI_nw, if_neg e1]
    · show gR (pI (pI (pI (nw S) 26 0 200) 26 1 300) 26 2 600) a = gR S a
      rw [gR_pI, gR_pI, gR_pI, gR_nw, if_neg e1]
  | succ n ih =>
    have e : ¬ a = 26 := by omega
    have e1 : ¬ a = sN (Mn S n) := by rw [Mn_n hS]; omega
    rw [Mn_s, gI_pR, gI_nw, if_neg e1, gR_pR, if_neg e, gR_nw, if_neg e1]
    exact ih
theorem Mn_z (hS : sN S = 26) : ∀ n i, i < n → gI (Mn S n) (27 + i) = fun _ => 0 := fun n i hi => by
  induction n with
  | zero => omega
  | succ n ih =>
    rw [Mn_s, gI_pR, gI_nw, Mn_n hS]
    by_cases e : i = n
    · rw [if_pos (by omega)]
    · rw [if_neg (by omega)]; exact ih (by omega)
theorem stmN_r {S : Sto} {w : Int32} : gI (stmN S w) (sN S + 1) = fun _ => 0 := by
  unfold stmN
  have h1 : ¬ sN S + 1 = sN S := by omega
  rw [gI_ne h1, gI_ne h1, gI_ne h1, gI_pR, gI_nw, if_pos (sN_nw S).symm]
theorem BSt_z (hA : sN A = 0) : ∀ n i, i < n → gI (BSt A n) (4 + 2 * i) = fun _ => 0 := fun n i hi => by
  induction n with
  | zero => omega
  | succ n ih =>
    show gI (pR (stmN (BSt A n) 300) 2 n (some (3 + 2 * n))) (4 + 2 * i) = _
    rw [gI_pR]
    by_cases e : i = n
    · rw [show 4 + 2 * i = sN (BSt A n) + 1 by rw [BSt_n hA]; omega]
      exact stmN_r
    · rw [(stmN_lo (by rw [BSt_n hA]; omega)).1]; exact ih (by omega)
theorem BSt_1 (hA : sN A = 0) : ∀ n, gR (BSt A n) 1 = fun _ => none := fun n => by
  induction n with
  | zero =>
    show gR (pR (nw (B2 A)) 0 0 (some 2)) 1 = _
    rw [gR_pR, if_neg (by decide), gR_nw, if_neg (by rw [B2_n hA]; decide)]
    unfold B2
    rw [gR_pR, if_neg (by decide), gR_nw, if_pos (B1_n hA).symm]
  | succ n ih =>
    show gR (pR (stmN (BSt A n) 300) 2 n (some (3 + 2 * n))) 1 = _
    rw [gR_pR, if_neg (by decide), (stmN_lo (by rw [BSt_n hA]; omega)).2]; exact ih
theorem B4_n (hA : sN A = 0) : sN (B4 A) = 20 := by show sN (BSt A 8) + 1 = 20; rw [BSt_n hA]
theorem sdN_n {d r w : Int32} : sN (sdN S d r w) = sN S + 3 := rfl
theorem B5_n (hA : sN A = 0) : sN (B5 A) = 23 := by unfold B5; rw [sN_pR, sdN_n, B4_n hA]
theorem CS_n (hA : sN A = 0) : sN (CS A) = 26 := by unfold CS; rw [sN_pR, sdN_n, B5_n hA]
theorem sdN_p {d r w : Int32} : gR (sdN S d r w) (sN S + 1) = fun _ => none := by
  have e0 : ¬ sN S + 1 = sN S := by omega
  have e2 : ¬ sN S + 1 = sN (sd0 S d) := by rw [sd0_n]; omega
  unfold sdN pcN
  rw [gR_pI, gR_pI, gR_pR, if_neg e0, gR_pI, gR_pI, gR_pI, gR_pI, gR_pI, gR_pI, gR_nw, if_neg e2]
  unfold sd0
  rw [gR_pI, gR_pI, gR_pI, gR_pI, gR_pR, if_neg e0, gR_nw, if_pos (sN_nw S).symm]
theorem CS_z (hA : sN A = 0) (i : Nat) (hi : i < 8) : gI (CS A) (4 + 2 * i) = fun _ => 0 := by
  unfold CS
  rw [gI_pR, (sdN_lo (by rw [B5_n hA]; omega)).1]
  unfold B5
  rw [gI_pR, (sdN_lo (by rw [B4_n hA]; omega)).1]
  unfold B4
  rw [gI_pR, gI_nw, if_neg (by rw [BSt_n hA]; omega)]
  exact BSt_z hA 8 i hi
theorem CS_r (hA : sN A = 0) : gR (CS A) 1 = (fun _ => none) ∧ gR (CS A) 21 = (fun _ => none) ∧ gR (CS A) 24 = fun _ => none := by
  unfold CS
  rw [gR_pR, if_neg (by decide), gR_pR, if_neg (by decide), gR_pR, if_neg (by decide), (sdN_lo (by rw [B5_n hA]; decide)).2, (sdN_lo (by rw [B5_n hA]; decide)).2, show (24 : Nat) = sN (B5 A) + 1 by rw [B5_n hA]]
  refine ⟨?_, ?_, sdN_p⟩
  · unfold B5
    rw [gR_pR, if_neg (by decide), (sdN_lo (by rw [B4_n hA]; decide)).2]
    unfold B4
    rw [gR_pR, if_neg (by decide), gR_nw, if_neg (by rw [BSt_n hA]; decide)]
    exact BSt_1 hA 8
  · unfold B5
    rw [gR_pR, if_neg (by decide), show (21 : Nat) = sN (B4 A) + 1 by rw [B4_n hA]]
    exact sdN_p
def MS : Sto := Mn (CS A0) 52
def BGr : Rows := bgD (bgD (bgS (gI MS) 300 8) 0 200 600) 1 200 600
theorem A0_n : sN A0 = 0 := rfl
theorem MS_n : sN MS = 79 := Mn_n (CS_n A0_n) 52
theorem MS_lo {a : Nat} (ha : a < 26) : gI MS a = gI (CS A0) a ∧ gR MS a = gR (CS A0) a := Mn_lo (CS_n A0_n) 52 a ha
theorem MS_fx : Fx MS := by
  have k9 : ∀ a, a < 79 → kd a = 9 → a = 1 ∨ a = 21 ∨ a = 24 := by decide +kernel
  refine ⟨by rw [MS_n]; decide, by rw [MS_n], by decide +kernel, by decide +kernel, by decide +kernel, by decide +kernel, by decide +kernel, fun a ha => ?_, fun a ha => ?_, fun a ha => ?_, by decide +kernel, fun a j b ha hb => ?_⟩
  · have t : ∀ a, a < 79 → kd a = 3 → gR MS a 0 = some (a + 1) := by decide +kernel
    exact t a (by have := ha.1; rw [MS_n] at this; exact this) ha.2
  · have t : ∀ a, a < 79 → kd a = 2 → gR MS a 1 = some (a + 1) ∧ gR MS a 2 = some (a + 2) := by decide +kernel
    exact t a (by have := ha.1; rw [MS_n] at this; exact this) ha.2
  · exact absurd ha.2 (kd1_t a (by have := ha.1; rw [MS_n] at this; exact this))
  · obtain ⟨r1, r2, r3⟩ := CS_r A0_n
    rcases k9 a (by have := ha.1; rw [MS_n] at this; exact this) ha.2 with rfl | rfl | rfl
    · rw [(MS_lo (by decide)).2, r1] at hb; exact (by cases hb)
    · rw [(MS_lo (by decide)).2, r2] at hb; exact (by cases hb)
    · rw [(MS_lo (by decide)).2, r3] at hb; exact (by cases hb)
theorem BGr_ne {r : Nat} (h1 : r ≠ 35 ∧ r ≠ 40 ∧ r ≠ 42) (h : r ≠ 46 ∧ r ≠ 47 ∧ r ≠ 48 ∧ r ≠ 49 ∧ r ≠ 50 ∧ r ≠ 51 ∧ r ≠ 54 ∧ r ≠ 55 ∧ r ≠ 57 ∧ r ≠ 59 ∧ r ≠ 61) : BGr r = gI MS r := by
  unfold BGr
  rw [bgD_ne h, bgD_ne h, bgS_ne h1.1 h1.2.1 h1.2.2]
theorem BGr_z {r : Nat} (h0 : 27 ≤ r ∧ r < 79) (h1 : r ≠ 35 ∧ r ≠ 40 ∧ r ≠ 42) (h : r ≠ 46 ∧ r ≠ 47 ∧ r ≠ 48 ∧ r ≠ 49 ∧ r ≠ 50 ∧ r ≠ 51 ∧ r ≠ 54 ∧ r ≠ 55 ∧ r ≠ 57 ∧ r ≠ 59 ∧ r ≠ 61) (q : Nat) : BGr r q = 0 := by
  rw [BGr_ne h1 h]
  obtain ⟨i, rfl⟩ : ∃ i, r = 27 + i := ⟨r - 27, by omega⟩
  unfold MS
  rw [Mn_z (CS_n A0_n) 52 i (by omega)]
theorem cnt_0 {f : Nat → Int32} {x : Int32} (hf : ∀ j, f j = 0) (hx : ¬ x = 0) : ∀ n, cnt f x n = 0 := fun n => by
  induction n with
  | zero => rfl
  | succ n ih => unfold cnt; rw [ih, hf, if_neg (fun e => hx e.symm)]
theorem BGr_26 : BGr 26 0 = nI 200 ∧ BGr 26 1 = nI 300 ∧ BGr 26 2 = nI 600 ∧ BGr 26 3 = 0 ∧ BGr 26 4 = 0 ∧ BGr 26 44 = 0 ∧ BGr 26 45 = 0 ∧ BGr 26 46 = 0 ∧ BGr 26 62 = 0 := by decide +kernel
theorem BGr_st : ∀ i, i < 8 → BGr 35 i = nI 300 ∧ BGr 40 i = nI 300 ∧ BGr 42 i = -6 := by decide +kernel
theorem BGr_sd : ∀ d, d < 2 → BGr 47 d = nI 1000000 ∧ BGr 48 d = -1 ∧ BGr 49 d = -6 ∧ BGr 50 d = -6 ∧ BGr 51 d = -6 ∧ BGr 54 d = -6 ∧ BGr 55 d = -6 ∧ BGr 57 d = nI 600 ∧ BGr 59 d = nI 600 ∧ BGr 61 d = nI (d + 6) := by decide +kernel
theorem MS_st : ∀ i, i < 8 → (∀ k ∈ ksS, gI MS (3 + 2 * i) k = BGr (rs k) i) ∧ gI MS (3 + 2 * i) 9 = 0 ∧ gI MS (3 + 2 * i) 6 = 0 ∧ gI MS (3 + 2 * i) 7 = 0 ∧ gI MS (3 + 2 * i) 10 = 0 := by decide +kernel
theorem MS_sd : ∀ d, d < 2 → (∀ k ∈ ksD, gI MS (20 + 3 * d) k = BGr (rd k) d) ∧ (∀ k ∈ ksP, gI MS (22 + 3 * d) k = BGr (rp k) d) ∧ gI MS (20 + 3 * d) 0 = nI d ∧ gI MS (20 + 3 * d) 12 = -6 ∧ gI MS (20 + 3 * d) 13 = 0 ∧ gI MS (20 + 3 * d) 4 = 0 := by decide +kernel
theorem MS_gl : ∀ k ∈ ksG, gI MS 0 k = BGr 26 (rg k) := by decide +kernel
theorem MS_num (d : Nat) : num BGr d = 0 := by
  unfold num
  rw [BGr_z (by decide) (by decide) (by decide)]; rfl
theorem MS_rel : Rel MS BGr := by
  have z : ∀ r, (27 ≤ r ∧ r < 79) → (r ≠ 35 ∧ r ≠ 40 ∧ r ≠ 42) → (r ≠ 46 ∧ r ≠ 47 ∧ r ≠ 48 ∧ r ≠ 49 ∧ r ≠ 50 ∧ r ≠ 51 ∧ r ≠ 54 ∧ r ≠ 55 ∧ r ≠ 57 ∧ r ≠ 59 ∧ r ≠ 61) → ∀ q, BGr r q = 0 := fun r a b c q => BGr_z a b c q
  have o1 : ∀ r, (27 ≤ r ∧ r < 79) → (r ≠ 35 ∧ r ≠ 40 ∧ r ≠ 42) → (r ≠ 46 ∧ r ≠ 47 ∧ r ≠ 48 ∧ r ≠ 49 ∧ r ≠ 50 ∧ r ≠ 51 ∧ r ≠ 54 ∧ r ≠ 55 ∧ r ≠ 57 ∧ r ≠ 59 ∧ r ≠ 61) → ∀ q, is01 (BGr r q) := fun r a b c q => Or.inl (BGr_z a b c q)
  have b0 : ∀ i j, byt BGr i j = 0 := fun i j => z 36 (by decide) (by decide) (by decide) _
  have c0 : ∀ i j, cam BGr i j = 0 := fun i j => z 37 (by decide) (by decide) (by decide) _
  obtain ⟨g0, g1, g2, g3, g4, g44, g45, g46, g62⟩ := BGr_26
  refine ⟨MS_fx, fun i hi => ⟨⟨?_, ?_, fun j _ => ?_, ?_, ?_, ?_⟩, ⟨o1 28 (by decide) (by decide) (by decide) i, o1 29 (by decide) (by decide) (by decide) i, o1 30 (by decide) (by decide) (by decide) i, o1 32 (by decide) (by decide) (by decide) i, o1 33 (by decide) (by decide) (by decide) i, o1 34 (by decide) (by decide) (by decide) i, o1 41 (by decide) (by decide) (by decide) i, o1 43 (by decide) (by decide) (by decide) i⟩, ⟨0, 0, z 27 (by decide) (by decide) (by decide) i, z 31 (by decide) (by decide) (by decide) i, Nat.le_refl _, Nat.zero_le _, fun j _ _ => b0 i j⟩, ⟨0, 0, z 38 (by decide) (by decide) (by decide) i, z 39 (by decide) (by decide) (by decide) i, Nat.le_refl _, Nat.zero_le _⟩, ⟨300, by decide, (BGr_st i hi).1⟩, ⟨300, by decide, (BGr_st i hi).2.1⟩, fun j _ => ⟨⟨0, by decide, b0 i j⟩, Or.inl (c0 i j)⟩⟩, fun d hd => ⟨⟨(MS_sd d hd).1, (MS_sd d hd).2.1, (MS_sd d hd).2.2.1, ?_, ⟨0, by decide, (MS_sd d hd).2.2.2.2.1, (BGr_sd d hd).2.2.2.2.2.2.2.2.2⟩, ⟨0, (MS_sd d hd).2.2.2.2.2, ⟨Nat.zero_le _, Nat.zero_le _⟩, fun n hn => absurd hn (Nat.not_lt_zero n)⟩⟩, ?_⟩, MS_gl, ?_, fun d n hd hn => ?_, fun i hi _ => ?_⟩
  · exact (MS_st i hi).1
  · rw [(MS_st i hi).2.1, z 32 (by decide) (by decide) (by decide), z 33 (by decide) (by decide) (by decide), z 34 (by decide) (by decide) (by decide)]; rfl
  · rw [b0, c0, (MS_lo (show 4 + 2 * i < 26 by omega)).1, CS_z A0_n i hi]; show (0 : Int32) = 0 + 4 * 0; decide
  · rw [(MS_st i hi).2.2.1, cnt_0 (b0 i) (by decide)]; rfl
  · rw [(MS_st i hi).2.2.2.1, cnt_0 (b0 i) (by decide)]; rfl
  · rw [(MS_st i hi).2.2.2.2, cnt_0 (c0 i) (by decide)]; rfl
  · rw [(MS_sd d hd).2.2.2.1, z 64 (by decide) (by decide) (by decide), if_pos rfl]
  · obtain ⟨s47, s48, s49, s50, s51, s54, s55, s57, s59, s61⟩ := BGr_sd d hd
    exact ⟨⟨0, Nat.zero_le _, z 44 (by decide) (by decide) (by decide) d⟩, o1 53 (by decide) (by decide) (by decide) d, o1 56 (by decide) (by decide) (by decide) d, o1 58 (by decide) (by decide) (by decide) d, o1 62 (by decide) (by decide) (by decide) d, o1 64 (by decide) (by decide) (by decide) d, Or.inl s54, Or.inl s55, Or.inl (z 56 (by decide) (by decide) (by decide) d), ⟨600, by decide, s57⟩, ⟨600, by decide, s59⟩, ⟨0, by decide, z 65 (by decide) (by decide) (by decide) d⟩, Or.inl (z 62 (by decide) (by decide) (by decide) d), ⟨1000000, by decide, by decide, s47⟩⟩
  · exact ⟨⟨200, by decide, by decide, g0⟩, ⟨300, by decide, by decide, g1⟩, ⟨600, by decide, by decide, g2⟩, Or.inl g4, Or.inl g46, ⟨0, by decide, g44⟩, ⟨0, by decide, g45⟩, ⟨0, by decide, g62⟩⟩
  · rw [MS_num] at hn; exact absurd hn (Nat.not_lt_zero n)
  · rw [g62] at hi
    rename_i h4
    exact absurd ((nI_ltI (a := i) (b := 0) (by omega) (by decide)).mp hi) (Nat.not_lt_zero i)
theorem MS_t : IvT BGr 0 := by
  obtain ⟨g0, g1, g2, g3, g4, g44, g45, g46, g62⟩ := BGr_26
  refine ⟨g3, Nat.zero_le _, fun d hd => ?_, fun q _ => ⟨0, BGr_z (by decide) (by decide) (by decide) q, Nat.le_refl _⟩⟩
  obtain ⟨s47, s48, s49, s50, s51, s54, s55, s57, s59, s61⟩ := BGr_sd d hd
  exact ⟨Or.inl ⟨s49, s50, s51⟩, ⟨0, BGr_z (by decide) (by decide) (by decide) d, Nat.le_refl _⟩, ⟨0, BGr_z (by decide) (by decide) (by decide) d, Nat.le_refl _⟩⟩
theorem MS_hu : Hu BGr := ⟨fun i hi => (BGr_st i hi).2.2, fun d hd => by
  obtain ⟨s47, s48, s49, s50, s51, s54, s55, s57, s59, s61⟩ := BGr_sd d hd
  exact ⟨s47, s48, s49, s50, s51, s54, s55, s61⟩⟩
theorem MS_u : BGr 26 4 = 0 ∧ (∀ i, i < 8 → BGr 27 i = 0 ∧ BGr 28 i = 0 ∧ BGr 29 i = 0) ∧ BGr 44 0 = 0 ∧ BGr 44 1 = 0 :=
  ⟨BGr_26.2.2.2.2.1, fun i _ => ⟨BGr_z (by decide) (by decide) (by decide) i, BGr_z (by decide) (by decide) (by decide) i, BGr_z (by decide) (by decide) (by decide) i⟩, BGr_z (by decide) (by decide) (by decide) 0, BGr_z (by decide) (by decide) (by decide) 1⟩
theorem c_model0 {Q : Option AV → Sto → Prop} (h : Q none (wJ MS BGr)) : CALL K5_init [vr 26] (nw (CS A0)) Q := by
  refine c_newModel (Q1 := fun S1 => S1 = wJ MS BGr) (CS_n A0_n) MS_fx ?_ (fun S1 e _ => e ▸ h)
  have e : wJ MS (gI MS) = Mn (CS A0) 52 := wJ_self MS
  rw [← e]
  exact m_begin0 (K := gI MS) rfl MS_fx (by decide +kernel) (by decide +kernel) (by decide +kernel) rfl
end START
