section MBYTES
variable {T : Sto} {J : Rows}
def weV (J : Rows) (i : Nat) : Int32 := if J 28 i = 0 then 0 else (if J 32 i = 0 then (if J 34 i = 0 then 1 else 0 : Int32) else (if J 33 i = 0 then 0 else (if J 34 i = 0 then 1 else 0 : Int32) : Int32) : Int32)
theorem weV0 {i : Nat} : ¬ weV J i = 0 ↔ (¬ J 28 i = 0 ∧ J 34 i = 0 ∧ (J 32 i = 0 ∨ ¬ J 33 i = 0)) := by
  unfold weV
  by_cases h1 : J 28 i = 0
  · rw [if_pos h1]; exact ⟨fun z => absurd rfl z, fun z => absurd h1 z.1⟩
  · rw [if_neg h1]
    by_cases h2 : J 32 i = 0
    · rw [if_pos h2]
      by_cases h3 : J 34 i = 0
      · rw [if_pos h3]; exact ⟨fun _ => ⟨h1, h3, Or.inl h2⟩, fun _ => by decide⟩
      · rw [if_neg h3]; exact ⟨fun z => absurd rfl z, fun z => absurd z.2.1 h3⟩
    · rw [if_neg h2]
      by_cases h4 : J 33 i = 0
      · rw [if_pos h4]; exact ⟨fun z => absurd rfl z, fun z => z.2.2.elim (fun y => absurd y h2) (fun y => absurd h4 y)⟩
      · rw [if_neg h4]
        by_cases h3 : J 34 i = 0
        · rw [if_pos h3]; exact ⟨fun _ => ⟨h1, h3, Or.inr h4⟩, fun _ => by decide⟩
        · rw [if_neg h3]; exact ⟨fun z => absurd rfl z, fun z => absurd z.2.1 h3⟩
theorem weV_ed {i : Nat} : edP J i ↔ ¬ weV J i = 0 ∧ J 31 i = J 27 i := by
  rw [weV0]
  exact ⟨fun z => ⟨⟨z.1, z.2.2.1, z.2.2.2⟩, z.2.1⟩, fun z => ⟨z.1.1, z.2, z.1.2.1, z.1.2.2⟩⟩
theorem spc_l0 {q m : Nat} (h : Mq J q m) : spc J q < 0 ↔ ¬ 8 ≤ rmL J q := by
  obtain ⟨r, w, a1, a2, a3, a4, a5, a6, a7⟩ := spc_int h
  rw [Int32.lt_iff_toInt_lt, a7, a6]
  show _ < (0 : Int) ↔ _
  omega
theorem spc_l1 {q m : Nat} (h : Mq J q m) : spc J q < 1 ↔ ¬ 9 ≤ rmL J q := by
  obtain ⟨r, w, a1, a2, a3, a4, a5, a6, a7⟩ := spc_int h
  rw [Int32.lt_iff_toInt_lt, a7, a6]
  show _ < (1 : Int) ↔ _
  omega
theorem m_byDec {X : Ctx} {S : Sto} {Q : Sto → Prop} {d i q m F D w f : Nat} {l1 l2 l3 l4 l5 : Int32} (hl1 : l1 = nI d) (hl2 : l2 = nI i) (hl3 : l3 = spc J q) (hl4 : l4 = nI F) (hl5 : l5 = nI D) (hS : S = wJ T J) (hM : Mq J q m) (hm : m < 16) (hi : i < 8) (hD : D ≤ 1000)
    (hw : J 27 i = nI w) (hf : J 31 i = nI f) (hfw : f ≤ w) (w1 : w ≤ 1000)
    (hok : (D = 0 → edP J i) → (if D = 0 then 8 else 9) ≤ rmL J q → WP X 277 [(0, vr 26), (1, vi (nI d)), (2, vi (nI i)), (4, vi (nI F)), (5, vi (nI (mnN D (rmL J q)))), (6, vi (weV J i)), (7, vi 0)] [] (wJ T J) 0 0)
    (hno : ¬ ((D = 0 → edP J i) ∧ (if D = 0 then 8 else 9) ≤ rmL J q) → Q (wJ T J)) : ∀ w22 : Int32, w22 = (if (gI S 28 l2.toNatClampNeg) = 0 then 0 else (if (gI S 32 l2.toNatClampNeg) = 0 then (if (gI S 34 l2.toNatClampNeg) = 0 then 1 else 0 : Int32) else (if (gI S 33 l2.toNatClampNeg) = 0 then 0 else (if (gI S 34 l2.toNatClampNeg) = 0 then 1 else 0 : Int32) : Int32) : Int32) : Int32) → ((¬ l5 = 0 → ((l5 ≤ 0 → ((l3 < 0 → (Q S)) ∧ (¬ l3 < 0 → ((0 ≤ ((gI S 26 63) : Int32).toInt ∧ ((gI S 26 63) : Int32).toInt < (600 : Nat)) ∧ ((¬ (gI S 69 (gI S 26 63).toNatClampNeg) = 24 → (∀ w30 : Int32, w30 = (if l3 ≤ l5 then l3 else l5 : Int32) → (WP X 277 [(0, vr 26), (1, vi l1), (2, vi l2), (4, vi l4), (5, vi w30), (6, vi w22), (7, vi 0)] [] S 0 0))) ∧ ((gI S 69 (gI S 26 63).toNatClampNeg) = 24 → (Q S))))))) ∧ (¬ l5 ≤ 0 → ((l3 < 1 → (Q S)) ∧ (¬ l3 < 1 → ((l3 < 0 → (Q S)) ∧ (¬ l3 < 0 → ((0 ≤ ((gI S 26 63) : Int32).toInt ∧ ((gI S 26 63) : Int32).toInt < (600 : Nat)) ∧ ((¬ (gI S 69 (gI S 26 63).toNatClampNeg) = 24 → (∀ w37 : Int32, w37 = (if l3 ≤ l5 then l3 else l5 : Int32) → (WP X 277 [(0, vr 26), (1, vi l1), (2, vi l2), (4, vi l4), (5, vi w37), (6, vi w22), (7, vi 0)] [] S 0 0))) ∧ ((gI S 69 (gI S 26 63).toNatClampNeg) = 24 → (Q S))))))))))) ∧ (l5 = 0 → ((w22 = 0 → (Q S)) ∧ (¬ w22 = 0 → (((gI S 27 l2.toNatClampNeg) ≤ (gI S 31 l2.toNatClampNeg) → ((l5 ≤ 0 → ((l3 < 0 → (Q S)) ∧ (¬ l3 < 0 → ((0 ≤ ((gI S 26 63) : Int32).toInt ∧ ((gI S 26 63) : Int32).toInt < (600 : Nat)) ∧ ((¬ (gI S 69 (gI S 26 63).toNatClampNeg) = 24 → (∀ w46 : Int32, w46 = (if l3 ≤ l5 then l3 else l5 : Int32) → (WP X 277 [(0, vr 26), (1, vi l1), (2, vi l2), (4, vi l4), (5, vi w46), (6, vi w22), (7, vi 0)] [] S 0 0))) ∧ ((gI S 69 (gI S 26 63).toNatClampNeg) = 24 → (Q S))))))) ∧ (¬ l5 ≤ 0 → ((l3 < 1 → (Q S)) ∧ (¬ l3 < 1 → ((l3 < 0 → (Q S)) ∧ (¬ l3 < 0 → ((0 ≤ ((gI S 26 63) : Int32).toInt ∧ ((gI S 26 63) : Int32).toInt < (600 : Nat)) ∧ ((¬ (gI S 69 (gI S 26 63).toNatClampNeg) = 24 → (∀ w53 : Int32, w53 = (if l3 ≤ l5 then l3 else l5 : Int32) → (WP X 277 [(0, vr 26), (1, vi l1), (2, vi l2), (4, vi l4), (5, vi w53), (6, vi w22), (7, vi 0)] [] S 0 0))) ∧ ((gI S 69 (gI S 26 63).toNatClampNeg) = 24 → (Q S))))))))))) ∧ (¬ (gI S 27 l2.toNatClampNeg) ≤ (gI S 31 l2.toNatClampNeg) → (Q S))))))) := by
  subst hl1 hl2 hl3 hl4 hl5 hS
  have hM' := hM
  obtain ⟨e63, q6, e69, -, -⟩ := hM'
  have ti : (nI i).toNatClampNeg = i := tnN (by omega)
  have tq : (nI q).toNatClampNeg = q := tnN (by omega)
  rw [ti, gI_wm (a := 28) (by decide), gI_wm (a := 32) (by decide), gI_wm (a := 33) (by decide), gI_wm (a := 34) (by decide), gI_wm (a := 26) (by decide), e63, tq, gI_wm (a := 69) (by decide), e69, gI_wm (a := 27) (by decide), gI_wm (a := 31) (by decide)]
  intro w22 hw22
  have hwe : w22 = weV J i := hw22
  subst hwe
  have n24 : ¬ nI m = 24 := fun z => by
    have := nI_nj (b := 24) (by omega) (by omega) z
    omega
  have d0 : nI D = 0 ↔ D = 0 := ⟨fun z => nI_nj (b := 0) (by omega) (by omega) z, fun z => by rw [z]; rfl⟩
  have dl : nI D ≤ 0 ↔ D = 0 := by
    rw [show (0 : Int32) = nI 0 from rfl, nI_leI (by omega) (by omega)]; omega
  have ge : J 27 i ≤ J 31 i ↔ J 31 i = J 27 i := by
    rw [hw, hf, nI_leI (by omega) (by omega)]
    refine ⟨fun z => by rw [show f = w by omega], fun z => ?_⟩
    have := nI_nj (by omega) (by omega) z
    omega
  have go8 : 8 ≤ rmL J q → D = 0 → edP J i → ∀ x, x = (if spc J q ≤ nI D then spc J q else nI D) → WP X 277 [(0, vr 26), (1, vi (nI d)), (2, vi (nI i)), (4, vi (nI F)), (5, vi x), (6, vi (weV J i)), (7, vi 0)] [] (wJ T J) 0 0 := fun h8 hD0 he x hx => by
    rw [hx, min_le_lt, spc_min hM hD h8]
    exact hok (fun _ => he) (by rw [if_pos hD0]; exact h8)
  have go9 : 9 ≤ rmL J q → ¬ D = 0 → ∀ x, x = (if spc J q ≤ nI D then spc J q else nI D) → WP X 277 [(0, vr 26), (1, vi (nI d)), (2, vi (nI i)), (4, vi (nI F)), (5, vi x), (6, vi (weV J i)), (7, vi 0)] [] (wJ T J) 0 0 := fun h9 hD0 x hx => by
    rw [hx, min_le_lt, spc_min hM hD (by omega)]
    exact hok (fun y => absurd y hD0) (by rw [if_neg hD0]; exact h9)
  refine ⟨fun c => ⟨fun c2 => absurd (d0.mpr (dl.mp c2)) c, fun _ => ⟨fun c3 => hno (fun y => ?_), fun c3 => ⟨fun c4 => hno (fun y => ?_), fun c4 => ⟨ixN q6 (by decide), fun _ => ?_, fun z => absurd z n24⟩⟩⟩⟩, fun c => ⟨fun c2 => hno (fun y => ?_), fun c2 => ⟨fun c3 => ⟨fun c4 => ⟨fun c5 => hno (fun y => ?_), fun c5 => ⟨ixN q6 (by decide), fun _ => ?_, fun z => absurd z n24⟩⟩, fun c4 => absurd (dl.mpr (d0.mp c)) c4⟩, fun c3 => hno (fun y => ?_)⟩⟩⟩
  · have := y.2
    rw [if_neg (fun z => c (d0.mpr z))] at this
    exact (spc_l1 hM).mp c3 this
  · have := y.2
    rw [if_neg (fun z => c (d0.mpr z))] at this
    exact (spc_l0 hM).mp c4 (by omega)
  · exact go9 (Classical.not_not.mp (fun z => c3 ((spc_l1 hM).mpr z))) (fun z => c (d0.mpr z))
  · exact (weV_ed.mp (y.1 (d0.mp c))).1 c2
  · have := y.2
    rw [if_pos (d0.mp c)] at this
    exact (spc_l0 hM).mp c5 this
  · exact go8 (Classical.not_not.mp (fun z => c5 ((spc_l0 hM).mpr z))) (d0.mp c) (weV_ed.mpr ⟨c2, ge.mp c3⟩)
  · exact c3 (ge.mpr (weV_ed.mp (y.1 (d0.mp c))).2)
theorem m_by277 {X : Ctx} {S0 : Sto} {Q : Sto → Prop} {d i q m F C w f : Nat} (hF : Fx T) (hS : sN S0 ≤ sN T) (O : Ov X K5_putBytes S0 Q) (hM : Mq J q m) (hm : m < 16) (hd : d < 2) (hi : i < 8) (hw : J 27 i = nI w) (hf : J 31 i = nI f) (hfw : f ≤ w) (w1 : w ≤ 1000) (hc : F + C ≤ w) (hfit : fits J q (nI (8 + C)))
    (hQ : Q (wJ T (uJ (spB1 J q i F C) 61 d (nI i)))) : WP X 277 [(0, vr 26), (1, vi (nI d)), (2, vi (nI i)), (4, vi (nI F)), (5, vi (nI C)), (6, vi (weV J i)), (7, vi 0)] [] (wJ T J) 0 0 := by
  have ti : (nI i).toNatClampNeg = i := tnN (by omega)
  have td : (nI d).toNatClampNeg = d := tnN (by omega)
  have loop : ∀ (b a : Nat), a + b = C → WP X 277 [(0, vr 26), (1, vi (nI d)), (2, vi (nI i)), (4, vi (nI F)), (5, vi (nI C)), (6, vi (weV J i)), (7, vi (nI a))] [] (wJ T (zitB J i F 1 a)) 0 0 := by
    intro b
    induction b with
    | zero =>
      intro a ha
      obtain rfl : a = C := by omega
      refine s5_putBytes_277 (S := wJ T (zitB J i F 1 a)) (FxJ hF) hS O ⟨fun _ => ⟨ixN hi (by decide), fun w3 hw3 => ?_⟩, fun hc => absurd (nle (Nat.le_refl _) (by omega)) hc⟩
      rw [ti, gI_wm (a := 31) (by decide), zitB_ne (r := 31) (by decide), nI_add, maxA] at hw3
      rw [ti, pI_wJ (by decide), gI_wm (a := 31) (by decide), gI_wm (a := 27) (by decide), zitB_ne (r := 27) (by decide), uJ_same, hw3]
      have e0 : uJ (zitB J i F 1 a) 31 i (if J 31 i < nI (F + a) then nI (F + a) else J 31 i) = spB0 J i F a := rfl
      rw [e0]
      have e31 : (if J 31 i < nI (F + a) then nI (F + a) else J 31 i) = spB0 J i F a 31 i := by unfold spB0; exact uJ_same.symm
      rw [e31]
      have e27 : spB0 J i F a 27 = J 27 := spB0_ne (by decide) (by decide)
      have ew : weV (spB0 J i F a) i = weV J i := by
        unfold weV
        rw [spB0_ne (r := 28) (by decide) (by decide), spB0_ne (r := 32) (by decide) (by decide), spB0_ne (r := 33) (by decide) (by decide), spB0_ne (r := 34) (by decide) (by decide)]
      have hed : edP (spB0 J i F a) i ↔ ¬ weV J i = 0 ∧ spB0 J i F a 31 i = J 27 i := by rw [weV_ed, ew, e27]
      have ME : Mq (spBE J i F a) q m := by
        unfold Mq
        rw [spBE_ne (r := 26) (by decide) (by decide) (by decide) (by decide), spBE_ne (r := 69) (by decide) (by decide) (by decide) (by decide), spBE_ne (r := 68) (by decide) (by decide) (by decide) (by decide)]
        exact hM
      have hfit2 : fits (spBE J i F a) q (nI (8 + a)) := by
        unfold fits
        rw [spBE_ne (r := 26) (by decide) (by decide) (by decide) (by decide), spBE_ne (r := 68) (by decide) (by decide) (by decide) (by decide)]
        exact hfit
      have put : ∀ (x : Int32), x = nI (a + 10000 * byE J i F a) → Ci K5_put [vr 26, vi 4, vi (8 + nI a), vi (nI i), vi (nI F), vi x] (wJ T (spBE J i F a)) (fun x15 S15 => (0 ≤ (nI d : Int32).toInt ∧ (nI d : Int32).toInt < (2 : Nat)) ∧ (∀ w18 : Int32, w18 = (if x15 = 0 then (gI S15 61 (nI d).toNatClampNeg) else nI i : Int32) → (Q (pI S15 61 (nI d).toNatClampNeg w18)))) := by
        intro x hx
        rw [show (8 : Int32) = nI 8 from rfl, nI_add, hx]
        refine m_put hF ME hm (by omega) (fun z => absurd hfit2 z) (fun _ => ⟨ixN hd (by decide), fun w18 h18 => ?_⟩)
        rw [if_neg (by decide)] at h18
        rw [h18, td, pI_wJ (by decide)]
        exact hQ
      intro w8 hw8
      have h81 : w8 = 0 ↔ ¬ edP (spB0 J i F a) i := by
        rw [hw8, hed]
        by_cases y : weV J i = 0
        · rw [if_pos y]; exact ⟨fun _ z => z.1 y, fun _ => rfl⟩
        · rw [if_neg y]
          by_cases v : spB0 J i F a 31 i = J 27 i
          · rw [if_pos v]; exact ⟨fun z => absurd z (by decide), fun z => absurd ⟨y, v⟩ z⟩
          · rw [if_neg v]; exact ⟨fun _ z => v z.2, fun _ => rfl⟩
      refine ⟨fun c w12 h12 => ?_, fun c w21 h21 => ?_⟩
      · have ne := h81.mp c
        rw [if_pos c] at h12
        have := put (nI a + w12) (by rw [h12]; unfold byE; rw [if_neg ne]; show nI a + nI 0 = _; rw [nI_add])
        have eB : spBE J i F a = spB0 J i F a := if_neg ne
        rw [eB] at this
        exact this
      · have ye : edP (spB0 J i F a) i := Classical.not_not.mp (fun z => c (h81.mpr z))
        rw [if_neg c] at h21
        have := put (nI a + w21) (by rw [h21]; unfold byE; rw [if_pos ye, show (10000 : Int32) = nI 10000 from rfl, nI_add])
        have eB : spBE J i F a = uJ (uJ (spB0 J i F a) 32 i 1) 33 i 0 := if_pos ye
        rw [eB] at this
        rw [pI_wJ (by decide), pI_wJ (by decide)]
        exact this
    | succ b ih =>
      intro a ha
      have ih2 := ih (a + 1) (by omega)
      have ex : (1000 * nI i + nI F + nI a : Int32) = nI (1000 * i + (F + a)) := by
        rw [show (1000 : Int32) = nI 1000 from rfl, pk_mul, nI_add, nI_add]; congr 1; omega
      refine s5_putBytes_277 (S := wJ T (zitB J i F 1 a)) (FxJ hF) hS O ⟨fun hc => ?_, fun _ => ?_⟩
      · rw [nI_leI (by omega) (by omega)] at hc; omega
      · rw [ex, tnN (show 1000 * i + (F + a) < 2 ^ 31 by omega), nI_suc, pI_wJ (by decide), show ((1 : Int32).toInt8.toInt32) = 1 by decide]
        exact ⟨ixN (by omega) (by decide), ih2⟩
  exact loop C 0 (by omega)
theorem m_firstAgain {i : Nat} {Q : Int32 → Sto → Prop} (hF : Fx T) (hi : i < 8) (hv : IvS J i) (h0 : agn J i = 0 → Q (-1) (wJ T J)) (h1 : ¬ agn J i = 0 → Q (nI (byF J i)) (wJ T J)) : Ci K5_firstAgain [vr 26, vi (nI i)] (wJ T J) Q := by
  have ti : (nI i).toNatClampNeg = i := tnN (by omega)
  obtain ⟨w, f, b1, b2, b3, b4, b5, b6, b7, b8, b9, b10, b11⟩ := by_facts 0 hv
  refine e5_firstAgain (FxJ hF) (fun X O => ?_)
  have loop : ∀ (b j : Nat), j + b = f → (∀ k, k < j → ¬ byt J i k = 2) → WP X 2 [(0, vr 26), (1, vi (nI i)), (2, vi (nI j))] [] (wJ T J) 0 0 := by
    intro b
    induction b with
    | zero =>
      intro j hj hn
      obtain rfl : j = f := by omega
      refine s5_firstAgain_2 (S := wJ T J) (FxJ hF) (Nat.le_refl _) O ⟨ixN hi (by decide), ?_⟩
      rw [ti, gI_wm (a := 31) (by decide), b2]
      refine ⟨fun _ => h0 ?_, fun hc => absurd (nle (Nat.le_refl _) (by omega)) hc⟩
      rcases Nat.eq_zero_or_pos (agn J i) with z | z
      · exact z
      · obtain ⟨k, k1, k2⟩ := cnt_ex z
        rcases Nat.lt_or_ge k j with y | y
        · exact absurd k2 (hn k y)
        · rw [b11 k y k1] at k2; exact absurd k2 (by decide)
    | succ b ih =>
      intro j hj hn
      have ex : (1000 * nI i + nI j : Int32) = nI (1000 * i + j) := by rw [show (1000 : Int32) = nI 1000 from rfl, pk_mul, nI_add]
      refine s5_firstAgain_2 (S := wJ T J) (FxJ hF) (Nat.le_refl _) O ⟨ixN hi (by decide), ?_⟩
      rw [ti, gI_wm (a := 31) (by decide), b2, ex, tnN (show 1000 * i + j < 2 ^ 31 by omega), gI_wm (a := 36) (by decide), nI_suc]
      refine ⟨fun hc => ?_, fun _ => ⟨ixN (by omega) (by decide), fun c => ih (j + 1) (by omega) (fun k hk => ?_), fun c => ?_⟩⟩
      · rw [nI_leI (by omega) (by omega)] at hc; omega
      · rcases (show k = j ∨ k < j by omega) with rfl | y
        · exact c
        · exact hn k y
      · have hz : ¬ agn J i = 0 := fun z => cnt_zero z j (by omega) c
        have e : byF J i = j := by
          rw [(b9 hz).2.1]
          exact faF_eq (by omega) (by omega) c (fun k _ hk => hn k hk)
        have := h1 hz
        rw [e] at this; exact this
  exact loop f 0 (by omega) (fun k hk => by omega)
theorem max0 (a : Int32) : (if 0 ≤ a then a else 0) = (if 0 < a then a else 0) := by
  by_cases h : 0 < a
  · rw [if_pos h, if_pos]
    have := Int32.lt_iff_toInt_lt.mp h
    exact Int32.le_iff_toInt_le.mpr (by omega)
  · rw [if_neg h]
    by_cases h2 : 0 ≤ a
    · rw [if_pos h2]
      exact (Int32.toInt_inj.mp (by
        have a1 := Int32.le_iff_toInt_le.mp h2
        have a2 : ¬ (0 : Int32).toInt < a.toInt := fun z => h (Int32.lt_iff_toInt_lt.mpr z)
        omega))
    · rw [if_neg h2]
theorem m_putBytes {d q i M : Nat} {Q : Sto → Prop} (hF : Fx T) (h : EQ J d q M) (hd : d < 2) (hM : M < 16) (hi : i < 8) (h29 : J 29 i = 0) (hQ : Q (wJ T (spByt J d q i))) : Cv K5_putBytes [vr 26, vi (nI d), vi (nI i)] (wJ T J) Q := by
  have ti : (nI i).toNatClampNeg = i := tnN (by omega)
  have td : (nI d).toNatClampNeg = d := tnN (by omega)
  obtain ⟨m, hm, hMq⟩ := h.mq hd
  obtain ⟨T0, p0, m0, -, F0⟩ := h
  have hv := F0.2.1.vs hi
  obtain ⟨w, f, b1, b2, b3, b4, b5, b6, b7, b8, b9, b10, b11⟩ := by_facts d hv
  have hMq' := hMq
  obtain ⟨e63, q6, e69, -, -⟩ := hMq'
  have tq : (nI q).toNatClampNeg = q := tnN (by omega)
  unfold spByt at hQ
  refine e5_putBytes (FxJ hF) (fun X O => ?_)
  have esp : gI (wJ T J) 26 0 - gI (wJ T J) 68 (gI (wJ T J) 26 63).toNatClampNeg - 8 = spc J q := by
    rw [gI_wm (a := 26) (by decide), e63, tq, gI_wm (a := 68) (by decide)]; rfl
  have ix : 0 ≤ ((gI (wJ T J) 26 63) : Int32).toInt ∧ ((gI (wJ T J) 26 63) : Int32).toInt < (600 : Nat) := by
    rw [gI_wm (a := 26) (by decide), e63]; exact ixN q6 (by decide)
  have hok : (byD J d i = 0 → edP J i) → (if byD J d i = 0 then 8 else 9) ≤ rmL J q → WP X 277 [(0, vr 26), (1, vi (nI d)), (2, vi (nI i)), (4, vi (nI (byF J i))), (5, vi (nI (mnN (byD J d i) (rmL J q)))), (6, vi (weV J i)), (7, vi 0)] [] (wJ T J) 0 0 := fun k1 k2 => by
    have ok : byOK J d q i := ⟨h29, k1, k2⟩
    rw [if_pos ok] at hQ
    obtain ⟨c1, c2, c3⟩ := by_fit hMq ok
    exact m_by277 hF (Nat.le_refl _) O hMq (by omega) hd hi b1 b2 b4 b5 (by unfold byC at c2; omega) c1 hQ
  have hno : ¬ ((byD J d i = 0 → edP J i) ∧ (if byD J d i = 0 then 8 else 9) ≤ rmL J q) → Q (wJ T J) := fun k => by
    rw [if_neg (fun ok : byOK J d q i => k ok.2)] at hQ
    exact hQ
  refine ⟨ix, m_firstAgain hF hi hv (fun z => ⟨fun _ => ⟨ixN hi (by decide), fun w9 h9 => ⟨ixN hd (by decide), m_counted hF hd (fun w14 h14 w17 h17 => ?_)⟩⟩, fun y => absurd (by decide) y⟩) (fun z => ⟨fun y => absurd y (fun y => ltle y (nI_ge0 (by omega))), fun _ => ?_⟩)⟩
  · obtain ⟨k1, k2, -⟩ := b10 z
    rw [ti, gI_wm (a := 35) (by decide), gI_wm (a := 27) (by decide), min_le_lt] at h9
    rw [ti, td, gI_wm (a := 57) (by decide), gI_wm (a := 31) (by decide), h9, min_le_lt] at h14
    have e17 : w17 = nI (byD J d i) := by
      rw [h17, max0, ← k2, h14]; rfl
    exact m_byDec rfl rfl esp (by rw [ti, gI_wm (a := 31) (by decide), b2, k1]) e17 rfl hMq (by omega) hi (by omega) b1 b2 b4 b5 hok hno
  · obtain ⟨k1, k2, k3, k4, k5⟩ := b9 z
    rw [esp]
    have dec : ∀ D, D = byD J d i → _ := fun D hD => m_byDec (X := X) (S := wJ T J) (Q := Q) (l1 := nI d) (l2 := nI i) (l3 := spc J q) (l4 := nI (byF J i)) (l5 := nI D) rfl rfl rfl rfl rfl rfl hMq (by omega) hi (by omega) b1 b2 b4 b5 (by rw [hD]; exact hok) (by rw [hD]; exact hno)
    have loop : ∀ (b a : Nat), byF J i + a + b = f → (∀ k, byF J i ≤ k → k < byF J i + a → byt J i k = 2) → WP X 33 [(0, vr 26), (1, vi (nI d)), (2, vi (nI i)), (3, vi (spc J q)), (4, vi (nI (byF J i))), (5, vi (nI a))] [] (wJ T J) 0 0 := by
      intro b
      induction b with
      | zero =>
        intro a ha hn
        have e : a = byD J d i := by
          have : raF (byt J i) (f - byF J i) (byF J i) = byF J i + a := raF_eq (by omega) (by omega) (Or.inl (by omega)) hn
          omega
        refine s5_putBytes_33 (S := wJ T J) (FxJ hF) (Nat.le_refl _) O ⟨ixN hi (by decide), fun _ => dec a e, fun hc => ?_⟩
        refine absurd ?_ hc
        rw [ti, gI_wm (a := 31) (by decide), b2, nI_add]
        exact nle (by omega) (by omega)
      | succ b ih =>
        intro a ha hn
        have ex : (1000 * nI i + nI (byF J i) + nI a : Int32) = nI (1000 * i + (byF J i + a)) := by
          rw [show (1000 : Int32) = nI 1000 from rfl, pk_mul, nI_add, nI_add]; congr 1; omega
        refine s5_putBytes_33 (S := wJ T J) (FxJ hF) (Nat.le_refl _) O ⟨ixN hi (by decide), fun hc => ?_, fun _ => ?_⟩
        · exfalso
          rw [ti, gI_wm (a := 31) (by decide), b2, nI_add, nI_leI (by omega) (by omega)] at hc; omega
        · have ix2 : 0 ≤ ((1000 * nI i + nI (byF J i) + nI a : Int32)).toInt ∧ ((1000 * nI i + nI (byF J i) + nI a : Int32)).toInt < (8000 : Nat) := by
            rw [ex]; exact ixN (by omega) (by decide)
          have ev : gI (wJ T J) 36 (1000 * nI i + nI (byF J i) + nI a : Int32).toNatClampNeg = byt J i (byF J i + a) := by
            rw [ex, tnN (by omega), gI_wm (a := 36) (by decide)]; rfl
          refine ⟨ix2, fun c => dec a ?_, fun c => ?_⟩
          · rw [ev] at c
            have : raF (byt J i) (f - byF J i) (byF J i) = byF J i + a := raF_eq (by omega) (by omega) (Or.inr c) hn
            omega
          · rw [ev] at c
            rw [nI_suc]
            refine ih (a + 1) (by omega) (fun k hk hk2 => ?_)
            rcases (show k = byF J i + a ∨ k < byF J i + a by omega) with rfl | y
            · exact c
            · exact hn k hk y
    exact loop (f - byF J i) 0 (by omega) (fun k k1 k2 => by omega)
end MBYTES
