section MSEND
variable {T T0 : Sto} {J K : Rows}
def tlP (X : Rows) (d n N : Nat) : Rows := uJ (uJ (uJ (uJ X 76 N (nI d)) 77 N (nI n)) 26 62 (nI (N + 1))) 44 d (nI (n + 1))
theorem tlP_uJ {X : Rows} {d n N r k : Nat} {x : Int32} (h : r ≠ 76 ∧ r ≠ 77 ∧ r ≠ 44) (h2 : r ≠ 26 ∨ k ≠ 62) : tlP (uJ X r k x) d n N = uJ (tlP X d n N) r k x := by
  obtain ⟨h1, h3, h4⟩ := h
  unfold tlP
  rw [uJ_comm2 (a := r) (b := 76) (Or.inl h1), uJ_comm2 (a := r) (b := 77) (Or.inl h3), uJ_comm2 (a := r) (b := 26) h2, uJ_comm2 (a := r) (b := 44) (Or.inl h4)]
theorem spPu_tl {d q n N : Nat} : spPu K d q n N = tlP (uJ (uJ K 66 q (K 26 3)) 67 q (K 26 (if d = 0 then 44 else 45))) d n N := rfl
theorem spHv_ne {d q r : Nat} (h : r ≠ 45 ∧ r ≠ 60 ∧ r ≠ 53) : spHv J d q r = J r := by
  obtain ⟨h1, h2, h3⟩ := h
  unfold spHv
  split
  · rfl
  · rw [uJ_ne h3, uJ_ne h2, uJ_ne h1]
/-- the reference's order gives the same rows -/
theorem spGo_eq {d q n N : Nat} {w6 : Int32} (hd : d < 2) (hw : w6 = (if d = 1 then (if K 26 46 = 0 then 0 else K 68 q) else 0)) :
    uJ (tlP (uJ (if K 70 q = 0 then uJ (uJ K 66 q (K 26 3)) 67 q (K 26 (if d = 0 then 44 else 45)) else uJ (uJ (uJ (uJ (uJ K 66 q (K 26 3)) 67 q (K 26 (if d = 0 then 44 else 45))) 45 d (K 45 d + K 68 q)) 53 d 0) 60 d (K 26 3)) 26 48 (K 26 48 + w6)) d n N) 26 4 1 = spGo K d q n N := by
  unfold spGo
  congr 1
  rw [tlP_uJ (by decide) (Or.inr (by decide))]
  have hB : tlP (if K 70 q = 0 then uJ (uJ K 66 q (K 26 3)) 67 q (K 26 (if d = 0 then 44 else 45)) else uJ (uJ (uJ (uJ (uJ K 66 q (K 26 3)) 67 q (K 26 (if d = 0 then 44 else 45))) 45 d (K 45 d + K 68 q)) 53 d 0) 60 d (K 26 3)) d n N = spHv (spPu K d q n N) d q := by
    unfold spHv
    rw [spPu_ne (r := 70) (by decide), spPu_ne (r := 45) (by decide), spPu_ne (r := 68) (by decide), spPu_26, if_neg (show ¬ (3 : Nat) = 62 by decide)]
    by_cases c : K 70 q = 0
    · rw [if_pos c, if_pos c]; rfl
    · rw [if_neg c, if_neg c, tlP_uJ (by decide) (Or.inl (by decide)), tlP_uJ (by decide) (Or.inl (by decide)), tlP_uJ (by decide) (Or.inl (by decide)), ← spPu_tl, uJ_comm2 (a := 53) (b := 60) (Or.inl (by decide))]
  rw [hB]
  have e46 : spHv (spPu K d q n N) d q 26 46 = K 26 46 := by rw [spHv_ne (by decide), spPu_26, if_neg (by decide)]
  have e48 : spHv (spPu K d q n N) d q 26 48 = K 26 48 := by rw [spHv_ne (by decide), spPu_26, if_neg (by decide)]
  have e68 : spHv (spPu K d q n N) d q 68 q = K 68 q := by rw [spHv_ne (by decide), spPu_ne (by decide)]
  have id48 : uJ (spHv (spPu K d q n N) d q) 26 48 (K 26 48 + 0) = spHv (spPu K d q n N) d q := by
    rw [show K 26 48 + 0 = K 26 48 by simp, ← e48]; exact uJ_id
  unfold spTr
  rw [e46, e48, e68]
  by_cases c1 : d = 1
  · rw [if_pos c1] at hw
    by_cases c2 : K 26 46 = 0
    · rw [if_pos c2] at hw
      rw [if_neg (fun z => z.2 c2), hw, id48]
    · rw [if_neg c2] at hw
      rw [if_pos ⟨c1, c2⟩, hw]
  · rw [if_neg c1] at hw
    rw [if_neg (fun z => c1 z.1), hw, id48]
set_option maxRecDepth 100000 in
theorem m_send {N n4 : Nat} {p : Int32} {Q : Int32 → Sto → Prop} (h4 : n4 = 4) (hF : Fx T) (hR : Rel T0 J) (hN : J 26 62 = nI N) (hN4 : N ≤ 400)
    (h1 : ¬ (0 ≤ p.toInt ∧ p.toInt < 2) → Q (-1) (wJ T J))
    (h2 : ∀ d, d < 2 → p = nI d → (num J d = 300 ∨ N = 400 → Q (-4) (wJ T J)) ∧ (num J d < 300 → N < 400 → (shutP J d → Q (-5) (wJ T J)) ∧ (¬ shutP J d → (spSF J d n4 69 (300 * d + num J d) = 0 → Q (-5) (wJ T (spSF J d n4))) ∧ (¬ spSF J d n4 69 (300 * d + num J d) = 0 → Q (nI (num J d)) (wJ T (spSG J d n4 N)))))) :
    Ci K5_send [vr 26, vi p] (wJ T J) Q := by
  refine e5_send (FxJ hF) (fun X O => ?_)
  simp only [ite01, Classical.not_not]
  refine ⟨fun hp => ?_, h1⟩
  obtain ⟨d, hd, rfl⟩ := ofIx2 (N := 2) hp
  obtain ⟨h2a, h2b⟩ := h2 d hd rfl
  have td : (nI d).toNatClampNeg = d := tnN (by omega)
  obtain ⟨e44, n3⟩ := (hR.vd hd).nm
  refine ⟨hp, ?_⟩
  rw [td, gI_wm (a := 44) (by decide), gI_wm (a := 26) (by decide), hN, e44]
  refine ⟨fun c => h2a (Or.inl (nI_nj (b := 300) (by omega) (by omega) c)), fun c => ⟨fun c2 => ?_, fun c2 => h2a (Or.inr (nI_nj (b := 400) (by omega) (by omega) c2))⟩⟩
  have hn : num J d < 300 := by
    rcases Nat.lt_or_ge (num J d) 300 with z | z
    · exact z
    · exact absurd (show nI (num J d) = 300 by rw [show num J d = 300 by omega]; rfl) c
  have hNl : N < 400 := by
    rcases Nat.lt_or_ge N 400 with z | z
    · exact z
    · exact absurd (show nI N = 400 by rw [show N = 400 by omega]; rfl) c2
  obtain ⟨h2c, h2d⟩ := h2b hn hNl
  have hE0 : EQ (spNew J (300 * d + num J d)) d (300 * d + num J d) 0 := ⟨_, _, 0, Nat.le_refl _, hR.newQ hd hn⟩
  have q6 : 300 * d + num J d < 600 := by omega
  have tq : (nI (300 * d + num J d)).toNatClampNeg = 300 * d + num J d := tnN (by omega)
  have e68 : spNew J (300 * d + num J d) 68 (300 * d + num J d) = nI 10 := by rw [spNew_68, if_pos rfl]; rfl
  have at67 : ¬ shutP J d → WP X 67 [(0, vr 26), (1, vi (nI d))] [] (wJ T J) 0 0 := by
    intro hs
    obtain ⟨k1, k2⟩ := h2d hs
    -- the end
    have at161 : WP X 161 [(0, vr 26), (1, vi (nI d))] [] (wJ T (spSF J d n4)) 0 0 := by
      obtain ⟨m', hm', hE⟩ := hE0.fill h4 hd e68
      obtain ⟨m, hm, hMq⟩ := hE.mq hd
      change Mq (spSF J d n4) (300 * d + num J d) m at hMq
      have f26 : ∀ j, j ≠ 63 → spSF J d n4 26 j = J 26 j := fun j hj => by unfold spSF; rw [spFill_ne (by decide), spNew_26, if_neg hj]
      have f44 : spSF J d n4 44 d = nI (num J d) := by
        rw [← e44]
        unfold spSF
        rw [spFill_ne (by decide), spNew_ne (by decide)]
      have f62 : spSF J d n4 26 62 = nI N := by rw [f26 62 (by decide)]; exact hN
      unfold spSG at k2
      revert k1 k2 hMq f44 f62
      generalize spSF J d n4 = K
      intro k1 k2 hMq f44 f62
      obtain ⟨e63, -, e69, -, -⟩ := hMq
      refine s5_send_161 (S := wJ T K) (FxJ hF) (Nat.le_refl _) O ?_
      rw [gI_wm (a := 26) (by decide), e63, tq, td, gI_wm (a := 69) (by decide), gI_wm (a := 70) (by decide), gI_wm (a := 45) (by decide), gI_wm (a := 68) (by decide)]
      refine ⟨ixN q6 (by decide), fun c3 w3 hw3 => ?_, fun c3 => k1 c3⟩
      have ew3 : w3 = K 26 (if d = 0 then 44 else 45) := by
        rw [hw3]
        by_cases z : d = 0
        · subst z; rfl
        · rw [if_neg z, if_neg (show ¬ nI d = 0 from fun y => z (nI_nj (b := 0) (by omega) (by omega) y))]
      subst ew3
      have g := k2 c3
      -- rows before the end
      have at260 : ∀ B : Rows, (if K 70 (300 * d + num J d) = 0 then uJ (uJ K 66 (300 * d + num J d) (K 26 3)) 67 (300 * d + num J d) (K 26 (if d = 0 then 44 else 45)) else uJ (uJ (uJ (uJ (uJ K 66 (300 * d + num J d) (K 26 3)) 67 (300 * d + num J d) (K 26 (if d = 0 then 44 else 45))) 45 d (K 45 d + K 68 (300 * d + num J d))) 53 d 0) 60 d (K 26 3)) = B → B 26 = K 26 → B 68 = K 68 → B 44 = K 44 → WP X 260 [(0, vr 26), (1, vi (nI d))] [] (wJ T B) 0 0 := by
        intro B hB b26 b68 b44
        refine s5_send_260 (S := wJ T B) (FxJ hF) (Nat.le_refl _) O ?_
        rw [gI_wm (a := 26) (by decide), b26, e63, tq, td, gI_wm (a := 68) (by decide), b68, f62, tnN (show N < 2 ^ 31 by omega), gI_wm (a := 44) (by decide), b44, f44]
        refine ⟨ixN q6 (by decide), fun w6 hw6 => ⟨ixN hNl (by decide), ixN hd (by decide), ?_⟩⟩
        rw [pI_wJ (by decide), pI_wJ (by decide), pI_wJ (by decide), nI_suc, pI_wJ (by decide), nI_suc, pI_wJ (by decide), gI_wm (a := 44) (by decide), uJ_same, pI_wJ (by decide)]
        have d1 : (if nI d = 1 then (if K 26 46 = 0 then 0 else K 68 (300 * d + num J d)) else 0 : Int32) = (if d = 1 then (if K 26 46 = 0 then 0 else K 68 (300 * d + num J d)) else 0 : Int32) := by
          by_cases z : d = 1
          · subst z; rfl
          · rw [if_neg z, if_neg (show ¬ nI d = 1 from fun y => z (nI_nj (b := 1) (by omega) (by omega) y))]
        rw [d1] at hw6
        have := spGo_eq (K := K) (q := 300 * d + num J d) (n := num J d) (N := N) hd hw6
        rw [hB] at this
        rw [← this] at g
        rw [show (nI (num J d + 1) - 1 : Int32) = nI (num J d) from pk_sub (b := 1) (by omega)]
        exact g
      rw [pI_wJ (by decide), pI_wJ (by decide)]
      refine ⟨fun c4 => at260 _ (if_pos c4) (by rw [uJ_ne (by decide), uJ_ne (by decide)]) (by rw [uJ_ne (by decide), uJ_ne (by decide)]) (by rw [uJ_ne (by decide), uJ_ne (by decide)]), fun c4 => ⟨ixN hd (by decide), ?_⟩⟩
      rw [pI_wJ (by decide), pI_wJ (by decide), pI_wJ (by decide)]
      exact at260 _ (if_neg c4) (by rw [uJ_ne (by decide), uJ_ne (by decide), uJ_ne (by decide), uJ_ne (by decide), uJ_ne (by decide)]) (by rw [uJ_ne (by decide), uJ_ne (by decide), uJ_ne (by decide), uJ_ne (by decide), uJ_ne (by decide)]) (by rw [uJ_ne (by decide), uJ_ne (by decide), uJ_ne (by decide), uJ_ne (by decide), uJ_ne (by decide)])
    -- all but TOLD
    have at127 : WP X 127 [(0, vr 26), (1, vi (nI d))] [] (wJ T (spTo (spNew J (300 * d + num J d)) d (300 * d + num J d))) 0 0 := by
      have hE1 := hE0.to hd e68
      unfold spSF spFill at at161
      revert hE1 at161
      generalize spTo (spNew J (300 * d + num J d)) d (300 * d + num J d) = A
      intro at161 hE1
      refine s5_send_127 (S := wJ T A) (FxJ hF) (Nat.le_refl _) O ⟨ixN hd (by decide), ?_⟩
      rw [td, gI_wm (a := 45) (by decide), gI_wm (a := 26) (by decide), gI_wm (a := 46) (by decide), gI_wm (a := 53) (by decide)]
      refine ⟨fun c3 => ?_, fun c3 => ⟨fun c4 => ?_, fun c4 => ?_⟩⟩
      · rw [if_pos (Or.inl c3)] at at161
        exact m_putRest h4 hF hE1 hd (Nat.le_refl _) at161
      · rw [if_neg (fun z => z.elim c3 (fun z => z c4))] at at161
        exact at161
      · rw [if_pos (Or.inr c4)] at at161
        exact m_putRest h4 hF hE1 hd (Nat.le_refl _) at161
    refine s5_send_67 (S := wJ T J) (FxJ hF) (Nat.le_refl _) O ⟨ixN hd (by decide), ?_⟩
    rw [td, gI_wm (a := 44) (by decide), e44, mix, tq, gI_wm (a := 56) (by decide), pI_wJ (by decide), pI_wJ (by decide), pI_wJ (by decide), pI_wJ (by decide)]
    refine ⟨ixN q6 (by decide), fun c3 => ?_, fun c3 => ?_⟩
    · have e56 : spNew J (300 * d + num J d) 56 = J 56 := spNew_ne (by decide)
      unfold spTo at at127
      rw [e56, if_pos c3] at at127
      exact at127
    · have e56 : spNew J (300 * d + num J d) 56 = J 56 := spNew_ne (by decide)
      unfold spTo at at127
      rw [e56, if_neg c3] at at127
      obtain ⟨m, hm, hMq⟩ := hE0.mq hd
      obtain rfl : m = 0 := by omega
      obtain ⟨hh, hh1, h55, -⟩ : ∃ n, n < num J (1 - d) ∧ J 55 d = nI n ∧ J 73 (300 * (1 - d) + n) = 1 := by
        rcases (hR.vd hd).2.2.2.2.2.2.2.1 with z | z
        · rcases (hR.vd hd).2.2.2.2.2.2.2.2.1 with y | y
          · exact absurd y c3
          · exact absurd z y
        · exact z
      have n3' := hR.nle (show 1 - d < 2 by omega)
      obtain ⟨r, r60, r1, e0⟩ := hR.vg.1
      exact m_putTold (J := spNew J (300 * d + num J d)) hF hd hMq (by rw [spNew_ne (by decide)]; exact h55) (by omega) e68 (by rw [spNew_26, if_neg (by decide)]; exact e0) r60 r1 at127
  have d1 : nI d = 1 ↔ d = 1 := ⟨fun z => nI_nj (b := 1) (by omega) (by omega) z, fun z => by rw [z]; rfl⟩
  refine ⟨fun c3 => at67 (fun z => c3 (d1.mpr z.1)), fun c3 => ⟨fun c4 => at67 (fun z => z.2.1 c4), fun c4 => ⟨fun c5 => at67 (fun z => z.2.2 c5), fun c5 => h2c ⟨d1.mp c3, c4, c5⟩⟩⟩⟩
end MSEND
