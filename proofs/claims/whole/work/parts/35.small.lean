section SMALL
variable {T : Sto} {J : Rows}
theorem m_cut (hF : Fx T) {Q : Int32 → Sto → Prop} {p : Int32} (h1 : ¬ (0 ≤ p.toInt ∧ p.toInt < 8) → Q (-1) (wJ T J)) (h2 : ∀ s, s < 8 → p = nI s → (J 29 s = 0 → Q 1 (wJ T (uJ (uJ (uJ J 29 s 1) 30 s 1) 26 4 1))) ∧ (¬ J 29 s = 0 → Q (-3) (wJ T J))) : Ci K5_cut [vr 26, vi p] (wJ T J) Q := by
  refine e5_cut (FxJ hF) ⟨fun hc => ?_, fun hc => ?_⟩
  · rw [ite01, Classical.not_not] at hc
    obtain ⟨s, hs, rfl⟩ := ofIx2 (N := 8) hc
    obtain ⟨k1, k2⟩ := h2 s hs rfl
    refine ⟨hc, ?_⟩
    rw [tnN (by omega), gI_wm (a := 29) (by decide), pI_wJ (by decide), pI_wJ (by decide), pI_wJ (by decide)]
    exact ⟨k1, k2⟩
  · rw [ite01] at hc
    exact h1 hc
theorem m_write (hF : Fx T) {Q : Int32 → Sto → Prop} {p n : Int32} (h1 : ¬ (0 ≤ p.toInt ∧ p.toInt < 8) → Q (-1) (wJ T J))
    (h2 : ∀ s, s < 8 → p = nI s → (¬ (1 ≤ n.toInt ∧ n.toInt ≤ 1000) → Q (-2) (wJ T J)) ∧ (1 ≤ n.toInt ∧ n.toInt ≤ 1000 → (¬ (J 28 s = 0 ∧ J 29 s = 0) → Q (-3) (wJ T J)) ∧ (J 28 s = 0 ∧ J 29 s = 0 → (¬ J 27 s + n ≤ 1000 → Q (-4) (wJ T J)) ∧
      (J 27 s + n ≤ 1000 → Q (J 27 s + n) (wJ T (uJ (uJ J 27 s (J 27 s + n)) 26 4 1)))))) : Ci K5_write [vr 26, vi p, vi n] (wJ T J) Q := by
  refine e5_write (FxJ hF) ?_
  simp only [ite01, Classical.not_not, ti64, l64_1, l64_1000]
  refine ⟨fun hc => ?_, h1⟩
  obtain ⟨s, hs, rfl⟩ := ofIx2 (N := 8) hc
  obtain ⟨k1, k2⟩ := h2 s hs rfl
  refine ⟨fun hd => ⟨hc, ?_⟩, k1⟩
  obtain ⟨b1, b2⟩ := k2 hd
  rw [tnN (by omega), gI_wm (a := 28) (by decide), gI_wm (a := 29) (by decide), gI_wm (a := 27) (by decide), pI_wJ (by decide), gI_wm (a := 27) (by decide), uJ_same, pI_wJ (by decide)]
  refine ⟨fun q => b1 (fun z => q z.1), fun q => ⟨fun r => ⟨(b2 ⟨q, r⟩).2, (b2 ⟨q, r⟩).1⟩, fun r => b1 (fun z => r z.2)⟩⟩
theorem m_move (hF : Fx T) {Q : Int32 → Sto → Prop} (h1 : ¬ J 26 44 = 50 → Q (J 26 44 + 1) (wJ T (uJ J 26 44 (J 26 44 + 1)))) (h2 : J 26 44 = 50 → Q (-4) (wJ T J)) : Ci K5_move [vr 26] (wJ T J) Q := by
  refine e5_move (FxJ hF) ?_
  rw [gI_wm (a := 26) (by decide), pI_wJ (by decide)]
  exact ⟨h1, h2⟩
end SMALL
