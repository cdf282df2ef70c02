section MOVE
variable {T : Sto} {J : Rows}
/-- the address -/
theorem Rel.putA {x : Int32} (h : Rel T J) (hx : upTo x 50) : Rel (pI T 0 8 x) (uJ J 26 44 x) := by
  have e : ∀ r, r ≠ 26 → uJ J 26 44 x r = J r := fun r hr => uJ_ne hr
  have g : ∀ j, j ≠ 44 → uJ J 26 44 x 26 j = J 26 j := fun j hj => uJ_off _ _ (Or.inr hj)
  have nm : ∀ d, num (uJ J 26 44 x) d = num J d := fun d => num_of (by rw [e 44 (by decide)])
  refine h.chg h.f (fun d _ => nm d) (Nat.le_refl _) (fun i _ => frs_eq (e 31 (by decide)) i) (fun i hi => Or.inl ⟨gI_ne (by omega), gI_ne (by omega), fun r a b _ _ => by rw [e r (by omega)], fun j _ => ⟨by unfold byt; rw [e 36 (by decide)], by unfold cam; rw [e 37 (by decide)]⟩⟩)
    (fun d hd => Or.inl ⟨gI_ne (by omega), gI_ne (by omega), fun r a b => by rw [e r (by omega)], fun n _ => ⟨by rw [e 70 (by decide)], by rw [e 71 (by decide)], by rw [e 72 (by decide)]⟩⟩) (fun d hd => (h.vd hd).ag (fun r a b => by rw [e r (by omega)]) (nm _) (fun n _ => by rw [e 73 (by decide)]) (g 45 (by omega)) (h.nle (by omega))) ?_ ?_
    (fun d n p hd hn hp hal => Or.inl ⟨gI_ne (by have := al79 hal; omega), gI_ne (by omega), gI_ne (by omega), ⟨fun r a b => by rw [e r (by omega)], fun a w _ _ => by unfold prt; rw [e 74 (by decide)], fun j _ => by rw [e 75 (by decide)]⟩, g 0 (by omega)⟩) (fun _ _ _ _ => rfl)
    (h.n.ag (g 62 (by omega)) (fun i _ => ⟨by rw [e 76 (by decide)], by rw [e 77 (by decide)]⟩) (fun d _ => nm d) (fun _ _ => rfl) (fun _ _ _ _ => rfl))
  · rw [gI_eq]
    intro k' hk'
    show upd _ 8 x k' = uJ J 26 44 x 26 (rg k')
    rw [upd_at, uJ_eq]
    by_cases q : k' = 8
    · subst q; rw [if_pos rfl]; exact (if_pos rfl).symm
    · rw [if_neg q, if_neg (show ¬ rg k' = 44 from fun z => q (rg_inj k' hk' 8 (by decide) z))]; exact h.g k' hk'
  · obtain ⟨h1, h2, h3, h4, h5, h6, h7, h8⟩ := h.vg
    unfold IvG
    rw [g 0 (by decide), g 1 (by decide), g 2 (by decide), g 4 (by decide), g 46 (by decide), g 45 (by decide), g 62 (by decide), uJ_same]
    exact ⟨h1, h2, h3, h4, h5, hx, h7, h8⟩
theorem c_move {Q : Int32 → Sto → Prop} (hR : Rel T J) (h1 : ¬ J 26 44 = 50 → ∀ T', Ev T T' → Rel T' (uJ J 26 44 (J 26 44 + 1)) → Q (J 26 44 + 1) T') (h2 : J 26 44 = 50 → Q (-4) T) : Ci K4_move [vr 0] T Q := by
  have e8 : gI T 0 8 = J 26 44 := hR.g 8 (by decide)
  obtain ⟨a, ha, ea⟩ := hR.vg.2.2.2.2.2.1
  refine e4_move hR.f ?_
  rw [e8]
  refine ⟨fun hc => ?_, fun hc => h2 ?_⟩
  · rw [ea, show (50 : Int32) = nI 50 from rfl, nI_ltI (by omega) (by omega)] at hc
    refine h1 (fun z => ?_) _ (Ev.rf.p (by omega)) (hR.putA ⟨a + 1, by omega, by rw [ea]; exact nI_suc a⟩)
    rw [ea] at z
    have := nI_nj (b := 50) (by omega) (by omega) z
    omega
  · rw [ea, show (50 : Int32) = nI 50 from rfl, nI_ltI (by omega) (by omega)] at hc
    rw [ea, show a = 50 by omega]; rfl
end MOVE
