section PUTK
variable {T : Sto} {J : Rows}
theorem IvD.ag1 {J' : Rows} {d : Nat} (h : IvD J d) (ha : ∀ r, 44 ≤ r → r ≤ 65 → J' r d = J r d) (hn : num J' (1 - d) = num J (1 - d)) (hc : ∀ n, n < 300 → J 73 (300 * (1 - d) + n) = 1 → J' 73 (300 * (1 - d) + n) = 1) (hp : J' 26 45 = J 26 45) (hb : num J (1 - d) ≤ 300) : IvD J' d := by
  have q : ∀ r, 44 ≤ r ∧ r ≤ 65 → J' r d = J r d := fun r h => ha r h.1 h.2
  unfold IvD
  rw [show num J' d = num J d by unfold num; rw [q 44 (by decide)], hn, hp, q 44 (by decide), q 53 (by decide), q 56 (by decide), q 58 (by decide), q 62 (by decide), q 64 (by decide), q 54 (by decide), q 55 (by decide), q 57 (by decide), q 59 (by decide), q 65 (by decide), q 63 (by decide), q 47 (by decide)]
  obtain ⟨h1, h2, h3, h4, h5, h6, h7, h8, h9, h10, h11, h12, h13, h14⟩ := h
  refine ⟨h1, h2, h3, h4, h5, h6, h7, ?_, h9, h10, h11, h12, h13, h14⟩
  rcases h8 with h8 | ⟨n, q1, q2, q3⟩
  · exact Or.inl h8
  · exact Or.inr ⟨n, q1, q2, hc n (by omega) q3⟩
theorem kd1_3 {p : Nat} (h : al T p 1) : (p - 79) % 3 = 0 := (kd1 h.2).2.1
/-- what became of a PACKET: told of, lost, came -/
theorem Rel.putK {d n p k : Nat} (h : Rel T J) (hd : d < 2) (hn : n < num J d) (hp : gR T (21 + 3 * d) n = some p) (hk : k = 10 ∨ k = 11 ∨ k = 12) : Rel (pI T p k 1) (uJ J (rk k) (300 * d + n) 1) := by
  have hkk : k ∈ ksK := by rcases hk with rfl | rfl | rfl <;> decide
  have hr : 71 ≤ rk k ∧ rk k ≤ 73 := by rcases hk with rfl | rfl | rfl <;> decide
  obtain ⟨hv, p', hp', hal, hK⟩ := h.pk hd hn
  rw [hp] at hp'
  cases hp'
  have p79 := al79 hal
  have n3 := h.nle hd
  have e : ∀ r, r < 71 ∨ 73 < r → uJ J (rk k) (300 * d + n) 1 r = J r := fun r hr' => uJ_ne (by omega)
  have up : ∀ r q, J r q = 1 → uJ J (rk k) (300 * d + n) 1 r q = 1 := fun r q hq => by
    by_cases z : r = rk k
    · subst z; rw [uJ_eq]; split
      · rfl
      · exact hq
    · rw [uJ_ne z]; exact hq
  have n0 : ∀ d', num (uJ J (rk k) (300 * d + n) 1) d' = num J d' := fun d' => num_of (by rw [e 44 (by decide)])
  refine h.chg h.f (fun d' _ => n0 d') (Nat.le_refl _) (fun i _ => frs_eq (e 31 (by decide)) i) (fun i hi => Or.inl ⟨gI_ne (by omega), gI_ne (by omega), fun r a b _ _ => by rw [e r (by omega)], fun j _ => ⟨by unfold byt; rw [e 36 (by decide)], by unfold cam; rw [e 37 (by decide)]⟩⟩) (fun d' hd' => Or.inr ?_)
    (fun d' hd' => (h.vd hd').ag1 (fun r a b => by rw [e r (by omega)]) (n0 _) (fun n' _ q => up _ _ q) (by rw [e 26 (by decide)]) (h.nle (by omega))) (by rw [gI_ne (by omega)]; intro k' hk'; rw [e 26 (by decide)]; exact h.g k' hk') (by have := h.vg; unfold IvG at this ⊢; rw [e 26 (by decide)]; exact this)
    (fun d' n' p' hd' hn' hp' hal' => ?_) (fun _ _ _ _ => rfl) (h.n.ag (by rw [e 26 (by decide)]) (fun i _ => ⟨by rw [e 76 (by decide)], by rw [e 77 (by decide)]⟩) (fun d' _ => n0 d') (fun _ _ => rfl) (fun _ _ _ _ => rfl))
  · rw [gI_ne (by omega), gI_ne (by omega)]
    obtain ⟨h1, h2, h3, h4, ⟨t, h5, h6, h7⟩, s, h8, h9, h10⟩ := h.d hd'
    refine ⟨fun k' hk' => ?_, fun k' hk' => ?_, h3, ?_, ⟨t, h5, h6, ?_⟩, s, h8, ⟨h9.1, by rw [n0]; exact h9.2⟩, fun m hm => ?_⟩
    · have := rd_in k' hk'
      show _ = uJ J (rk k) (300 * d + n) 1 (rd k') d'
      rw [e _ (by omega)]; exact h1 k' hk'
    · have := rp_in k' hk'
      show _ = uJ J (rk k) (300 * d + n) 1 (rp k') d'
      rw [e _ (by omega)]; exact h2 k' hk'
    · rw [e 64 (by decide), e 65 (by decide)]; exact h4
    · rw [e 61 (by decide)]; exact h7
    · rw [e 70 (by decide)]
      rcases h10 m hm with q | q | q
      · exact Or.inl q
      · exact Or.inr (Or.inl (up _ _ q))
      · exact Or.inr (Or.inr (up _ _ q))
  · obtain ⟨hv', p2, hp2, -, hK'⟩ := h.pk hd' hn'
    rw [hp'] at hp2
    cases hp2
    have n3' := h.nle hd'
    by_cases z : d' = d ∧ n' = n
    · obtain ⟨rfl, rfl⟩ := z
      rw [hp] at hp'
      cases hp'
      refine Or.inr ⟨?_, ?_⟩
      · have ep : ∀ a w, prt (uJ J (rk k) (300 * d' + n') 1) (300 * d' + n') a w = prt J (300 * d' + n') a w := fun a w => by unfold prt; rw [e 74 (by decide)]
        have fl : ∀ r, is01 (J r (300 * d' + n')) → is01 (uJ J (rk k) (300 * d' + n') 1 r (300 * d' + n')) := fun r hq => by
          by_cases z : r = rk k
          · subst z; rw [uJ_same]; exact Or.inr rfl
          · rw [uJ_ne z]; exact hq
        obtain ⟨b1, b2, b3, b4, b5, b6, ⟨m, m1, m2, m3, m4⟩, b8⟩ := hv'
        unfold IvP
        rw [e 67 (by decide), e 68 (by decide), e 69 (by decide), e 75 (by decide), n0]
        simp only [ep]
        exact ⟨fl 70 b1, fl 71 b2, fl 72 b3, fl 73 b4, b5, b6, ⟨m, m1, m2, m3, fun a ha => ⟨(m4 a ha).1.fr (fun i _ => frs_eq (e 31 (by decide)) i), (m4 a ha).2⟩⟩, b8⟩
      · rw [gI_eq, gI_ne (b := p + 1) (by omega), gI_ne (b := p + 2) (by omega)]
        obtain ⟨k1, k2, k3, k4, k5, k6⟩ := hK'
        have ks : ∀ k' ∈ ksK, k' ≠ 0 ∧ k' ≠ 1 ∧ k' ≠ 4 := by decide
        obtain ⟨s1, s2, s3⟩ := ks k hkk
        refine ⟨fun k' hk' => ?_, ?_, ?_, ?_, ?_, ?_⟩
        · show upd _ k 1 k' = uJ J (rk k) (300 * d' + n') 1 (rk k') (300 * d' + n')
          rw [upd_at]
          by_cases q : k' = k
          · subst q; rw [if_pos rfl, uJ_same]
          · rw [if_neg q, uJ_ne (fun y => q (rk_inj k' hk' k hkk y))]; exact k1 k' hk'
        · rw [upd_at, if_neg (fun q => s1 q.symm)]; exact k2
        · rw [upd_at, if_neg (fun q => s2 q.symm)]; exact k3
        · rw [upd_at, if_neg (fun q => s3 q.symm), e 26 (by decide)]; exact k4
        · unfold prt
          rw [e 69 (by decide), e 74 (by decide)]; exact k5
        · unfold prt
          rw [e 74 (by decide), e 75 (by decide)]; exact k6
    · have hne : p' ≠ p := fun q => by
        subst q
        have a1 := hK.2.1
        have a2 := hK.2.2.1
        rw [hK'.2.1] at a1
        rw [hK'.2.2.1] at a2
        exact z ⟨nI_nj (by omega) (by omega) a1, nI_nj (by omega) (by omega) a2⟩
      have q3 := kd1_3 hal
      have q3' := kd1_3 hal'
      have p79' := al79 hal'
      refine Or.inl ⟨gI_ne hne, gI_ne (by omega), gI_ne (by omega), ⟨fun r _ _ => ?_, fun a w _ _ => by unfold prt; rw [e 74 (by decide)], fun j _ => by rw [e 75 (by decide)]⟩, by rw [e 26 (by decide)]⟩
      exact uJ_off _ _ (Or.inr (by omega))
end PUTK
