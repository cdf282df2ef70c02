section PUSH
variable {T : Sto} {J : Rows}
def puS (T : Sto) (d p n N : Nat) : Sto := pI (pR (pI (pR T (20 + 3 * d + 1) n (some p)) (20 + 3 * d) 3 (nI (n + 1))) 1 N (some p)) 0 3 (nI (N + 1))
def spPu (J : Rows) (d q n N : Nat) : Rows := uJ (uJ (uJ (uJ (uJ (uJ J 66 q (J 26 3)) 67 q (J 26 (if d = 0 then 44 else 45))) 76 N (nI d)) 77 N (nI n)) 26 62 (nI (N + 1))) 44 d (nI (n + 1))
theorem spPu_ne {d q n N r : Nat} (h : r ≠ 66 ∧ r ≠ 67 ∧ r ≠ 76 ∧ r ≠ 77 ∧ r ≠ 26 ∧ r ≠ 44) : spPu J d q n N r = J r := by
  obtain ⟨h1, h2, h3, h4, h5, h6⟩ := h
  unfold spPu
  rw [uJ_ne h6, uJ_ne h5, uJ_ne h4, uJ_ne h3, uJ_ne h2, uJ_ne h1]
theorem spPu_66 {d q n N k : Nat} : spPu J d q n N 66 k = if k = q then J 26 3 else J 66 k := by
  unfold spPu
  rw [uJ_ne (by decide), uJ_ne (by decide), uJ_ne (by decide), uJ_ne (by decide), uJ_ne (by decide), uJ_eq]
theorem spPu_67 {d q n N k : Nat} : spPu J d q n N 67 k = if k = q then J 26 (if d = 0 then 44 else 45) else J 67 k := by
  unfold spPu
  rw [uJ_ne (by decide), uJ_ne (by decide), uJ_ne (by decide), uJ_ne (by decide), uJ_eq, uJ_ne (by decide)]
theorem spPu_76 {d q n N k : Nat} : spPu J d q n N 76 k = if k = N then nI d else J 76 k := by
  unfold spPu
  rw [uJ_ne (by decide), uJ_ne (by decide), uJ_ne (by decide), uJ_eq, uJ_ne (by decide), uJ_ne (by decide)]
theorem spPu_77 {d q n N k : Nat} : spPu J d q n N 77 k = if k = N then nI n else J 77 k := by
  unfold spPu
  rw [uJ_ne (by decide), uJ_ne (by decide), uJ_eq, uJ_ne (by decide), uJ_ne (by decide), uJ_ne (by decide)]
theorem spPu_26 {d q n N k : Nat} : spPu J d q n N 26 k = if k = 62 then nI (N + 1) else J 26 k := by
  unfold spPu
  rw [uJ_ne (by decide), uJ_eq, uJ_ne (by decide), uJ_ne (by decide), uJ_ne (by decide), uJ_ne (by decide)]
theorem spPu_44 {d q n N k : Nat} : spPu J d q n N 44 k = if k = d then nI (n + 1) else J 44 k := by
  unfold spPu
  rw [uJ_eq, uJ_ne (by decide), uJ_ne (by decide), uJ_ne (by decide), uJ_ne (by decide), uJ_ne (by decide)]
theorem puS_I {d p n N a : Nat} (h1 : a ≠ 0) (h2 : a ≠ 20 + 3 * d) : gI (puS T d p n N) a = gI T a := by
  unfold puS
  rw [gI_ne h1, gI_pR, gI_ne h2, gI_pR]
theorem puS_0 {d p n N : Nat} : gI (puS T d p n N) 0 = upd (gI T 0) 3 (nI (N + 1)) := by
  unfold puS
  rw [gI_eq, gI_pR, gI_ne (by omega), gI_pR]
theorem puS_d {d p n N : Nat} : gI (puS T d p n N) (20 + 3 * d) = upd (gI T (20 + 3 * d)) 3 (nI (n + 1)) := by
  unfold puS
  rw [gI_ne (by omega), gI_pR, gI_eq, gI_pR]
theorem puS_R {d p n N a k : Nat} : gR (puS T d p n N) a k = if a = 1 ∧ k = N then some p else if a = 21 + 3 * d ∧ k = n then some p else gR T a k := by
  unfold puS
  rw [gR_pI, gR_pR]
  by_cases h1 : a = 1
  · subst h1
    rw [if_pos rfl]
    unfold va_up
    by_cases hk : k = N
    · rw [if_pos hk, if_pos ⟨rfl, hk⟩]
    · rw [if_neg hk, if_neg (fun z => hk z.2), if_neg (by omega), gR_pI, gR_pR, if_neg (by omega)]
  · rw [if_neg h1, if_neg (fun z => h1 z.1), gR_pI, gR_pR]
    by_cases h2 : a = 20 + 3 * d + 1
    · rw [if_pos h2]
      unfold va_up
      by_cases hk : k = n
      · rw [if_pos hk, if_pos ⟨by omega, hk⟩]
      · rw [if_neg hk, if_neg (fun z => hk z.2), h2]
    · rw [if_neg h2, if_neg (fun z => h2 (by omega))]
theorem Rel.push {d p q m N : Nat} (h : FQ T J d p q m) (hd : d < 2) (hm : 1 ≤ m) (hN : J 26 62 = nI N) (hN4 : N < 400) (hz : J 71 q = 0 ∧ J 72 q = 0 ∧ J 73 q = 0) : Rel (puS T d p (num J d) N) (spPu J d q (num J d) N) := by
  obtain ⟨hq, hR, hP, hS, -⟩ := h
  obtain ⟨a1, a2, a3, a4, a5, ⟨b0, b1, b2, b3, b4⟩, ⟨b10, b11, b12⟩, ⟨f7, f69, f8, f9⟩, ⟨w, r, e68, e0, w10, wr, r1⟩, a10, a11, a12⟩ := hP
  have p79 := al79 a1
  have pm := kd1_3 a1
  have hF1 : Fx (pR T (20 + 3 * d + 1) (num J d) (some p)) := hR.f.put9s (hR.f.pks (hR.f.sd hd)) a1
  have hF2 : Fx (pR (pI (pR T (20 + 3 * d + 1) (num J d) (some p)) (20 + 3 * d) 3 (nI (num J d + 1))) 1 N (some p)) := (hF1.same (S' := pI (pR T (20 + 3 * d + 1) (num J d) (some p)) (20 + 3 * d) 3 (nI (num J d + 1))) rfl rfl).put9s (Fx.k (hF1.same (S' := pI (pR T (20 + 3 * d + 1) (num J d) (some p)) (20 + 3 * d) 3 (nI (num J d + 1))) rfl rfl) (by decide) rfl) a1
  have hF : Fx (puS T d p (num J d) N) := hF2.same rfl rfl
  have e : ∀ r, r ≠ 66 ∧ r ≠ 67 ∧ r ≠ 76 ∧ r ≠ 77 ∧ r ≠ 26 ∧ r ≠ 44 → spPu J d q (num J d) N r = J r := fun r hr => spPu_ne hr
  have nmd : num (spPu J d q (num J d) N) d = num J d + 1 := by
    unfold num
    rw [spPu_44, if_pos rfl]; exact tnN (by have := a3; unfold num at this; omega)
  have nmo : ∀ d', d' ≠ d → num (spPu J d q (num J d) N) d' = num J d' := fun d' hd' => num_of (by rw [spPu_44, if_neg hd'])
  have nle : ∀ d', num J d' ≤ num (spPu J d q (num J d) N) d' := fun d' => by
    by_cases z : d' = d
    · subst z; rw [nmd]; omega
    · rw [nmo d' z]; exact Nat.le_refl _
  have fr : ∀ i, i < 8 → frs J i ≤ frs (spPu J d q (num J d) N) i := fun i _ => frs_eq (e 31 (by decide)) i
  have ags : ∀ i, agS J (spPu J d q (num J d) N) i := fun i => ⟨fun r _ _ _ _ => by rw [e r (by omega)], fun j _ => ⟨by unfold byt; rw [e 36 (by decide)], by unfold cam; rw [e 37 (by decide)]⟩⟩
  have g62 : ∀ j, j ≠ 62 → spPu J d q (num J d) N 26 j = J 26 j := fun j hj => by rw [spPu_26, if_neg hj]
  refine ⟨hF, fun i hi => ?_, fun d' hd' => ⟨?_, ?_⟩, ?_, ?_, fun d' n' hd' hn' => ?_, ?_⟩
  · rw [puS_I (by omega) (by omega), puS_I (by omega) (by omega)]
    exact ⟨(hR.s hi).ag (ags i), (hR.vs hi).ag (ags i)⟩
  · rw [puS_I (a := 22 + 3 * d') (by omega) (by omega)]
    obtain ⟨h1, h2, h3, h4, ⟨t, h5, h6, h7⟩, s, h8, h9, h10⟩ := hR.d hd'
    have hc : ∀ k, k ≠ 3 → gI (puS T d p (num J d) N) (20 + 3 * d') k = gI T (20 + 3 * d') k := fun k hk => by
      by_cases z : d' = d
      · subst z; rw [puS_d, upd_at, if_neg hk]
      · rw [puS_I (by omega) (by omega)]
    refine ⟨fun k hk => ?_, fun k hk => ?_, by rw [hc 0 (by decide)]; exact h3, by rw [hc 12 (by decide), e 64 (by decide), e 65 (by decide)]; exact h4, ⟨t, h5, by rw [hc 13 (by decide)]; exact h6, by rw [e 61 (by decide)]; exact h7⟩, s, by rw [hc 4 (by decide)]; exact h8, ⟨h9.1, Nat.le_trans h9.2 (nle d')⟩, fun n hn => by rw [e 70 (by decide), e 71 (by decide), e 72 (by decide)]; exact h10 n hn⟩
    · show gI (puS T d p (num J d) N) (20 + 3 * d') k = spPu J d q (num J d) N (rd k) d'
      by_cases k3 : k = 3
      · subst k3
        show _ = spPu J d q (num J d) N 44 d'
        rw [spPu_44]
        by_cases z : d' = d
        · subst z; rw [puS_d, upd_at, if_pos rfl, if_pos rfl]
        · rw [puS_I (by omega) (by omega), if_neg z]; exact h1 3 (by decide)
      · have t : ∀ k ∈ ksD, k ≠ 3 → rd k ≠ 66 ∧ rd k ≠ 67 ∧ rd k ≠ 76 ∧ rd k ≠ 77 ∧ rd k ≠ 26 ∧ rd k ≠ 44 := by decide
        rw [hc k k3, e _ (t k hk k3)]; exact h1 k hk
    · have t : ∀ k ∈ ksP, rp k ≠ 66 ∧ rp k ≠ 67 ∧ rp k ≠ 76 ∧ rp k ≠ 77 ∧ rp k ≠ 26 ∧ rp k ≠ 44 := by decide
      show _ = spPu J d q (num J d) N (rp k) d'
      rw [e _ (t k hk)]; exact h2 k hk
  · obtain ⟨h1, h2, h3, h4, h5, h6, h7, h8, h9, h10, h11, h12, h13, h14⟩ := hR.vd hd'
    unfold IvD
    rw [e 53 (by decide), e 56 (by decide), e 58 (by decide), e 62 (by decide), e 64 (by decide), e 54 (by decide), e 55 (by decide), e 57 (by decide), e 59 (by decide), e 65 (by decide), e 63 (by decide), e 47 (by decide), e 73 (by decide), g62 45 (by decide)]
    refine ⟨?_, h2, h3, h4, h5, h6, ?_, ?_, h9, h10, h11, h12, h13, h14⟩
    · rw [spPu_44]
      split
      · exact ⟨num J d + 1, by omega, rfl⟩
      · exact h1
    · rcases h7 with z | ⟨n, z1, z2⟩
      · exact Or.inl z
      · exact Or.inr ⟨n, by have := nle d'; omega, z2⟩
    · rcases h8 with z | ⟨n, z1, z2, z3⟩
      · exact Or.inl z
      · exact Or.inr ⟨n, by have := nle (1 - d'); omega, z2, z3⟩
  · rw [puS_0]
    intro k hk
    show upd (gI T 0) 3 (nI (N + 1)) k = spPu J d q (num J d) N 26 (rg k)
    rw [upd_at, spPu_26]
    by_cases z : k = 3
    · subst z; rw [if_pos rfl]; exact (if_pos rfl).symm
    · rw [if_neg z, if_neg (show ¬ rg k = 62 from fun y => z (rg_inj k hk 3 (by decide) y))]; exact hR.g k hk
  · have := hR.vg
    unfold IvG at this ⊢
    rw [g62 0 (by decide), g62 1 (by decide), g62 2 (by decide), g62 4 (by decide), g62 46 (by decide), g62 44 (by decide), g62 45 (by decide), spPu_26, if_pos rfl]
    exact ⟨this.1, this.2.1, this.2.2.1, this.2.2.2.1, this.2.2.2.2.1, this.2.2.2.2.2.1, this.2.2.2.2.2.2.1, N + 1, by omega, rfl⟩
  · by_cases z : d' = d ∧ n' = num J d
    · obtain ⟨rfl, rfl⟩ := z
      have hqq : 300 * d' + num J d' = q := hq.symm
      rw [hqq] at a10 a11 a12 f69 f8 f9 e68 ⊢
      refine ⟨?_, p, by rw [puS_R, if_neg (by omega), if_pos ⟨rfl, rfl⟩], a1, ?_⟩
      · unfold IvP
        have pr : ∀ k w, prt (spPu J d' q (num J d') N) q k w = prt J q k w := fun k w => by unfold prt; rw [e 74 (by decide)]
        rw [e 70 (by decide), e 71 (by decide), e 72 (by decide), e 73 (by decide), e 68 (by decide), e 69 (by decide), e 75 (by decide), spPu_67, if_pos rfl, pr, pr]
        refine ⟨a10, by rw [hz.1]; exact Or.inl rfl, by rw [hz.2.1]; exact Or.inl rfl, by rw [hz.2.2]; exact Or.inl rfl, ?_, ⟨w, w10, by omega, e68⟩, ⟨m, hm, a4, f69, fun k hk => ?_⟩, fun h1 => ?_⟩
        · split
          · exact hR.vg.2.2.2.2.2.1
          · exact hR.vg.2.2.2.2.2.2.1
        · rw [pr, pr, pr, pr]
          exact ⟨(a12 k hk).1.fr fr, (a12 k hk).2⟩
        · have := hS.2 (by omega)
          rw [hqq] at this
          obtain ⟨lo, hi, s1, s2⟩ := this h1
          refine ⟨lo, hi, fun j hj hj4 => ?_, s2⟩
          obtain ⟨t1, t2, t3, t4⟩ := s1 j hj hj4
          exact ⟨t1, t2, t3, by have := nle (1 - d'); omega⟩
      · rw [puS_I (by omega) (by omega), puS_I (by omega) (by omega), puS_I (by omega) (by omega)]
        unfold RPk
        have pr : ∀ k w, prt (spPu J d' q (num J d') N) q k w = prt J q k w := fun k w => by unfold prt; rw [e 74 (by decide)]
        rw [hqq, e 69 (by decide), e 75 (by decide), pr, pr, g62 0 (by decide)]
        refine ⟨fun k hk => ?_, b0, b1, b4, fun k w hk hk2 hw => ?_, fun j hj => ?_⟩
        · show gI T p k = spPu J d' q (num J d') N (rk k) q
          simp only [ksK, List.mem_cons, List.not_mem_nil, or_false] at hk
          rcases hk with rfl | rfl | rfl | rfl | rfl | rfl | rfl | rfl
          · show _ = spPu J d' q (num J d') N 66 q
            rw [spPu_66, if_pos rfl]; exact b2
          · show _ = spPu J d' q (num J d') N 67 q
            rw [spPu_67, if_pos rfl]; exact b3
          · show _ = spPu J d' q (num J d') N 69 q
            rw [e 69 (by decide), f7]; exact f69.symm
          · show _ = spPu J d' q (num J d') N 68 q
            rw [e 68 (by decide)]; exact f8
          · show _ = spPu J d' q (num J d') N 70 q
            rw [e 70 (by decide)]; exact f9
          · show _ = spPu J d' q (num J d') N 71 q
            rw [e 71 (by decide), b10]; exact hz.1.symm
          · show _ = spPu J d' q (num J d') N 72 q
            rw [e 72 (by decide), b11]; exact hz.2.1.symm
          · show _ = spPu J d' q (num J d') N 73 q
            rw [e 73 (by decide), b12]; exact hz.2.2.symm
        · rw [pr]
          refine a11 k w ?_ hw
          rw [f69, nI_ltI (by omega) (by omega)] at hk
          exact hk
        · have := hS.1 j hj
          rw [hqq] at this
          exact ⟨fun y => this.1 ⟨by omega, y⟩, fun y => this.2 (fun v => y v.2)⟩
    · have hn : n' < num J d' := by
        by_cases y : d' = d
        · subst y
          rw [nmd] at hn'
          have : n' ≠ num J d' := fun v => z ⟨rfl, v⟩
          omega
        · rw [nmo d' y] at hn'; exact hn'
      obtain ⟨k1, p', k2, k3, k4⟩ := hR.pk hd' hn
      have hne : 300 * d' + n' ≠ q := by
        have := hR.nle hd'
        rw [hq]
        intro v
        by_cases y : d' = d
        · subst y; omega
        · omega
      have hag : agK J (spPu J d q (num J d) N) (300 * d' + n') := by
        refine ⟨fun r r1 r2 => ?_, fun k w _ _ => by unfold prt; rw [e 74 (by decide)], fun j _ => by rw [e 75 (by decide)]⟩
        rcases (show r = 66 ∨ r = 67 ∨ 68 ≤ r by omega) with rfl | rfl | y
        · rw [spPu_66, if_neg hne]
        · rw [spPu_67, if_neg hne]
        · rw [e r (by omega)]
      have p79' := al79 k3
      refine ⟨k1.ag hag (nle _) fr, p', ?_, k3, ?_⟩
      · rw [puS_R, if_neg (by omega), if_neg]
        · exact k2
        · intro v
          exact z ⟨by omega, v.2⟩
      · rw [puS_I (by omega) (by omega), puS_I (by omega) (by omega), puS_I (by omega) (by omega)]
        exact k4.ag hag (g62 0 (by decide))
  · intro k hk hk4
    rw [spPu_26, if_pos rfl, nI_ltI (by omega) (by omega)] at hk
    rw [spPu_76, spPu_77]
    by_cases z : k = N
    · rw [if_pos z, if_pos z]
      refine ⟨d, num J d, hd, by rw [nmd]; omega, rfl, rfl, ?_⟩
      rw [puS_R, if_pos ⟨rfl, z⟩, puS_R, if_neg (by omega), if_pos ⟨rfl, rfl⟩]
    · obtain ⟨d', n', p', q1, q2, q3, q4, q5, q6, -⟩ := hR.ut hN (by omega) (i := k) (by omega)
      rw [if_neg z, if_neg z]
      refine ⟨d', n', q1, by have := nle d'; omega, q3, q4, ?_⟩
      rw [puS_R, if_neg (fun v => z v.2), if_neg (by omega), puS_R, if_neg (by omega), if_neg, q5, q6]
      intro v
      have : d' = d := by omega
      subst this
      omega
end PUSH
