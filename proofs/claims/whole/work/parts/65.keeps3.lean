section KEEPS3
variable {T T0 U : Sto} {J J' K : Rows} {t d e q : Nat}
/-- the parts of a PACKET that comes -/
theorem Iv.pcs {n m0 : Nat} (hT : IvT K t) (hR : Rel U K) (hd : d < 2) (hn : n < num K (1 - d)) (h69 : K 69 (300 * (1 - d) + n) = nI m0) (hm0 : m0 ≤ 16) : ∀ m, m ≤ m0 → IvT (spPCs K d (300 * (1 - d) + n) m) t ∧ ∀ e n', e < 2 → num K e ≤ n' → n' < 300 → spPCs K d (300 * (1 - d) + n) m 71 (300 * e + n') = K 71 (300 * e + n') ∧ spPCs K d (300 * (1 - d) + n) m 72 (300 * e + n') = K 72 (300 * e + n') := fun m => by
  induction m with
  | zero => exact fun _ => ⟨hT, fun _ _ _ _ _ => ⟨rfl, rfl⟩⟩
  | succ m ih =>
    intro hm
    obtain ⟨ih1, ih2⟩ := ih (by omega)
    obtain ⟨hv, -⟩ := hR.pk (show 1 - d < 2 by omega) hn
    obtain ⟨-, -, -, -, -, -, ⟨m', m1, m2, m3, m4⟩, -⟩ := hv
    have mm : m' = m0 := nI_nj (by omega) (by omega) (m3.symm.trans h69)
    subst mm
    show IvT (spPC (spPCs K d (300 * (1 - d) + n) m) d (300 * (1 - d) + n) (prt K (300 * (1 - d) + n) m 0) (prt K (300 * (1 - d) + n) m 1) (prt K (300 * (1 - d) + n) m 2) (prt K (300 * (1 - d) + n) m 3)) t ∧ ∀ e n', e < 2 → num K e ≤ n' → n' < 300 → spPC (spPCs K d (300 * (1 - d) + n) m) d (300 * (1 - d) + n) (prt K (300 * (1 - d) + n) m 0) (prt K (300 * (1 - d) + n) m 1) (prt K (300 * (1 - d) + n) m 2) (prt K (300 * (1 - d) + n) m 3) 71 (300 * e + n') = K 71 (300 * e + n') ∧ spPC (spPCs K d (300 * (1 - d) + n) m) d (300 * (1 - d) + n) (prt K (300 * (1 - d) + n) m 0) (prt K (300 * (1 - d) + n) m 1) (prt K (300 * (1 - d) + n) m 2) (prt K (300 * (1 - d) + n) m 3) 72 (300 * e + n') = K 72 (300 * e + n')
    by_cases k : prt K (300 * (1 - d) + n) m 0 = 1
    · have k0 := (m4 m (by omega)).2 k
      subst k0
      obtain ⟨s, s1, ⟨s2, s3, s4, -⟩⟩ := hR.tdH hT hd hn k
      have n3 := hR.nle hd
      obtain ⟨-, -, -, s5⟩ := s4 0 (by omega)
      have e0 : spPCs K d (300 * (1 - d) + n) 0 = K := rfl
      rw [e0]
      unfold spPC
      rw [if_pos k]
      exact ⟨hT.td (by omega), fun e n' he h1 h3 => td_72 (hR.tw.2 d hd) s5 n3 hd he h1 h3⟩
    · refine ⟨ih1.keep (spPC_26 (by decide)) (fun r hr => spPC_n1 k (by omega)), fun e n' he h1 h3 => ?_⟩
      rw [spPC_n1 k (by decide), spPC_n1 k (by decide)]
      exact ih2 e n' he h1 h3
theorem kC1_ne {r : Nat} (h : r ≠ 56) : kC1 K d q r = K r := by
  unfold kC1
  split
  · rfl
  · exact uJ_ne h
theorem kC3_r {n : Int32} {r : Nat} (h : r = 27 ∨ r = 28 ∨ r = 29 ∨ r = 44 ∨ r = 66 ∨ r = 69 ∨ r = 71 ∨ r = 72) : kC3 K d q n r = K r := by
  unfold kC3
  rw [uJ_ne (by omega), uJ_ne (by omega)]
  split
  · rw [spPath_ne (by omega), kC1_ne (by omega)]
  · exact kC1_ne (by omega)
theorem kC3_26 {n : Int32} {j : Nat} (h : j = 3 ∨ j = 4) : kC3 K d q n 26 j = K 26 j := by
  unfold kC3
  rw [uJ_ne (by decide), uJ_ne (by decide)]
  split
  · rw [spPath_26 (by omega), kC1_ne (by decide)]
  · rw [kC1_ne (by decide)]
theorem kC3_73 {n : Int32} {k : Nat} : kC3 K d q n 73 k = if k = q then 1 else K 73 k := by
  unfold kC3
  rw [uJ_ne (by decide), uJ_eq]
  by_cases z : k = q
  · rw [if_pos z, if_pos z]
  · rw [if_neg z, if_neg z]
    split
    · rw [spPath_ne (by decide), kC1_ne (by decide)]
    · rw [kC1_ne (by decide)]
theorem kC3_55 {n : Int32} {k : Nat} : kC3 K d q n 55 k = if k = d then kMx K d n else K 55 k := by
  unfold kC3
  rw [uJ_eq]
  by_cases z : k = d
  · rw [if_pos z, if_pos z]
  · rw [if_neg z, if_neg z, uJ_ne (by decide)]
    split
    · rw [spPath_ne (by decide), kC1_ne (by decide)]
    · rw [kC1_ne (by decide)]
theorem kMx_6 {n : Nat} (hn : n < 300) : ¬ kMx K d (nI n) = -6 := by
  unfold kMx
  have h0 : (0 : Int32) ≤ nI n := nI_ge0 (by omega)
  split
  · exact nI_neg6 (by omega)
  · rename_i z
    intro y
    rw [y] at z
    exact z (Int32.lt_of_lt_of_le (by decide) h0)
theorem spPCs_26' {m j : Nat} (h : j ≠ 46) : spPCs K d q m 26 j = K 26 j := by
  induction m with
  | zero => rfl
  | succ m ih => exact (spPC_26 h).trans ih
theorem Iv.kgot {n : Nat} (h : Iv K t) (hR : Rel U K) (hd : d < 2) (hn : n < num K (1 - d)) : Iv (spPCs (kC3 K d (300 * (1 - d) + n) (nI n)) d (300 * (1 - d) + n) (ntn (K 69 (300 * (1 - d) + n)))) t := by
  have n3 := hR.nle (show 1 - d < 2 by omega)
  obtain ⟨hv, p, hp, -⟩ := hR.pk (show 1 - d < 2 by omega) hn
  obtain ⟨g1, g2⟩ := hR.got3 hd hn hp
  obtain ⟨-, -, -, -, -, -, ⟨m, m1, m2, m3, m4⟩, -⟩ := hv
  have R3 : ∃ U', Rel U' (kC3 K d (300 * (1 - d) + n) (nI n)) := by
    by_cases y : K 70 (300 * (1 - d) + n) = 0
    · exact ⟨_, g1 y⟩
    · exact ⟨_, g2 y⟩
  obtain ⟨U', R3⟩ := R3
  have n44 : ∀ e, num (kC3 K d (300 * (1 - d) + n) (nI n)) e = num K e := fun e => num_of (by rw [kC3_r (by omega)])
  have em : ntn (K 69 (300 * (1 - d) + n)) = m := by rw [m3]; exact ntn_nI (by omega)
  rw [em]
  obtain ⟨a, b, c, f, g⟩ := h
  obtain ⟨p1, p2⟩ := Iv.pcs (t := t) (U := U') (m0 := m) a.zkC3 R3 hd (by rw [n44]; exact hn) (by rw [kC3_r (by omega)]; exact m3) m2 m (Nat.le_refl _)
  have nu : ¬ Unu K := fun z => by
    rcases (show d = 0 ∨ d = 1 by omega) with rfl | rfl
    · rw [num_0 z.2.2] at hn; omega
    · rw [num_0 z.2.1] at hn; omega
  have n4 : ¬ K 26 4 = 0 := fun z => nu (f.mp z)
  have f4 : spPCs (kC3 K d (300 * (1 - d) + n) (nI n)) d (300 * (1 - d) + n) m 26 4 = K 26 4 := (spPCs_26' (by decide)).trans (kC3_26 (by decide))
  have fr : ∀ r, r = 27 ∨ r = 28 ∨ r = 29 ∨ r = 44 → spPCs (kC3 K d (300 * (1 - d) + n) (nI n)) d (300 * (1 - d) + n) m r = K r := fun r hr => by
    rw [spPCs_ne (by rcases hr with rfl | rfl | rfl | rfl <;> decide), kC3_r (by omega)]
  have n44' : ∀ e, num (spPCs (kC3 K d (300 * (1 - d) + n) (nI n)) d (300 * (1 - d) + n) m) e = num K e := fun e => num_of (by rw [fr 44 (by omega)])
  refine ⟨p1, fun e n' he h1 h2 => ?_, fun e n' he h1 h2 => ?_, ⟨fun z => absurd (f4 ▸ z) n4, fun z => ?_⟩, fun z => absurd (f4 ▸ z) n4⟩
  · rw [n44'] at h1
    rw [spPCs_ne (by decide), kC3_73] at h2
    rw [spPCs_ne (by decide), kC3_55]
    by_cases z : e = d
    · rw [if_pos z]; exact kMx_6 (by omega)
    · rw [if_neg z]
      have n3' := hR.nle (show 1 - e < 2 by omega)
      rw [if_neg (show ¬ 300 * (1 - e) + n' = 300 * (1 - d) + n by omega)] at h2
      exact b e n' he h1 h2
  · rw [n44'] at h1
    obtain ⟨q1, q2⟩ := p2 e n' he (by rw [n44]; exact h1) h2
    rw [q1, q2, spPCs_ne (by decide), kC3_r (by omega), kC3_r (by omega), kC3_73, if_neg (show ¬ 300 * e + n' = 300 * (1 - d) + n from fun z => ?_)]
    · exact c e n' he h1 h2
    · have : e = 1 - d := by omega
      subst this
      omega
  · refine absurd ?_ nu
    unfold Unu at z ⊢
    rw [fr 27 (by omega), fr 28 (by omega), fr 29 (by omega), fr 44 (by omega)] at z
    exact z
theorem Iv.kkC1 (h : Iv K t) : Iv (kC1 K d q) t :=
  h.keep (by rw [kC1_ne (by decide)]) (by rw [kC1_ne (by decide)]) (fun r hr => kC1_ne (by omega)) (fun _ z => z.keep (fun r hr => kC1_ne (by omega)))
/-! send -/
theorem Iv.turn {t0 : Nat} (h : EQ K d q 12) (hd : d < 2) : ∀ j, j ≤ 4 → spBys K d q t0 j 61 = K 61 ∨ ¬ spBys K d q t0 j 69 q = 0 := fun j => by
  induction j with
  | zero => exact fun _ => Or.inl rfl
  | succ j ih =>
    intro hj
    obtain ⟨m, hm, -, -, e69, -⟩ := (h.bys (t := t0) hd j (by omega) (by omega)).mq hd
    show spByt (spBys K d q t0 j) d q (stN d t0 j) 61 = K 61 ∨ ¬ spByt (spBys K d q t0 j) d q (stN d t0 j) 69 q = 0
    unfold spByt
    split
    · refine Or.inr ?_
      rw [uJ_ne (by decide)]
      unfold spB1
      rw [spPut_69, if_pos rfl, spBE_ne (by decide) (by decide) (by decide) (by decide), e69, nI_suc]
      intro z
      have := nI_nj (b := 0) (by omega) (by decide) z
      omega
    · exact ih (by omega)
theorem put_61 {kind sz a b c : Int32} : spPut J q kind sz a b c 61 = J 61 := spPut_ne (by decide) (by decide) (by decide) (by decide)
theorem spRes_61 {n4 : Nat} : spRes J d q n4 61 = J 61 := by
  have h1 : ∀ A : Rows, spAns A d q 61 = A 61 := fun A => by
    unfold spAns
    split
    · rfl
    split
    · rw [uJ_ne (by decide), put_61]
    · rfl
  have h2 : ∀ A : Rows, spAsk A d q 61 = A 61 := fun A => by
    unfold spAsk
    split
    · rfl
    split
    · rw [uJ_ne (by decide), put_61]
    · rfl
  have h3 : ∀ (A : Rows) i k, spBnds A q i k 61 = A 61 := fun A i k => by
    induction k with
    | zero => rfl
    | succ k ih =>
      show spBnd (spBnds A q i k) q (i + 2 * k) 61 = A 61
      unfold spBnd
      split
      · exact ih
      split
      · rw [uJ_ne (by decide), uJ_ne (by decide), put_61]; exact ih
      · exact ih
  have h4 : ∀ A : Rows, spAll A d q 61 = A 61 := fun A => by
    unfold spAll
    split
    · rfl
    split
    · rw [uJ_ne (by decide), uJ_ne (by decide), put_61]
    · rfl
  have h5 : ∀ (A : Rows) i k, spCuts A q i k 61 = A 61 := fun A i k => by
    induction k with
    | zero => rfl
    | succ k ih =>
      show spCut (spCuts A q i k) q (i + 2 * k) 61 = A 61
      unfold spCut
      split
      · exact ih
      split
      · rw [uJ_ne (by decide), put_61]; exact ih
      · exact ih
  unfold spRes
  rw [h5, h4, h3, h2, h1]
theorem spSF_61 {n4 : Nat} (h4 : n4 = 4) (hR : Rel T J) (hd : d < 2) (hn : num J d < 300) (hz : spSF J d n4 69 (300 * d + num J d) = 0) : spSF J d n4 61 = J 61 := by
  have hE0 : EQ (spNew J (300 * d + num J d)) d (300 * d + num J d) 0 := ⟨_, _, 0, Nat.le_refl _, hR.newQ hd hn⟩
  have e68 : spNew J (300 * d + num J d) 68 (300 * d + num J d) = nI 10 := by rw [spNew_68, if_pos rfl]; rfl
  have n61 : spNew J (300 * d + num J d) 61 = J 61 := spNew_ne (by decide)
  have hT := hE0.to hd e68
  have t61 : spTo (spNew J (300 * d + num J d)) d (300 * d + num J d) 61 = J 61 := by
    unfold spTo
    split
    · exact n61
    · unfold spTl
      rw [uJ_ne (by decide), spPut_ne (by decide) (by decide) (by decide) (by decide), spSp_ne (by decide)]; exact n61
  unfold spSF at hz ⊢
  unfold spFill at hz ⊢
  split at hz
  · rename_i c
    rw [if_pos c]
    have hr := hT.res h4 hd (Nat.le_refl _)
    revert hz hr t61
    generalize spTo (spNew J (300 * d + num J d)) d (300 * d + num J d) = A
    intro t61 hz hr
    unfold spRest at hz ⊢
    have r61 : spRes A d (300 * d + num J d) n4 61 = J 61 := by
      rw [← t61]
      exact spRes_61
    obtain ⟨m, hm, E⟩ := (EQ.bys (t := tOf (spRes A d (300 * d + num J d) n4) d) hr hd n4 (by omega) (by omega)).mq hd
    have tu := Iv.turn (t0 := tOf (spRes A d (300 * d + num J d) n4) d) hr hd n4 (by omega)
    rw [r61] at tu
    revert tu hz E
    generalize spBys (spRes A d (300 * d + num J d) n4) d (300 * d + num J d) (tOf (spRes A d (300 * d + num J d) n4) d) n4 = B
    intro hz E tu
    have put : ∀ kind sz a b c, spPut B (300 * d + num J d) kind sz a b c 69 (300 * d + num J d) = 0 → False := fun kind sz a b c z => by
      rw [spPut_69, if_pos rfl, E.2.2.1, nI_suc] at z
      have := nI_nj (b := 0) (by omega) (by decide) z
      omega
    unfold spPng at hz ⊢
    split
    · rename_i c1
      rw [if_pos c1] at hz
      exact tu.resolve_right (fun y => y hz)
    · rename_i c1
      rw [if_neg c1] at hz
      split
      · rename_i c2
        rw [if_pos c2] at hz
        exact tu.resolve_right (fun y => y hz)
      · rename_i c2
        rw [if_neg c2] at hz
        split
        · rename_i c3
          rw [if_pos c3] at hz
          exact absurd hz (fun y => put _ _ _ _ _ y)
        · rename_i c3
          rw [if_neg c3] at hz
          exact tu.resolve_right (fun y => y hz)
  · rename_i c
    rw [if_neg c]; exact t61
theorem Iv.kSF {n4 : Nat} (h4 : n4 = 4) (h : Iv J t) (hR : Rel T J) (hd : d < 2) (hn : num J d < 300) (hz : spSF J d n4 69 (300 * d + num J d) = 0) : Iv (spSF J d n4) t := by
  have e : ∀ r, ¬ r ∈ zF → r ≠ 26 → r ≠ 68 → r ≠ 69 → r ≠ 70 → spSF J d n4 r = J r := fun r h1 h2 h3 h5 h6 => by
    unfold spSF
    rw [spFill_ne h1, spNew_ne ⟨h2, h3, h5, h6⟩]
  have g : ∀ j, j ≠ 63 → spSF J d n4 26 j = J 26 j := fun j hj => by unfold spSF; rw [spFill_ne (by decide), spNew_26, if_neg hj]
  refine h.keep (g 3 (by decide)) (g 4 (by decide)) (fun r hr => ?_) (fun _ z => z.keep (fun r hr => ?_))
  · rcases hr with rfl | rfl | rfl | rfl | rfl | rfl | rfl | rfl | rfl | rfl | rfl | rfl | rfl | rfl <;> exact e _ (by decide) (by decide) (by decide) (by decide) (by decide)
  · rcases hr with rfl | rfl | rfl | rfl | rfl | rfl | rfl | rfl | rfl
    all_goals first | exact spSF_61 h4 hR hd hn hz | exact e _ (by decide) (by decide) (by decide) (by decide) (by decide)
theorem Iv.kSG {n4 N : Nat} (h : Iv J t) (hd : d < 2) (hn : num J d < 300) (hR : Rel T J) : Iv (spSG J d n4 N) t := by
  have e : ∀ r, ¬ r ∈ zF → r ≠ 26 → r ≠ 68 → r ≠ 69 → r ≠ 70 → spSF J d n4 r = J r := fun r h1 h2 h3 h5 h6 => by
    unfold spSF
    rw [spFill_ne h1, spNew_ne ⟨h2, h3, h5, h6⟩]
  have g : ∀ j, j ≠ 63 → spSF J d n4 26 j = J 26 j := fun j hj => by unfold spSF; rw [spFill_ne (by decide), spNew_26, if_neg hj]
  have tr : ∀ (A : Rows) r, r ≠ 26 → spTr A d (300 * d + num J d) r = A r := fun A r hr => by
    unfold spTr
    split
    · exact uJ_ne hr
    · rfl
  have tr3 : ∀ (A : Rows), spTr A d (300 * d + num J d) 26 3 = A 26 3 := fun A => by
    unfold spTr
    split
    · exact uJ_off _ _ (Or.inr (by decide))
    · rfl
  have hv : ∀ (A : Rows) r, r ≠ 45 → r ≠ 60 → r ≠ 53 → spHv A d (300 * d + num J d) r = A r := fun A r h1 h2 h3 => by
    unfold spHv
    split
    · rfl
    · rw [uJ_ne h3, uJ_ne h2, uJ_ne h1]
  have r1 : ∀ r, r ≠ 26 → r ≠ 45 → r ≠ 60 → r ≠ 53 → r ≠ 66 → r ≠ 67 → r ≠ 76 → r ≠ 77 → r ≠ 44 → spSG J d n4 N r = spSF J d n4 r := fun r a b c d' e f g h i => by
    unfold spSG spGo
    rw [uJ_ne a, tr _ r a, hv _ r b c d', spPu_ne ⟨e, f, g, h, a, i⟩]
  have p3 : spPu (spSF J d n4) d (300 * d + num J d) (num J d) N 26 3 = J 26 3 := by
    unfold spPu
    rw [uJ_ne (by decide), uJ_off _ _ (Or.inr (by decide)), uJ_ne (by decide), uJ_ne (by decide), uJ_ne (by decide), uJ_ne (by decide)]
    exact g 3 (by decide)
  have s3 : spSG J d n4 N 26 3 = J 26 3 := by
    unfold spSG spGo
    rw [uJ_off _ _ (Or.inr (by decide)), tr3, hv _ 26 (by decide) (by decide) (by decide)]
    exact p3
  have s4 : spSG J d n4 N 26 4 = 1 := by
    unfold spSG spGo
    rw [uJ_same]
  have s44 : ∀ x, spSG J d n4 N 44 x = if x = d then nI (num J d + 1) else J 44 x := fun x => by
    unfold spSG spGo
    rw [uJ_ne (by decide), tr _ 44 (by decide), hv _ 44 (by decide) (by decide) (by decide)]
    unfold spPu
    rw [uJ_eq]
    by_cases z : x = d
    · rw [if_pos z, if_pos z]
    · rw [if_neg z, if_neg z, uJ_ne (by decide), uJ_ne (by decide), uJ_ne (by decide), uJ_ne (by decide), uJ_ne (by decide), e 44 (by decide) (by decide) (by decide) (by decide) (by decide)]
  have s66 : ∀ x, spSG J d n4 N 66 x = if x = 300 * d + num J d then J 26 3 else J 66 x := fun x => by
    unfold spSG spGo
    rw [uJ_ne (by decide), tr _ 66 (by decide), hv _ 66 (by decide) (by decide) (by decide), spPu_66, g 3 (by decide), e 66 (by decide) (by decide) (by decide) (by decide) (by decide)]
  have s60 : ∀ x, spSG J d n4 N 60 x = J 60 x ∨ spSG J d n4 N 60 x = J 26 3 := fun x => by
    unfold spSG spGo
    rw [uJ_ne (by decide), tr _ 60 (by decide)]
    unfold spHv
    split
    · left; rw [spPu_ne (by decide), e 60 (by decide) (by decide) (by decide) (by decide) (by decide)]
    · rw [uJ_ne (by decide), uJ_eq]
      split
      · right; exact p3
      · left; rw [uJ_ne (by decide), spPu_ne (by decide), e 60 (by decide) (by decide) (by decide) (by decide) (by decide)]
  have rr : ∀ r, r = 49 ∨ r = 50 ∨ r = 51 ∨ r = 52 ∨ r = 55 ∨ r = 71 ∨ r = 72 ∨ r = 73 → spSG J d n4 N r = J r := fun r hr => by
    rw [r1 r (by omega) (by omega) (by omega) (by omega) (by omega) (by omega) (by omega) (by omega) (by omega)]
    rcases hr with rfl | rfl | rfl | rfl | rfl | rfl | rfl | rfl <;> exact e _ (by decide) (by decide) (by decide) (by decide) (by decide)
  have nx : ∀ x, num (spSG J d n4 N) x = if x = d then num J d + 1 else num J x := fun x => by
    unfold num
    rw [s44]
    by_cases z : x = d
    · rw [if_pos z, if_pos z]; exact tnN (by omega)
    · rw [if_neg z, if_neg z]
  obtain ⟨⟨a1, a2, a3, a4⟩, b, c, f, gH⟩ := h
  refine ⟨⟨s3.trans a1, a2, fun x hx => ?_, fun q hq => ?_⟩, fun x n hx h1 h2 => ?_, fun x n hx h1 h2 => ?_, ⟨fun z => absurd (s4.symm.trans z) (by decide), fun z => ?_⟩, fun z => absurd (s4.symm.trans z) (by decide)⟩
  · obtain ⟨u1, ⟨v, v1, v2⟩, u3⟩ := a3 x hx
    unfold IvTd
    rw [rr 49 (by omega), rr 50 (by omega), rr 51 (by omega), rr 52 (by omega)]
    refine ⟨u1, ?_, u3⟩
    rcases s60 x with z | z
    · exact ⟨v, z.trans v1, v2⟩
    · exact ⟨t, z.trans a1, Nat.le_refl _⟩
  · rw [s66]
    split
    · exact ⟨t, a1, Nat.le_refl _⟩
    · exact a4 q hq
  · rw [rr 73 (by omega)] at h2
    rw [rr 55 (by omega)]
    rw [nx] at h1
    by_cases z : 1 - x = d
    · rw [if_pos z] at h1
      by_cases y : n < num J d
      · exact b x n hx (by rw [z]; exact y) h2
      · have := (c (1 - x) n (by omega) (by rw [z]; omega) (by omega)).2.2
        exact absurd this h2
    · rw [if_neg z] at h1
      exact b x n hx h1 h2
  · rw [nx] at h1
    rw [rr 71 (by omega), rr 72 (by omega), rr 73 (by omega)]
    by_cases z : x = d
    · rw [if_pos z] at h1
      subst z
      exact c x n hx (by omega) h2
    · rw [if_neg z] at h1
      exact c x n hx h1 h2
  · have : spSG J d n4 N 44 d = 0 := by
      rcases (show d = 0 ∨ d = 1 by omega) with rfl | rfl
      · exact z.2.1
      · exact z.2.2
    rw [s44, if_pos rfl] at this
    have := nI_nj (b := 0) (by omega) (by decide) this
    omega
end KEEPS3
