section MCOME
variable {T T0 U : Sto} {J K : Rows}
/-- the times of a side, and of all -/
def IvTd (J : Rows) (t d : Nat) : Prop :=
  ((J 49 d = -6 ∧ J 50 d = -6 ∧ J 51 d = -6) ∨ ∃ l s v, J 49 d = nI l ∧ J 50 d = nI s ∧ J 51 d = nI v ∧ l ≤ t ∧ s ≤ 8 * t ∧ v ≤ 8 * t) ∧ (∃ h, J 60 d = nI h ∧ h ≤ t) ∧ ∃ p, J 52 d = nI p ∧ p ≤ t
def IvT (J : Rows) (t : Nat) : Prop := J 26 3 = nI t ∧ t ≤ 512000 ∧ (∀ d, d < 2 → IvTd J t d) ∧ ∀ q, q < 600 → ∃ s, J 66 q = nI s ∧ s ≤ t
theorem IvTd.keep {J' : Rows} {t d : Nat} (h : IvTd J t d) (hr : ∀ r, r = 49 ∨ r = 50 ∨ r = 51 ∨ r = 52 ∨ r = 60 → J' r d = J r d) : IvTd J' t d := by
  unfold IvTd
  rw [hr 49 (by omega), hr 50 (by omega), hr 51 (by omega), hr 52 (by omega), hr 60 (by omega)]
  exact h
theorem IvT.keep {J' : Rows} {t : Nat} (h : IvT J t) (h3 : J' 26 3 = J 26 3) (hr : ∀ r, r = 49 ∨ r = 50 ∨ r = 51 ∨ r = 52 ∨ r = 60 ∨ r = 66 → J' r = J r) : IvT J' t :=
  ⟨h3.trans h.1, h.2.1, fun d hd => (h.2.2.1 d hd).keep (fun r h1 => by rw [hr r (by omega)]), fun q hq => by rw [hr 66 (by omega)]; exact h.2.2.2 q hq⟩
theorem spP0_26 {q j : Nat} (h : j ≠ 45 ∧ j ≠ 46 ∧ j ≠ 47 ∧ j ≠ 48) : spP0 J q 26 j = J 26 j := by
  obtain ⟨h1, h2, h3, h4⟩ := h
  unfold spP0
  rw [uJ_ne (by decide), uJ_ne (by decide), uJ_ne (by decide), uJ_ne (by decide), uJ_ne (by decide), uJ_ne (by decide), uJ_ne (by decide), uJ_ne (by decide), uJ_off _ _ (Or.inr h1), uJ_off _ _ (Or.inr h4), uJ_off _ _ (Or.inr h3), uJ_off _ _ (Or.inr h2)]
theorem spPath_26 {q j : Nat} {n : Int32} (h : j ≠ 45 ∧ j ≠ 46 ∧ j ≠ 47 ∧ j ≠ 48) : spPath J q n 26 j = J 26 j := by
  have hV : spPV J q n 26 j = J 26 j := by
    unfold spPV
    split
    · rfl
    · exact spP0_26 h
  unfold spPath
  split
  · exact hV
  · rw [uJ_off _ _ (Or.inr h.2.2.1)]; exact hV
theorem spP0_t {q r j : Nat} (hr : r = 49 ∨ r = 50 ∨ r = 51) : spP0 J q r j = if j = 1 then -6 else J r j := by
  unfold spP0
  rcases hr with rfl | rfl | rfl
  · rw [uJ_ne (by decide), uJ_ne (by decide), uJ_eq, uJ_ne (by decide), uJ_ne (by decide), uJ_ne (by decide), uJ_ne (by decide), uJ_ne (by decide), uJ_ne (by decide), uJ_ne (by decide), uJ_ne (by decide), uJ_ne (by decide)]
  · rw [uJ_ne (by decide), uJ_eq, uJ_ne (by decide), uJ_ne (by decide), uJ_ne (by decide), uJ_ne (by decide), uJ_ne (by decide), uJ_ne (by decide), uJ_ne (by decide), uJ_ne (by decide), uJ_ne (by decide), uJ_ne (by decide)]
  · rw [uJ_eq, uJ_ne (by decide), uJ_ne (by decide), uJ_ne (by decide), uJ_ne (by decide), uJ_ne (by decide), uJ_ne (by decide), uJ_ne (by decide), uJ_ne (by decide), uJ_ne (by decide), uJ_ne (by decide), uJ_ne (by decide)]
theorem IvT.p0 {q t : Nat} (h : IvT J t) : IvT (spP0 J q) t := by
  refine ⟨(spP0_26 (by decide)).trans h.1, h.2.1, fun d hd => ?_, fun k hk => by rw [spP0_ne (by decide)]; exact h.2.2.2 k hk⟩
  by_cases z : d = 1
  · have := h.2.2.1 d hd
    refine ⟨Or.inl ⟨?_, ?_, ?_⟩, by rw [spP0_ne (by decide)]; exact this.2.1, by rw [spP0_ne (by decide)]; exact this.2.2⟩
    · rw [spP0_t (by decide), if_pos z]
    · rw [spP0_t (by decide), if_pos z]
    · rw [spP0_t (by decide), if_pos z]
  · refine (h.2.2.1 d hd).keep (fun r hr => ?_)
    rcases hr with rfl | rfl | rfl | rfl | rfl
    · rw [spP0_t (by decide), if_neg z]
    · rw [spP0_t (by decide), if_neg z]
    · rw [spP0_t (by decide), if_neg z]
    · rw [spP0_ne (by decide)]
    · rw [spP0_ne (by decide)]
theorem IvT.path {q t : Nat} {n : Int32} (h : IvT J t) : IvT (spPath J q n) t := by
  have hV : IvT (spPV J q n) t := by
    unfold spPV
    split
    · exact h
    · exact h.p0
  unfold spPath
  split
  · exact hV
  · exact hV.keep (uJ_off _ _ (Or.inr (by decide))) (fun r hr => uJ_ne (by omega))
theorem IvT.zkC1 {q t d : Nat} (h : IvT J t) : IvT (kC1 J d q) t := by
  unfold kC1
  split
  · exact h
  · exact h.keep (by rw [uJ_ne (by decide)]) (fun r hr => uJ_ne (by omega))
theorem IvT.zkC3 {q t d : Nat} {n : Int32} (h : IvT J t) : IvT (kC3 J d q n) t := by
  unfold kC3
  have h2 : IvT (if d = 1 then spPath (kC1 J d q) q n else kC1 J d q) t := by
    split
    · exact h.zkC1.path
    · exact h.zkC1
  exact h2.keep (by rw [uJ_ne (by decide), uJ_ne (by decide)]) (fun r hr => by rw [uJ_ne (by omega), uJ_ne (by omega)])
theorem spOut_ne {i r : Nat} (h1 : r ≠ 76) (h2 : r ≠ 77) (h3 : r ≠ 26) : spOut J i r = J r := by unfold spOut; rw [spOutL_ne h1 h2, uJ_ne h3]
theorem spOut_26 {i j : Nat} (h : j ≠ 62) : spOut J i 26 j = J 26 j := by unfold spOut; rw [spOutL_ne (by decide) (by decide)]; exact uJ_off _ _ (Or.inr h)
theorem IvT.out {i t : Nat} (h : IvT J t) : IvT (spOut J i) t := h.keep (spOut_26 (by decide)) (fun r hr => spOut_ne (by omega) (by omega) (by omega))
theorem nI_neg6 {n : Nat} (h : n < 2 ^ 31) : ¬ nI n = -6 := fun z => by
  have := congrArg Int32.toInt z
  rw [nI_toInt h] at this
  have t6 : (-6 : Int32).toInt = -6 := rfl
  omega
theorem nI_ge0 {n : Nat} (h : n < 2 ^ 31) : (0 : Int32) ≤ nI n := by
  rw [show (0 : Int32) = nI 0 from rfl, nI_leI (by omega) h]; omega
theorem IvTd.h5 {t d : Nat} (h : IvTd J t d) (ht : t ≤ 512000) : (J 49 d = -6 ↔ ¬ 0 ≤ J 50 d) ∧ (J 49 d = -6 ∨ 0 ≤ J 49 d) := by
  rcases h.1 with ⟨a, b, -⟩ | ⟨l, s, v, a, b, c, l1, s1, v1⟩
  · rw [a, b]
    exact ⟨⟨fun _ => by decide, fun _ => rfl⟩, Or.inl rfl⟩
  · rw [a, b]
    exact ⟨⟨fun z => absurd z (nI_neg6 (by omega)), fun z => absurd (nI_ge0 (by omega)) z⟩, Or.inr (nI_ge0 (by omega))⟩
/-- what the reference needs of the times and the spans -/
theorem Rel.tdH {d n t : Nat} (h : Rel U K) (hT : IvT K t) (hd : d < 2) (hn : n < num K (1 - d)) (h1 : prt K (300 * (1 - d) + n) 0 0 = 1) : ∃ m, prt K (300 * (1 - d) + n) 0 3 = nI m ∧ TdH K d (300 * (1 - d) + n) m := by
  obtain ⟨hv, -⟩ := h.pk (show 1 - d < 2 by omega) hn
  obtain ⟨-, -, -, -, -, -, ⟨m, m1, m2, m3, m4⟩, hsp⟩ := hv
  obtain ⟨lo, hi, s1, -⟩ := hsp h1
  have hIv := (m4 0 (by omega)).1
  rw [h1] at hIv
  obtain ⟨c0, c1, c4, hc⟩ : ∃ j, 1 ≤ j ∧ j ≤ 4 ∧ prt K (300 * (1 - d) + n) 0 3 = nI j := by
    rcases hIv with h | h | h | h | h | h | h | h
    · exact h.2.2.2
    all_goals exact absurd h.1 (by decide)
  have n3 := h.nle hd
  have es : ∀ j, j < c0 → loOf K (300 * (1 - d) + n) j = lo j ∧ hiOf K (300 * (1 - d) + n) j = hi j ∧ K 75 (8 * (300 * (1 - d) + n) + 2 * j) = nI (lo j) ∧ K 75 (8 * (300 * (1 - d) + n) + 2 * j + 1) = nI (hi j) ∧ lo j ≤ hi j ∧ hi j < num K d := fun j hj => by
    obtain ⟨a1, a2, a3, a4⟩ := s1 j (by rw [hc, nI_ltI (by omega) (by omega)]; exact hj) (by omega)
    rw [show 1 - (1 - d) = d by omega] at a4
    refine ⟨?_, ?_, a1, a2, a3, a4⟩
    · show ntn (K 75 (8 * (300 * (1 - d) + n) + 2 * j)) = lo j
      rw [a1]; exact ntn_nI (by omega)
    · show ntn (K 75 (8 * (300 * (1 - d) + n) + 2 * j + 1)) = hi j
      rw [a2]; exact ntn_nI (by omega)
  obtain ⟨t1, t2, t3, t4⟩ := hT
  obtain ⟨q5, q6⟩ := (t3 d hd).h5 t2
  have hv := h.vd hd
  refine ⟨c0, hc, c1, c4, fun j hj => ?_, q5, q6, hv.nm.1, hv.2.2.2.2.2.2.1, hv.2.2.2.2.2.2.2.2.2.2.2.2.2, ?_⟩
  · obtain ⟨a1, a2, a3, a4, a5, a6⟩ := es j hj
    rw [a1, a2]; exact ⟨a3, a4, a5, a6⟩
  · obtain ⟨a1, a2, a3, a4, a5, a6⟩ := es 0 (by omega)
    rw [a2]
    obtain ⟨s, s2, s3⟩ := t4 (300 * d + hi 0) (by omega)
    rw [t1, s2, pk_sub s3]
    exact nI_ge0 (by omega)
/-- what the reference's walk over the parts keeps -/
def Pw (J : Rows) : Prop := Wk J ∧ (∀ i, i < 8 → upTo (J 38 i) 1000) ∧ is01 (J 26 46)
theorem Wk.td {d m : Nat} {lo hi : Nat → Nat} (h : Wk J) : Wk (spTd J d lo hi m) := by
  unfold spTd spLook
  refine Wk.ll ?_
  have hA : Wk (spT (w78 J (nowF J d lo hi m)) d (num J d)) := by
    rw [spT_R]
    exact h.w.r.put (by decide) (by decide) (by decide) (by decide) (by decide)
  have hB := hA.put (a := 54) (k := d) (x := if J 54 d < nI (hi 0) then nI (hi 0) else J 54 d) (by decide) (by decide) (by decide) (by decide) (by decide)
  have hC : Wk (if (w78 J (nowF J d lo hi m)) 78 (hi 0) = 0 ∨ J 70 (300 * d + hi 0) = 0 then uJ (spT (w78 J (nowF J d lo hi m)) d (num J d)) 54 d (if J 54 d < nI (hi 0) then nI (hi 0) else J 54 d) else spM (uJ (spT (w78 J (nowF J d lo hi m)) d (num J d)) 54 d (if J 54 d < nI (hi 0) then nI (hi 0) else J 54 d)) d (J 26 3 - J 66 (300 * d + hi 0))) := by
    split
    · exact hB
    · exact hB.m
  show Wk (if anyT (w78 J (nowF J d lo hi m)) d (num J d) = 0 then _ else uJ _ 52 d 0)
  split
  · exact hC
  · exact hC.put (by decide) (by decide) (by decide) (by decide) (by decide)
theorem spPC_26 {d q j : Nat} {kind a b c : Int32} (h : j ≠ 46) : spPC J d q kind a b c 26 j = J 26 j := by
  unfold spPC
  split
  · rw [spTd_ne (by decide)]
  split
  · rw [uJ_ne (by decide)]
  split
  · rw [uJ_ne (by decide)]
  split
  · unfold spBC
    split
    · rw [spCm_ne (by decide) (by decide)]
    · rw [uJ_ne (by decide), spCm_ne (by decide) (by decide)]
  split
  · rw [uJ_ne (by decide)]
  split
  · rw [uJ_ne (by decide), uJ_ne (by decide)]
  split
  · split
    · exact uJ_off _ _ (Or.inr h)
    · rfl
  · rfl
theorem Pw.pc {d q : Nat} {kind a b c : Int32} (h : Pw J) : Pw (spPC J d q kind a b c) := by
  obtain ⟨h1, h2, h3⟩ := h
  have cmW : ∀ i f n, Wk (spCm J i f n) := fun i f n => h1.ne (spCm_ne (by decide) (by decide)) (spCm_ne (by decide) (by decide)) (spCm_ne (by decide) (by decide)) (spCm_ne (by decide) (by decide)) (spCm_ne (by decide) (by decide))
  have cm38 : ∀ i f n i', i' < 8 → upTo (spCm J i f n 38 i') 1000 := fun i f n i' hi => by
    unfold spCm
    rw [uJ_eq]
    split
    · rename_i e
      subst e
      obtain ⟨x, x1, x2⟩ := h2 i' hi
      have ep : ntn (J 38 i') = x := by rw [x2]; exact ntn_nI (by omega)
      rw [ep]
      have := zpf_le (cam (zitC J i' f n) i') (1000 - x) x
      exact ⟨_, by omega, rfl⟩
    · rw [zitC_ne (by decide)]; exact h2 i' hi
  unfold spPC
  split
  · exact ⟨h1.td, fun i hi => by rw [spTd_ne (by decide)]; exact h2 i hi, by rw [spTd_ne (by decide)]; exact h3⟩
  split
  · exact ⟨h1.put (by decide) (by decide) (by decide) (by decide) (by decide), fun i hi => by rw [uJ_ne (by decide)]; exact h2 i hi, by rw [uJ_ne (by decide)]; exact h3⟩
  split
  · exact ⟨h1.put (by decide) (by decide) (by decide) (by decide) (by decide), fun i hi => by rw [uJ_ne (by decide)]; exact h2 i hi, by rw [uJ_ne (by decide)]; exact h3⟩
  split
  · unfold spBC
    split
    · exact ⟨cmW _ _ _, cm38 _ _ _, by rw [spCm_ne (by decide) (by decide)]; exact h3⟩
    · exact ⟨(cmW _ _ _).put (by decide) (by decide) (by decide) (by decide) (by decide), fun i hi => by rw [uJ_ne (by decide)]; exact cm38 _ _ _ i hi, by rw [uJ_ne (by decide), spCm_ne (by decide) (by decide)]; exact h3⟩
  split
  · exact ⟨h1.put (by decide) (by decide) (by decide) (by decide) (by decide), fun i hi => by rw [uJ_ne (by decide)]; exact h2 i hi, by rw [uJ_ne (by decide)]; exact h3⟩
  split
  · exact ⟨(h1.put (by decide) (by decide) (by decide) (by decide) (by decide)).put (by decide) (by decide) (by decide) (by decide) (by decide), fun i hi => by rw [uJ_ne (by decide), uJ_ne (by decide)]; exact h2 i hi, by rw [uJ_ne (by decide), uJ_ne (by decide)]; exact h3⟩
  split
  · split
    · exact ⟨h1.put (by decide) (by decide) (by decide) (by decide) (by decide), fun i hi => by rw [uJ_ne (by decide)]; exact h2 i hi, by rw [uJ_same]; exact Or.inl rfl⟩
    · exact ⟨h1, h2, h3⟩
  · exact ⟨h1, h2, h3⟩
theorem Pw.pcs {d q m : Nat} (h : Pw J) : Pw (spPCs J d q m) := by
  induction m with
  | zero => exact h
  | succ m ih => exact ih.pc
theorem Rel.pw (h : Rel T J) : Pw J := ⟨h.wk, fun i hi => by
  obtain ⟨p, r, c1, -, -, c4⟩ := (h.vs hi).2.2.1
  exact ⟨p, c4, c1⟩, h.vg.2.2.2.2.1⟩
theorem m_comeParts {X : Ctx} {S0 : Sto} {Q : Int32 → Sto → Prop} {d n t : Nat} (hF : Fx T) (hS : sN S0 ≤ sN T) (O : Oi X K5_come S0 Q) (h : Rel U K) (hT : IvT K t) (hd : d < 2) (hn : n < num K (1 - d)) (hq : Q 1 (wJ T (spPCs K d (300 * (1 - d) + n) (ntn (K 69 (300 * (1 - d) + n)))))) :
    WP X 162 [(0, vr 26), (4, vi (nI d)), (5, vi (nI (300 * (1 - d) + n))), (6, vi 0)] [] (wJ T K) 0 0 := by
  have n3 := h.nle (show 1 - d < 2 by omega)
  have q6 : 300 * (1 - d) + n < 600 := by omega
  obtain ⟨hv, -⟩ := h.pk (show 1 - d < 2 by omega) hn
  obtain ⟨-, -, -, -, -, -, ⟨m, m1, m2, m3, m4⟩, -⟩ := hv
  have em : ntn (K 69 (300 * (1 - d) + n)) = m := by rw [m3]; exact ntn_nI (by omega)
  rw [em] at hq
  have loop : ∀ (b k : Nat), k + b = m → WP X 162 [(0, vr 26), (4, vi (nI d)), (5, vi (nI (300 * (1 - d) + n))), (6, vi (nI k))] [] (wJ T (spPCs K d (300 * (1 - d) + n) k)) 0 0 := by
    intro b
    induction b with
    | zero =>
      intro k hk
      have hkm : k = m := by omega
      subst hkm
      refine s5_come_162 (S := wJ T (spPCs K d (300 * (1 - d) + n) k)) (FxJ hF) hS O ⟨ixN q6 (by decide), ?_⟩
      rw [tnN (show 300 * (1 - d) + n < 2 ^ 31 by omega), gI_wm (a := 69) (by decide), spPCs_ne (by decide), m3]
      exact ⟨fun _ => hq, fun hc => absurd (nle (Nat.le_refl _) (by omega)) hc⟩
    | succ b ih =>
      intro k hk
      have ih2 := ih (k + 1) (by omega)
      obtain ⟨w1, w2, w3⟩ := h.pw.pcs (d := d) (q := 300 * (1 - d) + n) (m := k)
      refine s5_come_162 (S := wJ T (spPCs K d (300 * (1 - d) + n) k)) (FxJ hF) hS O ⟨ixN q6 (by decide), ?_⟩
      rw [tnN (show 300 * (1 - d) + n < 2 ^ 31 by omega), gI_wm (a := 69) (by decide), spPCs_ne (r := 69) (by decide), m3, nI_suc]
      refine ⟨fun hc => ?_, fun _ => ?_⟩
      · rw [nI_leI (by omega) (by omega)] at hc; omega
      · rw [pix, show (1 : Int32) = nI 1 from rfl, show (2 : Int32) = nI 2 from rfl, show (3 : Int32) = nI 3 from rfl, nI_add, nI_add, nI_add]
        refine ⟨ixN (by omega) (by decide), ixN (by omega) (by decide), ixN (by omega) (by decide), ixN (by omega) (by decide), ?_⟩
        rw [tnN (show 4 * (24 * (300 * (1 - d) + n) + k) < 2 ^ 31 by omega), tnN (show 4 * (24 * (300 * (1 - d) + n) + k) + 1 < 2 ^ 31 by omega), tnN (show 4 * (24 * (300 * (1 - d) + n) + k) + 2 < 2 ^ 31 by omega), tnN (show 4 * (24 * (300 * (1 - d) + n) + k) + 3 < 2 ^ 31 by omega), gI_wm (a := 74) (by decide), spPCs_ne (r := 74) (by decide)]
        refine m_partComes (J := spPCs K d (300 * (1 - d) + n) k) hF w1 hd q6 ((m4 k (by omega)).1.fr (fun i _ => frs_eq (spPCs_ne (by decide)) i)) w2 w3 (fun e => ?_) ih2
        have k0 := (m4 k (by omega)).2 e
        subst k0
        exact h.tdH hT hd hn e
  exact loop m 0 (by omega)
theorem one_sub : ∀ d, d < 2 → (1 - nI (1 - d) : Int32) = nI d := by decide
theorem c_come {N : Nat} {p : Int32} {Q : Int32 → Sto → Prop} (hR : Rel T J) (hN : J 26 62 = nI N) (h4 : N ≤ 400) (hC : ∀ d n, d < 2 → n < num J (1 - d) → ¬ J 73 (300 * (1 - d) + n) = 0 → ¬ J 55 d = -6)
    (h1 : ¬ (∃ i, i < N ∧ p = nI i) → Q (-1) T)
    (h2 : ∀ i d n, i < N → p = nI i → d < 2 → n < num J (1 - d) → J 76 i = nI (1 - d) → J 77 i = nI n →
      (d = 0 ∧ ¬ J 67 (300 * (1 - d) + n) = J 26 44 → ∀ T', Fr T T' → Rel T' (uJ (spOut J i) 26 49 (J 26 49 + 1)) → Q 2 T') ∧
      (¬ (d = 0 ∧ ¬ J 67 (300 * (1 - d) + n) = J 26 44) →
        (¬ J 73 (300 * (1 - d) + n) = 0 → ∀ T', Fr T T' → Rel T' (kC1 (spOut J i) d (300 * (1 - d) + n)) → Q 0 T') ∧
        (J 73 (300 * (1 - d) + n) = 0 → ∀ T', Fr T T' → Rel T' (spPCs (kC3 (spOut J i) d (300 * (1 - d) + n) (nI n)) d (300 * (1 - d) + n) (ntn (J 69 (300 * (1 - d) + n)))) → Q 1 T'))) :
    Ci K4_come [vr 0, vi p] T Q := by
  refine e4_come hR.f (c_under hR hN h4 h1 (fun i f n a hi e q1 q2 q3 q4 q5 q6 => ?_))
  obtain ⟨d, hd, rfl⟩ : ∃ d, d < 2 ∧ f = 1 - d := ⟨1 - f, by omega, by omega⟩
  obtain ⟨k1, k2⟩ := h2 i d n hi e hd q2 q3 q4
  subst e
  refine c_takeOffNet hR hN h4 hi ?_
  have hU := hR.out hN h4 hi
  have hnU : n < num (spOut J i) (1 - d) := by rw [num_of (J := J) (by rw [spOut_ne (by decide) (by decide) (by decide)])]; exact q2
  have hpU : gR (outT T i N) (21 + 3 * (1 - d)) n = some a := by rw [outT_R (by omega)]; exact q6
  obtain ⟨-, a', r1, hal, hK⟩ := hU.pk (show 1 - d < 2 by omega) hnU
  rw [hpU] at r1
  cases r1
  have u67 : spOut J i 67 = J 67 := spOut_ne (by decide) (by decide) (by decide)
  have u73 : spOut J i 73 = J 73 := spOut_ne (by decide) (by decide) (by decide)
  have u69 : spOut J i 69 = J 69 := spOut_ne (by decide) (by decide) (by decide)
  have u55 : spOut J i 55 = J 55 := spOut_ne (by decide) (by decide) (by decide)
  have e0 : gI (outT T i N) a 0 = nI (1 - d) := hK.2.1
  have e3 : gI (outT T i N) a 3 = J 67 (300 * (1 - d) + n) := by rw [← u67]; exact hK.1 3 (by decide)
  have e8 : gI (outT T i N) 0 8 = J 26 44 := by rw [← spOut_26 (J := J) (i := i) (show (44 : Nat) ≠ 62 by decide)]; exact hU.g 8 (by decide)
  have e13 : gI (outT T i N) 0 13 = J 26 49 := by rw [← spOut_26 (J := J) (i := i) (show (49 : Nat) ≠ 62 by decide)]; exact hU.g 13 (by decide)
  have rest := fun hc => c_comeRest (Q := Q) (m := ntn (J 69 (300 * (1 - d) + n))) hU hd hnU hpU (by rw [u69]) (fun z => by rw [u55]; rw [u73] at z; exact hC d n hd q2 z) (fun z U' E R => ((k2 hc).1 (by rw [u73] at z; exact z)) U' (outT_fr.tr E.1) R) (fun z U' E R => ((k2 hc).2 (by rw [u73] at z; exact z)) U' (outT_fr.tr E.1) R)
  refine ⟨fun c1 => ?_, fun c1 => ⟨fun c2 => ?_, fun c2 => ?_⟩⟩
  · refine rest (fun z => c1 ?_)
    rw [e0, z.1]; rfl
  · refine rest (fun z => z.2 ?_)
    rw [← e3, ← e8]; exact c2
  · rw [e13]
    rw [e0] at c1
    rw [e3, e8] at c2
    have hd0 : d = 0 := by
      rcases (show d = 0 ∨ d = 1 by omega) with z | z
      · exact z
      · subst z; exact absurd c1 (by decide)
    exact k1 ⟨hd0, c2⟩ _ (outT_fr.p (by decide)) (hU.putG (k := 13) (by decide) (fun z => absurd z (by decide)))
theorem m_come {N t : Nat} {p : Int32} {Q : Int32 → Sto → Prop} (hF : Fx T) (hR : Rel T0 J) (hT : IvT J t) (hN : J 26 62 = nI N) (h4 : N ≤ 400)
    (h1 : ¬ (∃ i, i < N ∧ p = nI i) → Q (-1) (wJ T J))
    (h2 : ∀ i d n, i < N → p = nI i → d < 2 → n < num J (1 - d) → J 76 i = nI (1 - d) → J 77 i = nI n →
      (d = 0 ∧ ¬ J 67 (300 * (1 - d) + n) = J 26 44 → Q 2 (wJ T (uJ (spOut J i) 26 49 (J 26 49 + 1)))) ∧
      (¬ (d = 0 ∧ ¬ J 67 (300 * (1 - d) + n) = J 26 44) →
        (¬ J 73 (300 * (1 - d) + n) = 0 → Q 0 (wJ T (kC1 (spOut J i) d (300 * (1 - d) + n)))) ∧
        (J 73 (300 * (1 - d) + n) = 0 → Q 1 (wJ T (spPCs (kC3 (spOut J i) d (300 * (1 - d) + n) (nI n)) d (300 * (1 - d) + n) (ntn (J 69 (300 * (1 - d) + n)))))))) :
    Ci K5_come [vr 26, vi p] (wJ T J) Q := by
  refine e5_come (FxJ hF) (fun X O => ?_)
  rw [gI_wm (a := 26) (by decide), hN]
  simp only [ite01, Classical.not_not, ti64, l64_0, netIn h4]
  refine ⟨fun ⟨i, hi, hp⟩ => ?_, h1⟩
  subst hp
  obtain ⟨f, n, a, q1, q2, q3, q4, q5, q6, -⟩ := hR.ut hN h4 hi
  obtain ⟨d, hd, rfl⟩ : ∃ d, d < 2 ∧ f = 1 - d := ⟨1 - f, by omega, by omega⟩
  obtain ⟨k1, k2⟩ := h2 i d n hi rfl hd q2 q3 q4
  have n3 := hR.nle (show 1 - d < 2 by omega)
  have q6' : 300 * (1 - d) + n < 600 := by omega
  have tq : (nI (300 * (1 - d) + n)).toNatClampNeg = 300 * (1 - d) + n := tnN (by omega)
  have td : (nI d).toNatClampNeg = d := tnN (by omega)
  rw [tnN (show i < 2 ^ 31 by omega), gI_wm (a := 76) (by decide), gI_wm (a := 77) (by decide), q3, q4, mix, one_sub d hd, tq]
  refine ⟨ixN (by omega) (by decide), m_takeOut hF hN h4 hi ?_⟩
  have hU := hR.out hN h4 hi
  have hnU : n < num (spOut J i) (1 - d) := by rw [num_of (J := J) (by rw [spOut_ne (by decide) (by decide) (by decide)])]; exact q2
  have hpU : gR (outT T0 i N) (21 + 3 * (1 - d)) n = some a := by rw [outT_R (by omega)]; exact q6
  have u67 : spOut J i 67 = J 67 := spOut_ne (by decide) (by decide) (by decide)
  have u73 : spOut J i 73 = J 73 := spOut_ne (by decide) (by decide) (by decide)
  have u69 : spOut J i 69 = J 69 := spOut_ne (by decide) (by decide) (by decide)
  have u44 : spOut J i 26 44 = J 26 44 := spOut_26 (by decide)
  have u49 : spOut J i 26 49 = J 26 49 := spOut_26 (by decide)
  rw [← u73, ← u69] at k2
  revert hU hnU hpU k1 k2 u67 u44 u49
  rw [gI_wm (a := 67) (by decide), gI_wm (a := 26) (by decide), pI_wJ (by decide)]
  have hTU := hT.out (i := i)
  revert hTU
  generalize spOut J i = K
  intro hTU k1 k2 hU hnU hpU u67 u44 u49
  rw [u67, u44, u49]
  have k1r : ∀ r, r ≠ 56 → kC1 K d (300 * (1 - d) + n) r = K r := fun r hr => by
    unfold kC1
    split
    · rfl
    · exact uJ_ne hr
  have at110 : ∀ V : Rows, V 73 = K 73 → V 55 = K 55 → (¬ K 73 (300 * (1 - d) + n) = 0 → Q 0 (wJ T V)) → (K 73 (300 * (1 - d) + n) = 0 → WP X 162 [(0, vr 26), (4, vi (nI d)), (5, vi (nI (300 * (1 - d) + n))), (6, vi 0)] [] (wJ T (uJ (uJ V 73 (300 * (1 - d) + n) 1) 55 d (kMx K d (nI n)))) 0 0) → WP X 110 [(0, vr 26), (3, vi (nI n)), (4, vi (nI d)), (5, vi (nI (300 * (1 - d) + n)))] [] (wJ T V) 0 0 := by
    intro V v73 v55 w0 w1
    refine s5_come_110 (S := wJ T V) (FxJ hF) (Nat.le_refl _) O ⟨ixN q6' (by decide), ?_⟩
    rw [tq, td, gI_wm (a := 73) (by decide), gI_wm (a := 55) (by decide), v73, v55, pI_wJ (by decide)]
    refine ⟨fun c => ⟨ixN hd (by decide), fun w hw => ?_⟩, w0⟩
    rw [pI_wJ (by decide), hw, maxA]
    exact w1 c
  have at99 : ¬ (d = 0 ∧ ¬ J 67 (300 * (1 - d) + n) = J 26 44) → WP X 99 [(0, vr 26), (2, vi (nI (1 - d))), (3, vi (nI n)), (4, vi (nI d)), (5, vi (nI (300 * (1 - d) + n)))] [] (wJ T (kC1 K d (300 * (1 - d) + n))) 0 0 := by
    intro hc
    obtain ⟨j0, j1⟩ := k2 hc
    refine s5_come_99 (S := wJ T (kC1 K d (300 * (1 - d) + n))) (FxJ hF) (Nat.le_refl _) O ⟨fun c => ?_, fun c => ?_⟩
    · have hd1 : ¬ d = 1 := fun z => c (by rw [z]; rfl)
      refine at110 _ (k1r 73 (by decide)) (k1r 55 (by decide)) j0 (fun z => ?_)
      have e3 : uJ (uJ (kC1 K d (300 * (1 - d) + n)) 73 (300 * (1 - d) + n) 1) 55 d (kMx K d (nI n)) = kC3 K d (300 * (1 - d) + n) (nI n) := by
        unfold kC3
        rw [if_neg hd1]
      rw [e3]
      obtain ⟨g1, g2⟩ := hU.got3 hd hnU hpU
      have e69 : kC3 K d (300 * (1 - d) + n) (nI n) 69 = K 69 := by
        rw [← e3, uJ_ne (by decide), uJ_ne (by decide)]; exact k1r 69 (by decide)
      have e44 : num (kC3 K d (300 * (1 - d) + n) (nI n)) (1 - d) = num K (1 - d) := num_of (by rw [← e3, uJ_ne (by decide), uJ_ne (by decide), k1r 44 (by decide)])
      have fin : ∀ U', Rel U' (kC3 K d (300 * (1 - d) + n) (nI n)) → WP X 162 [(0, vr 26), (4, vi (nI d)), (5, vi (nI (300 * (1 - d) + n))), (6, vi 0)] [] (wJ T (kC3 K d (300 * (1 - d) + n) (nI n))) 0 0 := fun U' R => m_comeParts hF (Nat.le_refl _) O R hTU.zkC3 hd (by rw [e44]; exact hnU) (by rw [e69]; exact j1 z)
      by_cases y : K 70 (300 * (1 - d) + n) = 0
      · exact fin _ (g1 y)
      · exact fin _ (g2 y)
    · have hd1 : d = 1 := by
        rcases (show d = 0 ∨ d = 1 by omega) with z | z
        · subst z; exact absurd c (by decide)
        · exact z
      by_cases z : K 73 (300 * (1 - d) + n) = 0
      · refine m_lookAtPath hF q6' (by rw [k1r 73 (by decide)]; exact z) ?_
        refine at110 _ (by rw [spPath_ne (by decide)]; exact k1r 73 (by decide)) (by rw [spPath_ne (by decide)]; exact k1r 55 (by decide)) (fun y => absurd z y) (fun _ => ?_)
        have e3 : uJ (uJ (spPath (kC1 K d (300 * (1 - d) + n)) (300 * (1 - d) + n) (nI n)) 73 (300 * (1 - d) + n) 1) 55 d (kMx K d (nI n)) = kC3 K d (300 * (1 - d) + n) (nI n) := by
          unfold kC3
          rw [if_pos hd1]
        rw [e3]
        obtain ⟨g1, g2⟩ := hU.got3 hd hnU hpU
        have e69 : kC3 K d (300 * (1 - d) + n) (nI n) 69 = K 69 := by
          rw [← e3, uJ_ne (by decide), uJ_ne (by decide), spPath_ne (by decide)]; exact k1r 69 (by decide)
        have e44 : num (kC3 K d (300 * (1 - d) + n) (nI n)) (1 - d) = num K (1 - d) := num_of (by rw [← e3, uJ_ne (by decide), uJ_ne (by decide), spPath_ne (by decide), k1r 44 (by decide)])
        have fin : ∀ U', Rel U' (kC3 K d (300 * (1 - d) + n) (nI n)) → WP X 162 [(0, vr 26), (4, vi (nI d)), (5, vi (nI (300 * (1 - d) + n))), (6, vi 0)] [] (wJ T (kC3 K d (300 * (1 - d) + n) (nI n))) 0 0 := fun U' R => m_comeParts hF (Nat.le_refl _) O R hTU.zkC3 hd (by rw [e44]; exact hnU) (by rw [e69]; exact j1 z)
        by_cases y : K 70 (300 * (1 - d) + n) = 0
        · exact fin _ (g1 y)
        · exact fin _ (g2 y)
      · refine m_lookAtPath1 hF q6' (by rw [k1r 73 (by decide)]; exact z) ?_
        exact at110 _ (k1r 73 (by decide)) (k1r 55 (by decide)) j0 (fun y => absurd y z)
  have at81 : ¬ (d = 0 ∧ ¬ J 67 (300 * (1 - d) + n) = J 26 44) → WP X 81 [(0, vr 26), (2, vi (nI (1 - d))), (3, vi (nI n)), (4, vi (nI d)), (5, vi (nI (300 * (1 - d) + n)))] [] (wJ T K) 0 0 := by
    intro hc
    have h9 := at99 hc
    refine s5_come_81 (S := wJ T K) (FxJ hF) (Nat.le_refl _) O ⟨ixN q6' (by decide), ?_⟩
    rw [tq, td, gI_wm (a := 70) (by decide), pI_wJ (by decide)]
    unfold kC1 at h9
    refine ⟨fun c => ?_, fun c => ⟨ixN hd (by decide), ?_⟩⟩
    · rw [if_pos c] at h9; exact h9
    · rw [if_neg c] at h9; exact h9
  refine ⟨fun c => at81 (fun z => c ?_), fun c => ⟨ixN q6' (by decide), fun c2 => at81 (fun z => z.2 c2), fun c2 => k1 ⟨?_, c2⟩⟩⟩
  · rw [z.1]; rfl
  · rcases (show d = 0 ∨ d = 1 by omega) with z | z
    · exact z
    · subst z; exact absurd c (by decide)
end MCOME
