section LOSE3
variable {T : Sto} {J : Rows}
theorem nI_nj {a b : Nat} (ha : a < 2 ^ 31) (hb : b < 2 ^ 31) (h : nI a = nI b) : a = b := by
  have := congrArg Int32.toNatClampNeg h
  rwa [tnN ha, tnN hb] at this
theorem endV {s a r : Int32} (h2 : is01 a) (x : Int32) : (if a = 0 then (if x < 10000 then 0 else (if r = 0 then 1 else 0)) else 1 : Int32) = if x < 10000 ∨ ¬ r = 0 then a else 1 := by
  rcases h2 with rfl | rfl
  · rw [if_pos rfl]
    by_cases q : x < 10000
    · rw [if_pos q, if_pos (Or.inl q)]
    · by_cases q2 : r = 0
      · rw [if_neg q, if_pos q2, if_neg (fun z => z.elim q (fun z => z q2))]
      · rw [if_neg q, if_neg q2, if_pos (Or.inr q2)]
  · rw [if_neg (by decide)]
    by_cases q : x < 10000 ∨ ¬ r = 0
    · rw [if_pos q]
    · rw [if_neg q]
theorem eSt3 {s a r : Int32} (h : is01 r) : (eSt s a r = 3) ↔ ¬ r = 0 := by
  unfold eSt
  rcases h with rfl | rfl
  · rw [if_pos rfl]
    by_cases q : a = 0
    · rw [if_pos q]
      by_cases q2 : s = 0
      · rw [if_pos q2]; decide
      · rw [if_neg q2]; decide
    · rw [if_neg q]; decide
  · rw [if_neg (by decide)]; decide
theorem or01 {x w : Int32} (hx : is01 x) (hw : is01 w) : (if x = 0 then w else 1 : Int32) = (if w = 0 then x else 1) := by
  rcases hx with rfl | rfl <;> rcases hw with rfl | rfl <;> decide
/-- one lost part in the class -/
theorem c_losePart {X : Ctx} {S0 : Sto} {Q : Sto → Prop} {d n p k : Nat} (hR : Rel T J) (hd : d < 2) (hn : n < num J d) (hp : gR T (21 + 3 * d) n = some p) (hS : sN S0 ≤ sN T) (O : Ov X K4_lose S0 Q) (hk : nI k < J 69 (300 * d + n)) (hk2 : k < 16)
    (h : ∀ T', Ev T T' → Rel T' (spLoses J d (prt J (300 * d + n) k 0) (prt J (300 * d + n) k 1) (prt J (300 * d + n) k 2) (prt J (300 * d + n) k 3)) → WP X 23 [(0, vr 0), (1, vr (20 + 3 * d)), (2, vr p), (3, vi (nI (k + 1)))] [] T' 0 0) :
    WP X 23 [(0, vr 0), (1, vr (20 + 3 * d)), (2, vr p), (3, vi (nI k))] [] T 0 0 := by
  obtain ⟨hv, p', hp', hal, hK⟩ := hR.pk hd hn
  rw [hp] at hp'
  cases hp'
  obtain ⟨-, -, -, -, -, -, ⟨m, m1, m2, m3, m4⟩, -⟩ := hv
  have hkm : k < m := by rw [m3, nI_ltI (by omega) (by omega)] at hk; exact hk
  have hIv := (m4 k hkm).1
  have e7 : gI T p 7 = J 69 (300 * d + n) := hK.1 7 (by decide)
  have e0 : gI T (p + 1) (4 * k + 0) = prt J (300 * d + n) k 0 := hK.2.2.2.2.1 k 0 hk hk2 (by decide)
  have e1 : gI T (p + 1) (4 * k + 1) = prt J (300 * d + n) k 1 := hK.2.2.2.2.1 k 1 hk hk2 (by decide)
  have e2 : gI T (p + 1) (4 * k + 2) = prt J (300 * d + n) k 2 := hK.2.2.2.2.1 k 2 hk hk2 (by decide)
  have e3 : gI T (p + 1) (4 * k + 3) = prt J (300 * d + n) k 3 := hK.2.2.2.2.1 k 3 hk hk2 (by decide)
  generalize prt J (300 * d + n) k 0 = kind at *
  generalize prt J (300 * d + n) k 1 = a at *
  generalize prt J (300 * d + n) k 2 = b at *
  generalize prt J (300 * d + n) k 3 = c at *
  refine s4_lose_23 hR.f hS O (hR.f.sd hd) hal ⟨fun hc => ?_, fun _ => ⟨ptx (w := 1) hk2 (by decide), ?_⟩⟩
  · rw [e7, m3, nI_leI (by omega) (by omega)] at hc; omega
  rw [ptv1 hk2, e1]
  obtain ⟨i, hi, rfl⟩ := hIv.a
  refine c_strA hR.f hi ⟨fun b' hb => by cases hb; exact hR.f.st hi, ptx (w := 2) hk2 (by decide), ptx (w := 3) hk2 (by decide), fun b' hb => ?_, fun hb => by cases hb⟩
  cases hb
  refine ⟨ptx (w := 0) hk2 (by decide), ?_⟩
  rw [ptv0 hk2, ptv2 hk2, ptv3 hk2, e0, e2, e3, nI_suc]
  have ti : ntn (nI i) = i := ntn_nI (by omega)
  refine ⟨fun e => ?_, fun e => ?_, fun e => ?_, fun e => ?_, fun e => ?_, fun e => ?_, fun n2 n3 n4 n5 n6 n7 => ?_⟩
  · subst e
    refine h _ (Ev.rf.p (by omega)) ?_
    show Rel _ (uJ J 41 (ntn (nI i)) 1)
    rw [ti]
    exact hR.putS hi (k := 14) (by decide) ((hR.vs hi).flag (r := 41) (by decide) (Or.inr rfl))
  · subst e
    refine h _ (Ev.rf.p (by omega)) ?_
    exact hR.putD hd (k := 10) (by decide) (by decide) ((hR.vd hd).p58 hd (Or.inr rfl))
  · subst e
    have ha : ∃ f n e, b = nI f ∧ c = nI (n + 10000 * e) ∧ f + n ≤ 1000 ∧ e ≤ 1 := by
      rcases hIv with h | h | h | ⟨-, i', f, n, e, h1, h2, h3, h4, h5, h6, h7⟩ | h | h | h | h
      · exact absurd h.1 (by decide)
      · exact absurd h.1 (by decide)
      · exact absurd h.1 (by decide)
      · exact ⟨f, n, e, h3, h4, h6, h7⟩
      all_goals exact absurd h.1 (by decide)
    obtain ⟨f, n', e, rfl, rfl, hfn, he⟩ := ha
    have hm : ntn (nI (n' + 10000 * e)) % 10000 = n' := by rw [ntn_nI (by omega)]; omega
    have e4 : spLoses J d 4 (nI i) (nI f) (nI (n' + 10000 * e)) = uJ (zitA J i f n') 33 i (if nI (n' + 10000 * e) < 10000 ∨ ¬ J 34 i = 0 then J 33 i else 1) := by
      unfold spLoses
      rw [if_neg (by decide), if_neg (by decide), if_pos rfl, hm, ti, ntn_nI (by omega), zitA_ne (r := 33) (by decide), zitA_ne (r := 34) (by decide), endV (s := 0) (hR.vs hi).1.2.2.2.2.1]
    rw [e4] at h
    rw [remE (by omega) he]
    refine c_markAgain hR hi hfn (fun T' hz => ?_)
    have R1 := hR.zA hi hfn hz
    have E1 : Ev T T' := Ev.z hz hi
    have e9 : gI T' (3 + 2 * i) 9 = eSt (J 32 i) (J 33 i) (J 34 i) := by
      have := (R1.s hi).2.1
      rwa [zitA_ne (r := 32) (by decide), zitA_ne (r := 33) (by decide), zitA_ne (r := 34) (by decide)] at this
    have i34 : is01 (J 34 i) := (hR.vs hi).1.2.2.2.2.2.1
    have same : uJ (zitA J i f n') 33 i (J 33 i) = zitA J i f n' := by
      have := uJ_id (J := zitA J i f n') (a := 33) (k := i)
      rwa [zitA_ne (r := 33) (by decide)] at this
    refine ⟨fun hc => h T' E1 ?_, fun hc => ?_⟩
    · rw [if_pos (Or.inl hc), same]; exact R1
    · rw [e9]
      refine ⟨fun hq => h T' E1 ?_, fun hq => h _ (E1.p (by omega)) ?_⟩
      · rw [if_pos (Or.inr ((eSt3 i34).mp hq)), same]; exact R1
      · have h34 : J 34 i = 0 := by
          by_cases q : J 34 i = 0
          · exact q
          · exact absurd ((eSt3 i34).mpr q) hq
        rw [if_neg (fun z => z.elim hc (fun z => z h34))]
        refine R1.endS hi (fun r _ q2 _ => uJ_ne q2) (fun r k' hk' => uJ_off _ _ (Or.inr hk')) ⟨?_, ?_, ?_⟩ ?_
        · rw [uJ_ne (by decide)]; exact (R1.vs hi).1.2.2.2.1
        · rw [uJ_same]; exact Or.inr rfl
        · rw [uJ_ne (by decide)]; exact (R1.vs hi).1.2.2.2.2.2.1
        · rw [uJ_same, uJ_ne (show (34 : Nat) ≠ 33 by decide), zitA_ne (r := 34) (by decide), h34]
          unfold eSt
          rw [if_pos rfl, if_neg (by decide)]
  · subst e
    refine h _ (Ev.rf.p (by omega)) ?_
    show Rel _ (uJ J 30 (ntn (nI i)) 1)
    rw [ti]
    exact hR.putS hi (k := 4) (by decide) ((hR.vs hi).flag (r := 30) (by decide) (Or.inr rfl))
  · subst e
    have hd1 : d = 1 := by
      rcases hIv with h | h | h | h | h | h | h | h
      · exact absurd h.1 (by decide)
      · exact absurd h.1 (by decide)
      · exact absurd h.1 (by decide)
      · exact absurd h.1 (by decide)
      · exact absurd h.1 (by decide)
      · exact h.2.1
      all_goals exact absurd h.1 (by decide)
    subst hd1
    intro w hw
    have g10 : gI T 0 10 = J 26 46 := hR.g 10 (by decide)
    have g9 : gI T 0 9 = J 26 45 := hR.g 9 (by decide)
    have g11 : gI T 23 11 = J 62 1 := (hR.d (d := 1) (by decide)).1 11 (by decide)
    have v62 : is01 (J 62 1) := (hR.vd (d := 1) (by decide)).2.2.2.2.1
    have g11' : gI T (20 + 3 * 1) 11 = J 62 1 := g11
    rw [g10, g9, g11'] at hw
    have hw1 : is01 (if J 26 46 = 0 then 0 else (if b = J 26 45 then 1 else 0 : Int32) : Int32) := by
      by_cases q : J 26 46 = 0
      · rw [if_pos q]; exact Or.inl rfl
      · rw [if_neg q]
        by_cases q2 : b = J 26 45
        · rw [if_pos q2]; exact Or.inr rfl
        · rw [if_neg q2]; exact Or.inl rfl
    rw [or01 v62 hw1] at hw
    have e6 : spLoses J 1 6 (nI i) b c = (if J 26 46 = 0 then J else if b = J 26 45 then uJ (uJ J 62 1 1) 63 1 b else J) := rfl
    rw [e6] at h
    have keep : ∀ T', T' = pI T (20 + 3 * 1) 11 (J 62 1) → Rel T' J := fun T' e => by
      have := hR.putD (d := 1) (by decide) (k := 11) (x := J 62 1) (by decide) (by decide) (by show IvD (uJ J 62 1 (J 62 1)) 1; rw [uJ_id]; exact hR.vd (by decide))
      rw [e]
      have e2 : uJ J (rd 11) 1 (J 62 1) = J := uJ_id
      rw [e2] at this
      exact this
    by_cases q : J 26 46 = 0
    · rw [if_pos q] at h hw
      rw [hw, if_pos rfl]
      exact h _ (Ev.rf.p (by omega)) (keep _ rfl)
    · rw [if_neg q] at h hw
      by_cases q2 : b = J 26 45
      · rw [if_pos q2] at h hw
        rw [hw, if_neg (by decide)]
        refine h _ (Ev.rf.p (by omega)) ?_
        have R1 : Rel T (uJ J 63 1 b) := hR.askB (Or.inr q2)
        have R2 := R1.putD (d := 1) (by decide) (k := 11) (x := 1) (by decide) (by decide) ((R1.vd (by decide)).p62 (by decide) ⟨Or.inr rfl, Or.inr ⟨rfl, by rw [uJ_same, uJ_ne (by decide)]; exact q2⟩⟩)
        have ec : uJ (uJ J 63 1 b) (rd 11) 1 1 = uJ (uJ J 62 1 1) 63 1 b := by
          funext r
          show uJ (uJ J 63 1 b) 62 1 1 r = _
          by_cases z : r = 62
          · subst z; rw [uJ_ne (a := 63) (by decide)]; funext j; rw [uJ_eq, uJ_eq, uJ_ne (a := 63) (by decide)]
          · rw [uJ_ne z]
            by_cases z2 : r = 63
            · subst z2; funext j; rw [uJ_eq, uJ_eq, uJ_ne (a := 62) (by decide)]
            · rw [uJ_ne z2, uJ_ne z2, uJ_ne z]
        rw [ec] at R2
        exact R2
      · rw [if_neg q2] at h hw
        rw [hw, if_pos rfl]
        exact h _ (Ev.rf.p (by omega)) (keep _ rfl)
  · subst e
    refine h _ (Ev.rf.p (by omega)) ?_
    have hb : upTo b 50 := by
      rcases hIv with h | h | h | h | h | h | h | h
      · exact absurd h.1 (by decide)
      · exact absurd h.1 (by decide)
      · exact absurd h.1 (by decide)
      · exact absurd h.1 (by decide)
      · exact absurd h.1 (by decide)
      · exact absurd h.1 (by decide)
      · exact h.2.2.1
      · exact absurd h.1 (by decide)
    exact hR.answer hd hb
  · have e0' : spLoses J d kind (nI i) b c = J := by
      unfold spLoses
      rw [if_neg n2, if_neg n3, if_neg n4, if_neg n5, if_neg n6, if_neg n7]
    rw [e0'] at h
    exact h T Ev.rf hR
end LOSE3
