section PARTS
variable {T : Sto} {J : Rows}
def loOf (J : Rows) (q : Nat) : Nat → Nat := fun j => ntn (J 75 (8 * q + 2 * j))
def hiOf (J : Rows) (q : Nat) : Nat → Nat := fun j => ntn (J 75 (8 * q + 2 * j + 1))
/-- a part of PACKET q comes to side d -/
def spPC (J : Rows) (d q : Nat) (kind a b c : Int32) : Rows :=
  if kind = 1 then spTd J d (loOf J q) (hiOf J q) (ntn c)
  else if kind = 2 then uJ J 35 (ntn a) (if J 35 (ntn a) < b then b else J 35 (ntn a))
  else if kind = 3 then uJ J 57 d (if J 57 d < b then b else J 57 d)
  else if kind = 4 then spBC J (ntn a) (ntn b) (ntn c % 10000) c
  else if kind = 5 then uJ J 43 (ntn a) 1
  else if kind = 6 then uJ (uJ J 64 d 1) 65 d b
  else if kind = 7 then (if d = 1 ∧ b = J 26 45 then uJ J 26 46 0 else J)
  else J
theorem IvS.p35 {i : Nat} {x : Int32} (h : IvS J i) (hx : upTo x 2000) : IvS (uJ J 35 i x) i := by
  have e : ∀ r, r ≠ 35 → uJ J 35 i x r = J r := fun r hr => uJ_ne hr
  obtain ⟨a1, b1, c1, d1, d2, d3⟩ := h
  unfold byt cam at *
  unfold IvS byt cam
  rw [e 28 (by decide), e 29 (by decide), e 30 (by decide), e 32 (by decide), e 33 (by decide), e 34 (by decide), e 41 (by decide), e 43 (by decide), e 27 (by decide), e 31 (by decide), e 36 (by decide), e 38 (by decide), e 39 (by decide), e 40 (by decide), e 37 (by decide), uJ_same]
  exact ⟨a1, b1, c1, hx, d2, d3⟩
theorem IvS.p42 {i : Nat} {x : Int32} (h : IvS J i) : IvS (uJ J 42 i x) i := by
  have e : ∀ r, r ≠ 42 → uJ J 42 i x r = J r := fun r hr => uJ_ne hr
  obtain ⟨a1, b1, c1, d1, d2, d3⟩ := h
  unfold byt cam at *
  unfold IvS byt cam
  rw [e 28 (by decide), e 29 (by decide), e 30 (by decide), e 32 (by decide), e 33 (by decide), e 34 (by decide), e 41 (by decide), e 43 (by decide), e 27 (by decide), e 31 (by decide), e 36 (by decide), e 38 (by decide), e 39 (by decide), e 40 (by decide), e 37 (by decide), e 35 (by decide)]
  exact ⟨a1, b1, c1, d1, d2, d3⟩
theorem upMax {x y : Int32} {N : Nat} (hx : upTo x N) (hy : upTo y N) : upTo (if x < y then y else x) N := by
  split
  · exact hy
  · exact hx
theorem c_comePart {X : Ctx} {S0 : Sto} {Q : Sto → Prop} {d nn p k : Nat} (hR : Rel T J) (hd : d < 2) (hn : nn < num J (1 - d)) (hp : gR T (21 + 3 * (1 - d)) nn = some p) (hS : sN S0 ≤ sN T) (O : Ov X K4_takeParts S0 Q) (hk : nI k < J 69 (300 * (1 - d) + nn)) (hk2 : k < 16)
    (h : ∀ T', Ev T T' → Rel T' (spPC J d (300 * (1 - d) + nn) (prt J (300 * (1 - d) + nn) k 0) (prt J (300 * (1 - d) + nn) k 1) (prt J (300 * (1 - d) + nn) k 2) (prt J (300 * (1 - d) + nn) k 3)) → WP X 2 [(0, vr 0), (1, vr (20 + 3 * d)), (2, vr p), (3, vi (nI (k + 1)))] [] T' 0 0) :
    WP X 2 [(0, vr 0), (1, vr (20 + 3 * d)), (2, vr p), (3, vi (nI k))] [] T 0 0 := by
  obtain ⟨hv, p', hp', hal, hK⟩ := hR.pk (show 1 - d < 2 by omega) hn
  rw [hp] at hp'
  cases hp'
  obtain ⟨-, -, -, -, -, -, ⟨m, m1, m2, m3, m4⟩, hspn⟩ := hv
  have hkm : k < m := by rw [m3, nI_ltI (by omega) (by omega)] at hk; exact hk
  have hIv := (m4 k hkm).1
  have hk0 := (m4 k hkm).2
  have e7 : gI T p 7 = J 69 (300 * (1 - d) + nn) := hK.1 7 (by decide)
  have e0 : gI T (p + 1) (4 * k + 0) = prt J (300 * (1 - d) + nn) k 0 := hK.2.2.2.2.1 k 0 hk hk2 (by decide)
  have e1 : gI T (p + 1) (4 * k + 1) = prt J (300 * (1 - d) + nn) k 1 := hK.2.2.2.2.1 k 1 hk hk2 (by decide)
  have e2 : gI T (p + 1) (4 * k + 2) = prt J (300 * (1 - d) + nn) k 2 := hK.2.2.2.2.1 k 2 hk hk2 (by decide)
  have e3 : gI T (p + 1) (4 * k + 3) = prt J (300 * (1 - d) + nn) k 3 := hK.2.2.2.2.1 k 3 hk hk2 (by decide)
  refine s4_takeParts_2 hR.f hS O (hR.f.sd hd) hal ⟨fun hc => ?_, fun _ => ⟨ptx (w := 1) hk2 (by decide), ?_⟩⟩
  · rw [e7, m3, nI_leI (by omega) (by omega)] at hc; omega
  rw [ptv1 hk2, e1]
  obtain ⟨i, hi, hai⟩ := hIv.a
  rw [hai]
  rw [hai] at h
  have ti : ntn (nI i) = i := ntn_nI (by omega)
  refine c_strA hR.f hi ⟨fun b' hb => by cases hb; exact hR.f.st hi, ptx (w := 2) hk2 (by decide), ptx (w := 3) hk2 (by decide), fun b' hb => ?_, fun hb => by cases hb⟩
  cases hb
  refine ⟨ptx (w := 0) hk2 (by decide), ?_⟩
  rw [ptv0 hk2, ptv2 hk2, ptv3 hk2, e0, e2, e3, nI_suc]
  have k1n : ∀ x : Int32, ¬ x = 1 → ¬ x = 2 → ¬ x = 3 → ¬ x = 4 → ¬ x = 5 → ¬ x = 6 → ¬ x = 7 → ∀ b c, spPC J d (300 * (1 - d) + nn) x (nI i) b c = J := fun x n1 n2 n3 n4 n5 n6 n7 b c => by
    unfold spPC
    rw [if_neg n1, if_neg n2, if_neg n3, if_neg n4, if_neg n5, if_neg n6, if_neg n7]
  refine ⟨fun e => ?_, fun e => ?_, fun e => ?_, fun e => ?_, fun e => ?_, fun e => ?_, fun e => ?_, fun n1 n2 n3 n4 n5 n6 n7 => ?_⟩
  · have hk00 := hk0 e
    subst hk00
    rw [e] at h hIv
    obtain ⟨c0, hc1, hc4, hc⟩ : ∃ j, 1 ≤ j ∧ j ≤ 4 ∧ prt J (300 * (1 - d) + nn) 0 3 = nI j := by
      rcases hIv with h | h | h | h | h | h | h | h
      · exact h.2.2.2
      all_goals exact absurd h.1 (by decide)
    obtain ⟨lo, hi', s1, s2⟩ := hspn e
    rw [hc] at s1 s2 h
    have tc : ntn (nI c0) = c0 := ntn_nI (by omega)
    have n3 := hR.nle hd
    have es : ∀ j, j < c0 → loOf J (300 * (1 - d) + nn) j = lo j ∧ hiOf J (300 * (1 - d) + nn) j = hi' j ∧ J 75 (8 * (300 * (1 - d) + nn) + 2 * j) = nI (lo j) ∧ J 75 (8 * (300 * (1 - d) + nn) + 2 * j + 1) = nI (hi' j) ∧ lo j ≤ hi' j ∧ hi' j < num J d := fun j hj => by
      obtain ⟨a1, a2, a3, a4⟩ := s1 j (by rw [nI_ltI (by omega) (by omega)]; exact hj) (by omega)
      rw [show 1 - (1 - d) = d by omega] at a4
      refine ⟨?_, ?_, a1, a2, a3, a4⟩
      · show ntn (J 75 (8 * (300 * (1 - d) + nn) + 2 * j)) = lo j
        rw [a1]; exact ntn_nI (by omega)
      · show ntn (J 75 (8 * (300 * (1 - d) + nn) + 2 * j + 1)) = hi' j
        rw [a2]; exact ntn_nI (by omega)
    refine c_takeTold (lo := loOf J (300 * (1 - d) + nn)) (hi := hiOf J (300 * (1 - d) + nn)) (m := c0) hR hd hn hp e hc hc1 hc4 (fun j hj => ?_) (fun j hj => ?_) (fun T' E R => h T' E ?_)
    · obtain ⟨a1, a2, a3, a4, a5, a6⟩ := es j hj
      rw [a1, a2]; exact ⟨a3, a4, a5, a6⟩
    · rw [(es j (by omega)).1, (es (j + 1) hj).2.1]
      exact s2 j (by rw [nI_ltI (by omega) (by omega)]; exact hj) (by omega)
    · have : spPC J d (300 * (1 - d) + nn) 1 (nI i) (prt J (300 * (1 - d) + nn) 0 2) (nI c0) = spTd J d (loOf J (300 * (1 - d) + nn)) (hiOf J (300 * (1 - d) + nn)) c0 := by
        unfold spPC
        rw [if_pos rfl, tc]
      rw [this]; exact R
  · rw [e] at h hIv
    have hb : upTo (prt J (300 * (1 - d) + nn) k 2) 2000 := by
      rcases hIv with h | h | h | h | h | h | h | h
      · exact absurd h.1 (by decide)
      · exact h.2.2.1
      all_goals exact absurd h.1 (by decide)
    have e8 : gI T (3 + 2 * i) 8 = J 35 i := (hR.s hi).1 8 (by decide)
    rw [e8]
    refine h _ (Ev.rf.p (by omega)) ?_
    have := hR.putS hi (k := 8) (x := if J 35 i < prt J (300 * (1 - d) + nn) k 2 then prt J (300 * (1 - d) + nn) k 2 else J 35 i) (by decide) ((hR.vs hi).p35 (upMax (hR.vs hi).2.2.2.1 hb))
    show Rel _ (uJ J 35 (ntn (nI i)) (if J 35 (ntn (nI i)) < prt J (300 * (1 - d) + nn) k 2 then prt J (300 * (1 - d) + nn) k 2 else J 35 (ntn (nI i))))
    rw [ti]
    exact this
  · rw [e] at h hIv
    have hb : upTo (prt J (300 * (1 - d) + nn) k 2) 8000 := by
      rcases hIv with h | h | h | h | h | h | h | h
      · exact absurd h.1 (by decide)
      · exact absurd h.1 (by decide)
      · exact h.2.2.1
      all_goals exact absurd h.1 (by decide)
    have e8 : gI T (20 + 3 * d) 8 = J 57 d := (hR.d hd).1 8 (by decide)
    rw [e8]
    refine h _ (Ev.rf.p (by omega)) ?_
    exact hR.putD hd (k := 8) (x := if J 57 d < prt J (300 * (1 - d) + nn) k 2 then prt J (300 * (1 - d) + nn) k 2 else J 57 d) (by decide) (by decide) ((hR.vd hd).p57 hd (upMax (hR.vd hd).2.2.2.2.2.2.2.2.2.1 hb))
  · rw [e] at h hIv
    obtain ⟨f, n', e', hb, hc, hfn, he⟩ : ∃ f n e, prt J (300 * (1 - d) + nn) k 2 = nI f ∧ prt J (300 * (1 - d) + nn) k 3 = nI (n + 10000 * e) ∧ f + n ≤ 1000 ∧ e ≤ 1 := by
      rcases hIv with h | h | h | ⟨-, i', f, n, e, h1, h2, h3, h4, h5, h6, h7⟩ | h | h | h | h
      · exact absurd h.1 (by decide)
      · exact absurd h.1 (by decide)
      · exact absurd h.1 (by decide)
      · exact ⟨f, n, e, h3, h4, h6, h7⟩
      all_goals exact absurd h.1 (by decide)
    rw [hb, hc] at h
    have hm : ntn (nI (n' + 10000 * e')) % 10000 = n' := by rw [ntn_nI (by omega)]; omega
    have e4 : spPC J d (300 * (1 - d) + nn) 4 (nI i) (nI f) (nI (n' + 10000 * e')) = spBC J i f n' (nI (n' + 10000 * e')) := by
      unfold spPC
      rw [if_neg (by decide), if_neg (by decide), if_neg (by decide), if_pos rfl, hm, ti, ntn_nI (by omega)]
    rw [e4] at h
    rw [hb, hc, remE (by omega) he, nI_add]
    refine c_came hR hi hfn (fun T' E1 R1 => ?_)
    unfold spBC at h
    refine ⟨fun hq' => h T' E1 ?_, fun hq' => h _ (E1.p (by omega)) ?_⟩
    · rw [if_pos hq']; exact R1
    · rw [if_neg hq']
      exact R1.putS hi (k := 15) (by decide) (R1.vs hi).p42
  · rw [e] at h
    refine h _ (Ev.rf.p (by omega)) ?_
    show Rel _ (uJ J 43 (ntn (nI i)) 1)
    rw [ti]
    exact hR.putS hi (k := 16) (by decide) ((hR.vs hi).flag (r := 43) (by decide) (Or.inr rfl))
  · rw [e] at h hIv
    have hb : upTo (prt J (300 * (1 - d) + nn) k 2) 50 := by
      rcases hIv with h | h | h | h | h | h | h | h
      · exact absurd h.1 (by decide)
      · exact absurd h.1 (by decide)
      · exact absurd h.1 (by decide)
      · exact absurd h.1 (by decide)
      · exact absurd h.1 (by decide)
      · exact h.2.2.2.1
      all_goals exact absurd h.1 (by decide)
    exact h _ (Ev.rf.p (by omega)) (hR.answer hd hb)
  · rw [e] at h
    have g9 : gI T 0 9 = J 26 45 := hR.g 9 (by decide)
    have g0 : gI T (20 + 3 * d) 0 = nI d := (hR.d hd).2.2.1
    rw [g0, g9]
    have e7' : spPC J d (300 * (1 - d) + nn) 7 (nI i) (prt J (300 * (1 - d) + nn) k 2) (prt J (300 * (1 - d) + nn) k 3) = (if d = 1 ∧ prt J (300 * (1 - d) + nn) k 2 = J 26 45 then uJ J 26 46 0 else J) := rfl
    rw [e7'] at h
    refine ⟨fun hq' => h T Ev.rf ?_, fun hq' => ⟨fun hb => h T Ev.rf ?_, fun hb => h _ (Ev.rf.p (by omega)) ?_⟩⟩
    · rw [if_neg (fun z => hq' (by rw [z.1]; rfl))]; exact hR
    · rw [if_neg (fun z => hb z.2)]; exact hR
    · have hd1 : d = 1 := nI_nj (by omega) (by omega) hq'
      rw [if_pos ⟨hd1, hb⟩]
      exact hR.putG (k := 10) (by decide) (fun _ => Or.inl rfl)
  · rw [k1n _ n1 n2 n3 n4 n5 n6 n7] at h
    exact h T Ev.rf hR
end PARTS
