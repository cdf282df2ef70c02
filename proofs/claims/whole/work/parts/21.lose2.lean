section LOSE2
variable {T : Sto} {J : Rows}
/-- the class's numbers alone change -/
def Ev (T T' : Sto) : Prop := Fr T T' ∧ sN T' = sN T ∧ gR T' = gR T
theorem Ev.rf : Ev T T := ⟨Fr.rfl', rfl, rfl⟩
theorem Ev.p {T1 : Sto} {a k : Nat} {x : Int32} (h : Ev T T1) (ha : a < 26 ∨ 79 ≤ a) : Ev T (pI T1 a k x) := ⟨h.1.p ha, h.2.1, h.2.2⟩
theorem Ev.tr {T1 T2 : Sto} (h : Ev T T1) (h2 : Ev T1 T2) : Ev T T2 := ⟨h.1.tr h2.1, h2.2.1.trans h.2.1, h2.2.2.trans h.2.2⟩
theorem Ev.z {T' : Sto} {i : Nat} {J' : Rows} (h : zLS T T' J' i) (hi : i < 8) : Ev T T' := ⟨fun a h1 h2 => h.2.2.1 a (by omega) (by omega), h.2.1, h.1⟩
theorem Rel.ofz {T' : Sto} {J' : Rows} {i : Nat} (h : Rel T J) (z : zLS T T' J' i) (hi : i < 8) (ha : agHi J J') (h4 : is01 (J' 26 4)) (hx : ∀ i', i' < 8 → i' ≠ i → agS J J' i') (h2 : IvS J' i) (h3 : frs J i ≤ frs J' i) : Rel T' J' :=
  h.str (z.fx h.f) z.2.1 z.1 z.2.2.1 hi ha h4 hx z.2.2.2.1 h2 h3
theorem IvS.alt {J' : Rows} {i : Nat} (h : IvS J i) (hr : ∀ r, 27 ≤ r → r ≤ 43 → r ≠ 36 → r ≠ 37 → r ≠ 31 → r ≠ 38 → J' r i = J r i) (h31 : ∃ w f, J 27 i = nI w ∧ J' 31 i = nI f ∧ f ≤ w ∧ w ≤ 1000 ∧ ∀ j, f ≤ j → j < 1000 → byt J' i j = 0) (h38 : ∃ p r, J' 38 i = nI p ∧ J 39 i = nI r ∧ r ≤ p ∧ p ≤ 1000) (hc : ∀ j, j < 1000 → upTo (byt J' i j) 3 ∧ is01 (cam J' i j)) : IvS J' i := by
  have q : ∀ r, 27 ≤ r ∧ r ≤ 43 ∧ r ≠ 36 ∧ r ≠ 37 ∧ r ≠ 31 ∧ r ≠ 38 → J' r i = J r i := fun r h => hr r h.1 h.2.1 h.2.2.1 h.2.2.2.1 h.2.2.2.2.1 h.2.2.2.2.2
  obtain ⟨h1, -, -, h8, h9, -⟩ := h
  unfold IvS
  rw [q 28 (by decide), q 29 (by decide), q 30 (by decide), q 32 (by decide), q 33 (by decide), q 34 (by decide), q 41 (by decide), q 43 (by decide), q 27 (by decide), q 39 (by decide), q 35 (by decide), q 40 (by decide)]
  exact ⟨h1, h31, h38, h8, h9, hc⟩
theorem byt_zA {i f n j : Nat} : byt (zitA J i f n) i j = if f ≤ j ∧ j < f + n ∧ byt J i j = 1 then 2 else byt J i j := by
  unfold byt
  rw [zitA_at]
  by_cases q : f ≤ j ∧ j < f + n ∧ J 36 (1000 * i + j) = 1
  · rw [if_pos q, if_pos ⟨by omega, by omega, q.2.2⟩]
  · rw [if_neg q, if_neg (fun z => q ⟨by omega, by omega, z.2.2⟩)]
theorem cam_zA {i f n : Nat} : cam (zitA J i f n) i = cam J i := by funext j; unfold cam; rw [zitA_ne (by decide)]
theorem IvS.zA {i f n : Nat} (h : IvS J i) : IvS (zitA J i f n) i := by
  obtain ⟨w, f0, b1, b2, b3, b4, b5⟩ := h.2.1
  refine h.alt (fun r _ _ e _ _ _ => by rw [zitA_ne e]) ⟨w, f0, b1, by rw [zitA_ne (by decide)]; exact b2, b3, b4, fun j q1 q2 => ?_⟩ (by rw [zitA_ne (by decide)]; exact h.2.2.1) (fun j hj => ?_)
  · rw [byt_zA, if_neg (fun z => by rw [b5 j q1 q2] at z; exact absurd z.2.2 (by decide))]; exact b5 j q1 q2
  · rw [cam_zA, byt_zA]
    refine ⟨?_, (h.2.2.2.2.2 j hj).2⟩
    split
    · exact ⟨2, by decide, rfl⟩
    · exact (h.2.2.2.2.2 j hj).1
theorem agHi.ne {J' : Rows} (h : ∀ r, r ≠ 36 → r ≠ 37 → J' r = J r) : agHi J J' := ⟨fun r a b => h r (by omega) (by omega), fun k _ => by rw [h 26 (by decide) (by decide)]⟩
theorem agS.zA {i i' f n : Nat} (hne : i' ≠ i) (hfn : f + n ≤ 1000) : agS J (zitA J i f n) i' := ⟨fun r _ _ e _ => by rw [zitA_ne e], fun j hj => ⟨by unfold byt; rw [zitA_at, if_neg (by omega)], by unfold cam; rw [zitA_ne (by decide)]⟩⟩
theorem frs_eq {J' : Rows} (h : J' 31 = J 31) (i : Nat) : frs J i ≤ frs J' i := by unfold frs; rw [h]; exact Nat.le_refl _
theorem Rel.zA {T' : Sto} {i f n : Nat} (h : Rel T J) (hi : i < 8) (hfn : f + n ≤ 1000) (z : zLS T T' (zitA J i f n) i) : Rel T' (zitA J i f n) :=
  h.ofz z hi (agHi.ne (fun r e _ => zitA_ne e)) (by rw [zitA_ne (by decide)]; exact h.vg.2.2.2.1) (fun i' _ hne => agS.zA hne hfn) (h.vs hi).zA (frs_eq (zitA_ne (by decide)) i)
/-- END as its sender knows it -/
theorem Rel.endS {i : Nat} {x : Int32} {J' : Rows} (h : Rel T J) (hi : i < 8) (hr : ∀ r, r ≠ 32 → r ≠ 33 → r ≠ 34 → J' r = J r) (ho : ∀ r k, k ≠ i → J' r k = J r k) (h01 : is01 (J' 32 i) ∧ is01 (J' 33 i) ∧ is01 (J' 34 i)) (hx : x = eSt (J' 32 i) (J' 33 i) (J' 34 i)) : Rel (pI T (3 + 2 * i) 9 x) J' := by
  have e36 : ∀ i', byt J' i' = byt J i' := fun i' => by funext j; unfold byt; rw [hr 36 (by decide) (by decide) (by decide)]
  have e37 : ∀ i', cam J' i' = cam J i' := fun i' => by funext j; unfold cam; rw [hr 37 (by decide) (by decide) (by decide)]
  refine h.str (i := i) h.f rfl rfl (fun a h1 h2 => by rw [gI_pI, if_neg h1]) hi ⟨fun r a b => hr r (by omega) (by omega) (by omega), fun k _ => by rw [hr 26 (by decide) (by decide) (by decide)]⟩ (by rw [hr 26 (by decide) (by decide) (by decide)]; exact h.vg.2.2.2.1) (fun i' _ hne => ⟨fun r _ _ _ _ => ho r i' hne, fun j _ => by rw [e36, e37]; exact ⟨rfl, rfl⟩⟩) ?_ ?_ (frs_eq (hr 31 (by decide) (by decide) (by decide)) i)
  · rw [gI_eq, gI_ne (b := 4 + 2 * i) (by omega)]
    obtain ⟨h1, h2, h3, h4, h5, h6⟩ := h.s hi
    have ks : ∀ k ∈ ksS, k ≠ 9 := by decide
    refine ⟨fun k hk => ?_, ?_, ?_, ?_, ?_, ?_⟩
    · obtain ⟨-, -, -, -, q5, q6, q7⟩ := rs_in k hk
      show upd _ 9 x k = J' (rs k) i
      rw [upd_at, if_neg (ks k hk), hr _ q5 q6 q7]; exact h1 k hk
    · rw [upd_at, if_pos rfl]; exact hx
    · rw [e36, e37]; exact h3
    · rw [upd_at, if_neg (by decide), e36]; exact h4
    · rw [upd_at, if_neg (by decide), e36]; exact h5
    · rw [upd_at, if_neg (by decide), e37]; exact h6
  · obtain ⟨⟨a1, a2, a3, a4, a5, a6, a7, a8⟩, b1, c1, d1, d2, d3⟩ := h.vs hi
    unfold IvS
    have q : ∀ r, r < 32 ∨ 34 < r → J' r = J r := fun r h => hr r (by omega) (by omega) (by omega)
    rw [q 28 (by decide), q 29 (by decide), q 30 (by decide), q 41 (by decide), q 43 (by decide), q 27 (by decide), q 31 (by decide), q 38 (by decide), q 39 (by decide), q 35 (by decide), q 40 (by decide), e36, e37]
    exact ⟨⟨a1, a2, a3, h01.1, h01.2.1, h01.2.2, a7, a8⟩, b1, c1, d1, d2, d3⟩
theorem IvPart.a {d : Nat} {kind a b c : Int32} (h : IvPart J d kind a b c) : ∃ i, i < 8 ∧ a = nI i := by
  rcases h with ⟨-, e, -⟩ | ⟨-, h, -⟩ | ⟨-, e, -⟩ | ⟨-, i, -, -, -, h1, h2, -⟩ | ⟨-, h, -⟩ | ⟨-, -, e, -⟩ | ⟨-, e, -⟩ | ⟨-, e, -⟩
  · exact ⟨0, by decide, e⟩
  · exact h
  · exact ⟨0, by decide, e⟩
  · exact ⟨i, h1, h2⟩
  · exact h
  · exact ⟨0, by decide, e⟩
  · exact ⟨0, by decide, e⟩
  · exact ⟨0, by decide, e⟩
theorem ptv {S : Sto} {a k w : Nat} (hk : k < 16) (hw : w < 4) : (if ((nI k * 4) + nI w) < 0 then 0 else (if ((nI k * 4) + nI w) < 64 then (gI S a ((nI k * 4) + nI w).toNatClampNeg) else 0 : Int32) : Int32) = gI S a (4 * k + w) := by
  have e : (nI k * 4) + nI w = nI (4 * k + w) := by
    rw [show (4 : Int32) = nI 4 from rfl, pk_mul, nI_add]; congr 1; omega
  rw [e, if_neg (by rw [show (0 : Int32) = nI 0 from rfl, nI_ltI (by omega) (by omega)]; omega), if_pos (by rw [show (64 : Int32) = nI 64 from rfl, nI_ltI (by omega) (by omega)]; omega), tnN (by omega)]
theorem ptv0 {S : Sto} {a k : Nat} (hk : k < 16) : (if ((nI k * 4) + 0) < 0 then 0 else (if ((nI k * 4) + 0) < 64 then (gI S a ((nI k * 4) + 0).toNatClampNeg) else 0 : Int32) : Int32) = gI S a (4 * k + 0) := ptv (w := 0) hk (by decide)
theorem ptv1 {S : Sto} {a k : Nat} (hk : k < 16) : (if ((nI k * 4) + 1) < 0 then 0 else (if ((nI k * 4) + 1) < 64 then (gI S a ((nI k * 4) + 1).toNatClampNeg) else 0 : Int32) : Int32) = gI S a (4 * k + 1) := ptv (w := 1) hk (by decide)
theorem ptv2 {S : Sto} {a k : Nat} (hk : k < 16) : (if ((nI k * 4) + 2) < 0 then 0 else (if ((nI k * 4) + 2) < 64 then (gI S a ((nI k * 4) + 2).toNatClampNeg) else 0 : Int32) : Int32) = gI S a (4 * k + 2) := ptv (w := 2) hk (by decide)
theorem ptv3 {S : Sto} {a k : Nat} (hk : k < 16) : (if ((nI k * 4) + 3) < 0 then 0 else (if ((nI k * 4) + 3) < 64 then (gI S a ((nI k * 4) + 3).toNatClampNeg) else 0 : Int32) : Int32) = gI S a (4 * k + 3) := ptv (w := 3) hk (by decide)
theorem ptx {k w : Nat} (hk : k < 16) (hw : w < 4) : 0 ≤ ((nI k * 4) + nI w : Int32).toInt ∧ ((nI k * 4) + nI w : Int32).toInt < (64 : Nat) := by
  have e : (nI k * 4) + nI w = nI (4 * k + w) := by
    rw [show (4 : Int32) = nI 4 from rfl, pk_mul, nI_add]; congr 1; omega
  rw [e]; exact ixN (by omega) (by decide)
theorem c_strA {Q : Option Nat → Sto → Prop} {i : Nat} (hF : Fx T) (hi : i < 8) (h : Q (some (3 + 2 * i)) T) : Co K4_streamAt [vr 0, vi (nI i)] T Q :=
  c_streamAt hF (fun hc => absurd (ixN hi (by decide)) hc) (fun s hs e => by
    have : i = s := by
      have := congrArg Int32.toNatClampNeg e
      rw [tnN (by omega), tnN (by omega)] at this
      exact this
    rw [← this]; exact h)
/-- the class answers it owes, and asks -/
theorem Rel.answer {d : Nat} {b : Int32} (h : Rel T J) (hd : d < 2) (hb : upTo b 50) : Rel (pI T (20 + 3 * d) 12 b) (uJ (uJ J 64 d 1) 65 d b) := by
  have e : ∀ r, r ≠ 64 → r ≠ 65 → uJ (uJ J 64 d 1) 65 d b r = J r := fun r h1 h2 => by rw [uJ_ne h2, uJ_ne h1]
  refine h.sid (d := d) h.f rfl rfl (fun a h1 h2 => by rw [gI_pI, if_neg h1]) hd ⟨fun r a b => e r (by omega) (by omega), fun r a b => e r (by omega) (by omega), fun r d' a b c => by rw [uJ_off _ _ (Or.inr c), uJ_off _ _ (Or.inr c)], e 44 (by decide) (by decide)⟩ ?_ (((h.vd hd).p64 hd (Or.inr rfl)).p65 hd hb)
  rw [gI_eq, gI_ne (b := 22 + 3 * d) (by omega)]
  obtain ⟨h1, h2, h3, h4, ⟨t, h5, h6, h7⟩, s, h8, h9, h10⟩ := h.d hd
  have ks : ∀ k ∈ ksD, k ≠ 12 ∧ rd k ≠ 64 ∧ rd k ≠ 65 := by decide
  have kp : ∀ k ∈ ksP, rp k ≠ 64 ∧ rp k ≠ 65 := by decide
  refine ⟨fun k hk => ?_, fun k hk => ?_, ?_, ?_, ⟨t, h5, ?_, ?_⟩, s, ?_, ⟨h9.1, by unfold num at h9 ⊢; rw [e 44 (by decide) (by decide)]; exact h9.2⟩, ?_⟩
  · show upd _ 12 b k = uJ (uJ J 64 d 1) 65 d b (rd k) d
    rw [upd_at, if_neg (ks k hk).1, e _ (ks k hk).2.1 (ks k hk).2.2]; exact h1 k hk
  · show gI T (22 + 3 * d) k = uJ (uJ J 64 d 1) 65 d b (rp k) d
    rw [e _ (kp k hk).1 (kp k hk).2]; exact h2 k hk
  · rw [upd_at, if_neg (by decide)]; exact h3
  · rw [upd_at, if_pos rfl, uJ_same, uJ_ne (by decide), uJ_same, if_neg (by decide)]
  · rw [upd_at, if_neg (by decide)]; exact h6
  · rw [e 61 (by decide) (by decide)]; exact h7
  · rw [upd_at, if_neg (by decide)]; exact h8
  · intro n hn
    rw [e 70 (by decide) (by decide), e 71 (by decide) (by decide), e 72 (by decide) (by decide)]; exact h10 n hn
theorem RSd.imp' {c pc : Nat → Int32} {J' : Rows} {d : Nat} (h : RSd c pc J d) (a : (∀ k ∈ ksD, J' (rd k) = J (rd k)) ∧ (∀ k ∈ ksP, J' (rp k) = J (rp k)) ∧ ∀ r, r = 61 ∨ r = 64 ∨ r = 65 ∨ 70 ≤ r → J' r = J r) : RSd c pc J' d := by
  obtain ⟨h1, h2, h3, h4, ⟨t, h5, h6, h7⟩, s, h8, h9, h10⟩ := h
  obtain ⟨a1, a2, a3⟩ := a
  refine ⟨fun k hk => ?_, fun k hk => ?_, h3, ?_, ⟨t, h5, h6, ?_⟩, s, h8, ⟨h9.1, by unfold num at h9 ⊢; rw [show J' 44 = J 44 from a1 3 (by decide)]; exact h9.2⟩, ?_⟩
  · show c k = J' (rd k) d
    rw [a1 k hk]; exact h1 k hk
  · show pc k = J' (rp k) d
    rw [a2 k hk]; exact h2 k hk
  · rw [a3 64 (by decide), a3 65 (by decide)]; exact h4
  · rw [a3 61 (by decide)]; exact h7
  · intro n hn
    rw [a3 70 (by decide), a3 71 (by decide), a3 72 (by decide)]; exact h10 n hn
/-- the reference keeps what is asked, the class does not -/
theorem Rel.askB {x : Int32} (h : Rel T J) (hx : J 62 1 = 0 ∨ x = J 26 45) : Rel T (uJ J 63 1 x) := by
  have e : ∀ r, r ≠ 63 → uJ J 63 1 x r = J r := fun r h1 => by rw [uJ_ne h1]
  refine h.sid (d := 1) h.f rfl rfl (fun a h1 h2 => rfl) (by decide) (agSd.put (by decide) (by decide)) ?_ ((h.vd (by decide)).p63 (by decide) (hx.imp id (fun q => ⟨rfl, q⟩)))
  refine (h.d (d := 1) (by decide)).imp' ?_
  exact ⟨fun k hk => e _ (by have : ∀ k ∈ ksD, rd k ≠ 63 := by decide
                             exact this k hk), fun k hk => e _ (by have : ∀ k ∈ ksP, rp k ≠ 63 := by decide
                                                                   exact this k hk), fun r hr => e r (by omega)⟩
end LOSE2
