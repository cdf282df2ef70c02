section OWED
variable {T : Sto} {J : Rows}
/-- the store, the rows and the PACKET that is filled, at row q, with m parts -/
def FQ (T : Sto) (J : Rows) (d p q m : Nat) : Prop := q = 300 * d + num J d ∧ Rel T J ∧ Pk T J d p m ∧ Spq T J d p m ∧ (J 70 q = 0 → m ≤ 1)
def EQ (J : Rows) (d q M : Nat) : Prop := ∃ T p m, m ≤ M ∧ FQ T J d p q m
theorem FQ.mq {d p q m : Nat} (h : FQ T J d p q m) (hd : d < 2) : Mq J q m := by
  obtain ⟨rfl, -, h, -⟩ := h
  exact h.mq hd
theorem FQ.add {d p q m z : Nat} {kind a b c : Int32} (h : FQ T J d p q m) (hd : d < 2) (hm : m < 16) (hz : z ≤ 2000) (hf : fits J q (nI z)) (hv : IvPart J d kind a b c) (hk : ¬ kind = 1) : FQ (adS T p m kind (nI z) a b c (J 68 q)) (spPut J q kind (nI z) a b c) d p q (m + 1) := by
  obtain ⟨rfl, h1, h2, h3, h5⟩ := h
  obtain ⟨r1, r2⟩ := Fil.add ⟨h1, h2⟩ hd hm hz hf hv (fun e => absurd e hk)
  have e : num (spPut J (300 * d + num J d) kind (nI z) a b c) d = num J d := num_of (by rw [spPut_ne (by decide) (by decide) (by decide) (by decide)])
  refine ⟨by rw [e], r1, r2, h3.add h2 hk, fun z => ?_⟩
  rw [spPut_70, if_pos rfl] at z
  unfold hvy at z
  rw [if_neg hk] at z
  split at z <;> exact absurd z (by decide)
theorem FQ.mv {T' : Sto} {J' : Rows} {d p q m : Nat} (h : FQ T J d p q m) (R : Rel T' J') (hI : ∀ a, 79 ≤ a → gI T' a = gI T a) (hg : gR T' = gR T) (hs : sN T' = sN T) (hr : ∀ r, r = 26 ∨ r = 44 ∨ 66 ≤ r → J' r = J r) (hf : ∀ i, i < 8 → frs J i ≤ frs J' i) : FQ T' J' d p q m := by
  obtain ⟨rfl, h1, h2, h3, h5⟩ := h
  have p79 := al79 h2.1
  have e : num J' d = num J d := num_of (by rw [hr 44 (by omega)])
  exact ⟨by rw [e], R, h2.keep hI hg hs (hr 26 (by omega)) (hr 44 (by omega)) (hr 68 (by omega)) (hr 69 (by omega)) (hr 70 (by omega)) (hr 74 (by omega)) hf, h3.keep (hI _ (by omega)) (hr 44 (by omega)) (hr 74 (by omega)) (hr 75 (by omega)), by rw [hr 70 (by omega)]; exact h5⟩
theorem FQ.put {d p q m a k r i : Nat} {x y : Int32} (h : FQ T J d p q m) (R : Rel (pI T a k y) (uJ J r i x)) (ha : a < 79) (hr : 27 ≤ r ∧ r ≤ 65 ∧ r ≠ 44 ∧ r ≠ 31) : FQ (pI T a k y) (uJ J r i x) d p q m :=
  h.mv R (fun b hb => gI_ne (by omega)) rfl rfl (fun r' hr' => uJ_ne (by omega)) (fun i _ => frs_eq (uJ_ne (by omega)) i)
theorem FQ.put2 {d p q m a k r i : Nat} {x : Int32} (h : FQ T J d p q m) (R : Rel (pI T a k x) (uJ J r i x)) (ha : a < 79) (hr : 27 ≤ r ∧ r ≤ 65 ∧ r ≠ 44 ∧ r ≠ 31) : FQ (pI T a k x) (uJ J r i x) d p q m := h.put R ha hr
theorem c_addQ {d p q m z : Nat} {kind a b c : Int32} {Q : Int32 → Sto → Prop} (h : FQ T J d p q m) (hm : m < 16) (hz : z ≤ 2000) (hsz : wOf kind c = nI z) (h0 : ¬ fits J q (nI z) → Q 0 T) (h1 : fits J q (nI z) → Q 1 (adS T p m kind (nI z) a b c (J 68 q))) : Ci K1_add [vr p, vi kind, vi a, vi b, vi c] T Q := by
  obtain ⟨rfl, hR, hP, -⟩ := h
  exact c_add hR.f hP hm hz hsz h0 h1
theorem adS_ev {p m : Nat} {kind sz a b c w : Int32} (h : 79 ≤ p) : Ev T (adS T p m kind sz a b c w) := ⟨fun x h1 h2 => adS_o (by omega) (by omega), adS_n, adS_R⟩
theorem FQ.p79 {d p q m : Nat} (h : FQ T J d p q m) : 79 ≤ p := al79 h.2.2.1.1
/-! what is answered and asked -/
theorem Rel.noAns {d : Nat} (h : Rel T J) (hd : d < 2) : Rel (pI T (20 + 3 * d) 12 (-6)) (uJ J 64 d 0) := by
  have e : ∀ r, r ≠ 64 → uJ J 64 d 0 r = J r := fun r h1 => uJ_ne h1
  refine h.sid (d := d) h.f rfl rfl (fun a h1 h2 => by rw [gI_pI, if_neg h1]) hd ⟨fun r a b => e r (by omega), fun r a b => e r (by omega), fun r d' a b c => uJ_off _ _ (Or.inr c), e 44 (by decide)⟩ ?_ ((h.vd hd).p64 hd (Or.inl rfl))
  rw [gI_eq, gI_ne (b := 22 + 3 * d) (by omega)]
  obtain ⟨h1, h2, h3, h4, ⟨t, h5, h6, h7⟩, s, h8, h9, h10⟩ := h.d hd
  have ks : ∀ k ∈ ksD, k ≠ 12 ∧ rd k ≠ 64 := by decide
  have kp : ∀ k ∈ ksP, rp k ≠ 64 := by decide
  refine ⟨fun k hk => ?_, fun k hk => ?_, ?_, ?_, ⟨t, h5, ?_, ?_⟩, s, ?_, ⟨h9.1, by unfold num at h9 ⊢; rw [e 44 (by decide)]; exact h9.2⟩, ?_⟩
  · show upd _ 12 (-6) k = uJ J 64 d 0 (rd k) d
    rw [upd_at, if_neg (ks k hk).1, e _ (ks k hk).2]; exact h1 k hk
  · show gI T (22 + 3 * d) k = uJ J 64 d 0 (rp k) d
    rw [e _ (kp k hk)]; exact h2 k hk
  · rw [upd_at, if_neg (by decide)]; exact h3
  · rw [upd_at, if_pos rfl, uJ_same, if_pos rfl]
  · rw [upd_at, if_neg (by decide)]; exact h6
  · rw [e 61 (by decide)]; exact h7
  · rw [upd_at, if_neg (by decide)]; exact h8
  · intro n hn
    rw [e 70 (by decide), e 71 (by decide), e 72 (by decide)]; exact h10 n hn
def spAns (J : Rows) (d q : Nat) : Rows := if J 64 d = 0 then J else if fits J q (nI 9) then uJ (spPut J q 7 (nI 9) 0 (J 65 d) 0) 64 d 0 else J
def spAsk (J : Rows) (d q : Nat) : Rows := if J 62 d = 0 then J else if fits J q (nI 9) then uJ (spPut J q 6 (nI 9) 0 (J 63 d) 0) 62 d 0 else J
theorem FQ.ans {d p q m : Nat} (h : FQ T J d p q m) (hd : d < 2) (hm : m < 16) (hf : fits J q (nI 9)) : FQ (pI (adS T p m 7 (nI 9) 0 (J 65 d) 0 (J 68 q)) (20 + 3 * d) 12 (-6)) (uJ (spPut J q 7 (nI 9) 0 (J 65 d) 0) 64 d 0) d p q (m + 1) := by
  have h65 := (h.2.1.vd hd).2.2.2.2.2.2.2.2.2.2.2.1
  have F := h.add hd hm (z := 9) (by decide) hf (kind := 7) (a := 0) (b := J 65 d) (c := 0) (Or.inr (Or.inr (Or.inr (Or.inr (Or.inr (Or.inr (Or.inl ⟨rfl, rfl, h65, rfl⟩))))))) (by decide)
  exact F.put (F.2.1.noAns hd) (by omega) (by decide)
theorem FQ.ask {d p q m : Nat} (h : FQ T J d p q m) (hd : d < 2) (hm : m < 16) (h62 : ¬ J 62 d = 0) (hf : fits J q (nI 9)) : J 63 d = J 26 45 ∧ FQ (pI (adS T p m 6 (nI 9) 0 (J 63 d) 0 (J 68 q)) (20 + 3 * d) 11 0) (uJ (spPut J q 6 (nI 9) 0 (J 63 d) 0) 62 d 0) d p q (m + 1) := by
  have h63 := ((h.2.1.vd hd).2.2.2.2.2.2.2.2.2.2.2.2.1).resolve_left h62
  have h50 : upTo (J 63 d) 50 := by rw [h63.2]; exact h.2.1.vg.2.2.2.2.2.2.1
  have F := h.add hd hm (z := 9) (by decide) hf (kind := 6) (a := 0) (b := J 63 d) (c := 0) (Or.inr (Or.inr (Or.inr (Or.inr (Or.inr (Or.inl ⟨rfl, h63.1, rfl, h50, rfl⟩)))))) (by decide)
  exact ⟨h63.2, F.put2 (F.2.1.putD hd (k := 11) (by decide) (by decide) ((F.2.1.vd hd).p62 hd ⟨Or.inl rfl, Or.inl rfl⟩)) (by omega) (by decide)⟩
theorem EQ.ans {d q M : Nat} (h : EQ J d q M) (hd : d < 2) (hM : M < 16) : EQ (spAns J d q) d q (M + 1) := by
  obtain ⟨T, p, m, hm, F⟩ := h
  unfold spAns
  split
  · exact ⟨T, p, m, by omega, F⟩
  split
  · rename_i hf
    exact ⟨_, p, m + 1, by omega, F.ans hd (by omega) hf⟩
  · exact ⟨T, p, m, by omega, F⟩
theorem EQ.ask {d q M : Nat} (h : EQ J d q M) (hd : d < 2) (hM : M < 16) : EQ (spAsk J d q) d q (M + 1) := by
  obtain ⟨T, p, m, hm, F⟩ := h
  unfold spAsk
  split
  · exact ⟨T, p, m, by omega, F⟩
  rename_i h62
  split
  · rename_i hf
    exact ⟨_, p, m + 1, by omega, (F.ask hd (by omega) h62 hf).2⟩
  · exact ⟨T, p, m, by omega, F⟩
theorem EQ.mq {d q M : Nat} (h : EQ J d q M) (hd : d < 2) : ∃ m, m ≤ M ∧ Mq J q m := by
  obtain ⟨T, p, m, hm, F⟩ := h
  exact ⟨m, hm, F.mq hd⟩
theorem upTo_n6 {x : Int32} {N : Nat} (h : upTo x N) (hN : N < 2 ^ 31) : ¬ x = -6 := by
  obtain ⟨n, h1, rfl⟩ := h
  exact nI_neg6 (by omega)
theorem c_addAA {d p q m : Nat} {Q : Sto → Prop} (h : FQ T J d p q m) (hd : d < 2) (hm : m + 1 < 16) (hQ : ∀ T' m', Ev T T' → m' ≤ m + 2 → FQ T' (spAsk (spAns J d q) d q) d p q m' → Q T') : Cv K4_addAnswerAndAsk [vr 0, vr (20 + 3 * d), vr p] T Q := by
  have p79 := h.p79
  have hR := h.2.1
  -- asking
  have ask : ∀ (U : Sto) (K : Rows) (m' : Nat), Ev T U → m' ≤ m + 1 → FQ U K d p q m' → spAns J d q = K →
      ((gI U (20 + 3 * d) 11 = 0 → Q U) ∧ (¬ gI U (20 + 3 * d) 11 = 0 → Ci K1_add [vr p, vi 6, vi 0, vi (gI U 0 9), vi 0] U (fun x3 S3 => (x3 = 0 → (Q S3)) ∧ (¬ x3 = 0 → (Q (pI S3 (20 + 3 * d) 11 0)))))) := by
    intro U K m' E hm' F hK
    have e11 : gI U (20 + 3 * d) 11 = K 62 d := (F.2.1.d hd).1 11 (by decide)
    have e9 : gI U 0 9 = K 26 45 := F.2.1.g 9 (by decide)
    rw [e11, e9]
    rw [hK] at hQ
    unfold spAsk at hQ
    refine ⟨fun c => ?_, fun c => ?_⟩
    · rw [if_pos c] at hQ
      exact hQ U m' E (by omega) F
    · rw [if_neg c] at hQ
      refine c_addQ F (by omega) (z := 9) (by decide) rfl (fun hf => ⟨fun _ => ?_, fun z => absurd rfl z⟩) (fun hf => ⟨fun z => absurd z (by decide), fun _ => ?_⟩)
      · rw [if_neg hf] at hQ
        exact hQ U m' E (by omega) F
      · rw [if_pos hf] at hQ
        obtain ⟨k1, k2⟩ := F.ask hd (by omega) c hf
        rw [← k1]
        exact hQ _ (m' + 1) (E.tr ((adS_ev p79).p (by omega))) (by omega) k2
  have e12 : gI T (20 + 3 * d) 12 = (if J 64 d = 0 then -6 else J 65 d) := (hR.d hd).2.2.2.1
  have n65 := upTo_n6 (hR.vd hd).2.2.2.2.2.2.2.2.2.2.2.1 (by decide)
  refine e4_addAnswerAndAsk hR.f (hR.f.sd hd) h.2.2.1.1 ?_
  rw [e12]
  by_cases c : J 64 d = 0
  · rw [if_pos c]
    exact ⟨fun _ => ask T J m Ev.rf (by omega) h (if_pos c), fun z => absurd rfl z⟩
  · rw [if_neg c]
    refine ⟨fun z => absurd z n65, fun _ => ?_⟩
    refine c_addQ h (by omega) (z := 9) (by decide) rfl (fun hf => ⟨fun _ => ?_, fun z => absurd rfl z⟩) (fun hf => ⟨fun z => absurd z (by decide), fun _ => ?_⟩)
    · exact ask T J m Ev.rf (by omega) h (by unfold spAns; rw [if_neg c, if_neg hf])
    · exact ask _ _ (m + 1) ((adS_ev p79).p (by omega)) (by omega) (h.ans hd (by omega) hf) (by unfold spAns; rw [if_neg c, if_pos hf])
/-! bounds -/
def spBnd (J : Rows) (q i : Nat) : Rows := if J 41 i = 0 then J else if fits J q (nI 5) then uJ (uJ (spPut J q 2 (nI 5) (nI i) (J 39 i + J 26 1) 0) 41 i 0) 40 i (J 39 i + J 26 1) else J
def spBnds (J : Rows) (q i : Nat) : Nat → Rows
  | 0 => J
  | k + 1 => spBnd (spBnds J q i k) q (i + 2 * k)
def spAll (J : Rows) (d q : Nat) : Rows := if J 58 d = 0 then J else if fits J q (nI 5) then uJ (uJ (spPut J q 3 (nI 5) 0 (sm (J 39) (1 - d) + J 26 2) 0) 58 d 0) 59 d (sm (J 39) (1 - d) + J 26 2) else J
def spCut (J : Rows) (q i : Nat) : Rows := if J 30 i = 0 then J else if fits J q (nI 7) then uJ (spPut J q 5 (nI 7) (nI i) 0 0) 30 i 0 else J
def spCuts (J : Rows) (q i : Nat) : Nat → Rows
  | 0 => J
  | k + 1 => spCut (spCuts J q i k) q (i + 2 * k)
theorem IvS.p40 {i : Nat} {x : Int32} (h : IvS J i) (hx : upTo x 2000) : IvS (uJ J 40 i x) i := by
  have e : ∀ r, r ≠ 40 → uJ J 40 i x r = J r := fun r hr => uJ_ne hr
  obtain ⟨a1, b1, c1, d1, d2, d3⟩ := h
  unfold byt cam at *
  unfold IvS byt cam
  rw [e 28 (by decide), e 29 (by decide), e 30 (by decide), e 32 (by decide), e 33 (by decide), e 34 (by decide), e 41 (by decide), e 43 (by decide), e 27 (by decide), e 31 (by decide), e 36 (by decide), e 38 (by decide), e 39 (by decide), e 35 (by decide), e 37 (by decide), uJ_same]
  exact ⟨a1, b1, c1, d1, hx, d3⟩
theorem Rel.bv {i : Nat} (h : Rel T J) (hi : i < 8) : upTo (J 39 i + J 26 1) 2000 := by
  obtain ⟨p, r, c1, c2, c3, c4⟩ := (h.vs hi).2.2.1
  obtain ⟨w, w1, w2, w3⟩ := h.vg.2.1
  exact ⟨r + w, by omega, by rw [c2, w3, nI_add]⟩
theorem Rel.av {d : Nat} (h : Rel T J) (hd : d < 2) : upTo (sm (J 39) (1 - d) + J 26 2) 8000 := by
  obtain ⟨w, w1, w2, w3⟩ := h.vg.2.2.1
  have g : ∀ i, i < 8 → ∃ r, J 39 i = nI r ∧ r ≤ 1000 := fun i hi => by
    obtain ⟨p, r, c1, c2, c3, c4⟩ := (h.vs hi).2.2.1
    exact ⟨r, c2, by omega⟩
  obtain ⟨a1, b1, c1⟩ := g (1 - d) (by omega)
  obtain ⟨a2, b2, c2⟩ := g (1 - d + 2) (by omega)
  obtain ⟨a3, b3, c3⟩ := g (1 - d + 4) (by omega)
  obtain ⟨a4, b4, c4⟩ := g (1 - d + 6) (by omega)
  refine ⟨a1 + a2 + a3 + a4 + w, by omega, ?_⟩
  unfold sm
  rw [b1, b2, b3, b4, w3, show (0 : Int32) = nI 0 from rfl, nI_add, nI_add, nI_add, nI_add, nI_add]
  congr 1; omega
theorem FQ.bnd {d p q m i : Nat} (h : FQ T J d p q m) (hd : d < 2) (hm : m < 16) (hi : i < 8) (hf : fits J q (nI 5)) : FQ (pI (pI (adS T p m 2 (nI 5) (nI i) (J 39 i + J 26 1) 0 (J 68 q)) (3 + 2 * i) 14 0) (3 + 2 * i) 13 (J 39 i + J 26 1)) (uJ (uJ (spPut J q 2 (nI 5) (nI i) (J 39 i + J 26 1) 0) 41 i 0) 40 i (J 39 i + J 26 1)) d p q (m + 1) := by
  have F := h.add hd hm (z := 5) (by decide) hf (kind := 2) (a := nI i) (b := J 39 i + J 26 1) (c := 0) (Or.inr (Or.inl ⟨rfl, ⟨i, hi, rfl⟩, h.2.1.bv hi, rfl⟩)) (by decide)
  have F2 := F.put2 (F.2.1.putS hi (k := 14) (x := 0) (by decide) ((F.2.1.vs hi).flag (r := 41) (by decide) (Or.inl rfl))) (by omega) (by decide)
  exact F2.put2 (F2.2.1.putS hi (k := 13) (by decide) ((F2.2.1.vs hi).p40 (h.2.1.bv hi))) (by omega) (by decide)
theorem FQ.all {d p q m : Nat} (h : FQ T J d p q m) (hd : d < 2) (hm : m < 16) (hf : fits J q (nI 5)) : FQ (pI (pI (adS T p m 3 (nI 5) 0 (sm (J 39) (1 - d) + J 26 2) 0 (J 68 q)) (20 + 3 * d) 10 0) (20 + 3 * d) 9 (sm (J 39) (1 - d) + J 26 2)) (uJ (uJ (spPut J q 3 (nI 5) 0 (sm (J 39) (1 - d) + J 26 2) 0) 58 d 0) 59 d (sm (J 39) (1 - d) + J 26 2)) d p q (m + 1) := by
  have F := h.add hd hm (z := 5) (by decide) hf (kind := 3) (a := 0) (b := sm (J 39) (1 - d) + J 26 2) (c := 0) (Or.inr (Or.inr (Or.inl ⟨rfl, rfl, h.2.1.av hd, rfl⟩))) (by decide)
  have F2 := F.put2 (F.2.1.putD hd (k := 10) (x := 0) (by decide) (by decide) ((F.2.1.vd hd).p58 hd (Or.inl rfl))) (by omega) (by decide)
  exact F2.put2 (F2.2.1.putD hd (k := 9) (by decide) (by decide) ((F2.2.1.vd hd).p59 hd (h.2.1.av hd))) (by omega) (by decide)
theorem FQ.cut {d p q m i : Nat} (h : FQ T J d p q m) (hd : d < 2) (hm : m < 16) (hi : i < 8) (hf : fits J q (nI 7)) : FQ (pI (adS T p m 5 (nI 7) (nI i) 0 0 (J 68 q)) (3 + 2 * i) 4 0) (uJ (spPut J q 5 (nI 7) (nI i) 0 0) 30 i 0) d p q (m + 1) := by
  have F := h.add hd hm (z := 7) (by decide) hf (kind := 5) (a := nI i) (b := 0) (c := 0) (Or.inr (Or.inr (Or.inr (Or.inr (Or.inl ⟨rfl, ⟨i, hi, rfl⟩, rfl, rfl⟩))))) (by decide)
  exact F.put2 (F.2.1.putS hi (k := 4) (x := 0) (by decide) ((F.2.1.vs hi).flag (r := 30) (by decide) (Or.inl rfl))) (by omega) (by decide)
theorem EQ.bnd {d q M i : Nat} (h : EQ J d q M) (hd : d < 2) (hM : M < 16) (hi : i < 8) : EQ (spBnd J q i) d q (M + 1) := by
  obtain ⟨T, p, m, hm, F⟩ := h
  unfold spBnd
  split
  · exact ⟨T, p, m, by omega, F⟩
  split
  · rename_i hf
    exact ⟨_, p, m + 1, by omega, F.bnd hd (by omega) hi hf⟩
  · exact ⟨T, p, m, by omega, F⟩
theorem EQ.bnds {d q M i : Nat} (h : EQ J d q M) (hd : d < 2) (hi : i < 2) : ∀ k, k ≤ 4 → M + k ≤ 16 → EQ (spBnds J q i k) d q (M + k) := fun k => by
  induction k with
  | zero => exact fun _ _ => h
  | succ k ih => exact fun a b => (ih (by omega) (by omega)).bnd hd (by omega) (by omega)
theorem EQ.all {d q M : Nat} (h : EQ J d q M) (hd : d < 2) (hM : M < 16) : EQ (spAll J d q) d q (M + 1) := by
  obtain ⟨T, p, m, hm, F⟩ := h
  unfold spAll
  split
  · exact ⟨T, p, m, by omega, F⟩
  split
  · rename_i hf
    exact ⟨_, p, m + 1, by omega, F.all hd (by omega) hf⟩
  · exact ⟨T, p, m, by omega, F⟩
theorem EQ.cut {d q M i : Nat} (h : EQ J d q M) (hd : d < 2) (hM : M < 16) (hi : i < 8) : EQ (spCut J q i) d q (M + 1) := by
  obtain ⟨T, p, m, hm, F⟩ := h
  unfold spCut
  split
  · exact ⟨T, p, m, by omega, F⟩
  split
  · rename_i hf
    exact ⟨_, p, m + 1, by omega, F.cut hd (by omega) hi hf⟩
  · exact ⟨T, p, m, by omega, F⟩
theorem EQ.cuts {d q M i : Nat} (h : EQ J d q M) (hd : d < 2) (hi : i < 2) : ∀ k, k ≤ 4 → M + k ≤ 16 → EQ (spCuts J q i k) d q (M + k) := fun k => by
  induction k with
  | zero => exact fun _ _ => h
  | succ k ih => exact fun a b => (ih (by omega) (by omega)).cut hd (by omega) (by omega)
theorem plus2 (i k : Nat) : (nI (i + 2 * k) + 2 : Int32) = nI (i + 2 * (k + 1)) := by rw [show (2 : Int32) = nI 2 from rfl, nI_add]; congr 1
/-- the class -/
theorem c_addBounds {d p q m n4 : Nat} {Q : Sto → Prop} (h4 : n4 = 4) (h : FQ T J d p q m) (hd : d < 2) (hm : m + 5 ≤ 16) (hQ : ∀ T' m', Ev T T' → m' ≤ m + 5 → FQ T' (spAll (spBnds J q (1 - d) n4) d q) d p q m' → Q T') : Cv K4_addBounds [vr 0, vr (20 + 3 * d), vr p] T Q := by
  have p79 := h.p79
  have hR := h.2.1
  have e0 : gI T (20 + 3 * d) 0 = nI d := (hR.d hd).2.2.1
  refine e4_addBounds hR.f (hR.f.sd hd) h.2.2.1.1 (fun X O => ?_)
  rw [e0, sub_one' d hd]
  have loop : ∀ (b k : Nat) (U : Sto) (m' : Nat), k + b = n4 → m' ≤ m + k → Ev T U → FQ U (spBnds J q (1 - d) k) d p q m' → WP X 7 [(0, vr 0), (1, vr (20 + 3 * d)), (2, vr p), (3, vi (nI (1 - d + 2 * k)))] [] U 0 0 := by
    intro b
    induction b with
    | zero =>
      intro k U m' hk hm' E F
      obtain rfl : k = n4 := by omega
      have R := F.2.1
      have g0 : gI U (20 + 3 * d) 0 = nI d := (R.d hd).2.2.1
      refine s4_addBounds_7 R.f (by rw [E.2.1]; exact Nat.le_refl _) O (R.f.sd hd) F.2.2.1.1 ⟨fun _ => ?_, fun hc => absurd (nle (N := 8) (by omega) (by omega)) hc⟩
      refine c_readBy R.f hd g0 ?_
      rw [R.sm39 (by omega)]
      have e10 : gI U (20 + 3 * d) 10 = spBnds J q (1 - d) k 58 d := (R.d hd).1 10 (by decide)
      have e7 : gI U 0 7 = spBnds J q (1 - d) k 26 2 := R.g 7 (by decide)
      rw [e10, e7]
      unfold spAll at hQ
      refine ⟨fun c => ?_, fun c => ?_⟩
      · rw [if_pos c] at hQ
        exact hQ U m' E (by omega) F
      · rw [if_neg c] at hQ
        refine c_addQ F (by omega) (z := 5) (by decide) rfl (fun hf => ⟨fun _ => ?_, fun z => absurd rfl z⟩) (fun hf => ⟨fun z => absurd z (by decide), fun _ => ?_⟩)
        · rw [if_neg hf] at hQ
          exact hQ U m' E (by omega) F
        · rw [if_pos hf] at hQ
          exact hQ _ (m' + 1) (E.tr (((adS_ev p79).p (by omega)).p (by omega))) (by omega) (F.all hd (by omega) hf)
    | succ b ih =>
      intro k U m' hk hm' E F
      have R := F.2.1
      have hi : 1 - d + 2 * k < 8 := by omega
      have e14 : gI U (3 + 2 * (1 - d + 2 * k)) 14 = spBnds J q (1 - d) k 41 (1 - d + 2 * k) := (R.s hi).1 14 (by decide)
      have e12 : gI U (3 + 2 * (1 - d + 2 * k)) 12 = spBnds J q (1 - d) k 39 (1 - d + 2 * k) := (R.s hi).1 12 (by decide)
      have e6 : gI U 0 6 = spBnds J q (1 - d) k 26 1 := R.g 6 (by decide)
      refine s4_addBounds_7 R.f (by rw [E.2.1]; exact Nat.le_refl _) O (R.f.sd hd) F.2.2.1.1 ⟨fun hc => absurd hc (nge hi (by decide)), fun _ => ⟨ixN hi (by decide), ?_⟩⟩
      rw [tnN (by omega), e14, e12, e6, plus2]
      have st : ∀ (V : Sto) (m'' : Nat), m'' ≤ m + (k + 1) → Ev T V → FQ V (spBnd (spBnds J q (1 - d) k) q (1 - d + 2 * k)) d p q m'' → WP X 7 [(0, vr 0), (1, vr (20 + 3 * d)), (2, vr p), (3, vi (nI (1 - d + 2 * (k + 1))))] [] V 0 0 := fun V m'' a b c => ih (k + 1) V m'' (by omega) a b c
      unfold spBnd at st
      refine ⟨fun c => ?_, fun c => ?_⟩
      · rw [if_pos c] at st
        exact st U m' (by omega) E F
      · rw [if_neg c] at st
        refine c_addQ F (by omega) (z := 5) (by decide) rfl (fun hf => ⟨fun _ => ?_, fun z => absurd rfl z⟩) (fun hf => ⟨fun z => absurd z (by decide), fun _ => ?_⟩)
        · rw [if_neg hf] at st
          exact st U m' (by omega) E F
        · rw [if_pos hf] at st
          have v12 : gI (pI (adS U p m' 2 (nI 5) (nI (1 - d + 2 * k)) (spBnds J q (1 - d) k 39 (1 - d + 2 * k) + spBnds J q (1 - d) k 26 1) 0 (spBnds J q (1 - d) k 68 q)) (3 + 2 * (1 - d + 2 * k)) 14 0) (3 + 2 * (1 - d + 2 * k)) 12 = spBnds J q (1 - d) k 39 (1 - d + 2 * k) := by
            rw [gI_eq, upd_at, if_neg (by decide), adS_o (by omega) (by omega)]; exact e12
          have v6 : gI (pI (adS U p m' 2 (nI 5) (nI (1 - d + 2 * k)) (spBnds J q (1 - d) k 39 (1 - d + 2 * k) + spBnds J q (1 - d) k 26 1) 0 (spBnds J q (1 - d) k 68 q)) (3 + 2 * (1 - d + 2 * k)) 14 0) 0 6 = spBnds J q (1 - d) k 26 1 := by
            rw [gI_ne (by omega), adS_o (by omega) (by omega)]; exact e6
          have hv : (gI (pI (adS U p m' 2 (nI 5) (nI (1 - d + 2 * k)) (spBnds J q (1 - d) k 39 (1 - d + 2 * k) + spBnds J q (1 - d) k 26 1) 0 (spBnds J q (1 - d) k 68 q)) (3 + 2 * (1 - d + 2 * k)) 14 0) (3 + 2 * (1 - d + 2 * k)) 12 + gI (pI (adS U p m' 2 (nI 5) (nI (1 - d + 2 * k)) (spBnds J q (1 - d) k 39 (1 - d + 2 * k) + spBnds J q (1 - d) k 26 1) 0 (spBnds J q (1 - d) k 68 q)) (3 + 2 * (1 - d + 2 * k)) 14 0) 0 6) = spBnds J q (1 - d) k 39 (1 - d + 2 * k) + spBnds J q (1 - d) k 26 1 := by rw [v12, v6]
          have := st _ (m' + 1) (by omega) (E.tr (((adS_ev p79).p (by omega)).p (by omega))) (F.bnd hd (by omega) hi hf)
          rw [← hv] at this
          rw [hv] at this ⊢
          exact this
  exact loop n4 0 T m (by omega) (by omega) Ev.rf h
theorem c_addCutOffs {d p q m n4 : Nat} {Q : Sto → Prop} (h4 : n4 = 4) (h : FQ T J d p q m) (hd : d < 2) (hm : m + 4 ≤ 16) (hQ : ∀ T' m', Ev T T' → m' ≤ m + 4 → FQ T' (spCuts J q d n4) d p q m' → Q T') : Cv K4_addCutOffs [vr 0, vr (20 + 3 * d), vr p] T Q := by
  have p79 := h.p79
  have hR := h.2.1
  have e0 : gI T (20 + 3 * d) 0 = nI d := (hR.d hd).2.2.1
  refine e4_addCutOffs hR.f (hR.f.sd hd) h.2.2.1.1 (fun X O => ?_)
  rw [e0]
  have loop : ∀ (b k : Nat) (U : Sto) (m' : Nat), k + b = n4 → m' ≤ m + k → Ev T U → FQ U (spCuts J q d k) d p q m' → WP X 5 [(0, vr 0), (2, vr p), (3, vi (nI (d + 2 * k)))] [] U 0 0 := by
    intro b
    induction b with
    | zero =>
      intro k U m' hk hm' E F
      obtain rfl : k = n4 := by omega
      exact s4_addCutOffs_5 F.2.1.f (by rw [E.2.1]; exact Nat.le_refl _) O F.2.2.1.1 ⟨fun _ => hQ U m' E (by omega) F, fun hc => absurd (nle (N := 8) (by omega) (by omega)) hc⟩
    | succ b ih =>
      intro k U m' hk hm' E F
      have R := F.2.1
      have hi : d + 2 * k < 8 := by omega
      have e4 : gI U (3 + 2 * (d + 2 * k)) 4 = spCuts J q d k 30 (d + 2 * k) := (R.s hi).1 4 (by decide)
      refine s4_addCutOffs_5 R.f (by rw [E.2.1]; exact Nat.le_refl _) O F.2.2.1.1 ⟨fun hc => absurd hc (nge hi (by decide)), fun _ => ⟨ixN hi (by decide), ?_⟩⟩
      rw [tnN (by omega), e4, plus2]
      have st : ∀ (V : Sto) (m'' : Nat), m'' ≤ m + (k + 1) → Ev T V → FQ V (spCut (spCuts J q d k) q (d + 2 * k)) d p q m'' → WP X 5 [(0, vr 0), (2, vr p), (3, vi (nI (d + 2 * (k + 1))))] [] V 0 0 := fun V m'' a b c => ih (k + 1) V m'' (by omega) a b c
      unfold spCut at st
      refine ⟨fun c => ?_, fun c => ?_⟩
      · rw [if_pos c] at st
        exact st U m' (by omega) E F
      · rw [if_neg c] at st
        refine c_addQ F (by omega) (z := 7) (by decide) rfl (fun hf => ⟨fun _ => ?_, fun z => absurd rfl z⟩) (fun hf => ⟨fun z => absurd z (by decide), fun _ => ?_⟩)
        · rw [if_neg hf] at st
          exact st U m' (by omega) E F
        · rw [if_pos hf] at st
          exact st _ (m' + 1) (by omega) (E.tr ((adS_ev p79).p (by omega))) (F.cut hd (by omega) hi hf)
  exact loop n4 0 T m (by omega) (by omega) Ev.rf h
/-- the reference -/
theorem m_cuts {X : Ctx} {S0 : Sto} {d q M n4 : Nat} {Q : Sto → Prop} (h4 : n4 = 4) (hF : Fx T) (hS : sN S0 ≤ sN T) (O : Ov X K5_putBounds S0 Q) (h : EQ J d q M) (hd : d < 2) (hM : M + 4 ≤ 16) (hQ : Q (wJ T (spCuts J q d n4))) : WP X 126 [(0, vr 26), (2, vi (nI d))] [] (wJ T J) 0 0 := by
  have cuts : ∀ (b k : Nat), k + b = n4 → WP X 126 [(0, vr 26), (2, vi (nI (d + 2 * k)))] [] (wJ T (spCuts J q d k)) 0 0 := by
    intro b
    induction b with
    | zero =>
      intro k hk
      obtain rfl : k = n4 := by omega
      exact s5_putBounds_126 (S := wJ T (spCuts J q d k)) (FxJ hF) hS O ⟨fun _ => hQ, fun hc => absurd (nle (N := 8) (by omega) (by omega)) hc⟩
    | succ b ih =>
      intro k hk
      have ih2 := ih (k + 1) (by omega)
      have hi : d + 2 * k < 8 := by omega
      have hE := h.cuts hd (i := d) hd k (by omega) (by omega)
      obtain ⟨m, hm, hMq⟩ := hE.mq hd
      refine s5_putBounds_126 (S := wJ T (spCuts J q d k)) (FxJ hF) hS O ⟨fun hc => absurd hc (nge hi (by decide)), fun _ => ⟨ixN hi (by decide), ?_⟩⟩
      rw [tnN (show d + 2 * k < 2 ^ 31 by omega), gI_wm (a := 30) (by decide), plus2]
      have ek : spCuts J q d (k + 1) = spCut (spCuts J q d k) q (d + 2 * k) := rfl
      rw [ek] at ih2
      revert ih2 hMq
      generalize spCuts J q d k = K
      intro ih2 hMq
      unfold spCut at ih2
      refine ⟨fun c => ?_, fun c => ?_⟩
      · rw [if_pos c] at ih2; exact ih2
      · rw [if_neg c] at ih2
        refine m_put (z := 7) hF hMq (by omega) (by decide) (fun hf => ⟨fun _ => ?_, fun z => absurd rfl z⟩) (fun hf => ⟨fun z => absurd z (by decide), fun _ => ?_⟩)
        · rw [if_neg hf] at ih2; exact ih2
        · rw [if_pos hf] at ih2
          rw [pI_wJ (by decide)]; exact ih2
  exact cuts n4 0 (by omega)
theorem m_all {X : Ctx} {S0 : Sto} {d q M n4 i : Nat} {Q : Sto → Prop} (h4 : n4 = 4) (hF : Fx T) (hS : sN S0 ≤ sN T) (O : Ov X K5_putBounds S0 Q) (h : EQ J d q M) (hd : d < 2) (hM : M + 5 ≤ 16) (hi : 8 ≤ i) (hi2 : i < 100) (hQ : Q (wJ T (spCuts (spAll J d q) q d n4))) : WP X 4 [(0, vr 26), (1, vi (nI d)), (2, vi (nI i))] [] (wJ T J) 0 0 := by
  have td : (nI d).toNatClampNeg = d := tnN (by omega)
  obtain ⟨m, hm, hMq⟩ := h.mq hd
  refine s5_putBounds_4 (S := wJ T J) (FxJ hF) hS O ⟨fun _ => ⟨ixN hd (by decide), ?_⟩, fun hc => absurd (nle (N := 8) hi (by omega)) hc⟩
  rw [td, gI_wm (a := 58) (by decide)]
  have go := m_cuts h4 hF hS O (h.all hd (by omega)) hd (by omega) hQ
  unfold spAll at go
  refine ⟨fun c => ?_, fun c => ?_⟩
  · rw [if_pos c] at go; exact go
  · rw [if_neg c] at go
    refine m_allRead hF hd ?_
    rw [gI_wm (a := 26) (by decide)]
    refine m_put (z := 5) hF hMq (by omega) (by decide) (fun hf => ⟨fun _ => ?_, fun z => absurd rfl z⟩) (fun hf => ⟨fun z => absurd z (by decide), fun _ => ?_⟩)
    · rw [if_neg hf] at go; exact go
    · rw [if_pos hf] at go
      rw [pI_wJ (by decide)]
      refine m_allRead hF hd ?_
      rw [gI_wm (a := 26) (by decide), pI_wJ (by decide), uJ_ne (show (39 : Nat) ≠ 58 by decide), uJ_ne (show (26 : Nat) ≠ 58 by decide), spPut_ne (r := 39) (by decide) (by decide) (by decide) (by decide), spPut_ne (r := 26) (by decide) (by decide) (by decide) (by decide)]
      exact go
theorem m_putBounds {d q M n4 : Nat} {Q : Sto → Prop} (h4 : n4 = 4) (hF : Fx T) (h : EQ J d q M) (hd : d < 2) (hM : M + 9 ≤ 16) (hQ : Q (wJ T (spCuts (spAll (spBnds J q (1 - d) n4) d q) q d n4))) : Cv K5_putBounds [vr 26, vi (nI d)] (wJ T J) Q := by
  refine e5_putBounds (FxJ hF) (fun X O => ?_)
  rw [sub_one' d hd]
  have loop : ∀ (b k : Nat), k + b = n4 → WP X 4 [(0, vr 26), (1, vi (nI d)), (2, vi (nI (1 - d + 2 * k)))] [] (wJ T (spBnds J q (1 - d) k)) 0 0 := by
    intro b
    induction b with
    | zero =>
      intro k hk
      obtain rfl : k = n4 := by omega
      exact m_all h4 hF (Nat.le_refl _) O (h.bnds hd (i := 1 - d) (by omega) k (by omega) (by omega)) hd (by omega) (by omega) (by omega) hQ
    | succ b ih =>
      intro k hk
      have ih2 := ih (k + 1) (by omega)
      have hi : 1 - d + 2 * k < 8 := by omega
      have hE := h.bnds hd (i := 1 - d) (by omega) k (by omega) (by omega)
      obtain ⟨m, hm, hMq⟩ := hE.mq hd
      refine s5_putBounds_4 (S := wJ T (spBnds J q (1 - d) k)) (FxJ hF) (Nat.le_refl _) O ⟨fun hc => absurd hc (nge hi (by decide)), fun _ => ⟨ixN hi (by decide), ?_⟩⟩
      rw [tnN (show 1 - d + 2 * k < 2 ^ 31 by omega), gI_wm (a := 41) (by decide), gI_wm (a := 39) (by decide), gI_wm (a := 26) (by decide), plus2]
      have ek : spBnds J q (1 - d) (k + 1) = spBnd (spBnds J q (1 - d) k) q (1 - d + 2 * k) := rfl
      rw [ek] at ih2
      revert ih2 hMq
      generalize spBnds J q (1 - d) k = K
      intro ih2 hMq
      unfold spBnd at ih2
      refine ⟨fun c => ?_, fun c => ?_⟩
      · rw [if_pos c] at ih2; exact ih2
      · rw [if_neg c] at ih2
        refine m_put (z := 5) hF hMq (by omega) (by decide) (fun hf => ⟨fun _ => ?_, fun z => absurd rfl z⟩) (fun hf => ⟨fun z => absurd z (by decide), fun _ => ?_⟩)
        · rw [if_neg hf] at ih2; exact ih2
        · rw [if_pos hf] at ih2
          rw [gI_wm (a := 39) (by decide), gI_wm (a := 26) (by decide), pI_wJ (by decide), pI_wJ (by decide), spPut_ne (r := 39) (by decide) (by decide) (by decide) (by decide), spPut_ne (r := 26) (by decide) (by decide) (by decide) (by decide)]
          exact ih2
  exact loop n4 0 (by omega)
end OWED
