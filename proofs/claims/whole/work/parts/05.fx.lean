/-! the constant references, and the typing of the arrays of Packets -/
def mA (k : Nat) : Nat := if k < 44 then k + 22 else if k < 62 then k + 16 else 78
def Fx (S : Sto) : Prop :=
  79 ≤ sN S ∧ (sN S - 79) % 3 = 0 ∧ gR S 0 0 = some 2 ∧ gR S 0 1 = some 19 ∧ gR S 0 2 = some 1 ∧
  (∀ i, i < 8 → gR S 2 i = some (3 + 2 * i)) ∧ (∀ d, d < 2 → gR S 19 d = some (20 + 3 * d)) ∧
  (∀ a, al S a 3 → gR S a 0 = some (a + 1)) ∧
  (∀ a, al S a 2 → gR S a 1 = some (a + 1) ∧ gR S a 2 = some (a + 2)) ∧
  (∀ a, al S a 1 → gR S a 5 = some (a + 1) ∧ gR S a 6 = some (a + 2)) ∧
  (∀ k, k < 65 → isR 5 k = true → gR S 26 k = some (mA k)) ∧
  (∀ a j b, al S a 9 → gR S a j = some b → al S b 1)
theorem kd_hi {a : Nat} (h : 79 ≤ a) : kd a = 1 ∨ kd a = 7 := by
  unfold kd
  rw [if_neg (by omega)]
  by_cases e : (a - 79) % 3 = 0
  · rw [if_pos e]; exact Or.inl rfl
  · rw [if_neg e]; exact Or.inr rfl
theorem kd3_t : ∀ a, a < 79 → kd a = 3 → kd (a + 1) = 6 ∧ ln (a + 1) = 1000 := by decide +kernel
theorem kd2_t : ∀ a, a < 79 → kd a = 2 → kd (a + 1) = 9 ∧ ln (a + 1) = 300 ∧ kd (a + 2) = 0 := by decide +kernel
theorem kd1_t : ∀ a, a < 79 → ¬ kd a = 1 := by decide +kernel
theorem kd3 {a : Nat} (h : kd a = 3) : kd (a + 1) = 6 ∧ ln (a + 1) = 1000 := by
  rcases Nat.lt_or_ge a 79 with q | q
  · exact kd3_t a q h
  · rcases kd_hi q with e | e <;> omega
theorem kd2 {a : Nat} (h : kd a = 2) : kd (a + 1) = 9 ∧ ln (a + 1) = 300 ∧ kd (a + 2) = 0 := by
  rcases Nat.lt_or_ge a 79 with q | q
  · exact kd2_t a q h
  · rcases kd_hi q with e | e <;> omega
theorem kd1 {a : Nat} (h : kd a = 1) : 79 ≤ a ∧ (a - 79) % 3 = 0 ∧ kd (a + 1) = 7 ∧ ln (a + 1) = 64 ∧ kd (a + 2) = 7 ∧ ln (a + 2) = 8 := by
  rcases Nat.lt_or_ge a 79 with q | q
  · exact absurd h (kd1_t a q)
  · have e : (a - 79) % 3 = 0 := by
      by_cases e : (a - 79) % 3 = 0
      · exact e
      · unfold kd at h
        rw [if_neg (by omega), if_neg e] at h
        omega
    refine ⟨q, e, ?_, ?_, ?_, ?_⟩
    · unfold kd; rw [if_neg (by omega), if_neg (by omega)]
    · unfold ln; rw [if_neg (by omega), if_pos (by omega)]
    · unfold kd; rw [if_neg (by omega), if_neg (by omega)]
    · unfold ln; rw [if_neg (by omega), if_neg (by omega)]
theorem kd1_lt {a n : Nat} (h : kd a = 1) (hn : (n - 79) % 3 = 0) (h79 : 79 ≤ n) (ha : a < n) : a + 2 < n := by
  obtain ⟨h1, h2, -⟩ := kd1 h
  omega
section FXL
variable {S : Sto} {a : Nat}
theorem Fx.k (h : Fx S) {a c : Nat} (ha : a < 79) (hk : kd a = c) : al S a c := ⟨Nat.lt_of_lt_of_le ha h.1, hk⟩
theorem al.mono {S1 : Sto} {a c : Nat} (h : al S a c) (hn : sN S ≤ sN S1) : al S1 a c := ⟨Nat.lt_of_lt_of_le h.1 hn, h.2⟩
theorem kd_st : ∀ i, i < 8 → kd (3 + 2 * i) = 3 := by decide +kernel
theorem kd_sd : ∀ i, i < 2 → kd (20 + 3 * i) = 2 := by decide +kernel
theorem Fx.st (h : Fx S) {i : Nat} (hi : i < 8) : al S (3 + 2 * i) 3 := h.k (by omega) (kd_st i hi)
theorem Fx.sd (h : Fx S) {i : Nat} (hi : i < 2) : al S (20 + 3 * i) 2 := h.k (by omega) (kd_sd i hi)
theorem Fx.stI (h : Fx S) {x : Int32} (hi : 0 ≤ x.toInt ∧ x.toInt < (8 : Nat)) : al S (3 + 2 * x.toNatClampNeg) 3 := h.st (ix_lt hi)
theorem Fx.sdI (h : Fx S) {x : Int32} (hi : 0 ≤ x.toInt ∧ x.toInt < (2 : Nat)) : al S (20 + 3 * x.toNatClampNeg) 2 := h.sd (ix_lt hi)
theorem Fx.c0 (h : Fx S) : gR S 0 0 = some 2 := h.2.2.1
theorem Fx.c1 (h : Fx S) : gR S 0 1 = some 19 := h.2.2.2.1
theorem Fx.c2 (h : Fx S) : gR S 0 2 = some 1 := h.2.2.2.2.1
theorem Fx.stR (h : Fx S) {i : Nat} (hi : i < 8) : gR S 2 i = some (3 + 2 * i) := h.2.2.2.2.2.1 i hi
theorem Fx.sdR (h : Fx S) {i : Nat} (hi : i < 2) : gR S 19 i = some (20 + 3 * i) := h.2.2.2.2.2.2.1 i hi
theorem Fx.stRI (h : Fx S) {x : Int32} (hi : 0 ≤ x.toInt ∧ x.toInt < (8 : Nat)) : gR S 2 x.toNatClampNeg = some (3 + 2 * x.toNatClampNeg) := h.stR (ix_lt hi)
theorem Fx.sdRI (h : Fx S) {x : Int32} (hi : 0 ≤ x.toInt ∧ x.toInt < (2 : Nat)) : gR S 19 x.toNatClampNeg = some (20 + 3 * x.toNatClampNeg) := h.sdR (ix_lt hi)
theorem Fx.rowR (h : Fx S) (ha : al S a 3) : gR S a 0 = some (a + 1) := h.2.2.2.2.2.2.2.1 a ha
theorem Fx.pksR (h : Fx S) (ha : al S a 2) : gR S a 1 = some (a + 1) := (h.2.2.2.2.2.2.2.2.1 a ha).1
theorem Fx.paceR (h : Fx S) (ha : al S a 2) : gR S a 2 = some (a + 2) := (h.2.2.2.2.2.2.2.2.1 a ha).2
theorem Fx.partsR (h : Fx S) (ha : al S a 1) : gR S a 5 = some (a + 1) := (h.2.2.2.2.2.2.2.2.2.1 a ha).1
theorem Fx.spansR (h : Fx S) (ha : al S a 1) : gR S a 6 = some (a + 2) := (h.2.2.2.2.2.2.2.2.2.1 a ha).2
theorem Fx.mR (h : Fx S) {k b : Nat} (hk : k < 65) (hr : isR 5 k = true) (hb : mA k = b) : gR S 26 k = some b := by rw [← hb]; exact h.2.2.2.2.2.2.2.2.2.2.1 k hk hr
theorem Fx.pk (h : Fx S) {j b : Nat} (ha : al S a 9) (hb : gR S a j = some b) : al S b 1 := h.2.2.2.2.2.2.2.2.2.2.2 a j b ha hb
theorem lt_add {n m : Nat} (h : m ≤ 79) (h2 : 79 ≤ n) (q : a < m) : a < n := by omega
theorem kd3_lt {a : Nat} (h : kd a = 3) : a + 1 < 79 := by
  have t : ∀ a, a < 79 → kd a = 3 → a + 1 < 79 := by decide +kernel
  rcases Nat.lt_or_ge a 79 with q | q
  · exact t a q h
  · rcases kd_hi q with e | e <;> omega
theorem kd2_lt {a : Nat} (h : kd a = 2) : a + 2 < 79 := by
  have t : ∀ a, a < 79 → kd a = 2 → a + 2 < 79 := by decide +kernel
  rcases Nat.lt_or_ge a 79 with q | q
  · exact t a q h
  · rcases kd_hi q with e | e <;> omega
theorem Fx.row (h : Fx S) (ha : al S a 3) : al S (a + 1) 6 := h.k (kd3_lt ha.2) (kd3 ha.2).1
theorem Fx.rowL (ha : al S a 3) : ln (a + 1) = 1000 := (kd3 ha.2).2
theorem Fx.pks (h : Fx S) (ha : al S a 2) : al S (a + 1) 9 := h.k (by have := kd2_lt ha.2; omega) (kd2 ha.2).1
theorem Fx.pksL (ha : al S a 2) : ln (a + 1) = 300 := (kd2 ha.2).2.1
theorem Fx.pace (h : Fx S) (ha : al S a 2) : al S (a + 2) 0 := h.k (kd2_lt ha.2) (kd2 ha.2).2.2
theorem Fx.parts (h : Fx S) (ha : al S a 1) : al S (a + 1) 7 := ⟨by have := kd1_lt ha.2 h.2.1 h.1 ha.1; omega, (kd1 ha.2).2.2.1⟩
theorem Fx.partsL (ha : al S a 1) : ln (a + 1) = 64 := (kd1 ha.2).2.2.2.1
theorem Fx.spans (h : Fx S) (ha : al S a 1) : al S (a + 2) 7 := ⟨kd1_lt ha.2 h.2.1 h.1 ha.1, (kd1 ha.2).2.2.2.2.1⟩
theorem Fx.spansL (ha : al S a 1) : ln (a + 2) = 8 := (kd1 ha.2).2.2.2.2.2
theorem Fx.put9 (h : Fx S) {k : Nat} {o : Option Nat} (ha : al S a 9) (hb : ∀ b, o = some b → al S b 1) : Fx (pR S a k o) := by
  have hne : ∀ x, kd x ≠ 9 → gR (pR S a k o) x = gR S x := fun x hx => by
    rw [gR_pR, if_neg (fun e => hx (by rw [e]; exact ha.2))]
  obtain ⟨h1, h2, h3, h4, h5, h6, h7, h8, h9, h10, h11, h12⟩ := h
  refine ⟨h1, h2, ?_, ?_, ?_, ?_, ?_, ?_, ?_, ?_, ?_, ?_⟩
  · rw [hne 0 (by decide)]; exact h3
  · rw [hne 0 (by decide)]; exact h4
  · rw [hne 0 (by decide)]; exact h5
  · rw [hne 2 (by decide)]; exact h6
  · rw [hne 19 (by decide)]; exact h7
  · intro x hx; rw [hne x (by rw [hx.2]; decide)]; exact h8 x hx
  · intro x hx; rw [hne x (by rw [hx.2]; decide)]; exact h9 x hx
  · intro x hx; rw [hne x (by rw [hx.2]; decide)]; exact h10 x hx
  · intro x hx hr; rw [hne 26 (by decide)]; exact h11 x hx hr
  · intro x j b hx hg
    rw [gR_pR] at hg
    by_cases e : x = a
    · rw [if_pos e] at hg
      unfold va_up at hg
      by_cases e2 : j = k
      · rw [if_pos e2] at hg; exact hb b hg
      · rw [if_neg e2] at hg; exact h12 a j b ha hg
    · rw [if_neg e] at hg; exact h12 x j b hx hg
theorem Fx.put9s (h : Fx S) {k b : Nat} (ha : al S a 9) (hb : al S b 1) : Fx (pR S a k (some b)) := h.put9 ha (fun c e => by cases e; exact hb)
theorem Fx.put9n (h : Fx S) {k : Nat} (ha : al S a 9) : Fx (pR S a k none) := h.put9 ha (fun c e => by cases e)
end FXL
/-! calls and ends by the kind of the answer; the constant references stay -/
def Ci (K : Mt) (av : List AV) (S : Sto) (Q : Int32 → Sto → Prop) : Prop := CALL K av S (fun r S' => ∃ x, r = some (vi x) ∧ Fx S' ∧ sN S ≤ sN S' ∧ Q x S')
def Co (K : Mt) (av : List AV) (S : Sto) (Q : Option Nat → Sto → Prop) : Prop := CALL K av S (fun r S' => ∃ x, r = some (vo x) ∧ Fx S' ∧ sN S ≤ sN S' ∧ Q x S')
def Cv (K : Mt) (av : List AV) (S : Sto) (Q : Sto → Prop) : Prop := CALL K av S (fun r S' => r = none ∧ Fx S' ∧ sN S ≤ sN S' ∧ Q S')
def Oi (X : Ctx) (K : Mt) (S : Sto) (Q : Int32 → Sto → Prop) : Prop := Ok X K (fun r S' => ∃ x, r = some (vi x) ∧ Fx S' ∧ sN S ≤ sN S' ∧ Q x S')
def Oo (X : Ctx) (K : Mt) (S : Sto) (Q : Option Nat → Sto → Prop) : Prop := Ok X K (fun r S' => ∃ x, r = some (vo x) ∧ Fx S' ∧ sN S ≤ sN S' ∧ Q x S')
def Ov (X : Ctx) (K : Mt) (S : Sto) (Q : Sto → Prop) : Prop := Ok X K (fun r S' => r = none ∧ Fx S' ∧ sN S ≤ sN S' ∧ Q S')
theorem CALL.mono {K : Mt} {av : List AV} {S : Sto} {Q Q' : Option AV → Sto → Prop} (h : CALL K av S Q) (hq : ∀ r S', Q r S' → Q' r S') : CALL K av S Q' := by
  intro l D z
  have h0 := h l D z
  intro p e a1 a2 a3 s m args below hf hh hP b1
  obtain ⟨t, o, c1, c2, c3, c4⟩ := h0 p e a1 a2 a3 s m args below hf hh hP b1
  refine ⟨t, o, c1, c2, c3, ?_⟩
  obtain ⟨⟨⟨r, S', e1, e2, e3⟩, d2⟩, d3⟩ := c4
  exact ⟨⟨⟨r, S', e1, hq r S' e2, e3⟩, d2⟩, d3⟩
theorem Ci.mono {K : Mt} {av : List AV} {S : Sto} {Q Q' : Int32 → Sto → Prop} (h : Ci K av S Q) (hq : ∀ x S', Fx S' → sN S ≤ sN S' → Q x S' → Q' x S') : Ci K av S Q' := CALL.mono h (fun r S' ⟨x, e, hF, hn, q⟩ => ⟨x, e, hF, hn, hq x S' hF hn q⟩)
theorem Co.mono {K : Mt} {av : List AV} {S : Sto} {Q Q' : Option Nat → Sto → Prop} (h : Co K av S Q) (hq : ∀ x S', Fx S' → sN S ≤ sN S' → Q x S' → Q' x S') : Co K av S Q' := CALL.mono h (fun r S' ⟨x, e, hF, hn, q⟩ => ⟨x, e, hF, hn, hq x S' hF hn q⟩)
theorem Cv.mono {K : Mt} {av : List AV} {S : Sto} {Q Q' : Sto → Prop} (h : Cv K av S Q) (hq : ∀ S', Fx S' → sN S ≤ sN S' → Q S' → Q' S') : Cv K av S Q' := CALL.mono h (fun r S' ⟨e, hF, hn, q⟩ => ⟨e, hF, hn, hq S' hF hn q⟩)
theorem Ci.intro {K : Mt} {av : List AV} {S : Sto} {Q : Int32 → Sto → Prop} (hp : plainName (ko K) = true) (hn : avn av ≤ kL K) (h : ∀ X : Ctx, Oi X K S Q → WP X 0 (avl 0 av) [] S 0 0) : Ci K av S Q := CALL.intro hp hn h
theorem Co.intro {K : Mt} {av : List AV} {S : Sto} {Q : Option Nat → Sto → Prop} (hp : plainName (ko K) = true) (hn : avn av ≤ kL K) (h : ∀ X : Ctx, Oo X K S Q → WP X 0 (avl 0 av) [] S 0 0) : Co K av S Q := CALL.intro hp hn h
theorem Cv.intro {K : Mt} {av : List AV} {S : Sto} {Q : Sto → Prop} (hp : plainName (ko K) = true) (hn : avn av ≤ kL K) (h : ∀ X : Ctx, Ov X K S Q → WP X 0 (avl 0 av) [] S 0 0) : Cv K av S Q := CALL.intro hp hn h
section ROWS2
variable {X : Ctx} {K : Mt} {pc : Nat} {loc : List (Nat × AV)} {st : List AV} {S S0 : Sto} {u v : Nat}
theorem ri {Q : Int32 → Sto → Prop} (O : Oi X K S0 Q) {x : Int32} (hr : ∃ ty, kT K = some ty ∧ narrow ty (.int x) = .int x) (hd : decode (kc K) pc = .ok (.ireturn, 1)) (hu : u ≤ (kR K).cells) (hv : v ≤ (kR K).slots) (hF : Fx S) (hn : sN S0 ≤ sN S) (h : Q x S) : WP X pc loc [vi x] S u v := r_iret O hr hd hu hv ⟨x, rfl, hF, hn, h⟩
theorem ra {Q : Option Nat → Sto → Prop} (O : Oo X K S0 Q) {x : Option Nat} (hr : ∃ n, kT K = some (.object n)) (hd : decode (kc K) pc = .ok (.areturn, 1)) (hu : u ≤ (kR K).cells) (hv : v ≤ (kR K).slots) (hF : Fx S) (hn : sN S0 ≤ sN S) (h : Q x S) : WP X pc loc [vo x] S u v := r_aret O hr hd hu hv ⟨x, rfl, hF, hn, h⟩
theorem rv {Q : Sto → Prop} (O : Ov X K S0 Q) (hr : kT K = none) (hd : decode (kc K) pc = .ok (.return_, 1)) (hu : u ≤ (kR K).cells) (hv : v ≤ (kR K).slots) (hF : Fx S) (hn : sN S0 ≤ sN S) (h : Q S) : WP X pc loc [] S u v := r_vret O hr hd hu hv ⟨rfl, hF, hn, h⟩
theorem nar_z {x : Int32} (h : x = 0 ∨ x = 1) : narrow .boolean (.int x) = .int x := by rcases h with rfl | rfl <;> rfl
def Z0 (K : Mt) : Prop := (kR K).cells = 0 ∧ (kR K).slots = 0
theorem r_callVi (C : Cx X K) (K' : Mt) {idx : Nat} {a c : Nat} (av rest : List AV) {Q1 : Int32 → Sto → Prop} (ha : al S a c) (hc : c < 6) (hcc : RC c = ko K') (hcal : CalV (ko K) idx K' av.length) (hrm : Rm K K') (hz : Z0 K') (hu : u ≤ (kR K).cells) (hv : v ≤ (kR K).slots) (hst : st = av.reverse ++ vr a :: rest) (hrest : avn rest ≤ 8) (hd : decode (kc K) pc = .ok (.invokevirtual idx, 3)) (h : Ci K' (vr a :: av) S Q1) (hk : ∀ x S1, Fx S1 → sN S ≤ sN S1 → Q1 x S1 → WP X (pc + 3) loc (vi x :: rest) S1 u v) : WP X pc loc st S u v := by
  refine r_callV C K' rest ha hc hcc hcal hrm (by rw [hz.1]; exact hu) (by rw [hz.2]; exact hv) hst hrest hd (CALL.mono h fun r S' q => ?_)
  obtain ⟨x, rfl, hF, hn, q⟩ := q
  rw [hz.1, hz.2]
  exact hk x S' hF hn q
theorem r_callVo (C : Cx X K) (K' : Mt) {idx : Nat} {a c : Nat} (av rest : List AV) {Q1 : Option Nat → Sto → Prop} (ha : al S a c) (hc : c < 6) (hcc : RC c = ko K') (hcal : CalV (ko K) idx K' av.length) (hrm : Rm K K') (hz : Z0 K') (hu : u ≤ (kR K).cells) (hv : v ≤ (kR K).slots) (hst : st = av.reverse ++ vr a :: rest) (hrest : avn rest ≤ 8) (hd : decode (kc K) pc = .ok (.invokevirtual idx, 3)) (h : Co K' (vr a :: av) S Q1) (hk : ∀ x S1, Fx S1 → sN S ≤ sN S1 → Q1 x S1 → WP X (pc + 3) loc (vo x :: rest) S1 u v) : WP X pc loc st S u v := by
  refine r_callV C K' rest ha hc hcc hcal hrm (by rw [hz.1]; exact hu) (by rw [hz.2]; exact hv) hst hrest hd (CALL.mono h fun r S' q => ?_)
  obtain ⟨x, rfl, hF, hn, q⟩ := q
  rw [hz.1, hz.2]
  exact hk x S' hF hn q
theorem r_callVv (C : Cx X K) (K' : Mt) {idx : Nat} {a c : Nat} (av rest : List AV) {Q1 : Sto → Prop} (ha : al S a c) (hc : c < 6) (hcc : RC c = ko K') (hcal : CalV (ko K) idx K' av.length) (hrm : Rm K K') (hz : Z0 K') (hu : u ≤ (kR K).cells) (hv : v ≤ (kR K).slots) (hst : st = av.reverse ++ vr a :: rest) (hrest : avn rest ≤ 8) (hd : decode (kc K) pc = .ok (.invokevirtual idx, 3)) (h : Cv K' (vr a :: av) S Q1) (hk : ∀ S1, Fx S1 → sN S ≤ sN S1 → Q1 S1 → WP X (pc + 3) loc rest S1 u v) : WP X pc loc st S u v := by
  refine r_callV C K' rest ha hc hcc hcal hrm (by rw [hz.1]; exact hu) (by rw [hz.2]; exact hv) hst hrest hd (CALL.mono h fun r S' q => ?_)
  obtain ⟨rfl, hF, hn, q⟩ := q
  rw [hz.1, hz.2]
  exact hk S' hF hn q
theorem r_callSi (C : Cx X K) (K' : Mt) {idx : Nat} (av rest : List AV) {Q1 : Int32 → Sto → Prop} (hcal : CalS (ko K) idx K' av.length) (hrm : Rm K K') (hz : Z0 K') (hu : u ≤ (kR K).cells) (hv : v ≤ (kR K).slots) (hst : st = av.reverse ++ rest) (hrest : avn rest ≤ 8) (hd : decode (kc K) pc = .ok (.invokestatic idx, 3)) (h : Ci K' av S Q1) (hk : ∀ x S1, Fx S1 → sN S ≤ sN S1 → Q1 x S1 → WP X (pc + 3) loc (vi x :: rest) S1 u v) : WP X pc loc st S u v := by
  refine r_callS C K' rest hcal hrm (by rw [hz.1]; exact hu) (by rw [hz.2]; exact hv) hst hrest hd (CALL.mono h fun r S' q => ?_)
  obtain ⟨x, rfl, hF, hn, q⟩ := q
  rw [hz.1, hz.2]
  exact hk x S' hF hn q
theorem ix_const {x : Int32} {n : Nat} {k : Int} (hx : x.toInt = k) (h : 0 ≤ k ∧ k < n) : 0 ≤ x.toInt ∧ x.toInt < n := by rw [hx]; exact h
end ROWS2
theorem ixL {a n : Nat} {i : Int32} (hl : ln a = n) (h : 0 ≤ i.toInt ∧ i.toInt < (n : Nat)) : 0 ≤ i.toInt ∧ i.toInt < ln a := by rw [hl]; exact h
