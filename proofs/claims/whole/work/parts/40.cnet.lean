section CNET
variable {T : Sto} {J : Rows}
/-- what is under way changes, and how much it is -/
theorem Rel.net {T' : Sto} {J' : Rows} {x : Int32} (h : Rel T J) (hF : Fx T') (hsn : sN T' = sN T) (hI : ∀ a, gI T' a = gI (pI T 0 3 x) a) (hR : ∀ a, a ≠ 1 → gR T' a = gR T a) (hJ : ∀ r, r ≠ 76 → r ≠ 77 → J' r = uJ J 26 62 x r) (hx : upTo x 400) (hN : RNt T' J') : Rel T' J' := by
  have e : ∀ r, r ≠ 26 → r ≠ 76 → r ≠ 77 → J' r = J r := fun r hr h1 h2 => by rw [hJ r h1 h2]; exact uJ_ne hr
  have g : ∀ j, j ≠ 62 → J' 26 j = J 26 j := fun j hj => by rw [hJ 26 (by decide) (by decide)]; exact uJ_off _ _ (Or.inr hj)
  have g62 : J' 26 62 = x := by rw [hJ 26 (by decide) (by decide)]; exact uJ_same
  have i : ∀ a, a ≠ 0 → gI T' a = gI T a := fun a ha => by rw [hI a]; exact gI_ne ha
  have nm : ∀ d, num J' d = num J d := fun d => num_of (by rw [e 44 (by decide) (by decide) (by decide)])
  refine h.chg hF (fun d _ => nm d) (by omega) (fun i _ => frs_eq (e 31 (by decide) (by decide) (by decide)) i) (fun j hj => Or.inl ⟨i _ (by omega), i _ (by omega), fun r a b _ _ => by rw [e r (by omega) (by omega) (by omega)], fun k _ => ⟨by unfold byt; rw [e 36 (by decide) (by decide) (by decide)], by unfold cam; rw [e 37 (by decide) (by decide) (by decide)]⟩⟩)
    (fun d hd => Or.inl ⟨i _ (by omega), i _ (by omega), fun r a b => by rw [e r (by omega) (by omega) (by omega)], fun n _ => ⟨by rw [e 70 (by decide) (by decide) (by decide)], by rw [e 71 (by decide) (by decide) (by decide)], by rw [e 72 (by decide) (by decide) (by decide)]⟩⟩) (fun d hd => (h.vd hd).ag (fun r a b => by rw [e r (by omega) (by omega) (by omega)]) (nm _) (fun n _ => by rw [e 73 (by decide) (by decide) (by decide)]) (g 45 (by decide)) (h.nle (by omega))) ?_ ?_
    (fun d n p hd hn hp hal => Or.inl ⟨i _ (by have := al79 hal; omega), i _ (by omega), i _ (by omega), ⟨fun r a b => by rw [e r (by omega) (by omega) (by omega)], fun a w _ _ => by unfold prt; rw [e 74 (by decide) (by decide) (by decide)], fun j _ => by rw [e 75 (by decide) (by decide) (by decide)]⟩, g 0 (by decide)⟩) (fun d n hd _ => by rw [hR _ (by omega)]) hN
  · rw [hI 0, gI_eq]
    intro k' hk'
    show upd _ 3 x k' = J' 26 (rg k')
    rw [upd_at]
    by_cases q : k' = 3
    · subst q; rw [if_pos rfl]; exact g62.symm
    · rw [if_neg q, g _ (show ¬ rg k' = 62 from fun z => q (rg_inj k' hk' 3 (by decide) z))]; exact h.g k' hk'
  · obtain ⟨h1, h2, h3, h4, h5, h6, h7, h8⟩ := h.vg
    unfold IvG
    rw [g 0 (by decide), g 1 (by decide), g 2 (by decide), g 4 (by decide), g 46 (by decide), g 44 (by decide), g 45 (by decide), g62]
    exact ⟨h1, h2, h3, h4, h5, h6, h7, hx⟩
def cOutL (T : Sto) (i : Nat) : Nat → Sto
  | 0 => T
  | c + 1 => pR (cOutL T i c) 1 (i + c) (gR (cOutL T i c) 1 (i + c + 1))
theorem cOutL_I {i c : Nat} : gI (cOutL T i c) = gI T := by
  induction c with
  | zero => rfl
  | succ c ih => exact ih
theorem cOutL_n {i c : Nat} : sN (cOutL T i c) = sN T := by
  induction c with
  | zero => rfl
  | succ c ih => exact ih
theorem cOutL_R {i c a : Nat} (h : a ≠ 1) : gR (cOutL T i c) a = gR T a := by
  induction c with
  | zero => rfl
  | succ c ih =>
    show gR (pR (cOutL T i c) 1 _ _) a = _
    rw [gR_pR, if_neg h]; exact ih
theorem cOutL_1 {i c k : Nat} : gR (cOutL T i c) 1 k = if i ≤ k ∧ k < i + c then gR T 1 (k + 1) else gR T 1 k := by
  induction c generalizing k with
  | zero => rw [if_neg (by omega)]; rfl
  | succ c ih =>
    show gR (pR (cOutL T i c) 1 (i + c) (gR (cOutL T i c) 1 (i + c + 1))) 1 k = _
    rw [gR_pR, if_pos rfl]
    unfold va_up
    by_cases e : k = i + c
    · subst e
      rw [if_pos rfl, ih, if_neg (by omega), if_pos (by omega)]
    · rw [if_neg e, ih]
      by_cases q : i ≤ k ∧ k < i + c
      · rw [if_pos q, if_pos ⟨q.1, by omega⟩]
      · rw [if_neg q, if_neg (fun z => q ⟨z.1, by omega⟩)]
theorem spOutL_76 {i c k : Nat} : spOutL J i c 76 k = if i ≤ k ∧ k < i + c then J 76 (k + 1) else J 76 k := by
  induction c generalizing k with
  | zero => rw [if_neg (by omega)]; rfl
  | succ c ih =>
    show uJ (uJ (spOutL J i c) 76 (i + c) (spOutL J i c 76 (i + c + 1))) 77 (i + c) (spOutL J i c 77 (i + c + 1)) 76 k = _
    rw [uJ_ne (by decide), uJ_eq]
    by_cases e : k = i + c
    · subst e
      rw [if_pos rfl, ih, if_neg (by omega), if_pos (by omega)]
    · rw [if_neg e, ih]
      by_cases q : i ≤ k ∧ k < i + c
      · rw [if_pos q, if_pos ⟨q.1, by omega⟩]
      · rw [if_neg q, if_neg (fun z => q ⟨z.1, by omega⟩)]
theorem spOutL_77 {i c k : Nat} : spOutL J i c 77 k = if i ≤ k ∧ k < i + c then J 77 (k + 1) else J 77 k := by
  induction c generalizing k with
  | zero => rw [if_neg (by omega)]; rfl
  | succ c ih =>
    show uJ (uJ (spOutL J i c) 76 (i + c) (spOutL J i c 76 (i + c + 1))) 77 (i + c) (spOutL J i c 77 (i + c + 1)) 77 k = _
    rw [uJ_eq]
    by_cases e : k = i + c
    · subst e
      rw [if_pos rfl, ih, if_neg (by omega), if_pos (by omega)]
    · rw [if_neg e, uJ_ne (by decide), ih]
      by_cases q : i ≤ k ∧ k < i + c
      · rw [if_pos q, if_pos ⟨q.1, by omega⟩]
      · rw [if_neg q, if_neg (fun z => q ⟨z.1, by omega⟩)]
theorem cOutL_F {i : Nat} (hF : Fx T) : ∀ c, Fx (cOutL T i c) := fun c => by
  induction c with
  | zero => exact hF
  | succ c ih => exact ih.put9 (ih.k (by decide) rfl) (fun b hb => ih.pk (ih.k (by decide) rfl) hb)
theorem Rel.nN (h : Rel T J) : ∃ N, N ≤ 400 ∧ J 26 62 = nI N := h.vg.2.2.2.2.2.2.2
theorem Rel.ut (h : Rel T J) {N i : Nat} (hN : J 26 62 = nI N) (h4 : N ≤ 400) (hi : i < N) : ∃ d n p, d < 2 ∧ n < num J d ∧ J 76 i = nI d ∧ J 77 i = nI n ∧ gR T 1 i = some p ∧ gR T (21 + 3 * d) n = some p ∧ al T p 1 := by
  obtain ⟨d, n, q1, q2, q3, q4, q5⟩ := h.n i (by rw [hN, nI_ltI (by omega) (by omega)]; exact hi) (by omega)
  obtain ⟨-, p, p1, p2, -⟩ := h.pk q1 q2
  exact ⟨d, n, p, q1, q2, q3, q4, by rw [q5]; exact p1, p1, p2⟩
def outT (T : Sto) (i N : Nat) : Sto := pR (pI (cOutL T i (N - 1 - i)) 0 3 (nI (N - 1))) 1 (N - 1) none
theorem outT_I {i N : Nat} (a : Nat) : gI (outT T i N) a = gI (pI T 0 3 (nI (N - 1))) a := by unfold outT; rw [gI_pR, gI_pI, gI_pI, cOutL_I]
theorem outT_R {i N a : Nat} (ha : a ≠ 1) : gR (outT T i N) a = gR T a := by unfold outT; rw [gR_pR, if_neg ha, gR_pI]; exact cOutL_R ha
theorem Rel.out {N i : Nat} (hR : Rel T J) (hN : J 26 62 = nI N) (h4 : N ≤ 400) (hi : i < N) : Rel (outT T i N) (spOut J i) := by
  have e1 : (nI N - 1 : Int32) = nI (N - 1) := pk_sub (b := 1) (by omega)
  have hFc := cOutL_F (i := i) hR.f (N - 1 - i)
  have en : ntn (J 26 62) - 1 - i = N - 1 - i := by rw [hN, ntn_nI (by omega)]
  have es : spOut J i = spOutL (uJ J 26 62 (nI (N - 1))) i (N - 1 - i) := by unfold spOut; rw [en, hN, e1]
  rw [es]
  refine hR.net (x := nI (N - 1)) ((Fx.same (S' := pI (cOutL T i (N - 1 - i)) 0 3 (nI (N - 1))) hFc rfl rfl).put9n (hFc.k (by decide) rfl)) cOutL_n outT_I (fun a ha => outT_R ha) (fun r h1 h2 => spOutL_ne h1 h2) ⟨N - 1, by omega, rfl⟩ ?_
  intro k hk hk4
  rw [spOutL_ne (by decide) (by decide), uJ_same, nI_ltI (by omega) (by omega)] at hk
  have hg1 : gR (outT T i N) 1 k = if i ≤ k ∧ k < i + (N - 1 - i) then gR T 1 (k + 1) else gR T 1 k := by
    unfold outT
    rw [gR_pR, if_pos rfl]
    unfold va_up
    rw [if_neg (by omega), gR_pI]; exact cOutL_1
  rw [hg1, spOutL_76, spOutL_77, uJ_ne (by decide), uJ_ne (by decide)]
  have nm : ∀ d, num (spOutL (uJ J 26 62 (nI (N - 1))) i (N - 1 - i)) d = num J d := fun d => num_of (by rw [spOutL_ne (by decide) (by decide), uJ_ne (by decide)])
  by_cases q : i ≤ k ∧ k < i + (N - 1 - i)
  · obtain ⟨d, n, p, q1, q2, q3, q4, q5, q6, -⟩ := hR.ut hN h4 (i := k + 1) (by omega)
    rw [if_pos q, if_pos q, if_pos q]
    exact ⟨d, n, q1, by rw [nm]; exact q2, q3, q4, by rw [outT_R (by omega), q5, q6]⟩
  · obtain ⟨d, n, p, q1, q2, q3, q4, q5, q6, -⟩ := hR.ut hN h4 (i := k) (by omega)
    rw [if_neg q, if_neg q, if_neg q]
    exact ⟨d, n, q1, by rw [nm]; exact q2, q3, q4, by rw [outT_R (by omega), q5, q6]⟩
theorem outT_fr {i N : Nat} : Fr T (outT T i N) := fun a h1 h2 => by rw [outT_I]; exact gI_ne (by omega)
theorem c_takeOffNet {N i : Nat} {Q : Sto → Prop} (hR : Rel T J) (hN : J 26 62 = nI N) (h4 : N ≤ 400) (hi : i < N) (h : Q (outT T i N)) : Cv K4_takeOffNet [vr 0, vi (nI i)] T Q := by
  refine e4_takeOffNet hR.f (fun X O => ?_)
  have e3 : gI T 0 3 = nI N := by rw [← hN]; exact hR.g 3 (by decide)
  have e1 : (nI N - 1 : Int32) = nI (N - 1) := pk_sub (b := 1) (by omega)
  have loop : ∀ (b c : Nat), i + c + b = N - 1 → WP X 2 [(0, vr 0), (2, vi (nI (i + c)))] [] (cOutL T i c) 0 0 := by
    intro b
    induction b with
    | zero =>
      intro c hc
      have hFc := cOutL_F (i := i) hR.f c
      refine s4_takeOffNet_2 (S := cOutL T i c) hFc (by rw [cOutL_n]; exact Nat.le_refl _) O ?_
      rw [cOutL_I, e3, e1]
      refine ⟨fun _ => ⟨ixN (by omega) (by decide), ?_⟩, fun hq => absurd (nle (by omega) (by omega)) hq⟩
      rw [tnN (by omega)]
      have : c = N - 1 - i := by omega
      subst this
      exact h
    | succ b ih =>
      intro c hc
      have hFc := cOutL_F (i := i) hR.f c
      obtain ⟨d, n, p, q1, q2, q3, q4, q5, q6, -⟩ := hR.ut hN h4 (i := i + c + 1) (by omega)
      have eg : gR (cOutL T i c) 1 (i + c + 1) = some p := by rw [cOutL_1, if_neg (by omega)]; exact q5
      have ih2 := ih (c + 1) (by omega)
      have ec : cOutL T i (c + 1) = pR (cOutL T i c) 1 (i + c) (some p) := by
        show pR (cOutL T i c) 1 (i + c) (gR (cOutL T i c) 1 (i + c + 1)) = _
        rw [eg]
      rw [ec] at ih2
      refine s4_takeOffNet_2 (S := cOutL T i c) hFc (by rw [cOutL_n]; exact Nat.le_refl _) O ?_
      rw [cOutL_I, e3, e1, nI_suc, tnN (show i + c + 1 < 2 ^ 31 by omega), tnN (show i + c < 2 ^ 31 by omega)]
      refine ⟨fun hq => ?_, fun _ => ⟨ixN (by omega) (by decide), p, eg, ixN (by omega) (by decide), ih2⟩⟩
      rw [nI_leI (by omega) (by omega)] at hq; omega
  exact loop (N - 1 - i) 0 (by omega)
theorem c_underWayAt {N : Nat} {p : Int32} {Q : Option Nat → Sto → Prop} (hR : Rel T J) (hN : J 26 62 = nI N) (h4 : N ≤ 400) (h1 : ¬ (∃ i, i < N ∧ p = nI i) → Q none T) (h2 : ∀ i, i < N → p = nI i → Q (gR T 1 i) T) : Co K4_underWayAt [vr 0, vi p] T Q := by
  have e3 : gI T 0 3 = nI N := by rw [← hN]; exact hR.g 3 (by decide)
  refine e4_underWayAt hR.f ?_
  rw [e3]
  refine ⟨fun hc => h1 (fun ⟨i, hi, e⟩ => ?_), fun hc => ⟨fun hd => h1 (fun ⟨i, hi, e⟩ => ?_), fun hd => ⟨fun hf => ?_, fun hf => h1 (fun ⟨i, hi, e⟩ => ?_)⟩⟩⟩
  · rw [e, show (0 : Int32) = nI 0 from rfl, nI_ltI (by omega) (by omega)] at hc; omega
  · rw [e, nI_leI (by omega) (by omega)] at hd; omega
  · have a0 : 0 ≤ p.toInt := by
      have := Int32.le_iff_toInt_le.mp (ilt hc)
      exact this
    have a1 : p.toInt < N := by
      have := ile hd
      rw [l32_lt _ _ (by omega)] at this; exact this
    obtain ⟨i, hi, e⟩ := ofIx2 (N := N) ⟨a0, a1⟩
    subst e
    rw [tnN (by omega)]
    exact ⟨ixN (by omega) (by decide), h2 i hi rfl⟩
  · rw [e, show (400 : Int32) = nI 400 from rfl, nI_ltI (by omega) (by omega)] at hf; omega
/-- the same, in the form in which the callers ask -/
theorem c_under {N : Nat} {p : Int32} {P1 : Nat → Sto → Prop} {P2 : Sto → Prop} (hR : Rel T J) (hN : J 26 62 = nI N) (h4 : N ≤ 400) (h1 : ¬ (∃ i, i < N ∧ p = nI i) → P2 T) (h2 : ∀ i d n a, i < N → p = nI i → d < 2 → n < num J d → J 76 i = nI d → J 77 i = nI n → gR T 1 i = some a → gR T (21 + 3 * d) n = some a → P1 a T) : Co K4_underWayAt [vr 0, vi p] T (fun x S1 => (∀ b, x = some b → al S1 b 1) ∧ ((∀ b, x = some b → P1 b S1) ∧ (x = none → P2 S1))) := by
  refine c_underWayAt hR hN h4 (fun hc => ⟨fun b hb => (by cases hb), fun b hb => (by cases hb), fun _ => h1 hc⟩) (fun i hi e => ?_)
  obtain ⟨d, n, a, q1, q2, q3, q4, q5, q6, q7⟩ := hR.ut hN h4 hi
  rw [q5]
  exact ⟨fun b hb => (by cases hb; exact q7), fun b hb => (by cases hb; exact h2 i d n a hi e q1 q2 q3 q4 q5 q6), fun hb => (by cases hb)⟩
theorem c_drop {N : Nat} {p : Int32} {Q : Int32 → Sto → Prop} (hR : Rel T J) (hN : J 26 62 = nI N) (h4 : N ≤ 400) (h1 : ¬ (∃ i, i < N ∧ p = nI i) → Q (-1) T) (h2 : ∀ i, i < N → p = nI i → ∀ T', Fr T T' → Rel T' (spOut J i) → Q (nI (N - 1)) T') : Ci K4_drop [vr 0, vi p] T Q := by
  refine e4_drop hR.f (c_under hR hN h4 h1 (fun i d n a hi e q1 q2 q3 q4 q5 q6 => ?_))
  subst e
  refine c_takeOffNet hR hN h4 hi ?_
  rw [outT_I, gI_eq, upd_at, if_pos rfl]
  exact h2 i hi rfl _ outT_fr (hR.out hN h4 hi)
theorem c_twice {N : Nat} {p : Int32} {Q : Int32 → Sto → Prop} (hR : Rel T J) (hN : J 26 62 = nI N) (h4 : N ≤ 400) (h1 : ¬ (∃ i, i < N ∧ p = nI i) → Q (-1) T) (h2 : ∀ i, i < N → p = nI i → (N = 400 → Q (-4) T) ∧ (N < 400 → ∀ T', Fr T T' → Rel T' (spTw J i N) → Q (nI (N + 1)) T')) : Ci K4_twice [vr 0, vi p] T Q := by
  refine e4_twice hR.f (c_under hR hN h4 h1 (fun i d n a hi e q1 q2 q3 q4 q5 q6 => ?_))
  obtain ⟨k1, k2⟩ := h2 i hi e
  have e3 : gI T 0 3 = nI N := by rw [← hN]; exact hR.g 3 (by decide)
  rw [e3, tnN (by omega), nI_suc]
  refine ⟨fun hc => ?_, fun hc => k1 ?_⟩
  · rw [show (400 : Int32) = nI 400 from rfl, nI_ltI (by omega) (by omega)] at hc
    refine ⟨ixN hc (by decide), k2 hc _ (fun b h1 h2 => gI_ne (by omega)) ?_⟩
    have hal : al T a 1 := hR.f.pk (hR.f.k (a := 1) (by decide) rfl) q5
    refine hR.net (x := nI (N + 1)) ((hR.f.put9s (k := N) (hR.f.k (a := 1) (by decide) rfl) hal).same rfl rfl) rfl (fun _ => rfl) (fun b hb => ?_) (fun r h1 h2 => ?_) ⟨N + 1, by omega, rfl⟩ ?_
    · rw [gR_pI, gR_pR, if_neg hb]
    · unfold spTw
      by_cases z : r = 26
      · subst z
        show upd (uJ (uJ J 76 N (J 76 i)) 77 N (J 77 i) 26) 62 (nI (N + 1)) = upd (J 26) 62 (nI (N + 1))
        rw [uJ_ne (by decide), uJ_ne (by decide)]
      · rw [uJ_ne z, uJ_ne h2, uJ_ne h1, uJ_ne z]
    · intro k hk hk4
      have nm : ∀ d, num (spTw J i N) d = num J d := fun d => num_of (by unfold spTw; rw [uJ_ne (by decide), uJ_ne (by decide), uJ_ne (by decide)])
      have h62 : spTw J i N 26 62 = nI (N + 1) := by unfold spTw; exact uJ_same
      have h76 : spTw J i N 76 k = if k = N then J 76 i else J 76 k := by unfold spTw; rw [uJ_ne (by decide), uJ_ne (by decide), uJ_eq]
      have h77 : spTw J i N 77 k = if k = N then J 77 i else J 77 k := by unfold spTw; rw [uJ_ne (by decide), uJ_eq, uJ_ne (by decide)]
      rw [h62, nI_ltI (by omega) (by omega)] at hk
      have hgR : ∀ d, d < 2 → gR (pI (pR T 1 N (some a)) 0 3 (nI (N + 1))) (21 + 3 * d) = gR T (21 + 3 * d) := fun d hd => by rw [gR_pI, gR_pR, if_neg (by omega)]
      have hg1 : gR (pI (pR T 1 N (some a)) 0 3 (nI (N + 1))) 1 k = if k = N then some a else gR T 1 k := by rw [gR_pI, gR_pR, if_pos rfl]; rfl
      rw [h76, h77, hg1]
      by_cases z : k = N
      · rw [if_pos z, if_pos z, if_pos z]
        exact ⟨d, n, q1, by rw [nm]; exact q2, q3, q4, by rw [hgR d q1]; exact q6.symm⟩
      · obtain ⟨d', n', p', r1, r2, r3, r4, r5, r6, -⟩ := hR.ut hN h4 (i := k) (by omega)
        rw [if_neg z, if_neg z, if_neg z]
        exact ⟨d', n', r1, by rw [nm]; exact r2, r3, r4, by rw [hgR d' r1, r5, r6]⟩
  · have : ¬ N < 400 := fun z => hc (by rw [show (400 : Int32) = nI 400 from rfl, nI_ltI (by omega) (by omega)]; exact z)
    omega
/-- what net answers -/
def aNet (J : Rows) (i : Nat) (w : Int32) : Int32 := if w = 0 then J 76 i else if w = 1 then J 77 i else -2
theorem c_net {N : Nat} {p w : Int32} {Q : Int32 → Sto → Prop} (hR : Rel T J) (hN : J 26 62 = nI N) (h4 : N ≤ 400) (h1 : ¬ (∃ i, i < N ∧ p = nI i) → Q (-1) T) (h2 : ∀ i, i < N → p = nI i → Q (aNet J i w) T) : Ci K4_net [vr 0, vi p, vi w] T Q := by
  refine e4_net hR.f (c_under hR hN h4 h1 (fun i d n a hi e q1 q2 q3 q4 q5 q6 => ?_))
  have k2 := h2 i hi e
  obtain ⟨-, a', r1, r2, r3⟩ := hR.pk q1 q2
  rw [q6] at r1
  cases r1
  have e0 : gI T a 0 = nI d := r3.2.1
  have e1 : gI T a 1 = nI n := r3.2.2.1
  rw [e0, e1]
  unfold aNet at k2
  rw [q3, q4] at k2
  refine ⟨fun z => ?_, fun z => ?_, fun z1 z2 => ?_⟩
  · rw [if_pos z] at k2; exact k2
  · rw [z] at k2; exact k2
  · rw [if_neg z1, if_neg z2] at k2; exact k2
theorem m_net {N : Nat} {p w : Int32} {Q : Int32 → Sto → Prop} (hF : Fx T) (hN : J 26 62 = nI N) (h4 : N ≤ 400) (h1 : ¬ (∃ i, i < N ∧ p = nI i) → Q (-1) (wJ T J)) (h2 : ∀ i, i < N → p = nI i → Q (aNet J i w) (wJ T J)) : Ci K5_net [vr 26, vi p, vi w] (wJ T J) Q := by
  refine e5_net (FxJ hF) ?_
  rw [gI_wm (a := 26) (by decide), hN]
  simp only [ite01, Classical.not_not, ti64, l64_0, netIn h4]
  refine ⟨fun ⟨i, hi, hp⟩ => ?_, h1⟩
  subst hp
  rw [tnN (by omega), gI_wm (a := 76) (by decide), gI_wm (a := 77) (by decide)]
  exact ⟨ixN (by omega) (by decide), fun w9 hw => by rw [hw]; exact h2 i hi rfl⟩
end CNET
