section UPD2
variable {T : Sto} {J : Rows}
/-- the rows of one side alone change -/
def agSd (J J' : Rows) (d : Nat) : Prop := (∀ r, 26 ≤ r → r ≤ 43 → J' r = J r) ∧ (∀ r, 66 ≤ r → r ≤ 77 → J' r = J r) ∧ (∀ r d', 44 ≤ r → r ≤ 65 → d' ≠ d → J' r d' = J r d') ∧ J' 44 = J 44
theorem agSd.s {J' : Rows} {d : Nat} (a : agSd J J' d) (i : Nat) : agS J J' i := ⟨fun r h1 h2 _ _ => by rw [a.1 r (by omega) h2], fun j _ => ⟨by unfold byt; rw [a.1 36 (by decide) (by decide)], by unfold cam; rw [a.1 37 (by decide) (by decide)]⟩⟩
theorem agSd.k {J' : Rows} {d : Nat} (a : agSd J J' d) (q : Nat) : agK J J' q := ⟨fun r h1 h2 => by rw [a.2.1 r (by omega) (by omega)], fun k w _ _ => by unfold prt; rw [a.2.1 74 (by decide) (by decide)], fun j _ => by rw [a.2.1 75 (by decide) (by decide)]⟩
theorem agSd.d {J' : Rows} {d d' : Nat} (a : agSd J J' d) (h : d' ≠ d) : agD J J' d' := ⟨fun r h1 h2 => a.2.2.1 r d' h1 h2 h, fun n _ => ⟨by rw [a.2.1 70 (by decide) (by decide)], by rw [a.2.1 71 (by decide) (by decide)], by rw [a.2.1 72 (by decide) (by decide)]⟩⟩
theorem agSd.n {J' : Rows} {d : Nat} (a : agSd J J' d) (d' : Nat) : num J' d' = num J d' := num_of (by rw [a.2.2.2])
theorem Rel.sid {T' : Sto} {J' : Rows} {d : Nat} (h : Rel T J) (hF : Fx T') (hsn : sN T' = sN T) (hg : gR T' = gR T) (ho : ∀ a, a ≠ 20 + 3 * d → a ≠ 22 + 3 * d → gI T' a = gI T a) (hd : d < 2) (ha : agSd J J' d) (h1 : RSd (gI T' (20 + 3 * d)) (gI T' (22 + 3 * d)) J' d) (h2 : IvD J' d) : Rel T' J' := by
  have h26 : J' 26 = J 26 := ha.1 26 (by decide) (by decide)
  refine h.chg hF (fun d' _ => ha.n d') (by omega) (fun i _ => by unfold frs; rw [ha.1 31 (by decide) (by decide)]; exact Nat.le_refl _) (fun i hi => Or.inl ⟨ho _ (by omega) (by omega), ho _ (by omega) (by omega), ha.s i⟩) (fun d' hd' => ?_) (fun d' hd' => ?_) (by rw [ho 0 (by omega) (by omega)]; intro k hk; rw [h.g k hk, h26]) (by have := h.vg; unfold IvG at this ⊢; rw [h26]; exact this)
    (fun d' n p hd hn hp hal => Or.inl ⟨ho _ (by have := al79 hal; omega) (by have := al79 hal; omega), ho _ (by have := al79 hal; omega) (by have := al79 hal; omega), ho _ (by have := al79 hal; omega) (by have := al79 hal; omega), ha.k _, by rw [h26]⟩) (fun d' n _ _ => by rw [hg])
    (h.n.ag (by rw [h26]) (fun i _ => ⟨by rw [ha.2.1 76 (by decide) (by decide)], by rw [ha.2.1 77 (by decide) (by decide)]⟩) (fun d' _ => ha.n d') (fun _ _ => by rw [hg]) (fun _ _ _ _ => by rw [hg]))
  · by_cases e : d' = d
    · subst e; exact Or.inr h1
    · exact Or.inl ⟨ho _ (by omega) (by omega), ho _ (by omega) (by omega), ha.d e⟩
  · by_cases e : d' = d
    · subst e; exact h2
    · exact (h.vd hd').ag (ha.d e).1 (ha.n _) (fun n _ => by rw [ha.2.1 73 (by decide) (by decide)]) (by rw [h26]) (h.nle (by omega))
theorem agSd.put {d r : Nat} {x : Int32} (h1 : 45 ≤ r) (h2 : r ≤ 65) : agSd J (uJ J r d x) d := ⟨fun r' a b => uJ_ne (by omega), fun r' a b => uJ_ne (by omega), fun r' d' a b c => uJ_off _ _ (Or.inr c), uJ_ne (by omega)⟩
theorem rd_no : ∀ k ∈ ksD, k ≠ 0 ∧ k ≠ 12 ∧ k ≠ 13 ∧ k ≠ 4 := by decide
theorem RSd.putD {c pc : Nat → Int32} {d k : Nat} {x : Int32} (h : RSd c pc J d) (hk : k ∈ ksD) (h3 : ¬ k = 3) : RSd (upd c k x) pc (uJ J (rd k) d x) d := by
  have r44 : (44 : Nat) ≠ rd k := fun z => h3 (rd_inj k hk 3 (by decide) z.symm)
  clear h3
  obtain ⟨h1, h2, h3, h4, ⟨t, h5, h6, h7⟩, s, h8, h9, h10⟩ := h
  obtain ⟨r1, r2, r3, r4⟩ := rd_in k hk
  obtain ⟨n1, n2, n3, n4⟩ := rd_no k hk
  have e : ∀ r, r = 63 ∨ r = 64 ∨ r = 65 ∨ r = 61 ∨ 66 ≤ r → uJ J (rd k) d x r = J r := fun r hr => uJ_ne (by omega)
  refine ⟨fun k' hk' => ?_, fun k' hk' => ?_, ?_, ?_, ⟨t, h5, ?_, ?_⟩, s, ?_, ⟨h9.1, by unfold num at h9 ⊢; rw [uJ_ne r44]; exact h9.2⟩, ?_⟩
  · show upd c k x k' = uJ J (rd k) d x (rd k') d
    rw [upd_at]
    by_cases q : k' = k
    · subst q; rw [if_pos rfl, uJ_same]
    · rw [if_neg q, uJ_ne (fun z => q (rd_inj k' hk' k hk z))]; exact h1 k' hk'
  · show pc k' = uJ J (rd k) d x (rp k') d
    rw [uJ_ne (rp_rd k' hk' k hk)]; exact h2 k' hk'
  · rw [upd_at, if_neg (fun q => n1 q.symm)]; exact h3
  · rw [upd_at, if_neg (fun q => n2 q.symm), e 64 (by decide), e 65 (by decide)]; exact h4
  · rw [upd_at, if_neg (fun q => n3 q.symm)]; exact h6
  · rw [e 61 (by decide)]; exact h7
  · rw [upd_at, if_neg (fun q => n4 q.symm)]; exact h8
  · intro n hn
    rw [e 70 (by decide), e 71 (by decide), e 72 (by decide)]; exact h10 n hn
theorem RSd.putP {c pc : Nat → Int32} {d k : Nat} {x : Int32} (h : RSd c pc J d) (hk : k ∈ ksP) : RSd c (upd pc k x) (uJ J (rp k) d x) d := by
  obtain ⟨h1, h2, h3, h4, ⟨t, h5, h6, h7⟩, s, h8, h9, h10⟩ := h
  obtain ⟨r1, r2, -⟩ := rp_in k hk
  have e : ∀ r, r = 64 ∨ r = 65 ∨ r = 61 ∨ 66 ≤ r → uJ J (rp k) d x r = J r := fun r hr => uJ_ne (by omega)
  refine ⟨fun k' hk' => ?_, fun k' hk' => ?_, h3, ?_, ⟨t, h5, h6, ?_⟩, s, h8, ⟨h9.1, by unfold num at h9 ⊢; rw [uJ_ne (by omega)]; exact h9.2⟩, ?_⟩
  · show c k' = uJ J (rp k) d x (rd k') d
    rw [uJ_ne (fun z => rp_rd k hk k' hk' z.symm)]; exact h1 k' hk'
  · show upd pc k x k' = uJ J (rp k) d x (rp k') d
    rw [upd_at]
    by_cases q : k' = k
    · subst q; rw [if_pos rfl, uJ_same]
    · rw [if_neg q, uJ_ne (fun z => q (rp_inj k' hk' k hk z))]; exact h2 k' hk'
  · rw [e 64 (by decide), e 65 (by decide)]; exact h4
  · rw [e 61 (by decide)]; exact h7
  · intro n hn
    rw [e 70 (by decide), e 71 (by decide), e 72 (by decide)]; exact h10 n hn
theorem Rel.putD {d k : Nat} {x : Int32} (h : Rel T J) (hd : d < 2) (hk : k ∈ ksD) (h3 : ¬ k = 3) (hv : IvD (uJ J (rd k) d x) d) : Rel (pI T (20 + 3 * d) k x) (uJ J (rd k) d x) := by
  obtain ⟨r1, r2, -⟩ := rd_in k hk
  have r0 : rd k ≠ 44 := fun q => h3 (rd_inj k hk 3 (by decide) q)
  refine h.sid (d := d) h.f rfl rfl (fun a h1 h2 => by rw [gI_pI, if_neg h1]) hd (agSd.put (by omega) (by omega)) ?_ hv
  rw [gI_pI, if_pos rfl, gI_pI, if_neg (by omega)]
  exact (h.d hd).putD hk h3
theorem Rel.putP {d k : Nat} {x : Int32} (h : Rel T J) (hd : d < 2) (hk : k ∈ ksP) (hv : IvD (uJ J (rp k) d x) d) : Rel (pI T (22 + 3 * d) k x) (uJ J (rp k) d x) := by
  obtain ⟨r1, r2, -⟩ := rp_in k hk
  refine h.sid (d := d) h.f rfl rfl (fun a h1 h2 => by rw [gI_pI, if_neg h2]) hd (agSd.put (by omega) (by omega)) ?_ hv
  rw [gI_pI, if_neg (by omega), gI_pI, if_pos rfl]
  exact (h.d hd).putP hk
/-- what a side's invariant says of a row that it does not bind -/
theorem IvD.put {d r : Nat} {x : Int32} (h : IvD J d) (hr : 45 ≤ r ∧ r ≤ 65) (hd : d < 2)
    (c53 : r = 53 → is01 x) (c56 : r = 56 → is01 x ∧ (x = 0 ∨ ¬ J 55 d = -6)) (c58 : r = 58 → is01 x) (c62 : r = 62 → is01 x ∧ (x = 0 ∨ (d = 1 ∧ J 63 d = J 26 45))) (c64 : r = 64 → is01 x)
    (c54 : r = 54 → x = -6 ∨ ∃ n, n < num J d ∧ x = nI n) (c55 : r = 55 → ∃ n, n < num J (1 - d) ∧ x = nI n ∧ J 73 (300 * (1 - d) + n) = 1) (c57 : r = 57 → upTo x 8000) (c59 : r = 59 → upTo x 8000) (c65 : r = 65 → upTo x 50) (c63 : r = 63 → J 62 d = 0 ∨ (d = 1 ∧ x = J 26 45)) (c47 : r = 47 → ∃ b, 120 ≤ b ∧ b < 2 ^ 31 ∧ x = nI b) : IvD (uJ J r d x) d := by
  obtain ⟨h1, h2, h3, h4, h5, h6, h7, h8, h9, h10, h11, h12, h13, h14⟩ := h
  have nm : ∀ d', num (uJ J r d x) d' = num J d' := fun d' => num_of (by rw [uJ_ne (by omega)])
  have e26 : uJ J r d x 26 = J 26 := uJ_ne (by omega)
  have e73 : uJ J r d x 73 = J 73 := uJ_ne (by omega)
  have g : ∀ s (P : Int32 → Prop), P (J s d) → (r = s → P x) → P (uJ J r d x s d) := fun s P hp hx => by
    by_cases e : s = r
    · subst e; rw [uJ_same]; exact hx rfl
    · rw [uJ_ne e]; exact hp
  refine ⟨by rw [uJ_ne (by omega)]; exact h1, g 53 _ h2 c53, g 56 _ h3 (fun e => (c56 e).1), g 58 _ h4 c58, g 62 _ h5 (fun e => (c62 e).1), g 64 _ h6 c64, ?_, ?_, ?_, g 57 (fun y => upTo y 8000) h10 c57, g 59 (fun y => upTo y 8000) h11 c59, g 65 (fun y => upTo y 50) h12 c65, ?_, g 47 (fun y => ∃ b, 120 ≤ b ∧ b < 2 ^ 31 ∧ y = nI b) h14 c47⟩
  · rw [nm]; exact g 54 (fun y => y = -6 ∨ ∃ n, n < num J d ∧ y = nI n) h7 c54
  · rw [nm, e73]; exact g 55 (fun y => y = -6 ∨ ∃ n, n < num J (1 - d) ∧ y = nI n ∧ J 73 (300 * (1 - d) + n) = 1) h8 (fun e => Or.inr (c55 e))
  · by_cases e : r = 55
    · subst e
      obtain ⟨n, n1, n2, n3⟩ := c55 rfl
      refine Or.inr ?_
      rw [uJ_same, n2]
      have hb : num J (1 - d) ≤ 300 ∨ True := Or.inr trivial
      intro q
      have h0 : n < 2 ^ 31 → False := fun hlt => by
        have := congrArg Int32.toInt q
        rw [nI_toInt hlt] at this
        have h6 : (-6 : Int32).toInt = -6 := by decide
        omega
      by_cases hlt : n < 2 ^ 31
      · exact h0 hlt
      · have : num J (1 - d) ≤ 2 ^ 31 := by
          unfold num
          have h5 := Int32.toInt_lt (J 44 (1 - d))
          have h6 : (J 44 (1 - d)).toNatClampNeg = (J 44 (1 - d)).toInt.toNat := rfl
          omega
        omega
    · rw [uJ_ne (show (55 : Nat) ≠ r by omega)]
      exact g 56 (fun y => y = 0 ∨ ¬ J 55 d = -6) h9 (fun e => (c56 e).2)
  · rw [e26]
    by_cases e : r = 62
    · subst e; rw [uJ_same, uJ_ne (by decide)]; exact (c62 rfl).2
    · rw [uJ_ne (show (62 : Nat) ≠ r by omega)]
      exact g 63 (fun y => J 62 d = 0 ∨ (d = 1 ∧ y = J 26 45)) h13 c63
/-- the free rows of a side -/
theorem IvD.free {d r : Nat} {x : Int32} (h : IvD J d) (hr : r = 45 ∨ r = 46 ∨ r = 48 ∨ r = 49 ∨ r = 50 ∨ r = 51 ∨ r = 52 ∨ r = 60 ∨ r = 61) (hd : d < 2) : IvD (uJ J r d x) d :=
  h.put (by omega) hd (by omega) (by omega) (by omega) (by omega) (by omega) (by omega) (by omega) (by omega) (by omega) (by omega) (by omega) (by omega)
end UPD2
