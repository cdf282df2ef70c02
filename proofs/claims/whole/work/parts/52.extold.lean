section EXTOLD
variable {T : Sto} {J : Rows}
/-- some store with what is told of put -/
theorem Fil.told {T' : Sto} {d p : Nat} (h : Fil T J d p 0) (hd : d < 2) (h56 : ¬ J 56 d = 0) (hw : J 68 (300 * d + num J d) = nI 10) (g : Gd T T' p) (hsp : SpI (gI T' (p + 2)) (tM J d) (loF (tF J d) (tH J d)) (hiF (tF J d) (tH J d))) :
    Ev T (pI (adS T' p 0 1 (nI (6 + 4 * (tM J d - 1))) 0 0 (nI (tM J d)) (J 68 (300 * d + num J d))) (20 + 3 * d) 7 0) ∧ Fil (pI (adS T' p 0 1 (nI (6 + 4 * (tM J d - 1))) 0 0 (nI (tM J d)) (J 68 (300 * d + num J d))) (20 + 3 * d) 7 0) (spTl J d (300 * d + num J d)) d p 1 ∧ Spq (pI (adS T' p 0 1 (nI (6 + 4 * (tM J d - 1))) 0 0 (nI (tM J d)) (J 68 (300 * d + num J d))) (20 + 3 * d) 7 0) (spTl J d (300 * d + num J d)) d p 1 := by
  obtain ⟨hR, hP⟩ := h
  have hal := hP.1
  have p79 := al79 hal
  have pm := kd1_3 hal
  obtain ⟨hh, hh1, h55, h73⟩ : ∃ n, n < num J (1 - d) ∧ J 55 d = nI n ∧ J 73 (300 * (1 - d) + n) = 1 := by
    rcases (hR.vd hd).2.2.2.2.2.2.2.1 with z | z
    · rcases (hR.vd hd).2.2.2.2.2.2.2.2.1 with y | y
      · exact absurd y h56
      · exact absurd z y
    · exact z
  have n3 := hR.nle (show 1 - d < 2 by omega)
  have eH : tH J d = hh := by unfold tH; rw [h55]; exact ntn_nI (by omega)
  have good : ∀ T', Gd T T' p → Rel T' J := fun T' g => hR.fil hd hP.2.2.1 (hR.f.same g.2.1 g.2.2) g.2.2 g.2.1 (fun a _ _ h3 => g.1 a h3) hal hP.2.1 agQ.rfl'
  obtain ⟨c, em⟩ : ∃ c, tM J d = c := ⟨_, rfl⟩
  have hp : ∀ j, j < c → 0 < hpF (tF J d) hh j := by
    rw [← em]
    unfold tM mSp
    rw [eH]
    intro j hj
    split at hj
    · rw [show j = 0 by omega]; exact Nat.succ_pos _
    rename_i e1
    split at hj
    · rcases (show j = 0 ∨ j = 1 by omega) with rfl | rfl
      · exact Nat.succ_pos _
      · omega
    rename_i e2
    split at hj
    · rcases (show j = 0 ∨ j = 1 ∨ j = 2 by omega) with rfl | rfl | rfl
      · exact Nat.succ_pos _
      · omega
      · omega
    rename_i e3
    rcases (show j = 0 ∨ j = 1 ∨ j = 2 ∨ j = 3 by omega) with rfl | rfl | rfl | rfl
    · exact Nat.succ_pos _
    · omega
    · omega
    · omega
  obtain ⟨c1, c4⟩ := mSp_1 (tF J d) (tH J d)
  change 1 ≤ tM J d at c1
  change tM J d ≤ 4 at c4
  rw [em] at c1 c4 hsp ⊢
  rw [eH] at hsp
  have R0 := good T' g
  have P0 : Pk T' J d p 0 := hP.keep2 (g.1 p (by omega)) (g.1 (p + 1) (by omega)) g.2.1 g.2.2 rfl rfl rfl rfl rfl rfl (fun _ _ => Nat.le_refl _)
  have ew : wOf 1 (nI c) = nI (6 + 4 * (c - 1)) := tld_sz c c1 c4
  obtain ⟨w, r, e68, eR, w10, wr, r1⟩ := hP.2.2.2.2.2.2.2.2.1
  have r60 : 60 ≤ r := by
    obtain ⟨r', a1, a2, a3⟩ := hR.vg.1
    rw [eR] at a3
    have := nI_nj (by omega) (by omega) a3
    omega
  have hfit : fits J (300 * d + num J d) (nI (6 + 4 * (c - 1))) := by
    unfold fits
    rw [hw, eR, nI_add, nI_leI (by omega) (by omega)]; omega
  -- the rows
  have j1 : ∀ r, r ≠ 75 → spSp J (300 * d + num J d) (tF J d) hh c r = J r := fun r hr => spSp_ne hr
  have nm : ∀ d', num (spSp J (300 * d + num J d) (tF J d) hh c) d' = num J d' := fun d' => num_of (by rw [j1 44 (by decide)])
  have ag : agQ J (spSp J (300 * d + num J d) (tF J d) hh c) (300 * d + num J d) := ⟨fun r _ _ _ _ _ _ _ h8 => j1 r h8, fun j _ => by rw [j1 26 (by decide)], fun r k a b _ => by rw [j1 r (by omega)], fun k _ => by rw [j1 74 (by decide)], fun k hk => spSp_o (by omega)⟩
  have F1 : Fil T' (spSp J (300 * d + num J d) (tF J d) hh c) d p 0 := ⟨hR.fil hd hP.2.2.1 R0.f g.2.2 g.2.1 (fun a _ _ h3 => g.1 a h3) hal hP.2.1 ag, P0.keep2 rfl rfl rfl rfl (j1 26 (by decide)) (j1 44 (by decide)) (j1 68 (by decide)) (j1 69 (by decide)) (j1 70 (by decide)) (j1 74 (by decide)) (fun i _ => frs_eq (j1 31 (by decide)) i)⟩
  have F2 := F1.add (kind := 1) (z := 6 + 4 * (c - 1)) (a := 0) (b := 0) (c := nI c) hd (by decide) (by omega) (by rw [nm]; unfold fits; rw [j1 68 (by decide), j1 26 (by decide)]; exact hfit) (Or.inl ⟨rfl, rfl, rfl, c, c1, c4, rfl⟩) (fun _ => rfl)
  rw [nm, j1 68 (by decide)] at F2
  have R3 := F2.1.putD hd (k := 7) (x := 0) (by decide) (by decide) ((F2.1.vd hd).p56 hd ⟨Or.inl rfl, Or.inl rfl⟩)
  have es : spTl J d (300 * d + num J d) = uJ (spPut (spSp J (300 * d + num J d) (tF J d) hh c) (300 * d + num J d) 1 (nI (6 + 4 * (c - 1))) 0 0 (nI c)) 56 d 0 := by
    unfold spTl
    rw [em, eH]
  have P3 : Pk (pI (adS T' p 0 1 (nI (6 + 4 * (c - 1))) 0 0 (nI c) (J 68 (300 * d + num J d))) (20 + 3 * d) 7 0) (spTl J d (300 * d + num J d)) d p 1 := by
    rw [es]
    exact F2.2.keep (fun a ha => gI_ne (by omega)) rfl rfl (uJ_ne (by decide)) (uJ_ne (by decide)) (uJ_ne (by decide)) (uJ_ne (by decide)) (uJ_ne (by decide)) (uJ_ne (by decide)) (fun i _ => frs_eq (uJ_ne (by decide)) i)
  have E : Ev T (pI (adS T' p 0 1 (nI (6 + 4 * (c - 1))) 0 0 (nI c) (J 68 (300 * d + num J d))) (20 + 3 * d) 7 0) := by
    refine ⟨fun a h1 h2 => ?_, by rw [sN_pI, adS_n]; exact g.2.2, by rw [gR_pI, adS_R]; exact g.2.1⟩
    rw [gI_ne (by omega), adS_o (by omega) (by omega)]; exact g.1 a (by omega)
  refine ⟨E, ⟨by rw [es]; exact R3, P3⟩, ?_⟩
  have f69 : spSp J (300 * d + num J d) (tF J d) hh c 69 (300 * d + num J d) = nI 0 := by rw [j1 69 (by decide)]; exact hP.2.2.2.2.2.2.2.1.2.1
  have q0 : prt (spTl J d (300 * d + num J d)) (300 * d + num J d) 0 0 = 1 := by
    have := spPut_prt (J := spSp J (300 * d + num J d) (tF J d) hh c) (q := 300 * d + num J d) (k := 0) (w := 0) (kind := 1) (sz := nI (6 + 4 * (c - 1))) (a := 0) (b := 0) (c := nI c) f69 (by decide) (by decide)
    rw [if_pos rfl, if_pos rfl] at this
    rw [es]
    exact this
  have q3 : prt (spTl J d (300 * d + num J d)) (300 * d + num J d) 0 3 = nI c := by
    have := spPut_prt (J := spSp J (300 * d + num J d) (tF J d) hh c) (q := 300 * d + num J d) (k := 0) (w := 3) (kind := 1) (sz := nI (6 + 4 * (c - 1))) (a := 0) (b := 0) (c := nI c) f69 (by decide) (by decide)
    rw [if_pos rfl, if_neg (by decide), if_neg (by decide), if_neg (by decide)] at this
    rw [es]
    exact this
  have q75 : ∀ k, spTl J d (300 * d + num J d) 75 k = spSp J (300 * d + num J d) (tF J d) hh c 75 k := fun k => by rw [es, uJ_ne (by decide), spPut_ne (by decide) (by decide) (by decide) (by decide)]
  have q44 : ∀ d', num (spTl J d (300 * d + num J d)) d' = num J d' := fun d' => num_of (by rw [es, uJ_ne (by decide), spPut_ne (by decide) (by decide) (by decide) (by decide), j1 44 (by decide)])
  have lt : ∀ j, j < 4 → (nI j < nI c ↔ j < c) := fun j hj => nI_ltI (by omega) (by omega)
  unfold Spq
  rw [q44 d, q44 (1 - d), q0, q3, gI_ne (by omega), adS_o (by omega) (by omega)]
  refine ⟨fun j hj => ⟨fun z => ?_, fun z => ?_⟩, fun _ _ => ⟨loF (tF J d) hh, hiF (tF J d) hh, fun j hj hj4 => ?_, fun j hj hj3 => ?_⟩⟩
  · have hjc := (lt j hj).mp z.2.2
    obtain ⟨s1, s2⟩ := (hsp j hj).1 hjc
    obtain ⟨t1, t2⟩ := spSp_at (J := J) (q := 300 * d + num J d) (h := hh) (k := c) (f := tF J d) j hjc
    rw [q75, q75, t1, t2]; exact ⟨s1, s2⟩
  · exact (hsp j hj).2 (fun y => z ⟨by decide, rfl, (lt j hj).mpr y⟩)
  · have hjc := (lt j hj4).mp hj
    obtain ⟨t1, t2⟩ := spSp_at (J := J) (q := 300 * d + num J d) (h := hh) (k := c) (f := tF J d) j hjc
    rw [q75, q75, t1, t2]
    have := spn_hi (f := tF J d) (h := hh) j
    exact ⟨rfl, rfl, spn_le, by omega⟩
  · have hjc : j + 1 < c := by rw [nI_ltI (by omega) (by omega)] at hj; exact hj
    exact hp_mono hp j hjc

theorem EQ.told {d q : Nat} (h : EQ J d q 0) (hd : d < 2) (h56 : ¬ J 56 d = 0) (hw : J 68 q = nI 10) : EQ (spTl J d q) d q 1 := by
  obtain ⟨T, p, m, hm, F⟩ := h
  obtain rfl : m = 0 := by omega
  obtain ⟨rfl, hR, hP, hS, -⟩ := F
  have p79 := al79 hP.1
  obtain ⟨T', hT'⟩ : ∃ T' : Sto, T' = (sN T, (fun a => if a = p + 2 then (fun j => if j / 2 < tM J d then (if j % 2 = 0 then nI (loF (tF J d) (tH J d) (j / 2)) else nI (hiF (tF J d) (tH J d) (j / 2))) else -6) else gI T a), gR T) := ⟨_, rfl⟩
  have g1 : ∀ a, gI T' a = if a = p + 2 then (fun j => if j / 2 < tM J d then (if j % 2 = 0 then nI (loF (tF J d) (tH J d) (j / 2)) else nI (hiF (tF J d) (tH J d) (j / 2))) else -6) else gI T a := fun a => by rw [hT']; rfl
  have g : Gd T T' p := ⟨fun a ha => by rw [g1, if_neg ha], by rw [hT']; rfl, by rw [hT']; rfl⟩
  have hsp : SpI (gI T' (p + 2)) (tM J d) (loF (tF J d) (tH J d)) (hiF (tF J d) (tH J d)) := by
    rw [g1, if_pos rfl]
    intro j hj
    show (j < tM J d → (if 2 * j / 2 < tM J d then (if 2 * j % 2 = 0 then nI (loF (tF J d) (tH J d) (2 * j / 2)) else nI (hiF (tF J d) (tH J d) (2 * j / 2))) else -6) = _ ∧ (if (2 * j + 1) / 2 < tM J d then (if (2 * j + 1) % 2 = 0 then nI (loF (tF J d) (tH J d) ((2 * j + 1) / 2)) else nI (hiF (tF J d) (tH J d) ((2 * j + 1) / 2))) else -6) = _) ∧
      (¬ j < tM J d → (if 2 * j / 2 < tM J d then (if 2 * j % 2 = 0 then nI (loF (tF J d) (tH J d) (2 * j / 2)) else nI (hiF (tF J d) (tH J d) (2 * j / 2))) else -6) = -6 ∧ (if (2 * j + 1) / 2 < tM J d then (if (2 * j + 1) % 2 = 0 then nI (loF (tF J d) (tH J d) ((2 * j + 1) / 2)) else nI (hiF (tF J d) (tH J d) ((2 * j + 1) / 2))) else -6) = -6)
    rw [show 2 * j / 2 = j by omega, show (2 * j + 1) / 2 = j by omega]
    refine ⟨fun z => ⟨by rw [if_pos z, if_pos (by omega)], by rw [if_pos z, if_neg (by omega)]⟩, fun z => ⟨if_neg z, if_neg z⟩⟩
  obtain ⟨-, F1, S1⟩ := Fil.told ⟨hR, hP⟩ hd h56 hw g hsp
  refine ⟨_, p, 1, Nat.le_refl _, ?_, F1.1, F1.2, S1, fun _ => Nat.le_refl _⟩
  have : num (spTl J d (300 * d + num J d)) d = num J d := num_of (by unfold spTl; rw [uJ_ne (by decide), spPut_ne (by decide) (by decide) (by decide) (by decide), spSp_ne (by decide)])
  rw [this]
end EXTOLD
