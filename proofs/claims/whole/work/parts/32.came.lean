section CAME
variable {T : Sto} {J : Rows}
def spCm (J : Rows) (i f n : Nat) : Rows := uJ (zitC J i f n) 38 i (nI (zpf (cam (zitC J i f n) i) (1000 - ntn (J 38 i)) (ntn (J 38 i))))
/-- bytes come: END with them says how long the stream is -/
def spBC (J : Rows) (i f n : Nat) (c : Int32) : Rows := if c < 10000 then spCm J i f n else uJ (spCm J i f n) 42 i (nI (f + n))
theorem spCm_ne {i f n r : Nat} (h1 : r ≠ 37) (h2 : r ≠ 38) : spCm J i f n r = J r := by unfold spCm; rw [uJ_ne h2, zitC_ne h1]
theorem cam_zC {i f n j : Nat} : cam (zitC J i f n) i j = if f ≤ j ∧ j < f + n then 1 else cam J i j := by
  unfold cam
  rw [zitC_at]
  by_cases q : f ≤ j ∧ j < f + n
  · rw [if_pos q, if_pos ⟨by omega, by omega⟩]
  · rw [if_neg q, if_neg (fun z => q ⟨by omega, by omega⟩)]
theorem Rel.cm {T' : Sto} {i f n : Nat} (h : Rel T J) (hi : i < 8) (hfn : f + n ≤ 1000) (z : zLS T T' (spCm J i f n) i) : Rel T' (spCm J i f n) := by
  have eb : byt (spCm J i f n) i = byt J i := by funext j; unfold byt; rw [spCm_ne (by decide) (by decide)]
  refine h.ofz z hi ⟨fun r a b => spCm_ne (by omega) (by omega), fun k _ => by rw [spCm_ne (by decide) (by decide)]⟩ (by rw [spCm_ne (by decide) (by decide)]; exact h.vg.2.2.2.1) (fun i' hi' hne => ⟨fun r a b _ e => ?_, fun j hj => ⟨by unfold byt; rw [spCm_ne (by decide) (by decide)], ?_⟩⟩) ?_ (frs_eq (spCm_ne (by decide) (by decide)) i)
  · unfold spCm
    rw [uJ_off _ _ (Or.inr hne), zitC_ne e]
  · unfold cam spCm
    rw [uJ_ne (by decide), zitC_at, if_neg (by omega)]
  · have hv := h.vs hi
    obtain ⟨w, f0, b1, b2, b3, b4, b5⟩ := hv.2.1
    obtain ⟨p, r, c1, c2, c3, c4⟩ := hv.2.2.1
    refine hv.alt (fun r a b _ e _ g => by rw [spCm_ne e g]) ⟨w, f0, b1, by rw [spCm_ne (by decide) (by decide)]; exact b2, b3, b4, by rw [eb]; exact b5⟩ ?_ (fun j hj => ⟨by rw [eb]; exact (hv.2.2.2.2.2 j hj).1, ?_⟩)
    · have ep : ntn (J 38 i) = p := by rw [c1]; exact ntn_nI (by omega)
      have := zpf_le (cam (zitC J i f n) i) (1000 - p) p
      refine ⟨zpf (cam (zitC J i f n) i) (1000 - p) p, r, ?_, c2, by omega, by omega⟩
      unfold spCm
      rw [uJ_same, ep]
    · have e : cam (spCm J i f n) i j = cam (zitC J i f n) i j := by
        have h2 : spCm J i f n 37 = zitC J i f n 37 := by unfold spCm; exact uJ_ne (by decide)
        unfold cam
        rw [h2]
      rw [e, cam_zC]
      split
      · exact Or.inr rfl
      · exact (hv.2.2.2.2.2 j hj).2
theorem c_came {i f n : Nat} {Q : Sto → Prop} (hR : Rel T J) (hi : i < 8) (hfn : f + n ≤ 1000) (h : ∀ T', Ev T T' → Rel T' (spCm J i f n) → Q T') : Cv K3_markCame [vr (3 + 2 * i), vi (nI f), vi (nI n)] T Q := by
  obtain ⟨p, r, c1, c2, c3, c4⟩ := (hR.vs hi).2.2.1
  have ep : ntn (J 38 i) = p := by rw [c1]; exact ntn_nI (by omega)
  refine c_markCame hR hi hfn c4 c1 (fun T' z => ?_)
  have z' : zLS T T' (spCm J i f n) i := by unfold spCm; rw [ep]; exact z
  exact h T' (Ev.z z' hi) (hR.cm hi hfn z')
theorem m_bytesCome {i f n : Nat} {c : Int32} {w : Int32} {Q : Sto → Prop} (hF : Fx T) (hi : i < 8) (hfn : f + n ≤ 1000) (hp : upTo (J 38 i) 1000) (hw : w = if c < 10000 then 0 else 1) (h : Q (wJ T (spBC J i f n c))) : Cv K5_bytesCome [vr 26, vi (nI i), vi (nI f), vi (nI n), vi w] (wJ T J) Q := by
  refine e5_bytesCome (FxJ hF) (fun X O => ?_)
  obtain ⟨p, p1, p2⟩ := hp
  have ti : (nI i).toNatClampNeg = i := tnN (by omega)
  have ep : ntn (J 38 i) = p := by rw [p2]; exact ntn_nI (by omega)
  have tail : ∀ (m q : Nat) (J' : Rows), q + m = 1000 → J' 38 i = nI q → (∀ v, v = (if w = 0 then J' 42 i else nI f + nI n : Int32) → Q (wJ T (uJ (uJ J' 38 i (nI (zpf (cam J' i) m q))) 42 i v))) → WP X 31 [(0, vr 26), (1, vi (nI i)), (2, vi (nI f)), (3, vi (nI n)), (4, vi w)] [] (wJ T J') 0 0 := by
    intro m
    induction m with
    | zero =>
      intro q J' hq e38 k
      refine s5_bytesCome_31 (S := wJ T J') (FxJ hF) (Nat.le_refl _) O ⟨ixN hi (by decide), ?_⟩
      rw [ti, gI_wm (a := 38) (by decide), e38, gI_wm (a := 42) (by decide)]
      refine ⟨fun _ v hv => ?_, fun hc => absurd (nle (N := 1000) (by omega) (by omega)) hc⟩
      rw [pI_wJ (by decide)]
      have := k v hv
      show Q (wJ T (uJ J' 42 i v))
      have e : uJ J' 38 i (nI (zpf (cam J' i) 0 q)) = J' := by
        show uJ J' 38 i (nI q) = J'
        rw [← e38]; exact uJ_id
      rw [e] at this
      exact this
    | succ m ih =>
      intro q J' hq e38 k
      have hj : q < 1000 := by omega
      have ex : (1000 * nI i + nI q : Int32) = nI (1000 * i + q) := by rw [show (1000 : Int32) = nI 1000 from rfl, pk_mul, nI_add]
      refine s5_bytesCome_31 (S := wJ T J') (FxJ hF) (Nat.le_refl _) O ⟨ixN hi (by decide), ?_⟩
      rw [ti, gI_wm (a := 38) (by decide), e38, gI_wm (a := 42) (by decide), ex, tnN (show 1000 * i + q < 2 ^ 31 by omega), gI_wm (a := 37) (by decide), nI_suc]
      refine ⟨fun hc => absurd hc (nge (N := 1000) hj (by decide)), fun _ => ⟨ixN (by omega) (by decide), fun z v hv => ?_, fun nz => ?_⟩⟩
      · rw [pI_wJ (by decide)]
        have := k v hv
        have ez : zpf (cam J' i) (m + 1) q = q := if_pos z
        rw [ez, ← e38, uJ_id] at this
        exact this
      · rw [pI_wJ (by decide)]
        refine ih (q + 1) (uJ J' 38 i (nI (q + 1))) (by omega) uJ_same (fun v hv => ?_)
        rw [uJ_ne (show (42 : Nat) ≠ 38 by decide)] at hv
        have := k v hv
        have ez : zpf (cam J' i) (m + 1) q = zpf (cam J' i) m (q + 1) := if_neg nz
        have ec : cam (uJ J' 38 i (nI (q + 1))) i = cam J' i := by funext j; unfold cam; rw [uJ_ne (by decide)]
        rw [ec, uJ_uJ]
        rw [ez] at this
        exact this
  have loop : ∀ (b a : Nat), a + b = n → WP X 3 [(0, vr 26), (1, vi (nI i)), (2, vi (nI f)), (3, vi (nI n)), (4, vi w), (5, vi (nI a))] [] (wJ T (zitC J i f a)) 0 0 := by
    intro b
    induction b with
    | zero =>
      intro a ha
      have : a = n := by omega
      subst this
      refine s5_bytesCome_3 (S := wJ T (zitC J i f a)) (FxJ hF) (Nat.le_refl _) O ⟨fun _ => ?_, fun hc => absurd (nle (Nat.le_refl _) (by omega)) hc⟩
      refine tail (1000 - p) p _ (by omega) (by rw [zitC_ne (by decide)]; exact p2) (fun v hv => ?_)
      have es : uJ (zitC J i f a) 38 i (nI (zpf (cam (zitC J i f a) i) (1000 - p) p)) = spCm J i f a := by unfold spCm; rw [ep]
      rw [es]
      unfold spBC at h
      by_cases q : c < 10000
      · rw [if_pos q] at h hw
        rw [hw, if_pos rfl, zitC_ne (by decide)] at hv
        rw [hv]
        have : uJ (spCm J i f a) 42 i (J 42 i) = spCm J i f a := by
          have := uJ_id (J := spCm J i f a) (a := 42) (k := i)
          rwa [spCm_ne (r := 42) (by decide) (by decide)] at this
        rw [this]; exact h
      · rw [if_neg q] at h hw
        rw [hw, if_neg (by decide), nI_add] at hv
        rw [hv]; exact h
    | succ b ihb =>
      intro a ha
      have ex : (1000 * nI i + nI f + nI a : Int32) = nI (1000 * i + (f + a)) := by
        rw [show (1000 : Int32) = nI 1000 from rfl, pk_mul, nI_add, nI_add]; congr 1; omega
      refine s5_bytesCome_3 (S := wJ T (zitC J i f a)) (FxJ hF) (Nat.le_refl _) O ⟨fun hc => ?_, fun _ => ?_⟩
      · rw [nI_leI (by omega) (by omega)] at hc; omega
      · rw [ex, tnN (show 1000 * i + (f + a) < 2 ^ 31 by omega), nI_suc, pI_wJ (by decide)]
        exact ⟨ixN (by omega) (by decide), ihb (a + 1) (by omega)⟩
  exact loop n 0 (by omega)
/-- one global field of the carrier -/
theorem Rel.putG {k : Nat} {x : Int32} (h : Rel T J) (hk : k = 10 ∨ k = 11 ∨ k = 12 ∨ k = 13 ∨ k = 4) (hx : k = 10 → is01 x) : Rel (pI T 0 k x) (uJ J 26 (rg k) x) := by
  have hkk : k ∈ ksG := by rcases hk with rfl | rfl | rfl | rfl | rfl <;> decide
  have hr : rg k = 46 ∨ rg k = 47 ∨ rg k = 48 ∨ rg k = 49 ∨ rg k = 3 := by rcases hk with rfl | rfl | rfl | rfl | rfl <;> decide
  have e : ∀ r, r ≠ 26 → uJ J 26 (rg k) x r = J r := fun r hr => uJ_ne hr
  have g : ∀ j, j ≠ rg k → uJ J 26 (rg k) x 26 j = J 26 j := fun j hj => uJ_off _ _ (Or.inr hj)
  have nm : ∀ d, num (uJ J 26 (rg k) x) d = num J d := fun d => num_of (by rw [e 44 (by decide)])
  refine h.chg h.f (fun d _ => nm d) (Nat.le_refl _) (fun i _ => frs_eq (e 31 (by decide)) i) (fun i hi => Or.inl ⟨gI_ne (by omega), gI_ne (by omega), fun r a b _ _ => by rw [e r (by omega)], fun j _ => ⟨by unfold byt; rw [e 36 (by decide)], by unfold cam; rw [e 37 (by decide)]⟩⟩)
    (fun d hd => Or.inl ⟨gI_ne (by omega), gI_ne (by omega), fun r a b => by rw [e r (by omega)], fun n _ => ⟨by rw [e 70 (by decide)], by rw [e 71 (by decide)], by rw [e 72 (by decide)]⟩⟩) (fun d hd => (h.vd hd).ag (fun r a b => by rw [e r (by omega)]) (nm _) (fun n _ => by rw [e 73 (by decide)]) (g 45 (by omega)) (h.nle (by omega))) ?_ ?_
    (fun d n p hd hn hp hal => Or.inl ⟨gI_ne (by have := al79 hal; omega), gI_ne (by omega), gI_ne (by omega), ⟨fun r a b => by rw [e r (by omega)], fun a w _ _ => by unfold prt; rw [e 74 (by decide)], fun j _ => by rw [e 75 (by decide)]⟩, g 0 (by omega)⟩) (fun _ _ _ _ => rfl)
    (h.n.ag (g 62 (by omega)) (fun i _ => ⟨by rw [e 76 (by decide)], by rw [e 77 (by decide)]⟩) (fun d _ => nm d) (fun _ _ => rfl) (fun _ _ _ _ => rfl))
  · rw [gI_eq]
    intro k' hk'
    show upd _ k x k' = uJ J 26 (rg k) x 26 (rg k')
    rw [upd_at, uJ_eq]
    by_cases q : k' = k
    · subst q; rw [if_pos rfl, if_pos rfl]
    · rw [if_neg q, if_neg (fun z => q (rg_inj k' hk' k hkk z))]; exact h.g k' hk'
  · obtain ⟨h1, h2, h3, h4, h5, h6, h7, h8⟩ := h.vg
    unfold IvG
    rw [g 0 (by omega), g 1 (by omega), g 2 (by omega), g 4 (by omega), g 44 (by omega), g 45 (by omega), g 62 (by omega)]
    refine ⟨h1, h2, h3, h4, ?_, h6, h7, h8⟩
    rw [uJ_eq]
    split
    · refine hx ?_
      rcases hk with rfl | rfl | rfl | rfl | rfl
      · rfl
      all_goals (exfalso; revert hr; simp_all [rg])
    · exact h5
end CAME
