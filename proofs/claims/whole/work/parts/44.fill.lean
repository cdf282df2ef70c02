section FILL
variable {T : Sto} {J : Rows}
/-- rows of a PACKET that isn't under way yet -/
def agQ (J J' : Rows) (q : Nat) : Prop :=
  (∀ r, r ≠ 26 → r ≠ 66 → r ≠ 67 → r ≠ 68 → r ≠ 69 → r ≠ 70 → r ≠ 74 → r ≠ 75 → J' r = J r) ∧ (∀ j, j ≠ 63 → J' 26 j = J 26 j) ∧ (∀ r k, 66 ≤ r → r ≤ 70 → k ≠ q → J' r k = J r k) ∧
  (∀ k, k < 96 * q ∨ 96 * q + 96 ≤ k → J' 74 k = J 74 k) ∧ ∀ k, k < 8 * q ∨ 8 * q + 8 ≤ k → J' 75 k = J 75 k
def frs_p (T : Sto) (J : Rows) (p : Nat) : Prop := ∀ d n p', d < 2 → n < num J d → gR T (21 + 3 * d) n = some p' → p' ≠ p
theorem Rel.fil {T' : Sto} {J' : Rows} {d p : Nat} (h : Rel T J) (hd : d < 2) (hn : num J d < 300) (hF : Fx T') (hsn : sN T' = sN T) (hg : gR T' = gR T) (hI : ∀ a, a ≠ p → a ≠ p + 1 → a ≠ p + 2 → gI T' a = gI T a) (hal : al T p 1) (hfr : frs_p T J p) (hq : agQ J J' (300 * d + num J d)) : Rel T' J' := by
  obtain ⟨e, g, e5, e74, e75⟩ := hq
  have p79 := al79 hal
  have pm := kd1_3 hal
  have nm : ∀ d, num J' d = num J d := fun d => num_of (by rw [e 44 (by decide) (by decide) (by decide) (by decide) (by decide) (by decide) (by decide) (by decide)])
  have es : ∀ r, 27 ≤ r ∧ r ≤ 65 ∨ 71 ≤ r ∧ r ≤ 73 ∨ 76 ≤ r → J' r = J r := fun r hr => e r (by omega) (by omega) (by omega) (by omega) (by omega) (by omega) (by omega) (by omega)
  have iq : ∀ d' n, d' < 2 → n < num J d' → 300 * d' + n ≠ 300 * d + num J d := fun d' n hd' hn' z => by
    have := h.nle hd'
    by_cases y : d' = d
    · subst y; omega
    · omega
  refine h.chg hF (fun d _ => nm d) (by omega) (fun i _ => frs_eq (es 31 (by omega)) i) (fun j hj => Or.inl ⟨hI _ (by omega) (by omega) (by omega), hI _ (by omega) (by omega) (by omega), fun r a b _ _ => by rw [es r (by omega)], fun k _ => ⟨by unfold byt; rw [es 36 (by omega)], by unfold cam; rw [es 37 (by omega)]⟩⟩)
    (fun d' hd' => Or.inr ?_) (fun d' hd' => (h.vd hd').ag (fun r a b => by rw [es r (by omega)]) (nm _) (fun n _ => by rw [es 73 (by omega)]) (g 45 (by decide)) (h.nle (by omega))) ?_ ?_ (fun d' n p' hd' hn' hp' hal' => Or.inl ?_) (fun _ _ _ _ => by rw [hg]) ?_
  · rw [hI _ (by omega) (by omega) (by omega), hI _ (by omega) (by omega) (by omega)]
    obtain ⟨h1, h2, h3, h4, ⟨t, h5, h6, h7⟩, s, h8, h9, h10⟩ := h.d hd'
    refine ⟨fun k hk => ?_, fun k hk => ?_, h3, ?_, ⟨t, h5, h6, ?_⟩, s, h8, ⟨h9.1, by rw [nm]; exact h9.2⟩, fun n hn' => ?_⟩
    · have := rd_in k hk
      show _ = J' (rd k) d'
      rw [es _ (by omega)]; exact h1 k hk
    · have := rp_in k hk
      show _ = J' (rp k) d'
      rw [es _ (by omega)]; exact h2 k hk
    · rw [es 64 (by omega), es 65 (by omega)]; exact h4
    · rw [es 61 (by omega)]; exact h7
    · rw [es 71 (by omega), es 72 (by omega), e5 70 _ (by decide) (by decide) (iq d' n hd' (by omega))]
      exact h10 n hn'
  · rw [hI _ (by omega) (by omega) (by omega)]
    intro k hk
    have t : ∀ k ∈ ksG, rg k ≠ 63 := by decide
    show _ = J' 26 (rg k)
    rw [g _ (t k hk)]; exact h.g k hk
  · have := h.vg
    unfold IvG at this ⊢
    rw [g 0 (by decide), g 1 (by decide), g 2 (by decide), g 4 (by decide), g 46 (by decide), g 44 (by decide), g 45 (by decide), g 62 (by decide)]
    exact this
  · have pne := hfr d' n p' hd' hn' hp'
    have p79' := al79 hal'
    have pm' := kd1_3 hal'
    have hne := iq d' n hd' hn'
    refine ⟨hI _ (by omega) (by omega) (by omega), hI _ (by omega) (by omega) (by omega), hI _ (by omega) (by omega) (by omega), ⟨fun r a b => ?_, fun k w hk hw => ?_, fun j hj => ?_⟩, g 0 (by decide)⟩
    · rcases (show r ≤ 70 ∨ 71 ≤ r by omega) with z | z
      · exact e5 r _ a z hne
      · rw [es r (by omega)]
    · unfold prt
      exact e74 _ (by omega)
    · exact e75 _ (by omega)
  · exact h.n.ag (g 62 (by decide)) (fun k _ => ⟨by rw [es 76 (by omega)], by rw [es 77 (by omega)]⟩) (fun d _ => nm d) (fun _ _ => by rw [hg]) (fun _ _ _ _ => by rw [hg])
/-- the new PACKET, while it is filled: m parts -/
def Pk (T : Sto) (J : Rows) (d p m : Nat) : Prop :=
  al T p 1 ∧ frs_p T J p ∧ num J d < 300 ∧ m ≤ 16 ∧ J 26 63 = nI (300 * d + num J d) ∧
  (gI T p 0 = nI d ∧ gI T p 1 = nI (num J d) ∧ gI T p 2 = J 26 3 ∧ gI T p 3 = J 26 (if d = 0 then 44 else 45) ∧ gI T p 4 = J 26 0) ∧
  (gI T p 10 = 0 ∧ gI T p 11 = 0 ∧ gI T p 12 = 0) ∧
  (gI T p 7 = nI m ∧ J 69 (300 * d + num J d) = nI m ∧ gI T p 8 = J 68 (300 * d + num J d) ∧ gI T p 9 = J 70 (300 * d + num J d)) ∧
  (∃ w r, J 68 (300 * d + num J d) = nI w ∧ J 26 0 = nI r ∧ 10 ≤ w ∧ w ≤ r ∧ r ≤ 1000) ∧ is01 (J 70 (300 * d + num J d)) ∧
  (∀ k w, k < m → w < 4 → gI T (p + 1) (4 * k + w) = prt J (300 * d + num J d) k w) ∧
  ∀ k, k < m → IvPart J d (prt J (300 * d + num J d) k 0) (prt J (300 * d + num J d) k 1) (prt J (300 * d + num J d) k 2) (prt J (300 * d + num J d) k 3) ∧ (prt J (300 * d + num J d) k 0 = 1 → k = 0)
/-- its spans -/
def Spq (T : Sto) (J : Rows) (d p m : Nat) : Prop :=
  (∀ j, j < 4 → (0 < m ∧ prt J (300 * d + num J d) 0 0 = 1 ∧ nI j < prt J (300 * d + num J d) 0 3 → gI T (p + 2) (2 * j) = J 75 (8 * (300 * d + num J d) + 2 * j) ∧ gI T (p + 2) (2 * j + 1) = J 75 (8 * (300 * d + num J d) + 2 * j + 1)) ∧
    (¬ (0 < m ∧ prt J (300 * d + num J d) 0 0 = 1 ∧ nI j < prt J (300 * d + num J d) 0 3) → gI T (p + 2) (2 * j) = -6 ∧ gI T (p + 2) (2 * j + 1) = -6)) ∧
  (0 < m → prt J (300 * d + num J d) 0 0 = 1 → ∃ lo hi : Nat → Nat, (∀ j, nI j < prt J (300 * d + num J d) 0 3 → j < 4 → J 75 (8 * (300 * d + num J d) + 2 * j) = nI (lo j) ∧ J 75 (8 * (300 * d + num J d) + 2 * j + 1) = nI (hi j) ∧ lo j ≤ hi j ∧ hi j < num J (1 - d)) ∧ ∀ j, nI (j + 1) < prt J (300 * d + num J d) 0 3 → j < 3 → hi (j + 1) < lo j)
def Fil (T : Sto) (J : Rows) (d p m : Nat) : Prop := Rel T J ∧ Pk T J d p m
theorem Pk.keep {T' : Sto} {J' : Rows} {d p m : Nat} (h : Pk T J d p m) (hI : ∀ a, 79 ≤ a → gI T' a = gI T a) (hg : gR T' = gR T) (hs : sN T' = sN T) (h26 : J' 26 = J 26) (h44 : J' 44 = J 44) (h68 : J' 68 = J 68) (h69 : J' 69 = J 69) (h70 : J' 70 = J 70) (h74 : J' 74 = J 74) (hf : ∀ i, i < 8 → frs J i ≤ frs J' i) : Pk T' J' d p m := by
  have nm : ∀ d, num J' d = num J d := fun d => num_of (by rw [h44])
  have p79 := al79 h.1
  have pr : ∀ q k w, prt J' q k w = prt J q k w := fun q k w => by unfold prt; rw [h74]
  obtain ⟨a1, a2, a3, a4, a5, a6, a7, a8, a9, a10, a11, a12⟩ := h
  unfold Pk
  rw [nm d, h26, h68, h69, h70, hI p p79, hI (p + 1) (by omega)]
  refine ⟨a1.mono (by rw [hs]; exact Nat.le_refl _), fun d' n p' q1 q2 q3 => a2 d' n p' q1 (by rw [← nm]; exact q2) (by rw [← hg]; exact q3), a3, a4, a5, a6, a7, a8, a9, a10, fun k w hk hw => by rw [pr]; exact a11 k w hk hw, fun k hk => ?_⟩
  rw [pr, pr, pr, pr]
  exact ⟨(a12 k hk).1.fr hf, (a12 k hk).2⟩
theorem Spq.keep {T' : Sto} {J' : Rows} {d p m : Nat} (h : Spq T J d p m) (hI : gI T' (p + 2) = gI T (p + 2)) (h44 : J' 44 = J 44) (h74 : J' 74 = J 74) (h75 : J' 75 = J 75) : Spq T' J' d p m := by
  have nm : ∀ d, num J' d = num J d := fun d => num_of (by rw [h44])
  have pr : ∀ q k w, prt J' q k w = prt J q k w := fun q k w => by unfold prt; rw [h74]
  unfold Spq
  rw [nm d, nm (1 - d), hI, h75]
  simp only [pr]
  exact h
/-! a part is put -/
def wOf (kind c : Int32) : Int32 :=
  if kind = 1 then 6 + 4 * (c - 1) else if kind = 2 then 5 else if kind = 3 then 5 else if kind = 4 then 8 + (c - c / 10000 * 10000) else if kind = 5 then 7 else if kind = 6 then 9 else if kind = 7 then 9 else 1
theorem c_weightOf {kind c : Int32} {Q : Int32 → Sto → Prop} (hF : Fx T) (h : Q (wOf kind c) T) : Ci K1_weightOf [vi kind, vi c] T Q := by
  unfold wOf at h
  refine e1_weightOf hF ⟨fun e => ?_, fun e => ?_, fun e => ?_, fun e => ?_, fun e => ?_, fun e => ?_, fun e => ?_, fun n1 n2 n3 n4 n5 n6 n7 => ?_⟩
  · subst e; exact h
  · subst e; exact h
  · subst e; exact h
  · subst e; exact h
  · subst e; exact h
  · subst e; exact h
  · subst e; exact h
  · rw [if_neg n1, if_neg n2, if_neg n3, if_neg n4, if_neg n5, if_neg n6, if_neg n7] at h; exact h
abbrev fits (J : Rows) (q : Nat) (sz : Int32) : Prop := J 68 q + sz ≤ J 26 0
def hvy (J : Rows) (q : Nat) (kind : Int32) : Int32 := if J 70 q = 0 then (if kind = 1 then 0 else 1) else 1
def spPut (J : Rows) (q : Nat) (kind sz a b c : Int32) : Rows :=
  uJ (uJ (uJ (uJ (uJ (uJ (uJ J 74 (4 * (24 * q + ntn (J 69 q))) kind) 74 (4 * (24 * q + ntn (J 69 q)) + 1) a) 74 (4 * (24 * q + ntn (J 69 q)) + 2) b) 74 (4 * (24 * q + ntn (J 69 q)) + 3) c) 69 q (J 69 q + 1)) 68 q (J 68 q + sz)) 70 q (hvy J q kind)
def adS (T : Sto) (p m : Nat) (kind sz a b c w : Int32) : Sto :=
  if kind = 1 then pI (pI (pI (pI (pI (pI T (p + 1) (4 * m) kind) (p + 1) (4 * m + 1) a) (p + 1) (4 * m + 2) b) (p + 1) (4 * m + 3) c) p 7 (nI (m + 1))) p 8 (w + sz)
  else pI (pI (pI (pI (pI (pI (pI T (p + 1) (4 * m) kind) (p + 1) (4 * m + 1) a) (p + 1) (4 * m + 2) b) (p + 1) (4 * m + 3) c) p 7 (nI (m + 1))) p 8 (w + sz)) p 9 1
theorem spPut_ne {q r : Nat} {kind sz a b c : Int32} (h1 : r ≠ 74) (h2 : r ≠ 69) (h3 : r ≠ 68) (h4 : r ≠ 70) : spPut J q kind sz a b c r = J r := by
  unfold spPut
  rw [uJ_ne h4, uJ_ne h3, uJ_ne h2, uJ_ne h1, uJ_ne h1, uJ_ne h1, uJ_ne h1]
theorem spPut_74 {q k : Nat} {kind sz a b c : Int32} : spPut J q kind sz a b c 74 k = if k = 4 * (24 * q + ntn (J 69 q)) + 3 then c else if k = 4 * (24 * q + ntn (J 69 q)) + 2 then b else if k = 4 * (24 * q + ntn (J 69 q)) + 1 then a else if k = 4 * (24 * q + ntn (J 69 q)) then kind else J 74 k := by
  unfold spPut
  rw [uJ_ne (by decide), uJ_ne (by decide), uJ_ne (by decide), uJ_eq, uJ_eq, uJ_eq, uJ_eq]
theorem spPut_prt {q k m w : Nat} {kind sz a b c : Int32} (hm : J 69 q = nI m) (h16 : m ≤ 16) (hw : w < 4) : prt (spPut J q kind sz a b c) q k w = if k = m then (if w = 0 then kind else if w = 1 then a else if w = 2 then b else c) else prt J q k w := by
  unfold prt
  rw [spPut_74, hm, ntn_nI (by omega)]
  by_cases z : k = m
  · subst z
    rw [if_pos rfl]
    rcases (show w = 0 ∨ w = 1 ∨ w = 2 ∨ w = 3 by omega) with rfl | rfl | rfl | rfl
    · rw [if_neg (by omega), if_neg (by omega), if_neg (by omega), if_pos (by omega), if_pos rfl]
    · rw [if_neg (by omega), if_neg (by omega), if_pos rfl, if_neg (by decide), if_pos rfl]
    · rw [if_neg (by omega), if_pos rfl, if_neg (by decide), if_neg (by decide), if_pos rfl]
    · rw [if_pos rfl, if_neg (by decide), if_neg (by decide), if_neg (by decide)]
  · rw [if_neg z, if_neg (by omega), if_neg (by omega), if_neg (by omega), if_neg (by omega)]
theorem spPut_69 {q k : Nat} {kind sz a b c : Int32} : spPut J q kind sz a b c 69 k = if k = q then J 69 q + 1 else J 69 k := by
  unfold spPut
  rw [uJ_ne (by decide), uJ_ne (by decide), uJ_eq, uJ_ne (by decide), uJ_ne (by decide), uJ_ne (by decide), uJ_ne (by decide)]
theorem spPut_68 {q k : Nat} {kind sz a b c : Int32} : spPut J q kind sz a b c 68 k = if k = q then J 68 q + sz else J 68 k := by
  unfold spPut
  rw [uJ_ne (by decide), uJ_eq, uJ_ne (by decide), uJ_ne (by decide), uJ_ne (by decide), uJ_ne (by decide), uJ_ne (by decide)]
theorem spPut_70 {q k : Nat} {kind sz a b c : Int32} : spPut J q kind sz a b c 70 k = if k = q then hvy J q kind else J 70 k := by
  unfold spPut
  rw [uJ_eq, uJ_ne (by decide), uJ_ne (by decide), uJ_ne (by decide), uJ_ne (by decide), uJ_ne (by decide), uJ_ne (by decide)]
theorem spPut_ag {q m : Nat} {kind sz a b c : Int32} (hm : J 69 q = nI m) (h16 : m < 24) : agQ J (spPut J q kind sz a b c) q := by
  refine ⟨fun r h1 h2 h3 h4 h5 h6 h7 h8 => spPut_ne h7 h5 h4 h6, fun j hj => by rw [spPut_ne (by decide) (by decide) (by decide) (by decide)], fun r k h1 h2 hk => ?_, fun k hk => ?_, fun k hk => by rw [spPut_ne (by decide) (by decide) (by decide) (by decide)]⟩
  · rcases (show r = 66 ∨ r = 67 ∨ r = 68 ∨ r = 69 ∨ r = 70 by omega) with rfl | rfl | rfl | rfl | rfl
    · rw [spPut_ne (by decide) (by decide) (by decide) (by decide)]
    · rw [spPut_ne (by decide) (by decide) (by decide) (by decide)]
    · rw [spPut_68, if_neg hk]
    · rw [spPut_69, if_neg hk]
    · rw [spPut_70, if_neg hk]
  · rw [spPut_74, hm, ntn_nI (by omega), if_neg (by omega), if_neg (by omega), if_neg (by omega), if_neg (by omega)]
theorem adS_o {p m a' : Nat} {kind sz a b c w : Int32} (h1 : a' ≠ p) (h2 : a' ≠ p + 1) : gI (adS T p m kind sz a b c w) a' = gI T a' := by
  unfold adS
  split
  · rw [gI_ne h1, gI_ne h1, gI_ne h2, gI_ne h2, gI_ne h2, gI_ne h2]
  · rw [gI_ne h1, gI_ne h1, gI_ne h1, gI_ne h2, gI_ne h2, gI_ne h2, gI_ne h2]
theorem adS_R {p m : Nat} {kind sz a b c w : Int32} : gR (adS T p m kind sz a b c w) = gR T := by
  unfold adS
  split <;> rfl
theorem adS_n {p m : Nat} {kind sz a b c w : Int32} : sN (adS T p m kind sz a b c w) = sN T := by
  unfold adS
  split <;> rfl
theorem adS_p {p m k : Nat} {kind sz a b c w : Int32} : gI (adS T p m kind sz a b c w) p k = if k = 7 then nI (m + 1) else if k = 8 then w + sz else if k = 9 then (if kind = 1 then gI T p 9 else 1) else gI T p k := by
  have hp : p ≠ p + 1 := by omega
  unfold adS
  by_cases z : kind = 1
  · rw [if_pos z, gI_eq, gI_eq, gI_ne hp, gI_ne hp, gI_ne hp, gI_ne hp, upd_at, upd_at]
    by_cases k8 : k = 8
    · rw [if_pos k8, if_neg (by omega), if_pos k8]
    · rw [if_neg k8]
      by_cases k7 : k = 7
      · rw [if_pos k7, if_pos k7]
      · rw [if_neg k7, if_neg k7, if_neg k8]
        by_cases k9 : k = 9
        · rw [if_pos k9, if_pos z, k9]
        · rw [if_neg k9]
  · rw [if_neg z, gI_eq, gI_eq, gI_eq, gI_ne hp, gI_ne hp, gI_ne hp, gI_ne hp, upd_at, upd_at, upd_at]
    by_cases k9 : k = 9
    · rw [if_pos k9, if_neg (by omega), if_neg (by omega), if_pos k9, if_neg z]
    · rw [if_neg k9]
      by_cases k8 : k = 8
      · rw [if_pos k8, if_neg (by omega), if_pos k8]
      · rw [if_neg k8]
        by_cases k7 : k = 7
        · rw [if_pos k7, if_pos k7]
        · rw [if_neg k7, if_neg k7, if_neg k8, if_neg k9]
theorem adS_q {p m k : Nat} {kind sz a b c w : Int32} : gI (adS T p m kind sz a b c w) (p + 1) k = if k = 4 * m + 3 then c else if k = 4 * m + 2 then b else if k = 4 * m + 1 then a else if k = 4 * m then kind else gI T (p + 1) k := by
  have hp : p + 1 ≠ p := by omega
  unfold adS
  split
  · rw [gI_ne hp, gI_ne hp, gI_eq, gI_eq, gI_eq, gI_eq, upd_at, upd_at, upd_at, upd_at]
  · rw [gI_ne hp, gI_ne hp, gI_ne hp, gI_eq, gI_eq, gI_eq, gI_eq, upd_at, upd_at, upd_at, upd_at]
/-- what the walks of the reference need to know of the PACKET at hand -/
def Mq (J : Rows) (q m : Nat) : Prop := J 26 63 = nI q ∧ q < 600 ∧ J 69 q = nI m ∧ m ≤ 16 ∧ ∃ w r, J 68 q = nI w ∧ J 26 0 = nI r ∧ 10 ≤ w ∧ w ≤ r ∧ r ≤ 1000
theorem Pk.mq {d p m : Nat} (h : Pk T J d p m) (hd : d < 2) : Mq J (300 * d + num J d) m := ⟨h.2.2.2.2.1, by have := h.2.2.1; omega, h.2.2.2.2.2.2.2.1.2.1, h.2.2.2.1, h.2.2.2.2.2.2.2.2.1⟩
theorem m_put {q m z : Nat} {kind a b c : Int32} {Q : Int32 → Sto → Prop} (hF : Fx T) (h : Mq J q m) (hm : m < 16) (hz : z ≤ 2000) (h0 : ¬ fits J q (nI z) → Q 0 (wJ T J)) (h1 : fits J q (nI z) → Q 1 (wJ T (spPut J q kind (nI z) a b c))) : Ci K5_put [vr 26, vi kind, vi (nI z), vi a, vi b, vi c] (wJ T J) Q := by
  obtain ⟨e63, q6, e69, -, w, r, e68, e0, w10, wr, r1⟩ := h
  have tq : (nI q).toNatClampNeg = q := tnN (by omega)
  have nm : ntn (J 69 q) = m := by rw [e69]; exact ntn_nI (by omega)
  refine e5_put (FxJ hF) ?_
  rw [gI_wm (a := 26) (by decide), e63, tq, gI_wm (a := 68) (by decide), gI_wm (a := 69) (by decide), gI_wm (a := 70) (by decide), e69, pix, show (1 : Int32) = nI 1 from rfl, show (2 : Int32) = nI 2 from rfl, show (3 : Int32) = nI 3 from rfl, nI_add, nI_add, nI_add, nI_add]
  rw [tnN (show 4 * (24 * q + m) < 2 ^ 31 by omega), tnN (show 4 * (24 * q + m) + 1 < 2 ^ 31 by omega), tnN (show 4 * (24 * q + m) + 2 < 2 ^ 31 by omega), tnN (show 4 * (24 * q + m) + 3 < 2 ^ 31 by omega)]
  refine ⟨ixN q6 (by decide), fun hc => h0 (ltle hc), fun hc => ⟨fun _ => ⟨ixN (by omega) (by decide), ixN (by omega) (by decide), ixN (by omega) (by decide), ixN (by omega) (by decide), fun x hx => ?_⟩, fun h24 => ?_⟩⟩
  · rw [pI_wJ (by decide), pI_wJ (by decide), pI_wJ (by decide), pI_wJ (by decide), pI_wJ (by decide), pI_wJ (by decide), pI_wJ (by decide)]
    have := h1 (ilt hc)
    unfold spPut at this
    rw [nm, e69, show (1 : Int32) = nI 1 from rfl, nI_add] at this
    rw [hx]
    exact this
  · have := nI_nj (b := 24) (by omega) (by omega) h24
    omega
theorem c_add {d p m z : Nat} {kind a b c : Int32} {Q : Int32 → Sto → Prop} (hF : Fx T) (h : Pk T J d p m) (hm : m < 16) (hz : z ≤ 2000) (hsz : wOf kind c = nI z) (h0 : ¬ fits J (300 * d + num J d) (nI z) → Q 0 T) (h1 : fits J (300 * d + num J d) (nI z) → Q 1 (adS T p m kind (nI z) a b c (J 68 (300 * d + num J d)))) : Ci K1_add [vr p, vi kind, vi a, vi b, vi c] T Q := by
  obtain ⟨hal, -, -, -, -, ⟨-, -, -, -, f4⟩, -, ⟨f7, f69, f8, -⟩, ⟨w, r, e68, e0, w10, wr, r1⟩, -⟩ := h
  have p1 : p ≠ p + 1 := by omega
  refine e1_add hF hal (c_weightOf hF ?_)
  rw [hsz, f7, f4, f8]
  have em : (nI m * 4 : Int32) = nI (4 * m) := by
    rw [show (4 : Int32) = nI 4 from rfl, pk_mul]; congr 1; omega
  have hfit : fits J (300 * d + num J d) (nI z) ↔ nI z ≤ J 26 0 - J 68 (300 * d + num J d) := by
    unfold fits
    rw [e68, e0, nI_add, pk_sub wr, nI_leI (by omega) (by omega), nI_leI (by omega) (by omega)]
    omega
  have n16 : ¬ (16 : Int32) ≤ nI m := nge (N := 16) hm (by decide)
  have v7 : gI (pI (pI (pI (pI T (p + 1) (4 * m) kind) (p + 1) (4 * m + 1) a) (p + 1) (4 * m + 2) b) (p + 1) (4 * m + 3) c) p 7 = nI m := by
    rw [gI_ne p1, gI_ne p1, gI_ne p1, gI_ne p1]; exact f7
  have v8 : gI (pI (pI (pI (pI (pI T (p + 1) (4 * m) kind) (p + 1) (4 * m + 1) a) (p + 1) (4 * m + 2) b) (p + 1) (4 * m + 3) c) p 7 (nI (m + 1))) p 8 = J 68 (300 * d + num J d) := by
    rw [gI_eq, upd_at, if_neg (by decide), gI_ne p1, gI_ne p1, gI_ne p1, gI_ne p1]; exact f8
  rw [em, show (nI (4 * m) + 1 : Int32) = nI (4 * m + 1) from nI_add _ 1, show (nI (4 * m) + 2 : Int32) = nI (4 * m + 2) from nI_add _ 2, show (nI (4 * m) + 3 : Int32) = nI (4 * m + 3) from nI_add _ 3]
  rw [tnN (show 4 * m < 2 ^ 31 by omega), tnN (show 4 * m + 1 < 2 ^ 31 by omega), tnN (show 4 * m + 2 < 2 ^ 31 by omega), tnN (show 4 * m + 3 < 2 ^ 31 by omega), v7, nI_suc, v8]
  refine ⟨fun hc => absurd hc n16, fun _ => ⟨fun hc => ⟨ixN (by omega) (by decide), ixN (by omega) (by decide), ixN (by omega) (by decide), ixN (by omega) (by decide), fun hk => ?_, fun hk => ?_⟩, fun hc => h0 (fun y => hc (hfit.mp y))⟩⟩
  · have := h1 (hfit.mpr hc)
    unfold adS at this
    rw [if_pos hk] at this
    exact this
  · have := h1 (hfit.mpr hc)
    unfold adS at this
    rw [if_neg hk] at this
    exact this
theorem Fil.add {d p m z : Nat} {kind a b c : Int32} (h : Fil T J d p m) (hd : d < 2) (hm : m < 16) (hz : z ≤ 2000) (hf : fits J (300 * d + num J d) (nI z)) (hv : IvPart J d kind a b c) (hk : kind = 1 → m = 0) : Fil (adS T p m kind (nI z) a b c (J 68 (300 * d + num J d))) (spPut J (300 * d + num J d) kind (nI z) a b c) d p (m + 1) := by
  obtain ⟨hR, hP⟩ := h
  have hal := hP.1
  obtain ⟨-, a2, a3, a4, a5, ⟨b0, b1, b2, b3, b4⟩, ⟨b10, b11, b12⟩, ⟨f7, f69, f8, f9⟩, ⟨w, r, e68, e0, w10, wr, r1⟩, a10, a11, a12⟩ := hP
  have hF2 : Fx (adS T p m kind (nI z) a b c (J 68 (300 * d + num J d))) := hR.f.same adS_R adS_n
  have ne : ∀ r, r ≠ 74 → r ≠ 69 → r ≠ 68 → r ≠ 70 → spPut J (300 * d + num J d) kind (nI z) a b c r = J r := fun r q1 q2 q3 q4 => spPut_ne q1 q2 q3 q4
  have nm : ∀ d', num (spPut J (300 * d + num J d) kind (nI z) a b c) d' = num J d' := fun d' => num_of (by rw [ne 44 (by decide) (by decide) (by decide) (by decide)])
  refine ⟨hR.fil hd a3 hF2 adS_n adS_R (fun a' q1 q2 _ => adS_o q1 q2) hal a2 (spPut_ag f69 (by omega)), ?_⟩
  unfold Pk
  have pr : ∀ k w, w < 4 → prt (spPut J (300 * d + num J d) kind (nI z) a b c) (300 * d + num J d) k w = if k = m then (if w = 0 then kind else if w = 1 then a else if w = 2 then b else c) else prt J (300 * d + num J d) k w := fun k w hw => spPut_prt f69 a4 hw
  have fr : ∀ i, i < 8 → frs J i ≤ frs (spPut J (300 * d + num J d) kind (nI z) a b c) i := fun i _ => frs_eq (ne 31 (by decide) (by decide) (by decide) (by decide)) i
  rw [nm d, ne 26 (by decide) (by decide) (by decide) (by decide), spPut_68, spPut_69, spPut_70, if_pos rfl, if_pos rfl, if_pos rfl]
  have hp : ∀ k, k ≠ 7 → k ≠ 8 → k ≠ 9 → gI (adS T p m kind (nI z) a b c (J 68 (300 * d + num J d))) p k = gI T p k := fun k k7 k8 k9 => by rw [adS_p, if_neg k7, if_neg k8, if_neg k9]
  unfold fits at hf
  rw [e68, e0, nI_add, nI_leI (by omega) (by omega)] at hf
  refine ⟨hal.mono (by rw [adS_n]; exact Nat.le_refl _), fun d' n p' q1 q2 q3 => a2 d' n p' q1 (by rw [← nm]; exact q2) (by rw [adS_R] at q3; exact q3), a3, by omega, a5, ?_, ?_, ?_, ⟨w + z, r, by rw [e68, nI_add], e0, by omega, hf, r1⟩, ?_, fun k w hk hw => ?_, fun k hk' => ?_⟩
  · rw [hp 0 (by decide) (by decide) (by decide), hp 1 (by decide) (by decide) (by decide), hp 2 (by decide) (by decide) (by decide), hp 3 (by decide) (by decide) (by decide), hp 4 (by decide) (by decide) (by decide)]
    exact ⟨b0, b1, b2, b3, b4⟩
  · rw [hp 10 (by decide) (by decide) (by decide), hp 11 (by decide) (by decide) (by decide), hp 12 (by decide) (by decide) (by decide)]
    exact ⟨b10, b11, b12⟩
  · refine ⟨by rw [adS_p, if_pos rfl], by rw [f69]; exact nI_suc m, by rw [adS_p, if_neg (by decide), if_pos rfl], ?_⟩
    rw [adS_p, if_neg (by decide), if_neg (by decide), if_pos rfl, f9]
    unfold hvy
    by_cases y : kind = 1
    · rw [if_pos y, if_pos y]
      rcases a10 with z0 | z1
      · rw [z0, if_pos rfl]
      · rw [z1, if_neg (by decide)]
    · rw [if_neg y, if_neg y]
      split <;> rfl
  · unfold hvy
    split
    · split
      · exact Or.inl rfl
      · exact Or.inr rfl
    · exact Or.inr rfl
  · rw [pr k w hw, adS_q]
    by_cases y : k = m
    · subst y
      rw [if_pos rfl]
      rcases (show w = 0 ∨ w = 1 ∨ w = 2 ∨ w = 3 by omega) with rfl | rfl | rfl | rfl
      · rw [if_neg (by omega), if_neg (by omega), if_neg (by omega), if_pos (by omega), if_pos rfl]
      · rw [if_neg (by omega), if_neg (by omega), if_pos rfl, if_neg (by decide), if_pos rfl]
      · rw [if_neg (by omega), if_pos rfl, if_neg (by decide), if_neg (by decide), if_pos rfl]
      · rw [if_pos rfl, if_neg (by decide), if_neg (by decide), if_neg (by decide)]
    · rw [if_neg y, if_neg (by omega), if_neg (by omega), if_neg (by omega), if_neg (by omega)]
      exact a11 k w (by omega) hw
  · rw [pr k 0 (by decide), pr k 1 (by decide), pr k 2 (by decide), pr k 3 (by decide)]
    by_cases y : k = m
    · rw [if_pos y, if_pos y, if_pos y, if_pos y, if_pos rfl, if_neg (by decide), if_pos rfl, if_neg (by decide), if_neg (by decide), if_pos rfl, if_neg (by decide), if_neg (by decide), if_neg (by decide)]
      exact ⟨hv.fr fr, fun e => by rw [y]; exact hk e⟩
    · rw [if_neg y, if_neg y, if_neg y, if_neg y]
      exact ⟨(a12 k (by omega)).1.fr fr, (a12 k (by omega)).2⟩
/-- a part other than TOLD leaves the spans as they are -/
theorem Spq.add {d p m z : Nat} {kind a b c : Int32} (h : Spq T J d p m) (hP : Pk T J d p m) (hk : ¬ kind = 1) : Spq (adS T p m kind (nI z) a b c (J 68 (300 * d + num J d))) (spPut J (300 * d + num J d) kind (nI z) a b c) d p (m + 1) := by
  have f69 := hP.2.2.2.2.2.2.2.1.2.1
  have a4 := hP.2.2.2.1
  have ne : ∀ r, r ≠ 74 → r ≠ 69 → r ≠ 68 → r ≠ 70 → spPut J (300 * d + num J d) kind (nI z) a b c r = J r := fun r q1 q2 q3 q4 => spPut_ne q1 q2 q3 q4
  have nm : ∀ d', num (spPut J (300 * d + num J d) kind (nI z) a b c) d' = num J d' := fun d' => num_of (by rw [ne 44 (by decide) (by decide) (by decide) (by decide)])
  unfold Spq
  rw [nm d, nm (1 - d), adS_o (by omega) (by omega), ne 75 (by decide) (by decide) (by decide) (by decide), spPut_prt f69 a4 (by decide), spPut_prt f69 a4 (by decide)]
  by_cases y : 0 = m
  · rw [if_pos y, if_pos y, if_pos rfl]
    refine ⟨fun j hj => ⟨fun z => absurd z.2.1 hk, fun _ => ?_⟩, fun _ z => absurd z hk⟩
    exact (h.1 j hj).2 (fun z => by omega)
  · rw [if_neg y, if_neg y]
    obtain ⟨h1, h2⟩ := h
    refine ⟨fun j hj => ⟨fun z => (h1 j hj).1 ⟨by omega, z.2⟩, fun z => (h1 j hj).2 (fun v => z ⟨by omega, v.2⟩)⟩, fun _ z => h2 (by omega) z⟩
end FILL
