section PAIRS
variable {T T' S : Sto} {J J' : Rows} {t : Nat}
theorem Rel.wj (h : Rel T J) : Rel (wJ T J) J := by
  have e : ∀ a, ¬ (26 ≤ a ∧ a < 79) → gI (wJ T J) a = gI T a := fun a ha => gI_wc ha
  obtain ⟨h1, h2, h3, h4, h5, h6, h7⟩ := h
  refine ⟨FxJ h1, fun i hi => ?_, fun d hd => ?_, ?_, h5, fun d n hd hn => ?_, h7⟩
  · rw [e _ (by omega), e _ (by omega)]; exact h2 i hi
  · rw [e _ (by omega), e _ (by omega)]; exact h3 d hd
  · rw [e _ (by omega)]; exact h4
  · obtain ⟨v, p, p1, p2, p3⟩ := h6 d n hd hn
    have p79 := al79 p2
    refine ⟨v, p, p1, p2, ?_⟩
    rw [e _ (by omega), e _ (by omega), e _ (by omega)]; exact p3
theorem Fr.wj (h : Fr (wJ T J) T') : wJ T' J = T' := by
  have := h.w
  rw [← this]
  show wJ (wJ T' (gI (wJ T J))) J = wJ T' (gI (wJ T J))
  rw [wJ_wJ]
  unfold wJ
  congr 2
  funext a
  by_cases q : 26 ≤ a ∧ a < 79
  · rw [if_pos q, if_pos q]; exact (gI_wm q).symm
  · rw [if_neg q, if_neg q]
/-- what the law's walk keeps -/
def LI (S : Sto) (t : Nat) : Prop := ∃ T J, S = wJ T J ∧ Rel T J ∧ Iv J t
def Pr (K K' : Mt) (as : List AV) (S : Sto) (t t' : Nat) : Prop := Ci K (vr 0 :: as) S (fun r S1 => Ci K' (vr 26 :: as) S1 (fun r' S2 => r' = r ∧ LI S2 t'))
theorem LI.mk (hR : Rel T J) (hI : Iv J t) : LI (wJ T J) t := ⟨T, J, rfl, hR, hI⟩
theorem Rel.nN' (h : Rel T J) : ∃ N, N ≤ 400 ∧ J 26 62 = nI N := h.vg.2.2.2.2.2.2.2
theorem p_end {p : Int32} (h : LI S t) : Pr K4_end K5_end [vi p] S t t := by
  obtain ⟨T, J, rfl, hR, hI⟩ := h
  refine c_end hR.wj (fun hc => ?_) (fun s hs hp => ⟨fun c T' F R => ?_, fun c => ?_⟩)
  · exact m_end hR.f (fun _ => ⟨rfl, .mk hR hI⟩) (fun s hs hp => absurd (hp ▸ ixN hs (by decide)) hc)
  · rw [← F.wj]
    refine m_end R.f (fun z => absurd (hp ▸ ixN hs (by decide)) z) (fun s' hs' hp' => ?_)
    have := nI_nj (by omega) (by omega) (hp.symm.trans hp')
    subst this
    exact ⟨fun _ => ⟨rfl, .mk R (hI.kend hs)⟩, fun z => absurd c z⟩
  · refine m_end hR.f (fun z => absurd (hp ▸ ixN hs (by decide)) z) (fun s' hs' hp' => ?_)
    have := nI_nj (by omega) (by omega) (hp.symm.trans hp')
    subst this
    exact ⟨fun z => absurd z c, fun _ => ⟨rfl, .mk hR hI⟩⟩
theorem p_cut {p : Int32} (h : LI S t) : Pr K4_cut K5_cut [vi p] S t t := by
  obtain ⟨T, J, rfl, hR, hI⟩ := h
  refine c_cut hR.wj (fun hc => ?_) (fun s hs hp => ⟨fun c T' F R => ?_, fun c => ?_⟩)
  · exact m_cut hR.f (fun _ => ⟨rfl, .mk hR hI⟩) (fun s hs hp => absurd (hp ▸ ixN hs (by decide)) hc)
  · rw [← F.wj]
    refine m_cut R.f (fun z => absurd (hp ▸ ixN hs (by decide)) z) (fun s' hs' hp' => ?_)
    have := nI_nj (by omega) (by omega) (hp.symm.trans hp')
    subst this
    exact ⟨fun _ => ⟨rfl, .mk R (hI.kcut hs)⟩, fun z => absurd c z⟩
  · refine m_cut hR.f (fun z => absurd (hp ▸ ixN hs (by decide)) z) (fun s' hs' hp' => ?_)
    have := nI_nj (by omega) (by omega) (hp.symm.trans hp')
    subst this
    exact ⟨fun z => absurd z c, fun _ => ⟨rfl, .mk hR hI⟩⟩
theorem p_write {p n : Int32} (h : LI S t) : Pr K4_write K5_write [vi p, vi n] S t t := by
  obtain ⟨T, J, rfl, hR, hI⟩ := h
  refine c_write hR.wj (fun hc => ?_) (fun s hs hp => ⟨fun c => ?_, fun c => ⟨fun c2 => ?_, fun c2 => ⟨fun c3 => ?_, fun c3 T' F R => ?_⟩⟩⟩)
  · exact m_write hR.f (fun _ => ⟨rfl, .mk hR hI⟩) (fun s hs hp => absurd (hp ▸ ixN hs (by decide)) hc)
  · refine m_write hR.f (fun z => absurd (hp ▸ ixN hs (by decide)) z) (fun s' hs' hp' => ?_)
    exact ⟨fun _ => ⟨rfl, .mk hR hI⟩, fun z => absurd z c⟩
  · refine m_write hR.f (fun z => absurd (hp ▸ ixN hs (by decide)) z) (fun s' hs' hp' => ?_)
    have := nI_nj (by omega) (by omega) (hp.symm.trans hp')
    subst this
    exact ⟨fun z => absurd c z, fun _ => ⟨fun _ => ⟨rfl, .mk hR hI⟩, fun z => absurd z c2⟩⟩
  · refine m_write hR.f (fun z => absurd (hp ▸ ixN hs (by decide)) z) (fun s' hs' hp' => ?_)
    have := nI_nj (by omega) (by omega) (hp.symm.trans hp')
    subst this
    exact ⟨fun z => absurd c z, fun _ => ⟨fun z => absurd c2 z, fun _ => ⟨fun _ => ⟨rfl, .mk hR hI⟩, fun z => absurd z c3⟩⟩⟩
  · rw [← F.wj]
    refine m_write R.f (fun z => absurd (hp ▸ ixN hs (by decide)) z) (fun s' hs' hp' => ?_)
    have := nI_nj (by omega) (by omega) (hp.symm.trans hp')
    subst this
    exact ⟨fun z => absurd c z, fun _ => ⟨fun z => absurd c2 z, fun _ => ⟨fun z => absurd c3 z, fun _ => ⟨rfl, .mk R (hI.kwrite hR hs c.1 c.2)⟩⟩⟩⟩
theorem p_read {p n : Int32} (h : LI S t) : Pr K4_read K5_read [vi p, vi n] S t t := by
  obtain ⟨T, J, rfl, hR, hI⟩ := h
  refine c_read hR.wj (fun hc => ?_) (fun s hs hp => ⟨fun c => ?_, fun c T' F R => ?_⟩)
  · exact m_read hR.f (fun _ => ⟨rfl, .mk hR hI⟩) (fun s hs hp => absurd (hp ▸ ixN hs (by decide)) hc)
  · refine m_read hR.f (fun z => absurd (hp ▸ ixN hs (by decide)) z) (fun s' hs' hp' => ?_)
    exact ⟨fun _ => ⟨rfl, .mk hR hI⟩, fun z => absurd z c⟩
  · rw [← F.wj]
    refine m_read R.f (fun z => absurd (hp ▸ ixN hs (by decide)) z) (fun s' hs' hp' => ?_)
    have := nI_nj (by omega) (by omega) (hp.symm.trans hp')
    subst this
    exact ⟨fun z => absurd c z, fun _ => ⟨rfl, .mk R hI.kread⟩⟩
theorem p_move (h : LI S t) : Pr K4_move K5_move [] S t t := by
  obtain ⟨T, J, rfl, hR, hI⟩ := h
  refine c_move hR.wj (fun c T' F R => ?_) (fun c => ?_)
  · rw [← F.1.wj]
    exact m_move R.f (fun _ => ⟨rfl, .mk R (hI.k26 (by decide) (by decide))⟩) (fun z => absurd z c)
  · exact m_move hR.f (fun z => absurd c z) (fun _ => ⟨rfl, .mk hR hI⟩)
theorem p_drop {p : Int32} (h : LI S t) : Pr K4_drop K5_drop [vi p] S t t := by
  obtain ⟨T, J, rfl, hR, hI⟩ := h
  obtain ⟨N, h4, hN⟩ := hR.nN'
  refine c_drop hR.wj hN h4 (fun c => ?_) (fun i hi hp T' F R => ?_)
  · exact m_drop hR.f hN h4 (fun _ => ⟨rfl, .mk hR hI⟩) (fun i hi hp => absurd ⟨i, hi, hp⟩ c)
  · rw [← F.wj]
    refine m_drop R.f hN h4 (fun z => absurd ⟨i, hi, hp⟩ z) (fun i' hi' hp' => ?_)
    have := nI_nj (by omega) (by omega) (hp.symm.trans hp')
    subst this
    exact ⟨rfl, .mk R hI.kout⟩
theorem p_twice {p : Int32} (h : LI S t) : Pr K4_twice K5_twice [vi p] S t t := by
  obtain ⟨T, J, rfl, hR, hI⟩ := h
  obtain ⟨N, h4, hN⟩ := hR.nN'
  refine c_twice hR.wj hN h4 (fun c => ?_) (fun i hi hp => ⟨fun c => ?_, fun c T' F R => ?_⟩)
  · exact m_twice hR.f hN h4 (fun _ => ⟨rfl, .mk hR hI⟩) (fun i hi hp => absurd ⟨i, hi, hp⟩ c)
  · refine m_twice hR.f hN h4 (fun z => absurd ⟨i, hi, hp⟩ z) (fun i' hi' hp' => ?_)
    exact ⟨fun _ => ⟨rfl, .mk hR hI⟩, fun z => absurd c (by omega)⟩
  · rw [← F.wj]
    refine m_twice R.f hN h4 (fun z => absurd ⟨i, hi, hp⟩ z) (fun i' hi' hp' => ?_)
    have := nI_nj (by omega) (by omega) (hp.symm.trans hp')
    subst this
    exact ⟨fun z => absurd c (by omega), fun _ => ⟨rfl, .mk R hI.ktw⟩⟩
theorem p_tick {p : Int32} (h : LI S t) (ht : t + 1000 ≤ 512000) : ∃ t', t' ≤ t + 1000 ∧ Pr K4_tick K5_tick [vi p] S t t' := by
  obtain ⟨T, J, rfl, hR, hI⟩ := h
  by_cases c : 1 ≤ p.toInt ∧ p.toInt ≤ 1000
  · obtain ⟨n, n1, n2⟩ := ofIx2 (x := p) (N := 1001) ⟨by omega, by omega⟩
    subst n2
    rw [nI_toInt (by omega)] at c
    refine ⟨t + n, by omega, ?_⟩
    refine c_tick hR.wj (fun z => absurd (by rw [nI_toInt (by omega)]; exact c) z) (fun n' h1 h2 hp T' F R => ?_)
    have := nI_nj (by omega) (by omega) hp
    subst this
    rw [← F.1.wj]
    refine m_tick R.f hR.tw hI.1 ht (fun z => absurd (by rw [nI_toInt (by omega)]; exact c) z) (fun n' h1 h2 hp => ?_)
    have := nI_nj (by omega) (by omega) hp
    subst this
    exact ⟨rfl, .mk R (hI.ktick hR (by omega))⟩
  · refine ⟨t, by omega, ?_⟩
    refine c_tick hR.wj (fun _ => ?_) (fun n' h1 h2 hp T' F R => absurd (by rw [hp, nI_toInt (by omega)]; omega) c)
    exact m_tick hR.f hR.tw hI.1 ht (fun _ => ⟨rfl, .mk hR hI⟩) (fun n' h1 h2 hp => absurd (by rw [hp, nI_toInt (by omega)]; omega) c)
theorem p_shape {a b c : Int32} (h : LI S t) : Pr K4_shape K5_shape [vi a, vi b, vi c] S t t := by
  obtain ⟨n8, e8⟩ : ∃ n, n = 8 := ⟨8, rfl⟩
  obtain ⟨T, J, rfl, hR, hI⟩ := h
  refine c_shape e8 hR.wj hI.2.2.2.1 (fun z => ?_) (fun z => ⟨fun y => ?_, fun y T' F R => ?_⟩)
  · exact m_shape e8 hR.f hI.2.2.2.2 (fun _ => ⟨rfl, .mk hR hI⟩) (fun x => absurd x z)
  · exact m_shape e8 hR.f hI.2.2.2.2 (fun x => absurd z x) (fun _ => ⟨fun _ => ⟨rfl, .mk hR hI⟩, fun x => absurd x y⟩)
  · rw [← F.1.wj]
    exact m_shape e8 R.f hI.2.2.2.2 (fun x => absurd z x) (fun _ => ⟨fun x => absurd y x, fun _ => ⟨rfl, .mk R hI.kshape⟩⟩)
theorem p_come {p : Int32} (h : LI S t) : Pr K4_come K5_come [vi p] S t t := by
  obtain ⟨T, J, rfl, hR, hI⟩ := h
  obtain ⟨N, h4, hN⟩ := hR.nN'
  have hU : ∀ i, i < N → Rel (outT (wJ T J) i N) (spOut J i) := fun i hi => hR.wj.out hN h4 hi
  refine c_come hR.wj hN h4 hI.2.1 (fun c => ?_) (fun i d n hi hp hd hn e1 e2 => ?_)
  · exact m_come hR.f hR hI.1 hN h4 (fun _ => ⟨rfl, .mk hR hI⟩) (fun i d n hi hp hd hn e1 e2 => absurd ⟨i, hi, hp⟩ c)
  have same : ∀ i' d' n', i' < N → p = nI i' → d' < 2 → n' < num J (1 - d') → J 76 i' = nI (1 - d') → J 77 i' = nI n' → i' = i ∧ d' = d ∧ n' = n := fun i' d' n' hi' hp' hd' hn' a1 a2 => by
    have := nI_nj (by omega) (by omega) (hp.symm.trans hp')
    subst this
    have u1 := hR.nle (show 1 - d < 2 by omega)
    have u2 := hR.nle (show 1 - d' < 2 by omega)
    have v1 := nI_nj (by omega) (by omega) (a1.symm.trans e1)
    have v2 := nI_nj (by omega) (by omega) (a2.symm.trans e2)
    exact ⟨rfl, by omega, v2⟩
  have n44 : num (spOut J i) (1 - d) = num J (1 - d) := num_of (by rw [spOut_ne (by decide) (by decide) (by decide)])
  have o69 : spOut J i 69 = J 69 := spOut_ne (by decide) (by decide) (by decide)
  refine ⟨fun c T' F R => ?_, fun c => ⟨fun c2 T' F R => ?_, fun c2 T' F R => ?_⟩⟩
  · rw [← F.wj]
    refine m_come R.f hR hI.1 hN h4 (fun z => absurd ⟨i, hi, hp⟩ z) (fun i' d' n' q1 q2 q3 q4 q5 q6 => ?_)
    obtain ⟨rfl, rfl, rfl⟩ := same i' d' n' q1 q2 q3 q4 q5 q6
    exact ⟨fun _ => ⟨rfl, .mk R (hI.kout.k26 (by decide) (by decide))⟩, fun z => absurd c z⟩
  · rw [← F.wj]
    refine m_come R.f hR hI.1 hN h4 (fun z => absurd ⟨i, hi, hp⟩ z) (fun i' d' n' q1 q2 q3 q4 q5 q6 => ?_)
    obtain ⟨rfl, rfl, rfl⟩ := same i' d' n' q1 q2 q3 q4 q5 q6
    exact ⟨fun z => absurd z c, fun _ => ⟨fun _ => ⟨rfl, .mk R hI.kout.kkC1⟩, fun z => absurd z c2⟩⟩
  · rw [← F.wj]
    refine m_come R.f hR hI.1 hN h4 (fun z => absurd ⟨i, hi, hp⟩ z) (fun i' d' n' q1 q2 q3 q4 q5 q6 => ?_)
    obtain ⟨rfl, rfl, rfl⟩ := same i' d' n' q1 q2 q3 q4 q5 q6
    refine ⟨fun z => absurd z c, fun _ => ⟨fun z => absurd c2 z, fun _ => ⟨rfl, .mk R ?_⟩⟩⟩
    have := Iv.kgot (n := n') hI.kout (hU i' hi) hd (by rw [n44]; exact hn)
    rw [o69] at this
    exact this
theorem p_send {p : Int32} (h : LI S t) : Pr K4_send K5_send [vi p] S t t := by
  obtain ⟨n4, e4⟩ : ∃ n, n = 4 := ⟨4, rfl⟩
  obtain ⟨T, J, rfl, hR, hI⟩ := h
  obtain ⟨N, h4, hN⟩ := hR.nN'
  refine c_send e4 hR.wj hN h4 hI.2.2.1 (fun c => ?_) (fun d hd hp => ⟨fun c => ?_, fun c1 c2 => ⟨fun c3 => ?_, fun c3 T' F => ⟨fun c4 R => ?_, fun c4 R => ?_⟩⟩⟩)
  · exact m_send e4 hR.f hR hN h4 (fun _ => ⟨rfl, .mk hR hI⟩) (fun s hs hp => absurd (hp ▸ ixN hs (by decide)) c)
  · refine m_send e4 hR.f hR hN h4 (fun z => absurd (hp ▸ ixN hd (by decide)) z) (fun s' hs' hp' => ?_)
    have := nI_nj (by omega) (by omega) (hp.symm.trans hp')
    subst this
    exact ⟨fun _ => ⟨rfl, .mk hR hI⟩, fun z1 z2 => by omega⟩
  · refine m_send e4 hR.f hR hN h4 (fun z => absurd (hp ▸ ixN hd (by decide)) z) (fun s' hs' hp' => ?_)
    have := nI_nj (by omega) (by omega) (hp.symm.trans hp')
    subst this
    exact ⟨fun z => by omega, fun _ _ => ⟨fun _ => ⟨rfl, .mk hR hI⟩, fun z => absurd c3 z⟩⟩
  · rw [← F.wj]
    refine m_send e4 R.f hR hN h4 (fun z => absurd (hp ▸ ixN hd (by decide)) z) (fun s' hs' hp' => ?_)
    have := nI_nj (by omega) (by omega) (hp.symm.trans hp')
    subst this
    exact ⟨fun z => by omega, fun _ _ => ⟨fun z => absurd z c3, fun _ => ⟨fun _ => ⟨rfl, .mk R (hI.kSF e4 hR hd c1 c4)⟩, fun z => absurd c4 z⟩⟩⟩
  · rw [← F.wj]
    refine m_send e4 R.f hR hN h4 (fun z => absurd (hp ▸ ixN hd (by decide)) z) (fun s' hs' hp' => ?_)
    have := nI_nj (by omega) (by omega) (hp.symm.trans hp')
    subst this
    exact ⟨fun z => by omega, fun _ _ => ⟨fun z => absurd z c3, fun _ => ⟨fun z => absurd z c4, fun _ => ⟨rfl, .mk R (hI.kSG hd c1 hR)⟩⟩⟩⟩
end PAIRS
