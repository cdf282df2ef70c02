section PAIRS2
variable {T T' S : Sto} {J J' : Rows} {t : Nat}
theorem p_told {p : Int32} (h : LI S t) : Pr K4_told K5_told [vi p] S t t := by
  obtain ⟨T, J, rfl, hR, hI⟩ := h
  exact c_told hR.wj (m_told hR.f ⟨rfl, .mk hR hI⟩)
theorem p_net {p w : Int32} (h : LI S t) : Pr K4_net K5_net [vi p, vi w] S t t := by
  obtain ⟨T, J, rfl, hR, hI⟩ := h
  obtain ⟨N, h4, hN⟩ := hR.nN'
  refine c_net hR.wj hN h4 (fun c => ?_) (fun i hi hp => ?_)
  · exact m_net hR.f hN h4 (fun _ => ⟨rfl, .mk hR hI⟩) (fun i hi hp => absurd ⟨i, hi, hp⟩ c)
  · refine m_net hR.f hN h4 (fun z => absurd ⟨i, hi, hp⟩ z) (fun i' hi' hp' => ?_)
    have := nI_nj (by omega) (by omega) (hp.symm.trans hp')
    subst this
    exact ⟨rfl, .mk hR hI⟩
theorem p_stream {p w : Int32} (h : LI S t) : Pr K4_stream K5_stream [vi p, vi w] S t t := by
  obtain ⟨T, J, rfl, hR, hI⟩ := h
  have hc : ∀ i j, i < 8 → j < 1000 → is01 (cam J i j) := fun i j hi hj => ((hR.vs hi).2.2.2.2.2 j hj).2
  refine c_streamG hR.wj (fun c => ?_) (fun i hi hp => ?_)
  · exact m_streamG hR.f hc (fun _ => ⟨rfl, .mk hR hI⟩) (fun s hs hp => absurd (hp ▸ ixN hs (by decide)) c)
  · refine m_streamG hR.f hc (fun z => absurd (hp ▸ ixN hi (by decide)) z) (fun i' hi' hp' => ?_)
    have := nI_nj (by omega) (by omega) (hp.symm.trans hp')
    subst this
    exact ⟨rfl, .mk hR hI⟩
theorem st_in {i j : Nat} {p w : Int32} (hi : i < 8) (hj : j < 1000) (hp : p = nI i) (hw : w = nI j) : (0 ≤ p.toInt ∧ p.toInt < 8) ∧ 0 ≤ w.toInt ∧ w.toInt ≤ 999 := by
  subst hp; subst hw
  rw [nI_toInt (by omega), nI_toInt (by omega)]
  omega
theorem p_state {p w : Int32} (h : LI S t) : Pr K4_state K5_state [vi p, vi w] S t t := by
  obtain ⟨T, J, rfl, hR, hI⟩ := h
  refine c_stateG hR.wj (fun c => ?_) (fun i j hi hj hp hw => ?_)
  · exact m_stateG hR.f (fun _ => ⟨rfl, .mk hR hI⟩) (fun i j hi hj hp hw => absurd (st_in hi hj hp hw) c)
  · refine m_stateG hR.f (fun z => absurd (st_in hi hj hp hw) z) (fun i' j' hi' hj' hp' hw' => ?_)
    have := nI_nj (by omega) (by omega) (hp.symm.trans hp')
    subst this
    have := nI_nj (by omega) (by omega) (hw.symm.trans hw')
    subst this
    exact ⟨rfl, .mk hR hI⟩
theorem p_side {p w : Int32} (h : LI S t) : Pr K4_side K5_side [vi p, vi w] S t t := by
  obtain ⟨T, J, rfl, hR, hI⟩ := h
  refine c_sideG hR.wj (fun c => ?_) (fun i hi hp => ?_)
  · exact m_sideG hR.f (fun _ => ⟨rfl, .mk hR hI⟩) (fun s hs hp => absurd (hp ▸ ixN hs (by decide)) c)
  · refine m_sideG hR.f (fun z => absurd (hp ▸ ixN hi (by decide)) z) (fun i' hi' hp' => ?_)
    have := nI_nj (by omega) (by omega) (hp.symm.trans hp')
    subst this
    exact ⟨rfl, .mk hR hI⟩
theorem p_packet {p1 p2 w : Int32} (h : LI S t) : Pr K4_packet K5_packet [vi p1, vi p2, vi w] S t t := by
  obtain ⟨T, J, rfl, hR, hI⟩ := h
  have hn : ∀ d, d < 2 → J 44 d = nI (num J d) ∧ num J d ≤ 300 := fun d hd => (hR.vd hd).nm
  refine c_packetG hR.wj (fun c => ?_) (fun d n hd hn' e1 e2 => ?_)
  · exact m_packetG hR.f hn (fun _ => ⟨rfl, .mk hR hI⟩) (fun d n hd hn' e1 e2 => absurd ⟨d, n, hd, hn', e1, e2⟩ c)
  · refine m_packetG hR.f hn (fun z => absurd ⟨d, n, hd, hn', e1, e2⟩ z) (fun d' n' hd' hn'' e1' e2' => ?_)
    have := nI_nj (by omega) (by omega) (e1.symm.trans e1')
    subst this
    have := (hn d hd).2
    have := nI_nj (by omega) (by omega) (e2.symm.trans e2')
    subst this
    exact ⟨rfl, .mk hR hI⟩
theorem p_part {p1 p2 p3 p4 : Int32} (h : LI S t) : Pr K4_part K5_part [vi p1, vi p2, vi p3, vi p4] S t t := by
  obtain ⟨T, J, rfl, hR, hI⟩ := h
  have hn : ∀ d, d < 2 → num J d ≤ 300 := fun d hd => hR.nle hd
  refine c_partG hR.wj (fun c => ?_) (fun d n k hd hn' h3 hk e1 e2 e3 => ?_)
  · exact m_partG hR.f hR (fun _ => ⟨rfl, .mk hR hI⟩) (fun d n k hd hn' h3 hk e1 e2 e3 => absurd ⟨d, n, k, hd, hn', h3, hk, e1, e2, e3⟩ c)
  · have go : ∀ (x : Int32), ((¬ (0 ≤ p4.toInt ∧ p4.toInt ≤ 11) → x = -2) ∧ ∀ w, w < 12 → p4 = nI w → x = aPt J (300 * d + n) k w) → Ci K5_part [vr 26, vi p1, vi p2, vi p3, vi p4] (wJ T J) (fun r' S2 => r' = x ∧ LI S2 t) := fun x hx => by
      refine m_partG hR.f hR (fun z => absurd ⟨d, n, k, hd, hn', h3, hk, e1, e2, e3⟩ z) (fun d' n' k' hd' hn'' h3' hk' e1' e2' e3' => ?_)
      have := nI_nj (by omega) (by omega) (e1.symm.trans e1')
      subst this
      have := hn d hd
      have := nI_nj (by omega) (by omega) (e2.symm.trans e2')
      subst this
      have := nI_nj (by omega) (by omega) (e3.symm.trans e3')
      subst this
      exact ⟨fun z => ⟨(hx.1 z).symm, .mk hR hI⟩, fun w hw e => ⟨(hx.2 w hw e).symm, .mk hR hI⟩⟩
    have in4 : ∀ w, w < 12 → p4 = nI w → 0 ≤ p4.toInt ∧ p4.toInt ≤ 11 := fun w hw e => by
      subst e
      rw [nI_toInt (by omega)]; omega
    refine ⟨fun c => go _ ⟨fun _ => rfl, fun w hw e => absurd (in4 w hw e) c⟩, fun w hw e => go _ ⟨fun z => absurd (in4 w hw e) z, fun w' hw' e' => ?_⟩⟩
    have := nI_nj (by omega) (by omega) (e.symm.trans e')
    subst this
    rfl
end PAIRS2
