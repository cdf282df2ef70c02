section GET
variable {T : Sto} {J : Rows}
def aTold (J : Rows) (p : Int32) : Int32 :=
  if p = 0 then J 26 3 else if p = 1 then J 26 62 else if p = 2 then J 26 44 else if p = 3 then J 26 45 else if p = 4 then (if J 26 46 = 0 then 0 else 1) else if p = 5 then J 26 47 else if p = 6 then J 26 48 else if p = 7 then J 26 49 else -2
theorem m_told {p : Int32} {Q : Int32 → Sto → Prop} (hF : Fx T) (h : Q (aTold J p) (wJ T J)) : Ci K5_told [vr 26, vi p] (wJ T J) Q := by
  refine e5_told (FxJ hF) ?_
  rw [gI_wm (a := 26) (by decide)]
  refine ⟨fun e => ?_, fun e => ?_, fun e => ?_, fun e => ?_, fun e => ?_, fun e => ?_, fun e => ?_, fun e => ?_, fun n0 n1 n2 n3 n4 n5 n6 n7 => ?_⟩
  · subst e; exact h
  · subst e; exact h
  · subst e; exact h
  · subst e; exact h
  · subst e; exact h
  · subst e; exact h
  · subst e; exact h
  · subst e; exact h
  · have : aTold J p = -2 := by
      unfold aTold
      rw [if_neg n0, if_neg n1, if_neg n2, if_neg n3, if_neg n4, if_neg n5, if_neg n6, if_neg n7]
    rw [this] at h; exact h
theorem c_told {p : Int32} {Q : Int32 → Sto → Prop} (hR : Rel T J) (h : Q (aTold J p) T) : Ci K4_told [vr 0, vi p] T Q := by
  have g := hR.g
  have g4 : gI T 0 4 = J 26 3 := g 4 (by decide)
  have g3 : gI T 0 3 = J 26 62 := g 3 (by decide)
  have g8 : gI T 0 8 = J 26 44 := g 8 (by decide)
  have g9 : gI T 0 9 = J 26 45 := g 9 (by decide)
  have g10 : gI T 0 10 = J 26 46 := g 10 (by decide)
  have g11 : gI T 0 11 = J 26 47 := g 11 (by decide)
  have g12 : gI T 0 12 = J 26 48 := g 12 (by decide)
  have g13 : gI T 0 13 = J 26 49 := g 13 (by decide)
  refine e4_told hR.f ?_
  rw [g4, g3, g8, g9, g10, g11, g12, g13]
  refine ⟨fun e => ?_, fun e => ?_, fun e => ?_, fun e => ?_, fun e => ?_, fun e => ?_, fun e => ?_, fun e => ?_, fun n0 n1 n2 n3 n4 n5 n6 n7 => ?_⟩
  · subst e; exact h
  · subst e; exact h
  · subst e; exact h
  · subst e; exact h
  · subst e; exact h
  · subst e; exact h
  · subst e; exact h
  · subst e; exact h
  · have : aTold J p = -2 := by
      unfold aTold
      rw [if_neg n0, if_neg n1, if_neg n2, if_neg n3, if_neg n4, if_neg n5, if_neg n6, if_neg n7]
    rw [this] at h; exact h
end GET
