section KEEPS2
variable {T T0 : Sto} {J J' K : Rows} {t d e q : Nat}
theorem four8 (k : Nat) : (8 * nI k : Int32) = nI (8 * k) ∧ (4 * nI k : Int32) = nI (4 * k) ∧ (3 * nI k : Int32) = nI (3 * k) ∧ (7 * nI k : Int32) = nI (7 * k) := ⟨pk_mul 8 k, pk_mul 4 k, pk_mul 3 k, pk_mul 7 k⟩
/-- what a measured time leaves -/
theorem IvTd.meas {k : Nat} (h : IvTd J t d) (ht : t ≤ 512000) (hk : k ≤ t) : IvTd (spM J d (nI k)) t d := by
  obtain ⟨h1, h2, h3⟩ := h
  refine ⟨Or.inr ?_, by rw [spM_ne (by decide) (by decide) (by decide)]; exact h2, by rw [spM_ne (by decide) (by decide) (by decide)]; exact h3⟩
  unfold spM
  by_cases z : J 49 d = -6
  · rw [if_pos z]
    refine ⟨k, 8 * k, 4 * k, ?_, ?_, ?_, hk, by omega, by omega⟩
    · rw [uJ_ne (by decide), uJ_ne (by decide), uJ_same]
    · rw [uJ_ne (by decide), uJ_same]; exact (four8 k).1
    · rw [uJ_same]; exact (four8 k).2.1
  · rw [if_neg z]
    rcases h1 with ⟨a, -⟩ | ⟨l, s, v, a, b, c, l1, s1, v1⟩
    · exact absurd a z
    have hx : ∃ x, x ≤ 8 * t ∧ (if 0 ≤ J 50 d - 8 * nI k then J 50 d - 8 * nI k else 0 - (J 50 d - 8 * nI k)) = nI x := by
      rw [b, (four8 k).1]
      by_cases g : 8 * k ≤ s
      · rw [pk_sub g, if_pos (nI_ge0 (by omega))]
        exact ⟨s - 8 * k, by omega, rfl⟩
      · have ti := pk_sub_toInt (a := s) (b := 8 * k) (by omega) (by omega)
        rw [if_neg (fun y => by rw [Int32.le_iff_toInt_le, ti] at y; have : (0 : Int32).toInt = 0 := rfl; omega)]
        refine ⟨8 * k - s, by omega, ?_⟩
        rw [← pk_sub (show s ≤ 8 * k by omega), Int32.zero_sub, Int32.neg_sub]
    obtain ⟨x, x1, x2⟩ := hx
    rw [x2]
    refine ⟨k, (7 * s + 8 * k) / 8, (3 * v + x) / 4, ?_, ?_, ?_, hk, by omega, by omega⟩
    · rw [uJ_ne (by decide), uJ_ne (by decide), uJ_same]
    · rw [uJ_same, b, (four8 s).2.2.2, (four8 k).1, nI_add, show (8 : Int32) = nI 8 from rfl, pk_div (by omega) (by decide) (by decide)]
    · rw [uJ_ne (by decide), uJ_same, c, (four8 v).2.2.1, nI_add, show (4 : Int32) = nI 4 from rfl, pk_div (by omega) (by decide) (by decide)]
theorem IvTd.measo {x : Int32} (h : IvTd J t e) (hne : e ≠ d) : IvTd (spM J d x) t e := by
  refine h.keep (fun r hr => ?_)
  unfold spM
  split
  · rw [uJ_off _ _ (Or.inr hne), uJ_off _ _ (Or.inr hne), uJ_off _ _ (Or.inr hne)]
  · rw [uJ_off _ _ (Or.inr hne), uJ_off _ _ (Or.inr hne), uJ_off _ _ (Or.inr hne)]
theorem IvT.meas {x : Nat} (h : IvT J t) (hx : x ≤ t) : IvT (spM J d (nI x)) t := by
  obtain ⟨h1, h2, h3, h4⟩ := h
  refine ⟨by rw [spM_ne (by decide) (by decide) (by decide)]; exact h1, h2, fun e he => ?_, fun q hq => by rw [spM_ne (by decide) (by decide) (by decide)]; exact h4 q hq⟩
  by_cases z : e = d
  · subst z; exact (h3 e he).meas h2 hx
  · exact (h3 e he).measo z
theorem IvT.p52 (h : IvT J t) : IvT (uJ J 52 d 0) t := by
  obtain ⟨h1, h2, h3, h4⟩ := h
  refine ⟨by rw [uJ_ne (by decide)]; exact h1, h2, fun e he => ?_, fun q hq => by rw [uJ_ne (by decide)]; exact h4 q hq⟩
  by_cases z : e = d
  · subst z
    refine ⟨?_, by rw [uJ_ne (by decide)]; exact (h3 e he).2.1, ⟨0, uJ_same, Nat.zero_le _⟩⟩
    rw [uJ_ne (by decide), uJ_ne (by decide), uJ_ne (by decide)]
    exact (h3 e he).1
  · exact (h3 e he).keep (fun r hr => uJ_off _ _ (Or.inr z))
theorem IvT.td {m : Nat} {lo hi : Nat → Nat} (h : IvT J t) (hq : 300 * d + hi 0 < 600) : IvT (spTd J d lo hi m) t := by
  unfold spTd
  have hB : IvT (uJ (spT (w78 J (nowF J d lo hi m)) d (num J d)) 54 d (if J 54 d < nI (hi 0) then nI (hi 0) else J 54 d)) t := by
    refine h.keep ?_ (fun r hr => ?_)
    · rw [uJ_ne (by decide), spT_ne (by decide) (by decide) (by decide) (by decide), w78_ne (by decide)]
    · rw [uJ_ne (by omega), spT_ne (by omega) (by omega) (by omega) (by omega), w78_ne (by omega)]
  have hC : IvT (if w78 J (nowF J d lo hi m) 78 (hi 0) = 0 ∨ J 70 (300 * d + hi 0) = 0 then uJ (spT (w78 J (nowF J d lo hi m)) d (num J d)) 54 d (if J 54 d < nI (hi 0) then nI (hi 0) else J 54 d) else spM (uJ (spT (w78 J (nowF J d lo hi m)) d (num J d)) 54 d (if J 54 d < nI (hi 0) then nI (hi 0) else J 54 d)) d (J 26 3 - J 66 (300 * d + hi 0))) t := by
    split
    · exact hB
    · obtain ⟨s, s1, s2⟩ := h.2.2.2 _ hq
      rw [h.1, s1, pk_sub s2]
      exact hB.meas (by omega)
  refine IvT.keep (J := if anyT (w78 J (nowF J d lo hi m)) d (num J d) = 0 then _ else _) ?_ (by rw [spLook_ne (by decide)]) (fun r hr => spLook_ne (by rcases hr with rfl | rfl | rfl | rfl | rfl | rfl <;> decide))
  split
  · exact hC
  · exact hC.p52
theorem spPC_n1 {r : Nat} {kind a b c : Int32} (hk : ¬ kind = 1) (h : r ≠ 35 ∧ r ≠ 57 ∧ r ≠ 37 ∧ r ≠ 38 ∧ r ≠ 42 ∧ r ≠ 43 ∧ r ≠ 26 ∧ r ≠ 64 ∧ r ≠ 65) : spPC J d q kind a b c r = J r := by
  obtain ⟨a2, a3, a4, a5, a6, a7, a8, a9, a10⟩ := h
  unfold spPC
  rw [if_neg hk]
  split
  · exact uJ_ne a2
  split
  · exact uJ_ne a3
  split
  · unfold spBC
    split
    · exact spCm_ne a4 a5
    · rw [uJ_ne a6]; exact spCm_ne a4 a5
  split
  · exact uJ_ne a7
  split
  · rw [uJ_ne a10, uJ_ne a9]
  split
  · split
    · exact uJ_ne a8
    · rfl
  · rfl
theorem spT_71' {N k : Nat} (h : ∀ n, n < N → 300 * d + n ≠ k) : spT J d N 71 k = J 71 k := by
  induction N with
  | zero => rfl
  | succ n ih =>
    unfold spT
    split
    · exact ih (fun m hm => h m (by omega))
    · rw [spSet_71, upd_at, if_neg (fun z => h n (by omega) z.symm)]; exact ih (fun m hm => h m (by omega))
theorem max54 {hi : Nat} (h : HT J d) (hh : hi < num J d) (hn : num J d ≤ 300) : ∃ n, n < num J d ∧ (if J 54 d < nI hi then nI hi else J 54 d) = nI n := by
  rcases h with h | ⟨n, h1, h2⟩
  · rw [h, if_pos (by
      have : (0 : Int32) ≤ nI hi := nI_ge0 (by omega)
      exact Int32.lt_of_lt_of_le (by decide) this)]
    exact ⟨hi, hh, rfl⟩
  · rw [h2]
    split
    · exact ⟨hi, hh, rfl⟩
    · exact ⟨n, h1, rfl⟩
/-- what is told touches the PACKETS that were sent, and no others -/
theorem td_72 {m n : Nat} {lo hi : Nat → Nat} (h : HT J d) (hh : hi 0 < num J d) (hn : num J d ≤ 300) (hd : d < 2) (he : e < 2) (h1 : num J e ≤ n) (h3 : n < 300) : spTd J d lo hi m 71 (300 * e + n) = J 71 (300 * e + n) ∧ spTd J d lo hi m 72 (300 * e + n) = J 72 (300 * e + n) := by
  have off : ∀ x, x < num J d → 300 * d + x ≠ 300 * e + n := fun x hx z => by
    have : d = e := by omega
    subst this
    omega
  obtain ⟨M, M1, M2⟩ := max54 h hh hn
  unfold spTd
  have b : ∀ r, r = 44 ∨ r = 72 → uJ (spT (w78 J (nowF J d lo hi m)) d (num J d)) 54 d (if J 54 d < nI (hi 0) then nI (hi 0) else J 54 d) r = J r := fun r hr => by
    rw [uJ_ne (by omega), spT_ne (by omega) (by omega) (by omega) (by omega), w78_ne (by omega)]
  have c : ∀ r, r = 44 ∨ r = 72 ∨ r = 71 ∨ r = 54 → (if anyT (w78 J (nowF J d lo hi m)) d (num J d) = 0 then (if w78 J (nowF J d lo hi m) 78 (hi 0) = 0 ∨ J 70 (300 * d + hi 0) = 0 then uJ (spT (w78 J (nowF J d lo hi m)) d (num J d)) 54 d (if J 54 d < nI (hi 0) then nI (hi 0) else J 54 d) else spM (uJ (spT (w78 J (nowF J d lo hi m)) d (num J d)) 54 d (if J 54 d < nI (hi 0) then nI (hi 0) else J 54 d)) d (J 26 3 - J 66 (300 * d + hi 0))) else uJ (if w78 J (nowF J d lo hi m) 78 (hi 0) = 0 ∨ J 70 (300 * d + hi 0) = 0 then uJ (spT (w78 J (nowF J d lo hi m)) d (num J d)) 54 d (if J 54 d < nI (hi 0) then nI (hi 0) else J 54 d) else spM (uJ (spT (w78 J (nowF J d lo hi m)) d (num J d)) 54 d (if J 54 d < nI (hi 0) then nI (hi 0) else J 54 d)) d (J 26 3 - J 66 (300 * d + hi 0))) 52 d 0) r = uJ (spT (w78 J (nowF J d lo hi m)) d (num J d)) 54 d (if J 54 d < nI (hi 0) then nI (hi 0) else J 54 d) r := fun r hr => by
    split
    · split
      · rfl
      · rw [spM_ne (by omega) (by omega) (by omega)]
    · rw [uJ_ne (by omega)]
      split
      · rfl
      · rw [spM_ne (by omega) (by omega) (by omega)]
  have c54 := c 54 (by omega)
  have c44 := c 44 (by omega)
  have c72 := c 72 (by omega)
  have c71 := c 71 (by omega)
  revert c54 c44 c72 c71
  generalize (if anyT (w78 J (nowF J d lo hi m)) d (num J d) = 0 then (if w78 J (nowF J d lo hi m) 78 (hi 0) = 0 ∨ J 70 (300 * d + hi 0) = 0 then uJ (spT (w78 J (nowF J d lo hi m)) d (num J d)) 54 d (if J 54 d < nI (hi 0) then nI (hi 0) else J 54 d) else spM (uJ (spT (w78 J (nowF J d lo hi m)) d (num J d)) 54 d (if J 54 d < nI (hi 0) then nI (hi 0) else J 54 d)) d (J 26 3 - J 66 (300 * d + hi 0))) else uJ (if w78 J (nowF J d lo hi m) 78 (hi 0) = 0 ∨ J 70 (300 * d + hi 0) = 0 then uJ (spT (w78 J (nowF J d lo hi m)) d (num J d)) 54 d (if J 54 d < nI (hi 0) then nI (hi 0) else J 54 d) else spM (uJ (spT (w78 J (nowF J d lo hi m)) d (num J d)) 54 d (if J 54 d < nI (hi 0) then nI (hi 0) else J 54 d)) d (J 26 3 - J 66 (300 * d + hi 0))) 52 d 0) = D
  intro c54 c44 c72 c71
  have n44 : ∀ x, num D x = num J x := fun x => num_of (by rw [c44, b 44 (by omega)])
  have hD : HT D d := Or.inr ⟨M, by rw [n44]; exact M1, by rw [c54, uJ_same]; exact M2⟩
  constructor
  · rw [spLook_ne (by decide), c71, uJ_ne (by decide), spT_71' off, w78_ne (by decide)]
  · rw [look_72 hD (by rw [n44]; exact hn) he hd (by rw [n44]; exact h1) h3, c72, b 72 (by omega)]
end KEEPS2
